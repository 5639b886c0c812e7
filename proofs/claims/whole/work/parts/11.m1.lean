abbrev w_M (cy : Nat → ClassId) (a : Nat → Nat) (thrown : Int32) (status : Int32) (acts : Int32) (taped : Int32) (latest : Int32) (leng : Int32) (cursor : Int32) (token : Int32) (start : Int32) (till : Int32) (fault : Int32) (faultAt : Int32) (gifts : Int32) (traced : Int32) (lane : Nat → Int32) (many : Nat → Int32) (item : Nat → Int32) (bay : Nat → Int32) (fresh : Nat → Int32) (thn : Nat → Int32) (was : Nat → Int32) (tape : Nat → Int32) (left : Nat → Int32) (gift : Nat → Int32) (isKept : Nat → Int32) (kept : Nat → Int32) (trace : Nat → Int32) : va_W := [(a 0, .inr (9, [.int thrown, .int status, .ref (a 1), .ref (a 2), .ref (a 3), .ref (a 4), .ref (a 5), .ref (a 6), .ref (a 7), .int acts, .ref (a 8), .int taped, .int latest, .int leng, .int cursor, .int token, .int start, .int till, .int fault, .int faultAt, .ref (a 9), .ref (a 10), .int gifts, .ref (a 11), .ref (a 12), .ref (a 13), .int traced])), (a 1, .inl (cy 1, 8, .inl lane)), (a 2, .inl (cy 1, 8, .inl many)), (a 3, .inl (cy 1, 320, .inl item)), (a 4, .inl (cy 1, 75, .inl bay)), (a 5, .inl (cy 1, 75, .inl fresh)), (a 6, .inl (cy 1, 75, .inl thn)), (a 7, .inl (cy 1, 1800, .inl was)), (a 8, .inl (cy 1, 400, .inl tape)), (a 9, .inl (cy 1, 6, .inl left)), (a 10, .inl (cy 1, 36, .inl gift)), (a 11, .inl (cy 2, 2, .inl isKept)), (a 12, .inl (cy 1, 150, .inl kept)), (a 13, .inl (cy 1, 16, .inl trace))]
def f_X9_in (p0 p2 p4 : Int64) : Option Int32 := if (lg_cmp p0 p2) < 0 then (some 0) else (if 0 < (lg_cmp p0 p4) then (some 0) else (some 1))
set_option maxHeartbeats 4000000 in
set_option maxRecDepth 100000 in
theorem c_X9_in (l : Launch) (D : va_G) (cy : Nat → ClassId) (p0 p2 p4 : Int64) (z : Int32) (hz : f_X9_in p0 p2 p4 = some z) : MI l yX9_in wsX9_in ({ frames := 0, cells := 0, slots := 0, locals := 0 } : Room) D cy [.long p0, .long p2, .long p4] [] z [] := by
  refine met_start (Qf := fun A => MQi D cy z [] A) (cc := cX9_in) (nL := 6) (ret := (some .boolean)) RX9 rfl (by decide) rfl (Nat.le_of_ble_eq_true rfl) ?_
  intro p e s m below meth c A ls C G hl
  have hl : lv_has ls 6 [(0, .long p0), (2, .long p2), (4, .long p4)] := hl
  have H := hz
  unfold f_X9_in at H
  obtain ⟨hx, hb, hr, hml, hown, hts, hlk, hK, hA, hE⟩ := id C
  refine lv_lload_n hx hb dX9_in_0 rfl (lv_at hl 0 rfl) ?_
  refine lv_lload_n hx hb dX9_in_1 rfl (lv_at hl 1 rfl) ?_
  refine W.lcmp hx hb dX9_in_2 ?_
  refine lv_if_lt (tgt := 17) hx hb dX9_in_3 (by decide) (fun c1 => ?_) (fun c1 => ?_)
  · have H := if_t H c1
    refine lv_iconst (v := 0) hx hb dX9_in_17 (by decide) ?_
    obtain rfl := Option.some.inj H
    exact ret_z C G rfl rfl dX9_in_18
  · have H := if_f H c1
    refine lv_lload_n hx hb dX9_in_6 rfl (lv_at hl 0 rfl) ?_
    refine lv_lload hx hb dX9_in_7 (lv_at hl 2 rfl) ?_
    refine W.lcmp hx hb dX9_in_9 ?_
    refine lv_if_gt (tgt := 17) hx hb dX9_in_10 (by decide) (fun c2 => ?_) (fun c2 => ?_)
    · have H := if_t H c2
      refine lv_iconst (v := 0) hx hb dX9_in_17 (by decide) ?_
      obtain rfl := Option.some.inj H
      exact ret_z C G rfl rfl dX9_in_18
    · have H := if_f H c2
      refine lv_iconst (v := 1) hx hb dX9_in_13 (by decide) ?_
      refine lv_goto (tgt := 18) hx hb dX9_in_14 (by decide) ?_
      obtain rfl := Option.some.inj H
      exact ret_z C G rfl rfl dX9_in_18
def f_X9_isRow (p0 : Int32) : Option Int32 := bd (f_X9_in p0.toInt64 0 7) (fun z1 => gd (isz z1) (some z1))
set_option maxHeartbeats 4000000 in
set_option maxRecDepth 100000 in
theorem c_X9_isRow (l : Launch) (D : va_G) (cy : Nat → ClassId) (p0 : Int32) (z : Int32) (hz : f_X9_isRow p0 = some z) : MI l yX9_isRow wsX9_isRow ({ frames := 1, cells := 0, slots := 0, locals := 25 } : Room) D cy [.int p0] [] z [] := by
  refine met_start (Qf := fun A => MQi D cy z [] A) (cc := cX9_isRow) (nL := 1) (ret := (some .boolean)) RX9 rfl (by decide) rfl (Nat.le_of_ble_eq_true rfl) ?_
  intro p e s m below meth c A ls C G hl
  have hl : lv_has ls 1 [(0, .int p0)] := hl
  have H := hz
  unfold f_X9_isRow at H
  obtain ⟨hx, hb, hr, hml, hown, hts, hlk, hK, hA, hE⟩ := id C
  have lk0 := hts (Cond.constantLong RX9 58 (7)) (List.mem_of_getElem? (i := 1) rfl)
  refine lv_iload_n hx hb dX9_isRow_0 rfl (lv_at hl 0 rfl) ?_
  refine lv_i2l hx hb dX9_isRow_1 rfl ?_
  refine lv_lconst (v := 0) hx hb dX9_isRow_2 (by decide) ?_
  refine lv_ldc2 hx hb hown lk0 dX9_isRow_3 ?_
  obtain ⟨z1, hz1, H⟩ := bd_some H
  refine MI.callS z1 [.long p0.toInt64, .long 0, .long 7] [] [] C G (c_X9_in l D cy p0.toInt64 0 7 z1 hz1) gX9_isRow_X9_in rfl rfl rfl (n := 3) (by decide +kernel) ⟨Nat.le_of_ble_eq_true rfl, Nat.le_of_ble_eq_true rfl⟩ rfl rfl rfl rfl hl.1 rfl (Nat.le_of_ble_eq_true rfl) dX9_isRow_6 ⟨Nat.zero_le _, Nat.zero_le _⟩ (fun U locs G => ?_)
  have G : Gd D A s [] U locs := G
  obtain ⟨hz2, H⟩ := gd_some H
  obtain rfl := Option.some.inj H
  exact ret_z C G rfl (isz_n hz2) dX9_isRow_9
def f_X9_finding (status p1 : Int32) : Option (Int32 × Int32) := some ((-1000010) - p1, p1)
set_option maxHeartbeats 4000000 in
set_option maxRecDepth 100000 in
theorem c_X9_finding (l : Launch) (D : va_G) (cy : Nat → ClassId) (mAd : Nat → Nat) (thrown status acts taped latest leng cursor token start till fault faultAt gifts traced : Int32) (lane many item bay fresh thn was tape left gift isKept kept trace : Nat → Int32) (p1 : Int32) (z : (Int32 × Int32)) (hz : f_X9_finding status p1 = some z) : MI l yX9_finding wsX9_finding ({ frames := 0, cells := 0, slots := 0, locals := 0 } : Room) D cy [.ref (mAd 0), .int p1] (w_M cy mAd thrown status acts taped latest leng cursor token start till fault faultAt gifts traced lane many item bay fresh thn was tape left gift isKept kept trace) z.1 (w_M cy mAd thrown z.2 acts taped latest leng cursor token start till fault faultAt gifts traced lane many item bay fresh thn was tape left gift isKept kept trace) := by
  refine met_start (Qf := fun A => MQi D cy z.1 (w_M cy mAd thrown z.2 acts taped latest leng cursor token start till fault faultAt gifts traced lane many item bay fresh thn was tape left gift isKept kept trace) A) (cc := cX9_finding) (nL := 2) (ret := (some .int)) RX9 rfl (by decide) rfl (Nat.le_of_ble_eq_true rfl) ?_
  intro p e s m below meth c A ls C G hl
  have hl : lv_has ls 2 [(0, .ref (mAd 0)), (1, .int p1)] := hl
  have H := hz
  unfold f_X9_finding at H
  obtain ⟨hx, hb, hr, hml, hown, hts, hlk, hK, hA, hE⟩ := id C
  have lk0 := hts (Cond.fieldLink RX9 54 "TideDebtsModel" "status" "I") (List.mem_of_getElem? (i := 1) rfl)
  have lk1 := hts (Cond.constant RX9 57 (-1000010)) (List.mem_of_getElem? (i := 2) rfl)
  have hiX9 : ∀ w ∈ u_ws RX9 TX9 27, w ∈ wsX9_finding := fun _ h => List.mem_cons_of_mem _ (List.mem_append_right _ h)
  refine lv_aload_n hx hb dX9_finding_0 rfl (lv_at hl 0 rfl) ?_
  refine lv_iload_n hx hb dX9_finding_1 rfl (lv_at hl 1 rfl) ?_
  refine va_put (D := D) (ci := 9) (v := .int p1) (ty := .int) (C := RX9) (T := TX9) (N := 27) hx hb hts hiX9 tyX9 tyX9_ok nmX9 hown hK G.1 G.2.1 G.2.2 0 rfl rfl 1 (by decide) lk0 (fun _ h9 => h9) rfl (tyX9_ok 1 (by decide)) rfl rfl (Nat.le_of_ble_eq_true rfl) dX9_finding_2 (fun U locs hP hD hS => ?_)
  have G : Gd D A s (w_M cy mAd thrown p1 acts taped latest leng cursor token start till fault faultAt gifts traced lane many item bay fresh thn was tape left gift isKept kept trace) U locs := ⟨hP, hD, hS⟩
  refine lv_ldc hx hb hown lk1 dX9_finding_5 ?_
  refine lv_iload_n hx hb dX9_finding_7 rfl (lv_at hl 1 rfl) ?_
  refine lv_isub hx hb dX9_finding_8 ?_
  obtain rfl := Option.some.inj H
  exact ret_i C G rfl dX9_finding_9
def f_X9_row_L65 (x1 : Int32) : Nat → (Nat → Int32) → Int32 → Option (Nat → Int32)
  | 0, _, _ => none
  | n + 1, item, x4 => if 40 ≤ x4 then (some item) else (gd (inb ((40 * x1) + x4) 320) (f_X9_row_L65 x1 n (upd item (ix ((40 * x1) + x4)) 0) (x4 + 1)))
theorem f_X9_row_L65_z (x1 : Int32) (item : Nat → Int32) (x4 : Int32) : f_X9_row_L65 x1 0 item x4 = none := rfl
theorem f_X9_row_L65_s (x1 : Int32) (n : Nat) (item : Nat → Int32) (x4 : Int32) : f_X9_row_L65 x1 (n + 1) item x4 = if 40 ≤ x4 then (some item) else (gd (inb ((40 * x1) + x4) 320) (f_X9_row_L65 x1 n (upd item (ix ((40 * x1) + x4)) 0) (x4 + 1))) := rfl
set_option maxHeartbeats 4000000 in
set_option maxRecDepth 100000 in
theorem wl_X9_row_65 {p : Program} {l : Launch} {e : Env} {s : State} {m : MethodId} {below : List Frame} {meth : Method} {c : Code} {D : va_G} {cy : Nat → ClassId} {A : Nat → Prop} {args : Array Value} {Q : State → Prop} (C : Cx D cy A p s m meth c cX9_row 5 (some .int) wsX9_row RX9 args) (mAd : Nat → Nat) (thrown status acts taped latest leng cursor token start till fault faultAt gifts traced : Int32) (lane many bay fresh thn was tape left gift isKept kept trace : Nat → Int32) (x1 x3 : Int32) :
    ∀ (n : Nat) (item : Nat → Int32) (x4 : Int32) (z : (Nat → Int32)), f_X9_row_L65 x1 n item x4 = some z → (∀ (U : Heap) (locs : List Loc) (ls : Array Slot), Gd D A s (w_M cy mAd thrown status acts taped latest leng cursor token start till fault faultAt gifts traced lane many z bay fresh thn was tape left gift isKept kept trace) U locs → lv_has ls 5 [(3, .int x3)] → W p l e ({ frames := 2, cells := 0, slots := 0, locals := 45 } : Room) s m args below meth c U locs 0 0 Q (F0 m 91 ls [])) → ∀ (U : Heap) (locs : List Loc) (ls : Array Slot), Gd D A s (w_M cy mAd thrown status acts taped latest leng cursor token start till fault faultAt gifts traced lane many item bay fresh thn was tape left gift isKept kept trace) U locs → lv_has ls 5 [(0, .ref (mAd 0)), (1, .int x1), (3, .int x3), (4, .int x4)] → W p l e ({ frames := 2, cells := 0, slots := 0, locals := 45 } : Room) s m args below meth c U locs 0 0 Q (F0 m 65 ls []) := by
  obtain ⟨hx, hb, hr, hml, hown, hts, hlk, hK, hA, hE⟩ := id C
  have lk0 := hts (Cond.fieldLink RX9 16 "TideDebtsModel" "item" "[I") (List.mem_of_getElem? (i := 7) rfl)
  have hiX9 : ∀ w ∈ u_ws RX9 TX9 27, w ∈ wsX9_row := fun _ h => List.mem_cons_of_mem _ (List.mem_append_right _ h)
  intro n
  induction n with
  | zero =>
    intro item x4 z H
    rw [f_X9_row_L65_z] at H
    cases H
  | succ n ih =>
    intro item x4 z H kk U locs ls G hl
    rw [f_X9_row_L65_s] at H
    refine lv_iload hx hb dX9_row_65 (lv_at hl 3 rfl) ?_
    refine lv_bipush (v := 40) hx hb dX9_row_67 (by decide) ?_
    refine lv_icmp_ge (tgt := 91) hx hb dX9_row_69 (by decide) (fun c8 => ?_) (fun c8 => ?_)
    · have H := if_t H c8
      obtain rfl := Option.some.inj H
      exact kk _ _ _ G (lv_sub hl [2] rfl)
    · have H := if_f H c8
      refine lv_aload_n hx hb dX9_row_72 rfl (lv_at hl 0 rfl) ?_
      refine va_get (D := D) (ci := 9) (v := .ref (mAd 3)) (C := RX9) (T := TX9) (N := 27) hx hb hts hiX9 hown hK G.1 0 rfl rfl 4 (by decide) lk0 (fun _ h9 => h9) rfl dX9_row_73 ?_
      refine lv_bipush (v := 40) hx hb dX9_row_76 (by decide) ?_
      refine lv_iload_n hx hb dX9_row_78 rfl (lv_at hl 1 rfl) ?_
      refine lv_imul hx hb dX9_row_79 ?_
      refine lv_iload hx hb dX9_row_80 (lv_at hl 3 rfl) ?_
      refine lv_iadd hx hb dX9_row_82 ?_
      refine lv_iconst (v := 0) hx hb dX9_row_83 (by decide) ?_
      obtain ⟨hb9, H⟩ := gd_some H
      refine va_iast hx hb hK G.1 G.2.1 G.2.2 3 1 rfl rfl (inb_in hb9) dX9_row_84 (fun U locs hP hD hS => ?_)
      have G : Gd D A s (w_M cy mAd thrown status acts taped latest leng cursor token start till fault faultAt gifts traced lane many (upd item (ix ((40 * x1) + x4)) 0) bay fresh thn was tape left gift isKept kept trace) U locs := ⟨hP, hD, hS⟩
      refine lv_iinc (v := x4 + 1) (lv' := [(4, .int (x4 + 1)), (0, .ref (mAd 0)), (1, .int x1), (3, .int x3)]) hx hb dX9_row_85 hl (k := 3) rfl rfl (by decide) rfl (fun ls hl => ?_)
      refine lv_goto (tgt := 65) hx hb dX9_row_88 (by decide) ?_
      exact ih (upd item (ix ((40 * x1) + x4)) 0) (x4 + 1) z H kk _ _ _ G (lv_sub hl [1, 2, 3, 0] rfl)
def f_X9_row (thrown status : Int32) (lane many item : Nat → Int32) (p1 p2 p3 : Int32) : Option (Int32 × Int32 × Int32 × (Nat → Int32) × (Nat → Int32) × (Nat → Int32)) := bd (f_X9_isRow p1) (fun z1 => if z1 = 0 then (some ((-1000001), 0, status, lane, many, item)) else (bd (f_X9_in p2.toInt64 0 2) (fun z3 => if z3 = 0 then (some ((-1000001), 0, status, lane, many, item)) else (if p3 ≤ 40 then (if 0 ≤ p3 then (gd (inb p1 8) (bd (f_X9_row_L65 p1 2000 item 0) (fun z10 => some (p3, 0, 0, upd lane (ix p1) p2, upd many (ix p1) p3, z10)))) else (bd (f_X9_finding 0 4) (fun z11 => some (z11.1, 0, z11.2, lane, many, item)))) else (some ((-1000001), 0, status, lane, many, item))))))
set_option maxHeartbeats 4000000 in
set_option maxRecDepth 100000 in
theorem c_X9_row (l : Launch) (D : va_G) (cy : Nat → ClassId) (mAd : Nat → Nat) (thrown status acts taped latest leng cursor token start till fault faultAt gifts traced : Int32) (lane many item bay fresh thn was tape left gift isKept kept trace : Nat → Int32) (p1 p2 p3 : Int32) (z : (Int32 × Int32 × Int32 × (Nat → Int32) × (Nat → Int32) × (Nat → Int32))) (hz : f_X9_row thrown status lane many item p1 p2 p3 = some z) : MI l yX9_row wsX9_row ({ frames := 2, cells := 0, slots := 0, locals := 45 } : Room) D cy [.ref (mAd 0), .int p1, .int p2, .int p3] (w_M cy mAd thrown status acts taped latest leng cursor token start till fault faultAt gifts traced lane many item bay fresh thn was tape left gift isKept kept trace) z.1 (w_M cy mAd z.2.1 z.2.2.1 acts taped latest leng cursor token start till fault faultAt gifts traced z.2.2.2.1 z.2.2.2.2.1 z.2.2.2.2.2 bay fresh thn was tape left gift isKept kept trace) := by
  refine met_start (Qf := fun A => MQi D cy z.1 (w_M cy mAd z.2.1 z.2.2.1 acts taped latest leng cursor token start till fault faultAt gifts traced z.2.2.2.1 z.2.2.2.2.1 z.2.2.2.2.2 bay fresh thn was tape left gift isKept kept trace) A) (cc := cX9_row) (nL := 5) (ret := (some .int)) RX9 rfl (by decide) rfl (Nat.le_of_ble_eq_true rfl) ?_
  intro p e s m below meth c A ls C G hl
  have hl : lv_has ls 5 [(0, .ref (mAd 0)), (1, .int p1), (2, .int p2), (3, .int p3)] := hl
  have H := hz
  unfold f_X9_row at H
  obtain ⟨hx, hb, hr, hml, hown, hts, hlk, hK, hA, hE⟩ := id C
  have lk0 := hts (Cond.fieldLink RX9 50 "TideDebtsModel" "thrown" "I") (List.mem_of_getElem? (i := 1) rfl)
  have lk1 := hts (Cond.constant RX9 70 (-1000001)) (List.mem_of_getElem? (i := 3) rfl)
  have lk2 := hts (Cond.constantLong RX9 68 (2)) (List.mem_of_getElem? (i := 2) rfl)
  have lk3 := hts (Cond.fieldLink RX9 54 "TideDebtsModel" "status" "I") (List.mem_of_getElem? (i := 4) rfl)
  have lk4 := hts (Cond.fieldLink RX9 7 "TideDebtsModel" "lane" "[I") (List.mem_of_getElem? (i := 5) rfl)
  have lk5 := hts (Cond.fieldLink RX9 13 "TideDebtsModel" "many" "[I") (List.mem_of_getElem? (i := 6) rfl)
  have hiX9 : ∀ w ∈ u_ws RX9 TX9 27, w ∈ wsX9_row := fun _ h => List.mem_cons_of_mem _ (List.mem_append_right _ h)
  refine lv_aload_n hx hb dX9_row_0 rfl (lv_at hl 0 rfl) ?_
  refine lv_iconst (v := 0) hx hb dX9_row_1 (by decide) ?_
  refine va_put (D := D) (ci := 9) (v := .int 0) (ty := .int) (C := RX9) (T := TX9) (N := 27) hx hb hts hiX9 tyX9 tyX9_ok nmX9 hown hK G.1 G.2.1 G.2.2 0 rfl rfl 0 (by decide) lk0 (fun _ h9 => h9) rfl (tyX9_ok 0 (by decide)) rfl rfl (Nat.le_of_ble_eq_true rfl) dX9_row_2 (fun U locs hP hD hS => ?_)
  have G : Gd D A s (w_M cy mAd 0 status acts taped latest leng cursor token start till fault faultAt gifts traced lane many item bay fresh thn was tape left gift isKept kept trace) U locs := ⟨hP, hD, hS⟩
  refine lv_iload_n hx hb dX9_row_5 rfl (lv_at hl 1 rfl) ?_
  obtain ⟨z1, hz1, H⟩ := bd_some H
  refine MI.callS z1 [.int p1] [] [] C G (c_X9_isRow l D cy p1 z1 hz1) gX9_row_X9_isRow rfl rfl rfl (n := 1) (by decide +kernel) ⟨Nat.le_of_ble_eq_true rfl, Nat.le_of_ble_eq_true rfl⟩ rfl rfl rfl rfl hl.1 rfl (Nat.le_of_ble_eq_true rfl) dX9_row_6 ⟨Nat.zero_le _, Nat.zero_le _⟩ (fun U locs G => ?_)
  have G : Gd D A s (w_M cy mAd 0 status acts taped latest leng cursor token start till fault faultAt gifts traced lane many item bay fresh thn was tape left gift isKept kept trace) U locs := G
  refine lv_if_eq (tgt := 30) hx hb dX9_row_9 (by decide) (fun c2 => ?_) (fun c2 => ?_)
  · have H := if_t H c2
    refine lv_ldc hx hb hown lk1 dX9_row_30 ?_
    obtain rfl := Option.some.inj H
    exact ret_i C G rfl dX9_row_32
  · have H := if_f H c2
    refine lv_iload_n hx hb dX9_row_12 rfl (lv_at hl 2 rfl) ?_
    refine lv_i2l hx hb dX9_row_13 rfl ?_
    refine lv_lconst (v := 0) hx hb dX9_row_14 (by decide) ?_
    refine lv_ldc2 hx hb hown lk2 dX9_row_15 ?_
    obtain ⟨z3, hz3, H⟩ := bd_some H
    refine MI.callS z3 [.long p2.toInt64, .long 0, .long 2] [] [] C G (c_X9_in l D cy p2.toInt64 0 2 z3 hz3) gX9_row_X9_in rfl rfl rfl (n := 3) (by decide +kernel) ⟨Nat.le_of_ble_eq_true rfl, Nat.le_of_ble_eq_true rfl⟩ rfl rfl rfl rfl hl.1 rfl (Nat.le_of_ble_eq_true rfl) dX9_row_18 ⟨Nat.zero_le _, Nat.zero_le _⟩ (fun U locs G => ?_)
    have G : Gd D A s (w_M cy mAd 0 status acts taped latest leng cursor token start till fault faultAt gifts traced lane many item bay fresh thn was tape left gift isKept kept trace) U locs := G
    refine lv_if_eq (tgt := 30) hx hb dX9_row_21 (by decide) (fun c4 => ?_) (fun c4 => ?_)
    · have H := if_t H c4
      refine lv_ldc hx hb hown lk1 dX9_row_30 ?_
      obtain rfl := Option.some.inj H
      exact ret_i C G rfl dX9_row_32
    · have H := if_f H c4
      refine lv_iload_n hx hb dX9_row_24 rfl (lv_at hl 3 rfl) ?_
      refine lv_bipush (v := 40) hx hb dX9_row_25 (by decide) ?_
      refine lv_icmp_le (tgt := 33) hx hb dX9_row_27 (by decide) (fun c5 => ?_) (fun c5 => ?_)
      · have H := if_t H c5
        refine lv_aload_n hx hb dX9_row_33 rfl (lv_at hl 0 rfl) ?_
        refine lv_iconst (v := 0) hx hb dX9_row_34 (by decide) ?_
        refine va_put (D := D) (ci := 9) (v := .int 0) (ty := .int) (C := RX9) (T := TX9) (N := 27) hx hb hts hiX9 tyX9 tyX9_ok nmX9 hown hK G.1 G.2.1 G.2.2 0 rfl rfl 1 (by decide) lk3 (fun _ h9 => h9) rfl (tyX9_ok 1 (by decide)) rfl rfl (Nat.le_of_ble_eq_true rfl) dX9_row_35 (fun U locs hP hD hS => ?_)
        have G : Gd D A s (w_M cy mAd 0 0 acts taped latest leng cursor token start till fault faultAt gifts traced lane many item bay fresh thn was tape left gift isKept kept trace) U locs := ⟨hP, hD, hS⟩
        refine lv_iload_n hx hb dX9_row_38 rfl (lv_at hl 3 rfl) ?_
        refine lv_if_ge (tgt := 48) hx hb dX9_row_39 (by decide) (fun c6 => ?_) (fun c6 => ?_)
        · have H := if_t H c6
          refine lv_aload_n hx hb dX9_row_48 rfl (lv_at hl 0 rfl) ?_
          refine va_get (D := D) (ci := 9) (v := .ref (mAd 1)) (C := RX9) (T := TX9) (N := 27) hx hb hts hiX9 hown hK G.1 0 rfl rfl 2 (by decide) lk4 (fun _ h9 => h9) rfl dX9_row_49 ?_
          refine lv_iload_n hx hb dX9_row_52 rfl (lv_at hl 1 rfl) ?_
          refine lv_iload_n hx hb dX9_row_53 rfl (lv_at hl 2 rfl) ?_
          obtain ⟨hb7, H⟩ := gd_some H
          refine va_iast hx hb hK G.1 G.2.1 G.2.2 1 1 rfl rfl (inb_in hb7) dX9_row_54 (fun U locs hP hD hS => ?_)
          have G : Gd D A s (w_M cy mAd 0 0 acts taped latest leng cursor token start till fault faultAt gifts traced (upd lane (ix p1) p2) many item bay fresh thn was tape left gift isKept kept trace) U locs := ⟨hP, hD, hS⟩
          refine lv_aload_n hx hb dX9_row_55 rfl (lv_at hl 0 rfl) ?_
          refine va_get (D := D) (ci := 9) (v := .ref (mAd 2)) (C := RX9) (T := TX9) (N := 27) hx hb hts hiX9 hown hK G.1 0 rfl rfl 3 (by decide) lk5 (fun _ h9 => h9) rfl dX9_row_56 ?_
          refine lv_iload_n hx hb dX9_row_59 rfl (lv_at hl 1 rfl) ?_
          refine lv_iload_n hx hb dX9_row_60 rfl (lv_at hl 3 rfl) ?_
          refine va_iast hx hb hK G.1 G.2.1 G.2.2 2 1 rfl rfl (inb_in hb7) dX9_row_61 (fun U locs hP hD hS => ?_)
          have G : Gd D A s (w_M cy mAd 0 0 acts taped latest leng cursor token start till fault faultAt gifts traced (upd lane (ix p1) p2) (upd many (ix p1) p3) item bay fresh thn was tape left gift isKept kept trace) U locs := ⟨hP, hD, hS⟩
          refine lv_iconst (v := 0) hx hb dX9_row_62 (by decide) ?_
          refine lv_istore (lv' := [(4, .int 0), (0, .ref (mAd 0)), (1, .int p1), (2, .int p2), (3, .int p3)]) hx hb dX9_row_63 hl (by decide) rfl (fun ls hl => ?_)
          obtain ⟨z10, hz10, H⟩ := bd_some H
          refine wl_X9_row_65 C mAd 0 0 acts taped latest leng cursor token start till fault faultAt gifts traced (upd lane (ix p1) p2) (upd many (ix p1) p3) bay fresh thn was tape left gift isKept kept trace p1 p3 _ item 0 z10 hz10 (fun U locs ls G hl => ?_) _ _ _ G (lv_sub hl [1, 2, 4, 0] rfl)
          have G : Gd D A s (w_M cy mAd 0 0 acts taped latest leng cursor token start till fault faultAt gifts traced (upd lane (ix p1) p2) (upd many (ix p1) p3) z10 bay fresh thn was tape left gift isKept kept trace) U locs := G
          have hl : lv_has ls 5 [(3, .int p3)] := hl
          refine lv_iload_n hx hb dX9_row_91 rfl (lv_at hl 0 rfl) ?_
          obtain rfl := Option.some.inj H
          exact ret_i C G rfl dX9_row_92
        · have H := if_f H c6
          refine lv_aload_n hx hb dX9_row_42 rfl (lv_at hl 0 rfl) ?_
          refine lv_iconst (v := 4) hx hb dX9_row_43 (by decide) ?_
          obtain ⟨z11, hz11, H⟩ := bd_some H
          refine MI.callVw z11.1 [.int 4] [] C G (c_X9_finding l D cy mAd 0 0 acts taped latest leng cursor token start till fault faultAt gifts traced lane many item bay fresh thn was tape left gift isKept kept trace 4 z11 hz11) gX9_row_X9_finding rfl rfl rfl (n := 1) (by decide +kernel) ⟨Nat.le_of_ble_eq_true rfl, Nat.le_of_ble_eq_true rfl⟩ (q0 := 0) (ci := 9) rfl rfl rfl rfl hl.1 rfl (Nat.le_of_ble_eq_true rfl) dX9_row_44 ⟨Nat.zero_le _, Nat.zero_le _⟩ (fun U locs G => ?_)
          have G : Gd D A s (w_M cy mAd 0 z11.2 acts taped latest leng cursor token start till fault faultAt gifts traced lane many item bay fresh thn was tape left gift isKept kept trace) U locs := G
          obtain rfl := Option.some.inj H
          exact ret_i C G rfl dX9_row_47
      · have H := if_f H c5
        refine lv_ldc hx hb hown lk1 dX9_row_30 ?_
        obtain rfl := Option.some.inj H
        exact ret_i C G rfl dX9_row_32
def f_X9_set (thrown status : Int32) (lane many item : Nat → Int32) (p1 p2 p3 : Int32) : Option (Int32 × Int32 × Int32 × (Nat → Int32)) := bd (f_X9_isRow p1) (fun z1 => if z1 = 0 then (some ((-1000001), 0, status, item)) else (gd (inb p1 8) (if 0 ≤ (lane (ix p1)) then (bd (f_X9_in p2.toInt64 0 (((many (ix p1)) - 1 : Int32).toInt64)) (fun z5 => if z5 = 0 then (bd (f_X9_finding 0 2) (fun z12 => some (z12.1, 0, z12.2, item))) else (if (lane (ix p1)) = 0 then (gd (inb ((40 * p1) + p2) 320) (some ((upd item (ix ((40 * p1) + p2)) p3.toInt8.toInt32) (ix ((40 * p1) + p2)), 0, 0, upd item (ix ((40 * p1) + p2)) p3.toInt8.toInt32))) else (if (lane (ix p1)) = 1 then (gd (inb ((40 * p1) + p2) 320) (some ((upd item (ix ((40 * p1) + p2)) p3.toInt16.toInt32) (ix ((40 * p1) + p2)), 0, 0, upd item (ix ((40 * p1) + p2)) p3.toInt16.toInt32))) else (gd (inb ((40 * p1) + p2) 320) (some ((upd item (ix ((40 * p1) + p2)) p3) (ix ((40 * p1) + p2)), 0, 0, upd item (ix ((40 * p1) + p2)) p3))))))) else (bd (f_X9_finding 0 1) (fun z13 => some (z13.1, 0, z13.2, item))))))
set_option maxHeartbeats 4000000 in
set_option maxRecDepth 100000 in
theorem c_X9_set (l : Launch) (D : va_G) (cy : Nat → ClassId) (mAd : Nat → Nat) (thrown status acts taped latest leng cursor token start till fault faultAt gifts traced : Int32) (lane many item bay fresh thn was tape left gift isKept kept trace : Nat → Int32) (p1 p2 p3 : Int32) (z : (Int32 × Int32 × Int32 × (Nat → Int32))) (hz : f_X9_set thrown status lane many item p1 p2 p3 = some z) : MI l yX9_set wsX9_set ({ frames := 2, cells := 0, slots := 0, locals := 45 } : Room) D cy [.ref (mAd 0), .int p1, .int p2, .int p3] (w_M cy mAd thrown status acts taped latest leng cursor token start till fault faultAt gifts traced lane many item bay fresh thn was tape left gift isKept kept trace) z.1 (w_M cy mAd z.2.1 z.2.2.1 acts taped latest leng cursor token start till fault faultAt gifts traced lane many z.2.2.2 bay fresh thn was tape left gift isKept kept trace) := by
  refine met_start (Qf := fun A => MQi D cy z.1 (w_M cy mAd z.2.1 z.2.2.1 acts taped latest leng cursor token start till fault faultAt gifts traced lane many z.2.2.2 bay fresh thn was tape left gift isKept kept trace) A) (cc := cX9_set) (nL := 4) (ret := (some .int)) RX9 rfl (by decide) rfl (Nat.le_of_ble_eq_true rfl) ?_
  intro p e s m below meth c A ls C G hl
  have hl : lv_has ls 4 [(0, .ref (mAd 0)), (1, .int p1), (2, .int p2), (3, .int p3)] := hl
  have H := hz
  unfold f_X9_set at H
  obtain ⟨hx, hb, hr, hml, hown, hts, hlk, hK, hA, hE⟩ := id C
  have lk0 := hts (Cond.fieldLink RX9 50 "TideDebtsModel" "thrown" "I") (List.mem_of_getElem? (i := 1) rfl)
  have lk1 := hts (Cond.fieldLink RX9 54 "TideDebtsModel" "status" "I") (List.mem_of_getElem? (i := 3) rfl)
  have lk2 := hts (Cond.fieldLink RX9 7 "TideDebtsModel" "lane" "[I") (List.mem_of_getElem? (i := 4) rfl)
  have lk3 := hts (Cond.fieldLink RX9 13 "TideDebtsModel" "many" "[I") (List.mem_of_getElem? (i := 5) rfl)
  have lk4 := hts (Cond.fieldLink RX9 16 "TideDebtsModel" "item" "[I") (List.mem_of_getElem? (i := 6) rfl)
  have lk5 := hts (Cond.constant RX9 70 (-1000001)) (List.mem_of_getElem? (i := 2) rfl)
  have hiX9 : ∀ w ∈ u_ws RX9 TX9 27, w ∈ wsX9_set := fun _ h => List.mem_cons_of_mem _ (List.mem_append_right _ h)
  refine lv_aload_n hx hb dX9_set_0 rfl (lv_at hl 0 rfl) ?_
  refine lv_iconst (v := 0) hx hb dX9_set_1 (by decide) ?_
  refine va_put (D := D) (ci := 9) (v := .int 0) (ty := .int) (C := RX9) (T := TX9) (N := 27) hx hb hts hiX9 tyX9 tyX9_ok nmX9 hown hK G.1 G.2.1 G.2.2 0 rfl rfl 0 (by decide) lk0 (fun _ h9 => h9) rfl (tyX9_ok 0 (by decide)) rfl rfl (Nat.le_of_ble_eq_true rfl) dX9_set_2 (fun U locs hP hD hS => ?_)
  have G : Gd D A s (w_M cy mAd 0 status acts taped latest leng cursor token start till fault faultAt gifts traced lane many item bay fresh thn was tape left gift isKept kept trace) U locs := ⟨hP, hD, hS⟩
  refine lv_iload_n hx hb dX9_set_5 rfl (lv_at hl 1 rfl) ?_
  obtain ⟨z1, hz1, H⟩ := bd_some H
  refine MI.callS z1 [.int p1] [] [] C G (c_X9_isRow l D cy p1 z1 hz1) gX9_set_X9_isRow rfl rfl rfl (n := 1) (by decide +kernel) ⟨Nat.le_of_ble_eq_true rfl, Nat.le_of_ble_eq_true rfl⟩ rfl rfl rfl rfl hl.1 rfl (Nat.le_of_ble_eq_true rfl) dX9_set_6 ⟨Nat.zero_le _, Nat.zero_le _⟩ (fun U locs G => ?_)
  have G : Gd D A s (w_M cy mAd 0 status acts taped latest leng cursor token start till fault faultAt gifts traced lane many item bay fresh thn was tape left gift isKept kept trace) U locs := G
  refine lv_if_ne (tgt := 15) hx hb dX9_set_9 (by decide) (fun c2 => ?_) (fun c2 => ?_)
  · have H := if_f H c2
    refine lv_aload_n hx hb dX9_set_15 rfl (lv_at hl 0 rfl) ?_
    refine lv_iconst (v := 0) hx hb dX9_set_16 (by decide) ?_
    refine va_put (D := D) (ci := 9) (v := .int 0) (ty := .int) (C := RX9) (T := TX9) (N := 27) hx hb hts hiX9 tyX9 tyX9_ok nmX9 hown hK G.1 G.2.1 G.2.2 0 rfl rfl 1 (by decide) lk1 (fun _ h9 => h9) rfl (tyX9_ok 1 (by decide)) rfl rfl (Nat.le_of_ble_eq_true rfl) dX9_set_17 (fun U locs hP hD hS => ?_)
    have G : Gd D A s (w_M cy mAd 0 0 acts taped latest leng cursor token start till fault faultAt gifts traced lane many item bay fresh thn was tape left gift isKept kept trace) U locs := ⟨hP, hD, hS⟩
    refine lv_aload_n hx hb dX9_set_20 rfl (lv_at hl 0 rfl) ?_
    refine va_get (D := D) (ci := 9) (v := .ref (mAd 1)) (C := RX9) (T := TX9) (N := 27) hx hb hts hiX9 hown hK G.1 0 rfl rfl 2 (by decide) lk2 (fun _ h9 => h9) rfl dX9_set_21 ?_
    refine lv_iload_n hx hb dX9_set_24 rfl (lv_at hl 1 rfl) ?_
    obtain ⟨hb3, H⟩ := gd_some H
    refine g_iald (v := lane (ix p1)) hx hb hK G.1 1 1 rfl rfl hb3 rfl dX9_set_25 ?_
    refine lv_if_ge (tgt := 35) hx hb dX9_set_26 (by decide) (fun c4 => ?_) (fun c4 => ?_)
    · have H := if_t H c4
      refine lv_iload_n hx hb dX9_set_35 rfl (lv_at hl 2 rfl) ?_
      refine lv_i2l hx hb dX9_set_36 rfl ?_
      refine lv_lconst (v := 0) hx hb dX9_set_37 (by decide) ?_
      refine lv_aload_n hx hb dX9_set_38 rfl (lv_at hl 0 rfl) ?_
      refine va_get (D := D) (ci := 9) (v := .ref (mAd 2)) (C := RX9) (T := TX9) (N := 27) hx hb hts hiX9 hown hK G.1 0 rfl rfl 3 (by decide) lk3 (fun _ h9 => h9) rfl dX9_set_39 ?_
      refine lv_iload_n hx hb dX9_set_42 rfl (lv_at hl 1 rfl) ?_
      refine g_iald (v := many (ix p1)) hx hb hK G.1 2 1 rfl rfl hb3 rfl dX9_set_43 ?_
      refine lv_iconst (v := 1) hx hb dX9_set_44 (by decide) ?_
      refine lv_isub hx hb dX9_set_45 ?_
      refine lv_i2l hx hb dX9_set_46 rfl ?_
      obtain ⟨z5, hz5, H⟩ := bd_some H
      refine MI.callS z5 [.long p2.toInt64, .long 0, .long (((many (ix p1)) - 1 : Int32).toInt64)] [] [] C G (c_X9_in l D cy p2.toInt64 0 (((many (ix p1)) - 1 : Int32).toInt64) z5 hz5) gX9_set_X9_in rfl rfl rfl (n := 3) (by decide +kernel) ⟨Nat.le_of_ble_eq_true rfl, Nat.le_of_ble_eq_true rfl⟩ rfl rfl rfl rfl hl.1 rfl (Nat.le_of_ble_eq_true rfl) dX9_set_47 ⟨Nat.zero_le _, Nat.zero_le _⟩ (fun U locs G => ?_)
      have G : Gd D A s (w_M cy mAd 0 0 acts taped latest leng cursor token start till fault faultAt gifts traced lane many item bay fresh thn was tape left gift isKept kept trace) U locs := G
      refine lv_if_ne (tgt := 59) hx hb dX9_set_50 (by decide) (fun c6 => ?_) (fun c6 => ?_)
      · have H := if_f H c6
        refine lv_aload_n hx hb dX9_set_59 rfl (lv_at hl 0 rfl) ?_
        refine va_get (D := D) (ci := 9) (v := .ref (mAd 3)) (C := RX9) (T := TX9) (N := 27) hx hb hts hiX9 hown hK G.1 0 rfl rfl 4 (by decide) lk4 (fun _ h9 => h9) rfl dX9_set_60 ?_
        refine lv_bipush (v := 40) hx hb dX9_set_63 (by decide) ?_
        refine lv_iload_n hx hb dX9_set_65 rfl (lv_at hl 1 rfl) ?_
        refine lv_imul hx hb dX9_set_66 ?_
        refine lv_iload_n hx hb dX9_set_67 rfl (lv_at hl 2 rfl) ?_
        refine lv_iadd hx hb dX9_set_68 ?_
        refine lv_aload_n hx hb dX9_set_69 rfl (lv_at hl 0 rfl) ?_
        refine va_get (D := D) (ci := 9) (v := .ref (mAd 1)) (C := RX9) (T := TX9) (N := 27) hx hb hts hiX9 hown hK G.1 0 rfl rfl 2 (by decide) lk2 (fun _ h9 => h9) rfl dX9_set_70 ?_
        refine lv_iload_n hx hb dX9_set_73 rfl (lv_at hl 1 rfl) ?_
        refine g_iald (v := lane (ix p1)) hx hb hK G.1 1 1 rfl rfl hb3 rfl dX9_set_74 ?_
        refine lv_if_ne (tgt := 83) hx hb dX9_set_75 (by decide) (fun c7 => ?_) (fun c7 => ?_)
        · have H := if_f H c7
          refine lv_aload_n hx hb dX9_set_83 rfl (lv_at hl 0 rfl) ?_
          refine va_get (D := D) (ci := 9) (v := .ref (mAd 1)) (C := RX9) (T := TX9) (N := 27) hx hb hts hiX9 hown hK G.1 0 rfl rfl 2 (by decide) lk2 (fun _ h9 => h9) rfl dX9_set_84 ?_
          refine lv_iload_n hx hb dX9_set_87 rfl (lv_at hl 1 rfl) ?_
          refine g_iald (v := lane (ix p1)) hx hb hK G.1 1 1 rfl rfl hb3 rfl dX9_set_88 ?_
          refine lv_iconst (v := 1) hx hb dX9_set_89 (by decide) ?_
          refine lv_icmp_ne (tgt := 98) hx hb dX9_set_90 (by decide) (fun c8 => ?_) (fun c8 => ?_)
          · have H := if_f H c8
            refine lv_iload_n hx hb dX9_set_98 rfl (lv_at hl 3 rfl) ?_
            obtain ⟨hb9, H⟩ := gd_some H
            refine va_iast hx hb hK G.1 G.2.1 G.2.2 3 1 rfl rfl (inb_in hb9) dX9_set_99 (fun U locs hP hD hS => ?_)
            have G : Gd D A s (w_M cy mAd 0 0 acts taped latest leng cursor token start till fault faultAt gifts traced lane many (upd item (ix ((40 * p1) + p2)) p3) bay fresh thn was tape left gift isKept kept trace) U locs := ⟨hP, hD, hS⟩
            refine lv_aload_n hx hb dX9_set_100 rfl (lv_at hl 0 rfl) ?_
            refine va_get (D := D) (ci := 9) (v := .ref (mAd 3)) (C := RX9) (T := TX9) (N := 27) hx hb hts hiX9 hown hK G.1 0 rfl rfl 4 (by decide) lk4 (fun _ h9 => h9) rfl dX9_set_101 ?_
            refine lv_bipush (v := 40) hx hb dX9_set_104 (by decide) ?_
            refine lv_iload_n hx hb dX9_set_106 rfl (lv_at hl 1 rfl) ?_
            refine lv_imul hx hb dX9_set_107 ?_
            refine lv_iload_n hx hb dX9_set_108 rfl (lv_at hl 2 rfl) ?_
            refine lv_iadd hx hb dX9_set_109 ?_
            refine g_iald (v := (upd item (ix ((40 * p1) + p2)) p3) (ix ((40 * p1) + p2))) hx hb hK G.1 3 1 rfl rfl hb9 rfl dX9_set_110 ?_
            obtain rfl := Option.some.inj H
            exact ret_i C G rfl dX9_set_111
          · have H := if_t H c8
            refine lv_iload_n hx hb dX9_set_93 rfl (lv_at hl 3 rfl) ?_
            refine lv_i2s hx hb dX9_set_94 rfl ?_
            refine lv_goto (tgt := 99) hx hb dX9_set_95 (by decide) ?_
            obtain ⟨hb10, H⟩ := gd_some H
            refine va_iast hx hb hK G.1 G.2.1 G.2.2 3 1 rfl rfl (inb_in hb10) dX9_set_99 (fun U locs hP hD hS => ?_)
            have G : Gd D A s (w_M cy mAd 0 0 acts taped latest leng cursor token start till fault faultAt gifts traced lane many (upd item (ix ((40 * p1) + p2)) p3.toInt16.toInt32) bay fresh thn was tape left gift isKept kept trace) U locs := ⟨hP, hD, hS⟩
            refine lv_aload_n hx hb dX9_set_100 rfl (lv_at hl 0 rfl) ?_
            refine va_get (D := D) (ci := 9) (v := .ref (mAd 3)) (C := RX9) (T := TX9) (N := 27) hx hb hts hiX9 hown hK G.1 0 rfl rfl 4 (by decide) lk4 (fun _ h9 => h9) rfl dX9_set_101 ?_
            refine lv_bipush (v := 40) hx hb dX9_set_104 (by decide) ?_
            refine lv_iload_n hx hb dX9_set_106 rfl (lv_at hl 1 rfl) ?_
            refine lv_imul hx hb dX9_set_107 ?_
            refine lv_iload_n hx hb dX9_set_108 rfl (lv_at hl 2 rfl) ?_
            refine lv_iadd hx hb dX9_set_109 ?_
            refine g_iald (v := (upd item (ix ((40 * p1) + p2)) p3.toInt16.toInt32) (ix ((40 * p1) + p2))) hx hb hK G.1 3 1 rfl rfl hb10 rfl dX9_set_110 ?_
            obtain rfl := Option.some.inj H
            exact ret_i C G rfl dX9_set_111
        · have H := if_t H c7
          refine lv_iload_n hx hb dX9_set_78 rfl (lv_at hl 3 rfl) ?_
          refine lv_i2b hx hb dX9_set_79 rfl ?_
          refine lv_goto (tgt := 99) hx hb dX9_set_80 (by decide) ?_
          obtain ⟨hb11, H⟩ := gd_some H
          refine va_iast hx hb hK G.1 G.2.1 G.2.2 3 1 rfl rfl (inb_in hb11) dX9_set_99 (fun U locs hP hD hS => ?_)
          have G : Gd D A s (w_M cy mAd 0 0 acts taped latest leng cursor token start till fault faultAt gifts traced lane many (upd item (ix ((40 * p1) + p2)) p3.toInt8.toInt32) bay fresh thn was tape left gift isKept kept trace) U locs := ⟨hP, hD, hS⟩
          refine lv_aload_n hx hb dX9_set_100 rfl (lv_at hl 0 rfl) ?_
          refine va_get (D := D) (ci := 9) (v := .ref (mAd 3)) (C := RX9) (T := TX9) (N := 27) hx hb hts hiX9 hown hK G.1 0 rfl rfl 4 (by decide) lk4 (fun _ h9 => h9) rfl dX9_set_101 ?_
          refine lv_bipush (v := 40) hx hb dX9_set_104 (by decide) ?_
          refine lv_iload_n hx hb dX9_set_106 rfl (lv_at hl 1 rfl) ?_
          refine lv_imul hx hb dX9_set_107 ?_
          refine lv_iload_n hx hb dX9_set_108 rfl (lv_at hl 2 rfl) ?_
          refine lv_iadd hx hb dX9_set_109 ?_
          refine g_iald (v := (upd item (ix ((40 * p1) + p2)) p3.toInt8.toInt32) (ix ((40 * p1) + p2))) hx hb hK G.1 3 1 rfl rfl hb11 rfl dX9_set_110 ?_
          obtain rfl := Option.some.inj H
          exact ret_i C G rfl dX9_set_111
      · have H := if_t H c6
        refine lv_aload_n hx hb dX9_set_53 rfl (lv_at hl 0 rfl) ?_
        refine lv_iconst (v := 2) hx hb dX9_set_54 (by decide) ?_
        obtain ⟨z12, hz12, H⟩ := bd_some H
        refine MI.callVw z12.1 [.int 2] [] C G (c_X9_finding l D cy mAd 0 0 acts taped latest leng cursor token start till fault faultAt gifts traced lane many item bay fresh thn was tape left gift isKept kept trace 2 z12 hz12) gX9_set_X9_finding rfl rfl rfl (n := 1) (by decide +kernel) ⟨Nat.le_of_ble_eq_true rfl, Nat.le_of_ble_eq_true rfl⟩ (q0 := 0) (ci := 9) rfl rfl rfl rfl hl.1 rfl (Nat.le_of_ble_eq_true rfl) dX9_set_55 ⟨Nat.zero_le _, Nat.zero_le _⟩ (fun U locs G => ?_)
        have G : Gd D A s (w_M cy mAd 0 z12.2 acts taped latest leng cursor token start till fault faultAt gifts traced lane many item bay fresh thn was tape left gift isKept kept trace) U locs := G
        obtain rfl := Option.some.inj H
        exact ret_i C G rfl dX9_set_58
    · have H := if_f H c4
      refine lv_aload_n hx hb dX9_set_29 rfl (lv_at hl 0 rfl) ?_
      refine lv_iconst (v := 1) hx hb dX9_set_30 (by decide) ?_
      obtain ⟨z13, hz13, H⟩ := bd_some H
      refine MI.callVw z13.1 [.int 1] [] C G (c_X9_finding l D cy mAd 0 0 acts taped latest leng cursor token start till fault faultAt gifts traced lane many item bay fresh thn was tape left gift isKept kept trace 1 z13 hz13) gX9_set_X9_finding rfl rfl rfl (n := 1) (by decide +kernel) ⟨Nat.le_of_ble_eq_true rfl, Nat.le_of_ble_eq_true rfl⟩ (q0 := 0) (ci := 9) rfl rfl rfl rfl hl.1 rfl (Nat.le_of_ble_eq_true rfl) dX9_set_31 ⟨Nat.zero_le _, Nat.zero_le _⟩ (fun U locs G => ?_)
      have G : Gd D A s (w_M cy mAd 0 z13.2 acts taped latest leng cursor token start till fault faultAt gifts traced lane many item bay fresh thn was tape left gift isKept kept trace) U locs := G
      obtain rfl := Option.some.inj H
      exact ret_i C G rfl dX9_set_34
  · have H := if_t H c2
    refine lv_ldc hx hb hown lk5 dX9_set_12 ?_
    obtain rfl := Option.some.inj H
    exact ret_i C G rfl dX9_set_14
def f_X9_copy_L143 (x1 x2 x3 x4 x5 x6 : Int32) : Nat → (Nat → Int32) → Int32 → Option (Nat → Int32)
  | 0, _, _ => none
  | n + 1, item, x7 => if x5 ≤ x7 then (some item) else (if x6 = 0 then (gd (inb (((40 * x1) + x2) + ((x5 - 1) - x7)) 320) (gd (inb (((40 * x3) + x4) + ((x5 - 1) - x7)) 320) (f_X9_copy_L143 x1 x2 x3 x4 x5 x6 n (upd item (ix (((40 * x3) + x4) + ((x5 - 1) - x7))) (item (ix (((40 * x1) + x2) + ((x5 - 1) - x7))))) (x7 + 1)))) else (gd (inb (((40 * x1) + x2) + x7) 320) (gd (inb (((40 * x3) + x4) + x7) 320) (f_X9_copy_L143 x1 x2 x3 x4 x5 x6 n (upd item (ix (((40 * x3) + x4) + x7)) (item (ix (((40 * x1) + x2) + x7)))) (x7 + 1)))))
theorem f_X9_copy_L143_z (x1 x2 x3 x4 x5 x6 : Int32) (item : Nat → Int32) (x7 : Int32) : f_X9_copy_L143 x1 x2 x3 x4 x5 x6 0 item x7 = none := rfl
theorem f_X9_copy_L143_s (x1 x2 x3 x4 x5 x6 : Int32) (n : Nat) (item : Nat → Int32) (x7 : Int32) : f_X9_copy_L143 x1 x2 x3 x4 x5 x6 (n + 1) item x7 = if x5 ≤ x7 then (some item) else (if x6 = 0 then (gd (inb (((40 * x1) + x2) + ((x5 - 1) - x7)) 320) (gd (inb (((40 * x3) + x4) + ((x5 - 1) - x7)) 320) (f_X9_copy_L143 x1 x2 x3 x4 x5 x6 n (upd item (ix (((40 * x3) + x4) + ((x5 - 1) - x7))) (item (ix (((40 * x1) + x2) + ((x5 - 1) - x7))))) (x7 + 1)))) else (gd (inb (((40 * x1) + x2) + x7) 320) (gd (inb (((40 * x3) + x4) + x7) 320) (f_X9_copy_L143 x1 x2 x3 x4 x5 x6 n (upd item (ix (((40 * x3) + x4) + x7)) (item (ix (((40 * x1) + x2) + x7)))) (x7 + 1))))) := rfl
set_option maxHeartbeats 4000000 in
set_option maxRecDepth 100000 in
theorem wl_X9_copy_143 {p : Program} {l : Launch} {e : Env} {s : State} {m : MethodId} {below : List Frame} {meth : Method} {c : Code} {D : va_G} {cy : Nat → ClassId} {A : Nat → Prop} {args : Array Value} {Q : State → Prop} (C : Cx D cy A p s m meth c cX9_copy 9 (some .int) wsX9_copy RX9 args) (mAd : Nat → Nat) (thrown status acts taped latest leng cursor token start till fault faultAt gifts traced : Int32) (lane many bay fresh thn was tape left gift isKept kept trace : Nat → Int32) (x1 x2 x3 x4 x5 x6 : Int32) :
    ∀ (n : Nat) (item : Nat → Int32) (x7 : Int32) (z : (Nat → Int32)), f_X9_copy_L143 x1 x2 x3 x4 x5 x6 n item x7 = some z → (∀ (U : Heap) (locs : List Loc) (ls : Array Slot), Gd D A s (w_M cy mAd thrown status acts taped latest leng cursor token start till fault faultAt gifts traced lane many z bay fresh thn was tape left gift isKept kept trace) U locs → lv_has ls 9 [(5, .int x5)] → W p l e ({ frames := 2, cells := 0, slots := 0, locals := 45 } : Room) s m args below meth c U locs 0 0 Q (F0 m 204 ls [])) → ∀ (U : Heap) (locs : List Loc) (ls : Array Slot), Gd D A s (w_M cy mAd thrown status acts taped latest leng cursor token start till fault faultAt gifts traced lane many item bay fresh thn was tape left gift isKept kept trace) U locs → lv_has ls 9 [(0, .ref (mAd 0)), (1, .int x1), (2, .int x2), (3, .int x3), (4, .int x4), (5, .int x5), (6, .int x6), (7, .int x7)] → W p l e ({ frames := 2, cells := 0, slots := 0, locals := 45 } : Room) s m args below meth c U locs 0 0 Q (F0 m 143 ls []) := by
  obtain ⟨hx, hb, hr, hml, hown, hts, hlk, hK, hA, hE⟩ := id C
  have lk0 := hts (Cond.fieldLink RX9 16 "TideDebtsModel" "item" "[I") (List.mem_of_getElem? (i := 6) rfl)
  have hiX9 : ∀ w ∈ u_ws RX9 TX9 27, w ∈ wsX9_copy := fun _ h => List.mem_cons_of_mem _ (List.mem_append_right _ h)
  intro n
  induction n with
  | zero =>
    intro item x7 z H
    rw [f_X9_copy_L143_z] at H
    cases H
  | succ n ih =>
    intro item x7 z H kk U locs ls G hl
    rw [f_X9_copy_L143_s] at H
    refine lv_iload hx hb dX9_copy_143 (lv_at hl 7 rfl) ?_
    refine lv_iload hx hb dX9_copy_145 (lv_at hl 5 rfl) ?_
    refine lv_icmp_ge (tgt := 204) hx hb dX9_copy_147 (by decide) (fun c21 => ?_) (fun c21 => ?_)
    · have H := if_t H c21
      obtain rfl := Option.some.inj H
      exact kk _ _ _ G (lv_sub hl [5] rfl)
    · have H := if_f H c21
      refine lv_iload hx hb dX9_copy_150 (lv_at hl 6 rfl) ?_
      refine lv_if_eq (tgt := 160) hx hb dX9_copy_152 (by decide) (fun c22 => ?_) (fun c22 => ?_)
      · have H := if_t H c22
        refine lv_iload hx hb dX9_copy_160 (lv_at hl 5 rfl) ?_
        refine lv_iconst (v := 1) hx hb dX9_copy_162 (by decide) ?_
        refine lv_isub hx hb dX9_copy_163 ?_
        refine lv_iload hx hb dX9_copy_164 (lv_at hl 7 rfl) ?_
        refine lv_isub hx hb dX9_copy_166 ?_
        refine lv_istore (lv' := [(8, .int ((x5 - 1) - x7)), (0, .ref (mAd 0)), (1, .int x1), (2, .int x2), (3, .int x3), (4, .int x4), (5, .int x5), (6, .int x6), (7, .int x7)]) hx hb dX9_copy_167 hl (by decide) rfl (fun ls hl => ?_)
        refine lv_aload_n hx hb dX9_copy_169 rfl (lv_at hl 1 rfl) ?_
        refine va_get (D := D) (ci := 9) (v := .ref (mAd 3)) (C := RX9) (T := TX9) (N := 27) hx hb hts hiX9 hown hK G.1 0 rfl rfl 4 (by decide) lk0 (fun _ h9 => h9) rfl dX9_copy_170 ?_
        refine lv_bipush (v := 40) hx hb dX9_copy_173 (by decide) ?_
        refine lv_iload_n hx hb dX9_copy_175 rfl (lv_at hl 4 rfl) ?_
        refine lv_imul hx hb dX9_copy_176 ?_
        refine lv_iload hx hb dX9_copy_177 (lv_at hl 5 rfl) ?_
        refine lv_iadd hx hb dX9_copy_179 ?_
        refine lv_iload hx hb dX9_copy_180 (lv_at hl 0 rfl) ?_
        refine lv_iadd hx hb dX9_copy_182 ?_
        refine lv_aload_n hx hb dX9_copy_183 rfl (lv_at hl 1 rfl) ?_
        refine va_get (D := D) (ci := 9) (v := .ref (mAd 3)) (C := RX9) (T := TX9) (N := 27) hx hb hts hiX9 hown hK G.1 0 rfl rfl 4 (by decide) lk0 (fun _ h9 => h9) rfl dX9_copy_184 ?_
        refine lv_bipush (v := 40) hx hb dX9_copy_187 (by decide) ?_
        refine lv_iload_n hx hb dX9_copy_189 rfl (lv_at hl 2 rfl) ?_
        refine lv_imul hx hb dX9_copy_190 ?_
        refine lv_iload_n hx hb dX9_copy_191 rfl (lv_at hl 3 rfl) ?_
        refine lv_iadd hx hb dX9_copy_192 ?_
        refine lv_iload hx hb dX9_copy_193 (lv_at hl 0 rfl) ?_
        refine lv_iadd hx hb dX9_copy_195 ?_
        obtain ⟨hb23, H⟩ := gd_some H
        refine g_iald (v := item (ix (((40 * x1) + x2) + ((x5 - 1) - x7)))) hx hb hK G.1 3 1 rfl rfl hb23 rfl dX9_copy_196 ?_
        obtain ⟨hb24, H⟩ := gd_some H
        refine va_iast hx hb hK G.1 G.2.1 G.2.2 3 1 rfl rfl (inb_in hb24) dX9_copy_197 (fun U locs hP hD hS => ?_)
        have G : Gd D A s (w_M cy mAd thrown status acts taped latest leng cursor token start till fault faultAt gifts traced lane many (upd item (ix (((40 * x3) + x4) + ((x5 - 1) - x7))) (item (ix (((40 * x1) + x2) + ((x5 - 1) - x7))))) bay fresh thn was tape left gift isKept kept trace) U locs := ⟨hP, hD, hS⟩
        refine lv_iinc (v := x7 + 1) (lv' := [(7, .int (x7 + 1)), (8, .int ((x5 - 1) - x7)), (0, .ref (mAd 0)), (1, .int x1), (2, .int x2), (3, .int x3), (4, .int x4), (5, .int x5), (6, .int x6)]) hx hb dX9_copy_198 hl (k := 8) rfl rfl (by decide) rfl (fun ls hl => ?_)
        refine lv_goto (tgt := 143) hx hb dX9_copy_201 (by decide) ?_
        exact ih (upd item (ix (((40 * x3) + x4) + ((x5 - 1) - x7))) (item (ix (((40 * x1) + x2) + ((x5 - 1) - x7))))) (x7 + 1) z H kk _ _ _ G (lv_sub hl [2, 3, 4, 5, 6, 7, 8, 0] rfl)
      · have H := if_f H c22
        refine lv_iload hx hb dX9_copy_155 (lv_at hl 7 rfl) ?_
        refine lv_goto (tgt := 167) hx hb dX9_copy_157 (by decide) ?_
        refine lv_istore (lv' := [(8, .int x7), (0, .ref (mAd 0)), (1, .int x1), (2, .int x2), (3, .int x3), (4, .int x4), (5, .int x5), (6, .int x6), (7, .int x7)]) hx hb dX9_copy_167 hl (by decide) rfl (fun ls hl => ?_)
        refine lv_aload_n hx hb dX9_copy_169 rfl (lv_at hl 1 rfl) ?_
        refine va_get (D := D) (ci := 9) (v := .ref (mAd 3)) (C := RX9) (T := TX9) (N := 27) hx hb hts hiX9 hown hK G.1 0 rfl rfl 4 (by decide) lk0 (fun _ h9 => h9) rfl dX9_copy_170 ?_
        refine lv_bipush (v := 40) hx hb dX9_copy_173 (by decide) ?_
        refine lv_iload_n hx hb dX9_copy_175 rfl (lv_at hl 4 rfl) ?_
        refine lv_imul hx hb dX9_copy_176 ?_
        refine lv_iload hx hb dX9_copy_177 (lv_at hl 5 rfl) ?_
        refine lv_iadd hx hb dX9_copy_179 ?_
        refine lv_iload hx hb dX9_copy_180 (lv_at hl 0 rfl) ?_
        refine lv_iadd hx hb dX9_copy_182 ?_
        refine lv_aload_n hx hb dX9_copy_183 rfl (lv_at hl 1 rfl) ?_
        refine va_get (D := D) (ci := 9) (v := .ref (mAd 3)) (C := RX9) (T := TX9) (N := 27) hx hb hts hiX9 hown hK G.1 0 rfl rfl 4 (by decide) lk0 (fun _ h9 => h9) rfl dX9_copy_184 ?_
        refine lv_bipush (v := 40) hx hb dX9_copy_187 (by decide) ?_
        refine lv_iload_n hx hb dX9_copy_189 rfl (lv_at hl 2 rfl) ?_
        refine lv_imul hx hb dX9_copy_190 ?_
        refine lv_iload_n hx hb dX9_copy_191 rfl (lv_at hl 3 rfl) ?_
        refine lv_iadd hx hb dX9_copy_192 ?_
        refine lv_iload hx hb dX9_copy_193 (lv_at hl 0 rfl) ?_
        refine lv_iadd hx hb dX9_copy_195 ?_
        obtain ⟨hb25, H⟩ := gd_some H
        refine g_iald (v := item (ix (((40 * x1) + x2) + x7))) hx hb hK G.1 3 1 rfl rfl hb25 rfl dX9_copy_196 ?_
        obtain ⟨hb26, H⟩ := gd_some H
        refine va_iast hx hb hK G.1 G.2.1 G.2.2 3 1 rfl rfl (inb_in hb26) dX9_copy_197 (fun U locs hP hD hS => ?_)
        have G : Gd D A s (w_M cy mAd thrown status acts taped latest leng cursor token start till fault faultAt gifts traced lane many (upd item (ix (((40 * x3) + x4) + x7)) (item (ix (((40 * x1) + x2) + x7)))) bay fresh thn was tape left gift isKept kept trace) U locs := ⟨hP, hD, hS⟩
        refine lv_iinc (v := x7 + 1) (lv' := [(7, .int (x7 + 1)), (8, .int x7), (0, .ref (mAd 0)), (1, .int x1), (2, .int x2), (3, .int x3), (4, .int x4), (5, .int x5), (6, .int x6)]) hx hb dX9_copy_198 hl (k := 8) rfl rfl (by decide) rfl (fun ls hl => ?_)
        refine lv_goto (tgt := 143) hx hb dX9_copy_201 (by decide) ?_
        exact ih (upd item (ix (((40 * x3) + x4) + x7)) (item (ix (((40 * x1) + x2) + x7)))) (x7 + 1) z H kk _ _ _ G (lv_sub hl [2, 3, 4, 5, 6, 7, 8, 0] rfl)
def f_X9_copy (thrown status : Int32) (lane many item : Nat → Int32) (p1 p2 p3 p4 p5 : Int32) : Option (Int32 × Int32 × Int32 × (Nat → Int32)) := bd (f_X9_isRow p1) (fun z1 => if z1 = 0 then (some ((-1000001), 0, status, item)) else (bd (f_X9_isRow p3) (fun z3 => if z3 = 0 then (some ((-1000001), 0, status, item)) else (gd (inb p1 8) (if (lane (ix p1)) < 0 then (bd (f_X9_finding 0 1) (fun z7 => some (z7.1, 0, z7.2, item))) else (gd (inb p3 8) (if 0 ≤ (lane (ix p3)) then (if (lane (ix p1)) = (lane (ix p3)) then (if p2 < 0 then (bd (f_X9_finding 0 2) (fun z12 => some (z12.1, 0, z12.2, item))) else (if p4 < 0 then (bd (f_X9_finding 0 2) (fun z14 => some (z14.1, 0, z14.2, item))) else (if p5 < 0 then (bd (f_X9_finding 0 2) (fun z16 => some (z16.1, 0, z16.2, item))) else (if 0 < (lg_cmp (p2.toInt64 + p5.toInt64) ((many (ix p1) : Int32).toInt64)) then (bd (f_X9_finding 0 2) (fun z18 => some (z18.1, 0, z18.2, item))) else (if (lg_cmp (p4.toInt64 + p5.toInt64) ((many (ix p3) : Int32).toInt64)) ≤ 0 then (if p2 < p4 then (bd (f_X9_copy_L143 p1 p2 p3 p4 p5 0 2000 item 0) (fun z27 => some (p5, 0, 0, z27))) else (bd (f_X9_copy_L143 p1 p2 p3 p4 p5 1 2000 item 0) (fun z28 => some (p5, 0, 0, z28)))) else (bd (f_X9_finding 0 2) (fun z29 => some (z29.1, 0, z29.2, item)))))))) else (bd (f_X9_finding 0 5) (fun z30 => some (z30.1, 0, z30.2, item)))) else (bd (f_X9_finding 0 1) (fun z31 => some (z31.1, 0, z31.2, item))))))))))
set_option maxHeartbeats 4000000 in
set_option maxRecDepth 100000 in
theorem c_X9_copy (l : Launch) (D : va_G) (cy : Nat → ClassId) (mAd : Nat → Nat) (thrown status acts taped latest leng cursor token start till fault faultAt gifts traced : Int32) (lane many item bay fresh thn was tape left gift isKept kept trace : Nat → Int32) (p1 p2 p3 p4 p5 : Int32) (z : (Int32 × Int32 × Int32 × (Nat → Int32))) (hz : f_X9_copy thrown status lane many item p1 p2 p3 p4 p5 = some z) : MI l yX9_copy wsX9_copy ({ frames := 2, cells := 0, slots := 0, locals := 45 } : Room) D cy [.ref (mAd 0), .int p1, .int p2, .int p3, .int p4, .int p5] (w_M cy mAd thrown status acts taped latest leng cursor token start till fault faultAt gifts traced lane many item bay fresh thn was tape left gift isKept kept trace) z.1 (w_M cy mAd z.2.1 z.2.2.1 acts taped latest leng cursor token start till fault faultAt gifts traced lane many z.2.2.2 bay fresh thn was tape left gift isKept kept trace) := by
  refine met_start (Qf := fun A => MQi D cy z.1 (w_M cy mAd z.2.1 z.2.2.1 acts taped latest leng cursor token start till fault faultAt gifts traced lane many z.2.2.2 bay fresh thn was tape left gift isKept kept trace) A) (cc := cX9_copy) (nL := 9) (ret := (some .int)) RX9 rfl (by decide) rfl (Nat.le_of_ble_eq_true rfl) ?_
  intro p e s m below meth c A ls C G hl
  have hl : lv_has ls 9 [(0, .ref (mAd 0)), (1, .int p1), (2, .int p2), (3, .int p3), (4, .int p4), (5, .int p5)] := hl
  have H := hz
  unfold f_X9_copy at H
  obtain ⟨hx, hb, hr, hml, hown, hts, hlk, hK, hA, hE⟩ := id C
  have lk0 := hts (Cond.fieldLink RX9 50 "TideDebtsModel" "thrown" "I") (List.mem_of_getElem? (i := 1) rfl)
  have lk1 := hts (Cond.constant RX9 70 (-1000001)) (List.mem_of_getElem? (i := 2) rfl)
  have lk2 := hts (Cond.fieldLink RX9 54 "TideDebtsModel" "status" "I") (List.mem_of_getElem? (i := 3) rfl)
  have lk3 := hts (Cond.fieldLink RX9 7 "TideDebtsModel" "lane" "[I") (List.mem_of_getElem? (i := 4) rfl)
  have lk4 := hts (Cond.fieldLink RX9 13 "TideDebtsModel" "many" "[I") (List.mem_of_getElem? (i := 5) rfl)
  have hiX9 : ∀ w ∈ u_ws RX9 TX9 27, w ∈ wsX9_copy := fun _ h => List.mem_cons_of_mem _ (List.mem_append_right _ h)
  refine lv_aload_n hx hb dX9_copy_0 rfl (lv_at hl 0 rfl) ?_
  refine lv_iconst (v := 0) hx hb dX9_copy_1 (by decide) ?_
  refine va_put (D := D) (ci := 9) (v := .int 0) (ty := .int) (C := RX9) (T := TX9) (N := 27) hx hb hts hiX9 tyX9 tyX9_ok nmX9 hown hK G.1 G.2.1 G.2.2 0 rfl rfl 0 (by decide) lk0 (fun _ h9 => h9) rfl (tyX9_ok 0 (by decide)) rfl rfl (Nat.le_of_ble_eq_true rfl) dX9_copy_2 (fun U locs hP hD hS => ?_)
  have G : Gd D A s (w_M cy mAd 0 status acts taped latest leng cursor token start till fault faultAt gifts traced lane many item bay fresh thn was tape left gift isKept kept trace) U locs := ⟨hP, hD, hS⟩
  refine lv_iload_n hx hb dX9_copy_5 rfl (lv_at hl 1 rfl) ?_
  obtain ⟨z1, hz1, H⟩ := bd_some H
  refine MI.callS z1 [.int p1] [] [] C G (c_X9_isRow l D cy p1 z1 hz1) gX9_copy_X9_isRow rfl rfl rfl (n := 1) (by decide +kernel) ⟨Nat.le_of_ble_eq_true rfl, Nat.le_of_ble_eq_true rfl⟩ rfl rfl rfl rfl hl.1 rfl (Nat.le_of_ble_eq_true rfl) dX9_copy_6 ⟨Nat.zero_le _, Nat.zero_le _⟩ (fun U locs G => ?_)
  have G : Gd D A s (w_M cy mAd 0 status acts taped latest leng cursor token start till fault faultAt gifts traced lane many item bay fresh thn was tape left gift isKept kept trace) U locs := G
  refine lv_if_eq (tgt := 19) hx hb dX9_copy_9 (by decide) (fun c2 => ?_) (fun c2 => ?_)
  · have H := if_t H c2
    refine lv_ldc hx hb hown lk1 dX9_copy_19 ?_
    obtain rfl := Option.some.inj H
    exact ret_i C G rfl dX9_copy_21
  · have H := if_f H c2
    refine lv_iload_n hx hb dX9_copy_12 rfl (lv_at hl 3 rfl) ?_
    obtain ⟨z3, hz3, H⟩ := bd_some H
    refine MI.callS z3 [.int p3] [] [] C G (c_X9_isRow l D cy p3 z3 hz3) gX9_copy_X9_isRow rfl rfl rfl (n := 1) (by decide +kernel) ⟨Nat.le_of_ble_eq_true rfl, Nat.le_of_ble_eq_true rfl⟩ rfl rfl rfl rfl hl.1 rfl (Nat.le_of_ble_eq_true rfl) dX9_copy_13 ⟨Nat.zero_le _, Nat.zero_le _⟩ (fun U locs G => ?_)
    have G : Gd D A s (w_M cy mAd 0 status acts taped latest leng cursor token start till fault faultAt gifts traced lane many item bay fresh thn was tape left gift isKept kept trace) U locs := G
    refine lv_if_ne (tgt := 22) hx hb dX9_copy_16 (by decide) (fun c4 => ?_) (fun c4 => ?_)
    · have H := if_f H c4
      refine lv_aload_n hx hb dX9_copy_22 rfl (lv_at hl 0 rfl) ?_
      refine lv_iconst (v := 0) hx hb dX9_copy_23 (by decide) ?_
      refine va_put (D := D) (ci := 9) (v := .int 0) (ty := .int) (C := RX9) (T := TX9) (N := 27) hx hb hts hiX9 tyX9 tyX9_ok nmX9 hown hK G.1 G.2.1 G.2.2 0 rfl rfl 1 (by decide) lk2 (fun _ h9 => h9) rfl (tyX9_ok 1 (by decide)) rfl rfl (Nat.le_of_ble_eq_true rfl) dX9_copy_24 (fun U locs hP hD hS => ?_)
      have G : Gd D A s (w_M cy mAd 0 0 acts taped latest leng cursor token start till fault faultAt gifts traced lane many item bay fresh thn was tape left gift isKept kept trace) U locs := ⟨hP, hD, hS⟩
      refine lv_aload_n hx hb dX9_copy_27 rfl (lv_at hl 0 rfl) ?_
      refine va_get (D := D) (ci := 9) (v := .ref (mAd 1)) (C := RX9) (T := TX9) (N := 27) hx hb hts hiX9 hown hK G.1 0 rfl rfl 2 (by decide) lk3 (fun _ h9 => h9) rfl dX9_copy_28 ?_
      refine lv_iload_n hx hb dX9_copy_31 rfl (lv_at hl 1 rfl) ?_
      obtain ⟨hb5, H⟩ := gd_some H
      refine g_iald (v := lane (ix p1)) hx hb hK G.1 1 1 rfl rfl hb5 rfl dX9_copy_32 ?_
      refine lv_if_lt (tgt := 45) hx hb dX9_copy_33 (by decide) (fun c6 => ?_) (fun c6 => ?_)
      · have H := if_t H c6
        refine lv_aload_n hx hb dX9_copy_45 rfl (lv_at hl 0 rfl) ?_
        refine lv_iconst (v := 1) hx hb dX9_copy_46 (by decide) ?_
        obtain ⟨z7, hz7, H⟩ := bd_some H
        refine MI.callVw z7.1 [.int 1] [] C G (c_X9_finding l D cy mAd 0 0 acts taped latest leng cursor token start till fault faultAt gifts traced lane many item bay fresh thn was tape left gift isKept kept trace 1 z7 hz7) gX9_copy_X9_finding rfl rfl rfl (n := 1) (by decide +kernel) ⟨Nat.le_of_ble_eq_true rfl, Nat.le_of_ble_eq_true rfl⟩ (q0 := 0) (ci := 9) rfl rfl rfl rfl hl.1 rfl (Nat.le_of_ble_eq_true rfl) dX9_copy_47 ⟨Nat.zero_le _, Nat.zero_le _⟩ (fun U locs G => ?_)
        have G : Gd D A s (w_M cy mAd 0 z7.2 acts taped latest leng cursor token start till fault faultAt gifts traced lane many item bay fresh thn was tape left gift isKept kept trace) U locs := G
        obtain rfl := Option.some.inj H
        exact ret_i C G rfl dX9_copy_50
      · have H := if_f H c6
        refine lv_aload_n hx hb dX9_copy_36 rfl (lv_at hl 0 rfl) ?_
        refine va_get (D := D) (ci := 9) (v := .ref (mAd 1)) (C := RX9) (T := TX9) (N := 27) hx hb hts hiX9 hown hK G.1 0 rfl rfl 2 (by decide) lk3 (fun _ h9 => h9) rfl dX9_copy_37 ?_
        refine lv_iload_n hx hb dX9_copy_40 rfl (lv_at hl 3 rfl) ?_
        obtain ⟨hb8, H⟩ := gd_some H
        refine g_iald (v := lane (ix p3)) hx hb hK G.1 1 1 rfl rfl hb8 rfl dX9_copy_41 ?_
        refine lv_if_ge (tgt := 51) hx hb dX9_copy_42 (by decide) (fun c9 => ?_) (fun c9 => ?_)
        · have H := if_t H c9
          refine lv_aload_n hx hb dX9_copy_51 rfl (lv_at hl 0 rfl) ?_
          refine va_get (D := D) (ci := 9) (v := .ref (mAd 1)) (C := RX9) (T := TX9) (N := 27) hx hb hts hiX9 hown hK G.1 0 rfl rfl 2 (by decide) lk3 (fun _ h9 => h9) rfl dX9_copy_52 ?_
          refine lv_iload_n hx hb dX9_copy_55 rfl (lv_at hl 1 rfl) ?_
          refine g_iald (v := lane (ix p1)) hx hb hK G.1 1 1 rfl rfl hb5 rfl dX9_copy_56 ?_
          refine lv_aload_n hx hb dX9_copy_57 rfl (lv_at hl 0 rfl) ?_
          refine va_get (D := D) (ci := 9) (v := .ref (mAd 1)) (C := RX9) (T := TX9) (N := 27) hx hb hts hiX9 hown hK G.1 0 rfl rfl 2 (by decide) lk3 (fun _ h9 => h9) rfl dX9_copy_58 ?_
          refine lv_iload_n hx hb dX9_copy_61 rfl (lv_at hl 3 rfl) ?_
          refine g_iald (v := lane (ix p3)) hx hb hK G.1 1 1 rfl rfl hb8 rfl dX9_copy_62 ?_
          refine lv_icmp_eq (tgt := 72) hx hb dX9_copy_63 (by decide) (fun c10 => ?_) (fun c10 => ?_)
          · have H := if_t H c10
            refine lv_iload_n hx hb dX9_copy_72 rfl (lv_at hl 2 rfl) ?_
            refine lv_if_lt (tgt := 121) hx hb dX9_copy_73 (by decide) (fun c11 => ?_) (fun c11 => ?_)
            · have H := if_t H c11
              refine lv_aload_n hx hb dX9_copy_121 rfl (lv_at hl 0 rfl) ?_
              refine lv_iconst (v := 2) hx hb dX9_copy_122 (by decide) ?_
              obtain ⟨z12, hz12, H⟩ := bd_some H
              refine MI.callVw z12.1 [.int 2] [] C G (c_X9_finding l D cy mAd 0 0 acts taped latest leng cursor token start till fault faultAt gifts traced lane many item bay fresh thn was tape left gift isKept kept trace 2 z12 hz12) gX9_copy_X9_finding rfl rfl rfl (n := 1) (by decide +kernel) ⟨Nat.le_of_ble_eq_true rfl, Nat.le_of_ble_eq_true rfl⟩ (q0 := 0) (ci := 9) rfl rfl rfl rfl hl.1 rfl (Nat.le_of_ble_eq_true rfl) dX9_copy_123 ⟨Nat.zero_le _, Nat.zero_le _⟩ (fun U locs G => ?_)
              have G : Gd D A s (w_M cy mAd 0 z12.2 acts taped latest leng cursor token start till fault faultAt gifts traced lane many item bay fresh thn was tape left gift isKept kept trace) U locs := G
              obtain rfl := Option.some.inj H
              exact ret_i C G rfl dX9_copy_126
            · have H := if_f H c11
              refine lv_iload hx hb dX9_copy_76 (lv_at hl 4 rfl) ?_
              refine lv_if_lt (tgt := 121) hx hb dX9_copy_78 (by decide) (fun c13 => ?_) (fun c13 => ?_)
              · have H := if_t H c13
                refine lv_aload_n hx hb dX9_copy_121 rfl (lv_at hl 0 rfl) ?_
                refine lv_iconst (v := 2) hx hb dX9_copy_122 (by decide) ?_
                obtain ⟨z14, hz14, H⟩ := bd_some H
                refine MI.callVw z14.1 [.int 2] [] C G (c_X9_finding l D cy mAd 0 0 acts taped latest leng cursor token start till fault faultAt gifts traced lane many item bay fresh thn was tape left gift isKept kept trace 2 z14 hz14) gX9_copy_X9_finding rfl rfl rfl (n := 1) (by decide +kernel) ⟨Nat.le_of_ble_eq_true rfl, Nat.le_of_ble_eq_true rfl⟩ (q0 := 0) (ci := 9) rfl rfl rfl rfl hl.1 rfl (Nat.le_of_ble_eq_true rfl) dX9_copy_123 ⟨Nat.zero_le _, Nat.zero_le _⟩ (fun U locs G => ?_)
                have G : Gd D A s (w_M cy mAd 0 z14.2 acts taped latest leng cursor token start till fault faultAt gifts traced lane many item bay fresh thn was tape left gift isKept kept trace) U locs := G
                obtain rfl := Option.some.inj H
                exact ret_i C G rfl dX9_copy_126
              · have H := if_f H c13
                refine lv_iload hx hb dX9_copy_81 (lv_at hl 5 rfl) ?_
                refine lv_if_lt (tgt := 121) hx hb dX9_copy_83 (by decide) (fun c15 => ?_) (fun c15 => ?_)
                · have H := if_t H c15
                  refine lv_aload_n hx hb dX9_copy_121 rfl (lv_at hl 0 rfl) ?_
                  refine lv_iconst (v := 2) hx hb dX9_copy_122 (by decide) ?_
                  obtain ⟨z16, hz16, H⟩ := bd_some H
                  refine MI.callVw z16.1 [.int 2] [] C G (c_X9_finding l D cy mAd 0 0 acts taped latest leng cursor token start till fault faultAt gifts traced lane many item bay fresh thn was tape left gift isKept kept trace 2 z16 hz16) gX9_copy_X9_finding rfl rfl rfl (n := 1) (by decide +kernel) ⟨Nat.le_of_ble_eq_true rfl, Nat.le_of_ble_eq_true rfl⟩ (q0 := 0) (ci := 9) rfl rfl rfl rfl hl.1 rfl (Nat.le_of_ble_eq_true rfl) dX9_copy_123 ⟨Nat.zero_le _, Nat.zero_le _⟩ (fun U locs G => ?_)
                  have G : Gd D A s (w_M cy mAd 0 z16.2 acts taped latest leng cursor token start till fault faultAt gifts traced lane many item bay fresh thn was tape left gift isKept kept trace) U locs := G
                  obtain rfl := Option.some.inj H
                  exact ret_i C G rfl dX9_copy_126
                · have H := if_f H c15
                  refine lv_iload_n hx hb dX9_copy_86 rfl (lv_at hl 2 rfl) ?_
                  refine lv_i2l hx hb dX9_copy_87 rfl ?_
                  refine lv_iload hx hb dX9_copy_88 (lv_at hl 5 rfl) ?_
                  refine lv_i2l hx hb dX9_copy_90 rfl ?_
                  refine lv_ladd hx hb dX9_copy_91 ?_
                  refine lv_aload_n hx hb dX9_copy_92 rfl (lv_at hl 0 rfl) ?_
                  refine va_get (D := D) (ci := 9) (v := .ref (mAd 2)) (C := RX9) (T := TX9) (N := 27) hx hb hts hiX9 hown hK G.1 0 rfl rfl 3 (by decide) lk4 (fun _ h9 => h9) rfl dX9_copy_93 ?_
                  refine lv_iload_n hx hb dX9_copy_96 rfl (lv_at hl 1 rfl) ?_
                  refine g_iald (v := many (ix p1)) hx hb hK G.1 2 1 rfl rfl hb5 rfl dX9_copy_97 ?_
                  refine lv_i2l hx hb dX9_copy_98 rfl ?_
                  refine W.lcmp hx hb dX9_copy_99 ?_
                  refine lv_if_gt (tgt := 121) hx hb dX9_copy_100 (by decide) (fun c17 => ?_) (fun c17 => ?_)
                  · have H := if_t H c17
                    refine lv_aload_n hx hb dX9_copy_121 rfl (lv_at hl 0 rfl) ?_
                    refine lv_iconst (v := 2) hx hb dX9_copy_122 (by decide) ?_
                    obtain ⟨z18, hz18, H⟩ := bd_some H
                    refine MI.callVw z18.1 [.int 2] [] C G (c_X9_finding l D cy mAd 0 0 acts taped latest leng cursor token start till fault faultAt gifts traced lane many item bay fresh thn was tape left gift isKept kept trace 2 z18 hz18) gX9_copy_X9_finding rfl rfl rfl (n := 1) (by decide +kernel) ⟨Nat.le_of_ble_eq_true rfl, Nat.le_of_ble_eq_true rfl⟩ (q0 := 0) (ci := 9) rfl rfl rfl rfl hl.1 rfl (Nat.le_of_ble_eq_true rfl) dX9_copy_123 ⟨Nat.zero_le _, Nat.zero_le _⟩ (fun U locs G => ?_)
                    have G : Gd D A s (w_M cy mAd 0 z18.2 acts taped latest leng cursor token start till fault faultAt gifts traced lane many item bay fresh thn was tape left gift isKept kept trace) U locs := G
                    obtain rfl := Option.some.inj H
                    exact ret_i C G rfl dX9_copy_126
                  · have H := if_f H c17
                    refine lv_iload hx hb dX9_copy_103 (lv_at hl 4 rfl) ?_
                    refine lv_i2l hx hb dX9_copy_105 rfl ?_
                    refine lv_iload hx hb dX9_copy_106 (lv_at hl 5 rfl) ?_
                    refine lv_i2l hx hb dX9_copy_108 rfl ?_
                    refine lv_ladd hx hb dX9_copy_109 ?_
                    refine lv_aload_n hx hb dX9_copy_110 rfl (lv_at hl 0 rfl) ?_
                    refine va_get (D := D) (ci := 9) (v := .ref (mAd 2)) (C := RX9) (T := TX9) (N := 27) hx hb hts hiX9 hown hK G.1 0 rfl rfl 3 (by decide) lk4 (fun _ h9 => h9) rfl dX9_copy_111 ?_
                    refine lv_iload_n hx hb dX9_copy_114 rfl (lv_at hl 3 rfl) ?_
                    refine g_iald (v := many (ix p3)) hx hb hK G.1 2 1 rfl rfl hb8 rfl dX9_copy_115 ?_
                    refine lv_i2l hx hb dX9_copy_116 rfl ?_
                    refine W.lcmp hx hb dX9_copy_117 ?_
                    refine lv_if_le (tgt := 127) hx hb dX9_copy_118 (by decide) (fun c19 => ?_) (fun c19 => ?_)
                    · have H := if_t H c19
                      refine lv_iload_n hx hb dX9_copy_127 rfl (lv_at hl 2 rfl) ?_
                      refine lv_iload hx hb dX9_copy_128 (lv_at hl 4 rfl) ?_
                      refine lv_icmp_lt (tgt := 137) hx hb dX9_copy_130 (by decide) (fun c20 => ?_) (fun c20 => ?_)
                      · have H := if_t H c20
                        refine lv_iconst (v := 0) hx hb dX9_copy_137 (by decide) ?_
                        refine lv_istore (lv' := [(6, .int 0), (0, .ref (mAd 0)), (1, .int p1), (2, .int p2), (3, .int p3), (4, .int p4), (5, .int p5)]) hx hb dX9_copy_138 hl (by decide) rfl (fun ls hl => ?_)
                        refine lv_iconst (v := 0) hx hb dX9_copy_140 (by decide) ?_
                        refine lv_istore (lv' := [(7, .int 0), (6, .int 0), (0, .ref (mAd 0)), (1, .int p1), (2, .int p2), (3, .int p3), (4, .int p4), (5, .int p5)]) hx hb dX9_copy_141 hl (by decide) rfl (fun ls hl => ?_)
                        obtain ⟨z27, hz27, H⟩ := bd_some H
                        refine wl_X9_copy_143 C mAd 0 0 acts taped latest leng cursor token start till fault faultAt gifts traced lane many bay fresh thn was tape left gift isKept kept trace p1 p2 p3 p4 p5 0 _ item 0 z27 hz27 (fun U locs ls G hl => ?_) _ _ _ G (lv_sub hl [2, 3, 4, 5, 6, 7, 1, 0] rfl)
                        have G : Gd D A s (w_M cy mAd 0 0 acts taped latest leng cursor token start till fault faultAt gifts traced lane many z27 bay fresh thn was tape left gift isKept kept trace) U locs := G
                        have hl : lv_has ls 9 [(5, .int p5)] := hl
                        refine lv_iload hx hb dX9_copy_204 (lv_at hl 0 rfl) ?_
                        obtain rfl := Option.some.inj H
                        exact ret_i C G rfl dX9_copy_206
                      · have H := if_f H c20
                        refine lv_iconst (v := 1) hx hb dX9_copy_133 (by decide) ?_
                        refine lv_goto (tgt := 138) hx hb dX9_copy_134 (by decide) ?_
                        refine lv_istore (lv' := [(6, .int 1), (0, .ref (mAd 0)), (1, .int p1), (2, .int p2), (3, .int p3), (4, .int p4), (5, .int p5)]) hx hb dX9_copy_138 hl (by decide) rfl (fun ls hl => ?_)
                        refine lv_iconst (v := 0) hx hb dX9_copy_140 (by decide) ?_
                        refine lv_istore (lv' := [(7, .int 0), (6, .int 1), (0, .ref (mAd 0)), (1, .int p1), (2, .int p2), (3, .int p3), (4, .int p4), (5, .int p5)]) hx hb dX9_copy_141 hl (by decide) rfl (fun ls hl => ?_)
                        obtain ⟨z28, hz28, H⟩ := bd_some H
                        refine wl_X9_copy_143 C mAd 0 0 acts taped latest leng cursor token start till fault faultAt gifts traced lane many bay fresh thn was tape left gift isKept kept trace p1 p2 p3 p4 p5 1 _ item 0 z28 hz28 (fun U locs ls G hl => ?_) _ _ _ G (lv_sub hl [2, 3, 4, 5, 6, 7, 1, 0] rfl)
                        have G : Gd D A s (w_M cy mAd 0 0 acts taped latest leng cursor token start till fault faultAt gifts traced lane many z28 bay fresh thn was tape left gift isKept kept trace) U locs := G
                        have hl : lv_has ls 9 [(5, .int p5)] := hl
                        refine lv_iload hx hb dX9_copy_204 (lv_at hl 0 rfl) ?_
                        obtain rfl := Option.some.inj H
                        exact ret_i C G rfl dX9_copy_206
                    · have H := if_f H c19
                      refine lv_aload_n hx hb dX9_copy_121 rfl (lv_at hl 0 rfl) ?_
                      refine lv_iconst (v := 2) hx hb dX9_copy_122 (by decide) ?_
                      obtain ⟨z29, hz29, H⟩ := bd_some H
                      refine MI.callVw z29.1 [.int 2] [] C G (c_X9_finding l D cy mAd 0 0 acts taped latest leng cursor token start till fault faultAt gifts traced lane many item bay fresh thn was tape left gift isKept kept trace 2 z29 hz29) gX9_copy_X9_finding rfl rfl rfl (n := 1) (by decide +kernel) ⟨Nat.le_of_ble_eq_true rfl, Nat.le_of_ble_eq_true rfl⟩ (q0 := 0) (ci := 9) rfl rfl rfl rfl hl.1 rfl (Nat.le_of_ble_eq_true rfl) dX9_copy_123 ⟨Nat.zero_le _, Nat.zero_le _⟩ (fun U locs G => ?_)
                      have G : Gd D A s (w_M cy mAd 0 z29.2 acts taped latest leng cursor token start till fault faultAt gifts traced lane many item bay fresh thn was tape left gift isKept kept trace) U locs := G
                      obtain rfl := Option.some.inj H
                      exact ret_i C G rfl dX9_copy_126
          · have H := if_f H c10
            refine lv_aload_n hx hb dX9_copy_66 rfl (lv_at hl 0 rfl) ?_
            refine lv_iconst (v := 5) hx hb dX9_copy_67 (by decide) ?_
            obtain ⟨z30, hz30, H⟩ := bd_some H
            refine MI.callVw z30.1 [.int 5] [] C G (c_X9_finding l D cy mAd 0 0 acts taped latest leng cursor token start till fault faultAt gifts traced lane many item bay fresh thn was tape left gift isKept kept trace 5 z30 hz30) gX9_copy_X9_finding rfl rfl rfl (n := 1) (by decide +kernel) ⟨Nat.le_of_ble_eq_true rfl, Nat.le_of_ble_eq_true rfl⟩ (q0 := 0) (ci := 9) rfl rfl rfl rfl hl.1 rfl (Nat.le_of_ble_eq_true rfl) dX9_copy_68 ⟨Nat.zero_le _, Nat.zero_le _⟩ (fun U locs G => ?_)
            have G : Gd D A s (w_M cy mAd 0 z30.2 acts taped latest leng cursor token start till fault faultAt gifts traced lane many item bay fresh thn was tape left gift isKept kept trace) U locs := G
            obtain rfl := Option.some.inj H
            exact ret_i C G rfl dX9_copy_71
        · have H := if_f H c9
          refine lv_aload_n hx hb dX9_copy_45 rfl (lv_at hl 0 rfl) ?_
          refine lv_iconst (v := 1) hx hb dX9_copy_46 (by decide) ?_
          obtain ⟨z31, hz31, H⟩ := bd_some H
          refine MI.callVw z31.1 [.int 1] [] C G (c_X9_finding l D cy mAd 0 0 acts taped latest leng cursor token start till fault faultAt gifts traced lane many item bay fresh thn was tape left gift isKept kept trace 1 z31 hz31) gX9_copy_X9_finding rfl rfl rfl (n := 1) (by decide +kernel) ⟨Nat.le_of_ble_eq_true rfl, Nat.le_of_ble_eq_true rfl⟩ (q0 := 0) (ci := 9) rfl rfl rfl rfl hl.1 rfl (Nat.le_of_ble_eq_true rfl) dX9_copy_47 ⟨Nat.zero_le _, Nat.zero_le _⟩ (fun U locs G => ?_)
          have G : Gd D A s (w_M cy mAd 0 z31.2 acts taped latest leng cursor token start till fault faultAt gifts traced lane many item bay fresh thn was tape left gift isKept kept trace) U locs := G
          obtain rfl := Option.some.inj H
          exact ret_i C G rfl dX9_copy_50
    · have H := if_t H c4
      refine lv_ldc hx hb hown lk1 dX9_copy_19 ?_
      obtain rfl := Option.some.inj H
      exact ret_i C G rfl dX9_copy_21
def f_X9_drop (thrown status : Int32) (lane many : Nat → Int32) (p1 : Int32) : Option (Int32 × Int32 × Int32 × (Nat → Int32)) := bd (f_X9_isRow p1) (fun z1 => if z1 = 0 then (some ((-1000001), 0, status, lane)) else (gd (inb p1 8) (if 0 ≤ (lane (ix p1)) then (some (many (ix p1), 0, 0, upd lane (ix p1) (-1))) else (bd (f_X9_finding 0 1) (fun z5 => some (z5.1, 0, z5.2, lane))))))
set_option maxHeartbeats 4000000 in
set_option maxRecDepth 100000 in
theorem c_X9_drop (l : Launch) (D : va_G) (cy : Nat → ClassId) (mAd : Nat → Nat) (thrown status acts taped latest leng cursor token start till fault faultAt gifts traced : Int32) (lane many item bay fresh thn was tape left gift isKept kept trace : Nat → Int32) (p1 : Int32) (z : (Int32 × Int32 × Int32 × (Nat → Int32))) (hz : f_X9_drop thrown status lane many p1 = some z) : MI l yX9_drop wsX9_drop ({ frames := 2, cells := 0, slots := 0, locals := 45 } : Room) D cy [.ref (mAd 0), .int p1] (w_M cy mAd thrown status acts taped latest leng cursor token start till fault faultAt gifts traced lane many item bay fresh thn was tape left gift isKept kept trace) z.1 (w_M cy mAd z.2.1 z.2.2.1 acts taped latest leng cursor token start till fault faultAt gifts traced z.2.2.2 many item bay fresh thn was tape left gift isKept kept trace) := by
  refine met_start (Qf := fun A => MQi D cy z.1 (w_M cy mAd z.2.1 z.2.2.1 acts taped latest leng cursor token start till fault faultAt gifts traced z.2.2.2 many item bay fresh thn was tape left gift isKept kept trace) A) (cc := cX9_drop) (nL := 2) (ret := (some .int)) RX9 rfl (by decide) rfl (Nat.le_of_ble_eq_true rfl) ?_
  intro p e s m below meth c A ls C G hl
  have hl : lv_has ls 2 [(0, .ref (mAd 0)), (1, .int p1)] := hl
  have H := hz
  unfold f_X9_drop at H
  obtain ⟨hx, hb, hr, hml, hown, hts, hlk, hK, hA, hE⟩ := id C
  have lk0 := hts (Cond.fieldLink RX9 50 "TideDebtsModel" "thrown" "I") (List.mem_of_getElem? (i := 1) rfl)
  have lk1 := hts (Cond.fieldLink RX9 54 "TideDebtsModel" "status" "I") (List.mem_of_getElem? (i := 3) rfl)
  have lk2 := hts (Cond.fieldLink RX9 7 "TideDebtsModel" "lane" "[I") (List.mem_of_getElem? (i := 4) rfl)
  have lk3 := hts (Cond.fieldLink RX9 13 "TideDebtsModel" "many" "[I") (List.mem_of_getElem? (i := 5) rfl)
  have lk4 := hts (Cond.constant RX9 70 (-1000001)) (List.mem_of_getElem? (i := 2) rfl)
  have hiX9 : ∀ w ∈ u_ws RX9 TX9 27, w ∈ wsX9_drop := fun _ h => List.mem_cons_of_mem _ (List.mem_append_right _ h)
  refine lv_aload_n hx hb dX9_drop_0 rfl (lv_at hl 0 rfl) ?_
  refine lv_iconst (v := 0) hx hb dX9_drop_1 (by decide) ?_
  refine va_put (D := D) (ci := 9) (v := .int 0) (ty := .int) (C := RX9) (T := TX9) (N := 27) hx hb hts hiX9 tyX9 tyX9_ok nmX9 hown hK G.1 G.2.1 G.2.2 0 rfl rfl 0 (by decide) lk0 (fun _ h9 => h9) rfl (tyX9_ok 0 (by decide)) rfl rfl (Nat.le_of_ble_eq_true rfl) dX9_drop_2 (fun U locs hP hD hS => ?_)
  have G : Gd D A s (w_M cy mAd 0 status acts taped latest leng cursor token start till fault faultAt gifts traced lane many item bay fresh thn was tape left gift isKept kept trace) U locs := ⟨hP, hD, hS⟩
  refine lv_iload_n hx hb dX9_drop_5 rfl (lv_at hl 1 rfl) ?_
  obtain ⟨z1, hz1, H⟩ := bd_some H
  refine MI.callS z1 [.int p1] [] [] C G (c_X9_isRow l D cy p1 z1 hz1) gX9_drop_X9_isRow rfl rfl rfl (n := 1) (by decide +kernel) ⟨Nat.le_of_ble_eq_true rfl, Nat.le_of_ble_eq_true rfl⟩ rfl rfl rfl rfl hl.1 rfl (Nat.le_of_ble_eq_true rfl) dX9_drop_6 ⟨Nat.zero_le _, Nat.zero_le _⟩ (fun U locs G => ?_)
  have G : Gd D A s (w_M cy mAd 0 status acts taped latest leng cursor token start till fault faultAt gifts traced lane many item bay fresh thn was tape left gift isKept kept trace) U locs := G
  refine lv_if_ne (tgt := 15) hx hb dX9_drop_9 (by decide) (fun c2 => ?_) (fun c2 => ?_)
  · have H := if_f H c2
    refine lv_aload_n hx hb dX9_drop_15 rfl (lv_at hl 0 rfl) ?_
    refine lv_iconst (v := 0) hx hb dX9_drop_16 (by decide) ?_
    refine va_put (D := D) (ci := 9) (v := .int 0) (ty := .int) (C := RX9) (T := TX9) (N := 27) hx hb hts hiX9 tyX9 tyX9_ok nmX9 hown hK G.1 G.2.1 G.2.2 0 rfl rfl 1 (by decide) lk1 (fun _ h9 => h9) rfl (tyX9_ok 1 (by decide)) rfl rfl (Nat.le_of_ble_eq_true rfl) dX9_drop_17 (fun U locs hP hD hS => ?_)
    have G : Gd D A s (w_M cy mAd 0 0 acts taped latest leng cursor token start till fault faultAt gifts traced lane many item bay fresh thn was tape left gift isKept kept trace) U locs := ⟨hP, hD, hS⟩
    refine lv_aload_n hx hb dX9_drop_20 rfl (lv_at hl 0 rfl) ?_
    refine va_get (D := D) (ci := 9) (v := .ref (mAd 1)) (C := RX9) (T := TX9) (N := 27) hx hb hts hiX9 hown hK G.1 0 rfl rfl 2 (by decide) lk2 (fun _ h9 => h9) rfl dX9_drop_21 ?_
    refine lv_iload_n hx hb dX9_drop_24 rfl (lv_at hl 1 rfl) ?_
    obtain ⟨hb3, H⟩ := gd_some H
    refine g_iald (v := lane (ix p1)) hx hb hK G.1 1 1 rfl rfl hb3 rfl dX9_drop_25 ?_
    refine lv_if_ge (tgt := 35) hx hb dX9_drop_26 (by decide) (fun c4 => ?_) (fun c4 => ?_)
    · have H := if_t H c4
      refine lv_aload_n hx hb dX9_drop_35 rfl (lv_at hl 0 rfl) ?_
      refine va_get (D := D) (ci := 9) (v := .ref (mAd 1)) (C := RX9) (T := TX9) (N := 27) hx hb hts hiX9 hown hK G.1 0 rfl rfl 2 (by decide) lk2 (fun _ h9 => h9) rfl dX9_drop_36 ?_
      refine lv_iload_n hx hb dX9_drop_39 rfl (lv_at hl 1 rfl) ?_
      refine lv_iconst (v := (-1)) hx hb dX9_drop_40 (by decide) ?_
      refine va_iast hx hb hK G.1 G.2.1 G.2.2 1 1 rfl rfl (inb_in hb3) dX9_drop_41 (fun U locs hP hD hS => ?_)
      have G : Gd D A s (w_M cy mAd 0 0 acts taped latest leng cursor token start till fault faultAt gifts traced (upd lane (ix p1) (-1)) many item bay fresh thn was tape left gift isKept kept trace) U locs := ⟨hP, hD, hS⟩
      refine lv_aload_n hx hb dX9_drop_42 rfl (lv_at hl 0 rfl) ?_
      refine va_get (D := D) (ci := 9) (v := .ref (mAd 2)) (C := RX9) (T := TX9) (N := 27) hx hb hts hiX9 hown hK G.1 0 rfl rfl 3 (by decide) lk3 (fun _ h9 => h9) rfl dX9_drop_43 ?_
      refine lv_iload_n hx hb dX9_drop_46 rfl (lv_at hl 1 rfl) ?_
      refine g_iald (v := many (ix p1)) hx hb hK G.1 2 1 rfl rfl hb3 rfl dX9_drop_47 ?_
      obtain rfl := Option.some.inj H
      exact ret_i C G rfl dX9_drop_48
    · have H := if_f H c4
      refine lv_aload_n hx hb dX9_drop_29 rfl (lv_at hl 0 rfl) ?_
      refine lv_iconst (v := 1) hx hb dX9_drop_30 (by decide) ?_
      obtain ⟨z5, hz5, H⟩ := bd_some H
      refine MI.callVw z5.1 [.int 1] [] C G (c_X9_finding l D cy mAd 0 0 acts taped latest leng cursor token start till fault faultAt gifts traced lane many item bay fresh thn was tape left gift isKept kept trace 1 z5 hz5) gX9_drop_X9_finding rfl rfl rfl (n := 1) (by decide +kernel) ⟨Nat.le_of_ble_eq_true rfl, Nat.le_of_ble_eq_true rfl⟩ (q0 := 0) (ci := 9) rfl rfl rfl rfl hl.1 rfl (Nat.le_of_ble_eq_true rfl) dX9_drop_31 ⟨Nat.zero_le _, Nat.zero_le _⟩ (fun U locs G => ?_)
      have G : Gd D A s (w_M cy mAd 0 z5.2 acts taped latest leng cursor token start till fault faultAt gifts traced lane many item bay fresh thn was tape left gift isKept kept trace) U locs := G
      obtain rfl := Option.some.inj H
      exact ret_i C G rfl dX9_drop_34
  · have H := if_t H c2
    refine lv_ldc hx hb hown lk4 dX9_drop_12 ?_
    obtain rfl := Option.some.inj H
    exact ret_i C G rfl dX9_drop_14
def f_X9_feed_L40 (x1 : Int64) : Nat → Int32 → (Nat → Int32) → Int32 → Option (Int32 × (Nat → Int32))
  | 0, _, _, _ => none
  | n + 1, taped, tape, x4 => if x4 < 0 then (some (taped, tape)) else (gd (inb taped 400) (f_X9_feed_L40 x1 n (taped + 1) (upd tape (ix taped) (((x1 >>> ((8 * x4 : Int32).toInt64 &&& 63)) &&& 255).toInt32)) (x4 + (-1))))
theorem f_X9_feed_L40_z (x1 : Int64) (taped : Int32) (tape : Nat → Int32) (x4 : Int32) : f_X9_feed_L40 x1 0 taped tape x4 = none := rfl
theorem f_X9_feed_L40_s (x1 : Int64) (n : Nat) (taped : Int32) (tape : Nat → Int32) (x4 : Int32) : f_X9_feed_L40 x1 (n + 1) taped tape x4 = if x4 < 0 then (some (taped, tape)) else (gd (inb taped 400) (f_X9_feed_L40 x1 n (taped + 1) (upd tape (ix taped) (((x1 >>> ((8 * x4 : Int32).toInt64 &&& 63)) &&& 255).toInt32)) (x4 + (-1)))) := rfl
set_option maxHeartbeats 4000000 in
set_option maxRecDepth 100000 in
theorem wl_X9_feed_40 {p : Program} {l : Launch} {e : Env} {s : State} {m : MethodId} {below : List Frame} {meth : Method} {c : Code} {D : va_G} {cy : Nat → ClassId} {A : Nat → Prop} {args : Array Value} {Q : State → Prop} (C : Cx D cy A p s m meth c cX9_feed 5 (some .int) wsX9_feed RX9 args) (mAd : Nat → Nat) (thrown status acts latest leng cursor token start till fault faultAt gifts traced : Int32) (lane many item bay fresh thn was left gift isKept kept trace : Nat → Int32) (x1 : Int64) :
    ∀ (n : Nat) (taped : Int32) (tape : Nat → Int32) (x4 : Int32) (z : (Int32 × (Nat → Int32))), f_X9_feed_L40 x1 n taped tape x4 = some z → (∀ (U : Heap) (locs : List Loc) (ls : Array Slot), Gd D A s (w_M cy mAd thrown status acts z.1 latest leng cursor token start till fault faultAt gifts traced lane many item bay fresh thn was z.2 left gift isKept kept trace) U locs → lv_has ls 5 [(0, .ref (mAd 0))] → W p l e ({ frames := 1, cells := 0, slots := 0, locals := 25 } : Room) s m args below meth c U locs 0 0 Q (F0 m 82 ls [])) → ∀ (U : Heap) (locs : List Loc) (ls : Array Slot), Gd D A s (w_M cy mAd thrown status acts taped latest leng cursor token start till fault faultAt gifts traced lane many item bay fresh thn was tape left gift isKept kept trace) U locs → lv_has ls 5 [(0, .ref (mAd 0)), (1, .long x1), (4, .int x4)] → W p l e ({ frames := 1, cells := 0, slots := 0, locals := 25 } : Room) s m args below meth c U locs 0 0 Q (F0 m 40 ls []) := by
  obtain ⟨hx, hb, hr, hml, hown, hts, hlk, hK, hA, hE⟩ := id C
  have lk0 := hts (Cond.fieldLink RX9 31 "TideDebtsModel" "tape" "[I") (List.mem_of_getElem? (i := 6) rfl)
  have lk1 := hts (Cond.fieldLink RX9 77 "TideDebtsModel" "taped" "I") (List.mem_of_getElem? (i := 4) rfl)
  have lk2 := hts (Cond.constantLong RX9 81 (255)) (List.mem_of_getElem? (i := 7) rfl)
  have hiX9 : ∀ w ∈ u_ws RX9 TX9 27, w ∈ wsX9_feed := fun _ h => List.mem_cons_of_mem _ (List.mem_append_right _ h)
  intro n
  induction n with
  | zero =>
    intro taped tape x4 z H
    rw [f_X9_feed_L40_z] at H
    cases H
  | succ n ih =>
    intro taped tape x4 z H kk U locs ls G hl
    rw [f_X9_feed_L40_s] at H
    refine lv_iload hx hb dX9_feed_40 (lv_at hl 2 rfl) ?_
    refine lv_if_lt (tgt := 82) hx hb dX9_feed_42 (by decide) (fun c4 => ?_) (fun c4 => ?_)
    · have H := if_t H c4
      obtain rfl := Option.some.inj H
      exact kk _ _ _ G (lv_sub hl [0] rfl)
    · have H := if_f H c4
      refine lv_aload_n hx hb dX9_feed_45 rfl (lv_at hl 0 rfl) ?_
      refine va_get (D := D) (ci := 9) (v := .ref (mAd 8)) (C := RX9) (T := TX9) (N := 27) hx hb hts hiX9 hown hK G.1 0 rfl rfl 10 (by decide) lk0 (fun _ h9 => h9) rfl dX9_feed_46 ?_
      refine lv_aload_n hx hb dX9_feed_49 rfl (lv_at hl 0 rfl) ?_
      refine va_get (D := D) (ci := 9) (v := .int taped) (C := RX9) (T := TX9) (N := 27) hx hb hts hiX9 hown hK G.1 0 rfl rfl 11 (by decide) lk1 (fun _ h9 => h9) rfl dX9_feed_50 ?_
      refine lv_lload_n hx hb dX9_feed_53 rfl (lv_at hl 1 rfl) ?_
      refine lv_bipush (v := 8) hx hb dX9_feed_54 (by decide) ?_
      refine lv_iload hx hb dX9_feed_56 (lv_at hl 2 rfl) ?_
      refine lv_imul hx hb dX9_feed_58 ?_
      refine lv_lshr hx hb dX9_feed_59 rfl ?_
      refine lv_ldc2 hx hb hown lk2 dX9_feed_60 ?_
      refine lv_land hx hb dX9_feed_63 ?_
      refine lv_l2i hx hb dX9_feed_64 rfl ?_
      obtain ⟨hb5, H⟩ := gd_some H
      refine va_iast hx hb hK G.1 G.2.1 G.2.2 8 1 rfl rfl (inb_in hb5) dX9_feed_65 (fun U locs hP hD hS => ?_)
      have G : Gd D A s (w_M cy mAd thrown status acts taped latest leng cursor token start till fault faultAt gifts traced lane many item bay fresh thn was (upd tape (ix taped) (((x1 >>> ((8 * x4 : Int32).toInt64 &&& 63)) &&& 255).toInt32)) left gift isKept kept trace) U locs := ⟨hP, hD, hS⟩
      refine lv_aload_n hx hb dX9_feed_66 rfl (lv_at hl 0 rfl) ?_
      refine lv_dup hx hb dX9_feed_67 rfl ?_
      refine va_get (D := D) (ci := 9) (v := .int taped) (C := RX9) (T := TX9) (N := 27) hx hb hts hiX9 hown hK G.1 0 rfl rfl 11 (by decide) lk1 (fun _ h9 => h9) rfl dX9_feed_68 ?_
      refine lv_iconst (v := 1) hx hb dX9_feed_71 (by decide) ?_
      refine lv_iadd hx hb dX9_feed_72 ?_
      refine va_put (D := D) (ci := 9) (v := .int (taped + 1)) (ty := .int) (C := RX9) (T := TX9) (N := 27) hx hb hts hiX9 tyX9 tyX9_ok nmX9 hown hK G.1 G.2.1 G.2.2 0 rfl rfl 11 (by decide) lk1 (fun _ h9 => h9) rfl (tyX9_ok 11 (by decide)) rfl rfl (Nat.le_of_ble_eq_true rfl) dX9_feed_73 (fun U locs hP hD hS => ?_)
      have G : Gd D A s (w_M cy mAd thrown status acts (taped + 1) latest leng cursor token start till fault faultAt gifts traced lane many item bay fresh thn was (upd tape (ix taped) (((x1 >>> ((8 * x4 : Int32).toInt64 &&& 63)) &&& 255).toInt32)) left gift isKept kept trace) U locs := ⟨hP, hD, hS⟩
      refine lv_iinc (v := x4 + (-1)) (lv' := [(4, .int (x4 + (-1))), (0, .ref (mAd 0)), (1, .long x1)]) hx hb dX9_feed_76 hl (k := 2) rfl rfl (by decide) rfl (fun ls hl => ?_)
      refine lv_goto (tgt := 40) hx hb dX9_feed_79 (by decide) ?_
      exact ih (taped + 1) (upd tape (ix taped) (((x1 >>> ((8 * x4 : Int32).toInt64 &&& 63)) &&& 255).toInt32)) (x4 + (-1)) z H kk _ _ _ G (lv_sub hl [1, 2, 0] rfl)
def f_X9_feed (thrown taped : Int32) (tape : Nat → Int32) (p1 : Int64) (p3 : Int32) : Option (Int32 × Int32 × Int32 × (Nat → Int32)) := bd (f_X9_in p3.toInt64 1 8) (fun z1 => if z1 = 0 then (some ((-1000001), 0, taped, tape)) else (if (taped + p3) ≤ 400 then (bd (f_X9_feed_L40 p1 2000 taped tape (p3 - 1)) (fun z6 => some (z6.1, 0, z6.1, z6.2))) else (some ((-1000003), 0, taped, tape))))
set_option maxHeartbeats 4000000 in
set_option maxRecDepth 100000 in
theorem c_X9_feed (l : Launch) (D : va_G) (cy : Nat → ClassId) (mAd : Nat → Nat) (thrown status acts taped latest leng cursor token start till fault faultAt gifts traced : Int32) (lane many item bay fresh thn was tape left gift isKept kept trace : Nat → Int32) (p1 : Int64) (p3 : Int32) (z : (Int32 × Int32 × Int32 × (Nat → Int32))) (hz : f_X9_feed thrown taped tape p1 p3 = some z) : MI l yX9_feed wsX9_feed ({ frames := 1, cells := 0, slots := 0, locals := 25 } : Room) D cy [.ref (mAd 0), .long p1, .int p3] (w_M cy mAd thrown status acts taped latest leng cursor token start till fault faultAt gifts traced lane many item bay fresh thn was tape left gift isKept kept trace) z.1 (w_M cy mAd z.2.1 status acts z.2.2.1 latest leng cursor token start till fault faultAt gifts traced lane many item bay fresh thn was z.2.2.2 left gift isKept kept trace) := by
  refine met_start (Qf := fun A => MQi D cy z.1 (w_M cy mAd z.2.1 status acts z.2.2.1 latest leng cursor token start till fault faultAt gifts traced lane many item bay fresh thn was z.2.2.2 left gift isKept kept trace) A) (cc := cX9_feed) (nL := 5) (ret := (some .int)) RX9 rfl (by decide) rfl (Nat.le_of_ble_eq_true rfl) ?_
  intro p e s m below meth c A ls C G hl
  have hl : lv_has ls 5 [(0, .ref (mAd 0)), (1, .long p1), (3, .int p3)] := hl
  have H := hz
  unfold f_X9_feed at H
  obtain ⟨hx, hb, hr, hml, hown, hts, hlk, hK, hA, hE⟩ := id C
  have lk0 := hts (Cond.fieldLink RX9 50 "TideDebtsModel" "thrown" "I") (List.mem_of_getElem? (i := 1) rfl)
  have lk1 := hts (Cond.constantLong RX9 75 (8)) (List.mem_of_getElem? (i := 2) rfl)
  have lk2 := hts (Cond.fieldLink RX9 77 "TideDebtsModel" "taped" "I") (List.mem_of_getElem? (i := 4) rfl)
  have lk3 := hts (Cond.constant RX9 80 (-1000003)) (List.mem_of_getElem? (i := 5) rfl)
  have lk4 := hts (Cond.constant RX9 70 (-1000001)) (List.mem_of_getElem? (i := 3) rfl)
  have hiX9 : ∀ w ∈ u_ws RX9 TX9 27, w ∈ wsX9_feed := fun _ h => List.mem_cons_of_mem _ (List.mem_append_right _ h)
  refine lv_aload_n hx hb dX9_feed_0 rfl (lv_at hl 0 rfl) ?_
  refine lv_iconst (v := 0) hx hb dX9_feed_1 (by decide) ?_
  refine va_put (D := D) (ci := 9) (v := .int 0) (ty := .int) (C := RX9) (T := TX9) (N := 27) hx hb hts hiX9 tyX9 tyX9_ok nmX9 hown hK G.1 G.2.1 G.2.2 0 rfl rfl 0 (by decide) lk0 (fun _ h9 => h9) rfl (tyX9_ok 0 (by decide)) rfl rfl (Nat.le_of_ble_eq_true rfl) dX9_feed_2 (fun U locs hP hD hS => ?_)
  have G : Gd D A s (w_M cy mAd 0 status acts taped latest leng cursor token start till fault faultAt gifts traced lane many item bay fresh thn was tape left gift isKept kept trace) U locs := ⟨hP, hD, hS⟩
  refine lv_iload_n hx hb dX9_feed_5 rfl (lv_at hl 2 rfl) ?_
  refine lv_i2l hx hb dX9_feed_6 rfl ?_
  refine lv_lconst (v := 1) hx hb dX9_feed_7 (by decide) ?_
  refine lv_ldc2 hx hb hown lk1 dX9_feed_8 ?_
  obtain ⟨z1, hz1, H⟩ := bd_some H
  refine MI.callS z1 [.long p3.toInt64, .long 1, .long 8] [] [] C G (c_X9_in l D cy p3.toInt64 1 8 z1 hz1) gX9_feed_X9_in rfl rfl rfl (n := 3) (by decide +kernel) ⟨Nat.le_of_ble_eq_true rfl, Nat.le_of_ble_eq_true rfl⟩ rfl rfl rfl rfl hl.1 rfl (Nat.le_of_ble_eq_true rfl) dX9_feed_11 ⟨Nat.zero_le _, Nat.zero_le _⟩ (fun U locs G => ?_)
  have G : Gd D A s (w_M cy mAd 0 status acts taped latest leng cursor token start till fault faultAt gifts traced lane many item bay fresh thn was tape left gift isKept kept trace) U locs := G
  refine lv_if_ne (tgt := 20) hx hb dX9_feed_14 (by decide) (fun c2 => ?_) (fun c2 => ?_)
  · have H := if_f H c2
    refine lv_aload_n hx hb dX9_feed_20 rfl (lv_at hl 0 rfl) ?_
    refine va_get (D := D) (ci := 9) (v := .int taped) (C := RX9) (T := TX9) (N := 27) hx hb hts hiX9 hown hK G.1 0 rfl rfl 11 (by decide) lk2 (fun _ h9 => h9) rfl dX9_feed_21 ?_
    refine lv_iload_n hx hb dX9_feed_24 rfl (lv_at hl 2 rfl) ?_
    refine lv_iadd hx hb dX9_feed_25 ?_
    refine lv_sipush (v := 400) hx hb dX9_feed_26 (by decide) ?_
    refine lv_icmp_le (tgt := 35) hx hb dX9_feed_29 (by decide) (fun c3 => ?_) (fun c3 => ?_)
    · have H := if_t H c3
      refine lv_iload_n hx hb dX9_feed_35 rfl (lv_at hl 2 rfl) ?_
      refine lv_iconst (v := 1) hx hb dX9_feed_36 (by decide) ?_
      refine lv_isub hx hb dX9_feed_37 ?_
      refine lv_istore (lv' := [(4, .int (p3 - 1)), (0, .ref (mAd 0)), (1, .long p1), (3, .int p3)]) hx hb dX9_feed_38 hl (by decide) rfl (fun ls hl => ?_)
      obtain ⟨z6, hz6, H⟩ := bd_some H
      refine wl_X9_feed_40 C mAd 0 status acts latest leng cursor token start till fault faultAt gifts traced lane many item bay fresh thn was left gift isKept kept trace p1 _ taped tape (p3 - 1) z6 hz6 (fun U locs ls G hl => ?_) _ _ _ G (lv_sub hl [1, 2, 0] rfl)
      have G : Gd D A s (w_M cy mAd 0 status acts z6.1 latest leng cursor token start till fault faultAt gifts traced lane many item bay fresh thn was z6.2 left gift isKept kept trace) U locs := G
      have hl : lv_has ls 5 [(0, .ref (mAd 0))] := hl
      refine lv_aload_n hx hb dX9_feed_82 rfl (lv_at hl 0 rfl) ?_
      refine va_get (D := D) (ci := 9) (v := .int z6.1) (C := RX9) (T := TX9) (N := 27) hx hb hts hiX9 hown hK G.1 0 rfl rfl 11 (by decide) lk2 (fun _ h9 => h9) rfl dX9_feed_83 ?_
      obtain rfl := Option.some.inj H
      exact ret_i C G rfl dX9_feed_86
    · have H := if_f H c3
      refine lv_ldc hx hb hown lk3 dX9_feed_32 ?_
      obtain rfl := Option.some.inj H
      exact ret_i C G rfl dX9_feed_34
  · have H := if_t H c2
    refine lv_ldc hx hb hown lk4 dX9_feed_17 ?_
    obtain rfl := Option.some.inj H
    exact ret_i C G rfl dX9_feed_19
def f_X9_byteAt (leng : Int32) (tape : Nat → Int32) (p1 : Int32) : Option Int32 := if leng ≤ p1 then (some (-1000000)) else (gd (inb p1 400) (some (tape (ix p1))))
set_option maxHeartbeats 4000000 in
set_option maxRecDepth 100000 in
theorem c_X9_byteAt (l : Launch) (D : va_G) (cy : Nat → ClassId) (mAd : Nat → Nat) (thrown status acts taped latest leng cursor token start till fault faultAt gifts traced : Int32) (lane many item bay fresh thn was tape left gift isKept kept trace : Nat → Int32) (p1 : Int32) (z : Int32) (hz : f_X9_byteAt leng tape p1 = some z) : MI l yX9_byteAt wsX9_byteAt ({ frames := 0, cells := 0, slots := 0, locals := 0 } : Room) D cy [.ref (mAd 0), .int p1] (w_M cy mAd thrown status acts taped latest leng cursor token start till fault faultAt gifts traced lane many item bay fresh thn was tape left gift isKept kept trace) z (w_M cy mAd thrown status acts taped latest leng cursor token start till fault faultAt gifts traced lane many item bay fresh thn was tape left gift isKept kept trace) := by
  refine met_start (Qf := fun A => MQi D cy z (w_M cy mAd thrown status acts taped latest leng cursor token start till fault faultAt gifts traced lane many item bay fresh thn was tape left gift isKept kept trace) A) (cc := cX9_byteAt) (nL := 2) (ret := (some .int)) RX9 rfl (by decide) rfl (Nat.le_of_ble_eq_true rfl) ?_
  intro p e s m below meth c A ls C G hl
  have hl : lv_has ls 2 [(0, .ref (mAd 0)), (1, .int p1)] := hl
  have H := hz
  unfold f_X9_byteAt at H
  obtain ⟨hx, hb, hr, hml, hown, hts, hlk, hK, hA, hE⟩ := id C
  have lk0 := hts (Cond.fieldLink RX9 83 "TideDebtsModel" "length" "I") (List.mem_of_getElem? (i := 1) rfl)
  have lk1 := hts (Cond.constant RX9 86 (-1000000)) (List.mem_of_getElem? (i := 3) rfl)
  have lk2 := hts (Cond.fieldLink RX9 31 "TideDebtsModel" "tape" "[I") (List.mem_of_getElem? (i := 2) rfl)
  have hiX9 : ∀ w ∈ u_ws RX9 TX9 27, w ∈ wsX9_byteAt := fun _ h => List.mem_cons_of_mem _ (List.mem_append_right _ h)
  refine lv_iload_n hx hb dX9_byteAt_0 rfl (lv_at hl 1 rfl) ?_
  refine lv_aload_n hx hb dX9_byteAt_1 rfl (lv_at hl 0 rfl) ?_
  refine va_get (D := D) (ci := 9) (v := .int leng) (C := RX9) (T := TX9) (N := 27) hx hb hts hiX9 hown hK G.1 0 rfl rfl 13 (by decide) lk0 (fun _ h9 => h9) rfl dX9_byteAt_2 ?_
  refine lv_icmp_ge (tgt := 17) hx hb dX9_byteAt_5 (by decide) (fun c1 => ?_) (fun c1 => ?_)
  · have H := if_t H c1
    refine lv_ldc hx hb hown lk1 dX9_byteAt_17 ?_
    obtain rfl := Option.some.inj H
    exact ret_i C G rfl dX9_byteAt_19
  · have H := if_f H c1
    refine lv_aload_n hx hb dX9_byteAt_8 rfl (lv_at hl 0 rfl) ?_
    refine va_get (D := D) (ci := 9) (v := .ref (mAd 8)) (C := RX9) (T := TX9) (N := 27) hx hb hts hiX9 hown hK G.1 0 rfl rfl 10 (by decide) lk2 (fun _ h9 => h9) rfl dX9_byteAt_9 ?_
    refine lv_iload_n hx hb dX9_byteAt_12 rfl (lv_at hl 1 rfl) ?_
    obtain ⟨hb2, H⟩ := gd_some H
    refine g_iald (v := tape (ix p1)) hx hb hK G.1 8 1 rfl rfl hb2 rfl dX9_byteAt_13 ?_
    refine lv_goto (tgt := 19) hx hb dX9_byteAt_14 (by decide) ?_
    obtain rfl := Option.some.inj H
    exact ret_i C G rfl dX9_byteAt_19
def f_X9_isLetter (p0 : Int32) : Option Int32 := if p0 < 97 then (some 0) else (if 122 < p0 then (some 0) else (some 1))
set_option maxHeartbeats 4000000 in
set_option maxRecDepth 100000 in
theorem c_X9_isLetter (l : Launch) (D : va_G) (cy : Nat → ClassId) (p0 : Int32) (z : Int32) (hz : f_X9_isLetter p0 = some z) : MI l yX9_isLetter wsX9_isLetter ({ frames := 0, cells := 0, slots := 0, locals := 0 } : Room) D cy [.int p0] [] z [] := by
  refine met_start (Qf := fun A => MQi D cy z [] A) (cc := cX9_isLetter) (nL := 1) (ret := (some .boolean)) RX9 rfl (by decide) rfl (Nat.le_of_ble_eq_true rfl) ?_
  intro p e s m below meth c A ls C G hl
  have hl : lv_has ls 1 [(0, .int p0)] := hl
  have H := hz
  unfold f_X9_isLetter at H
  obtain ⟨hx, hb, hr, hml, hown, hts, hlk, hK, hA, hE⟩ := id C
  refine lv_iload_n hx hb dX9_isLetter_0 rfl (lv_at hl 0 rfl) ?_
  refine lv_bipush (v := 97) hx hb dX9_isLetter_1 (by decide) ?_
  refine lv_icmp_lt (tgt := 16) hx hb dX9_isLetter_3 (by decide) (fun c1 => ?_) (fun c1 => ?_)
  · have H := if_t H c1
    refine lv_iconst (v := 0) hx hb dX9_isLetter_16 (by decide) ?_
    obtain rfl := Option.some.inj H
    exact ret_z C G rfl rfl dX9_isLetter_17
  · have H := if_f H c1
    refine lv_iload_n hx hb dX9_isLetter_6 rfl (lv_at hl 0 rfl) ?_
    refine lv_bipush (v := 122) hx hb dX9_isLetter_7 (by decide) ?_
    refine lv_icmp_gt (tgt := 16) hx hb dX9_isLetter_9 (by decide) (fun c2 => ?_) (fun c2 => ?_)
    · have H := if_t H c2
      refine lv_iconst (v := 0) hx hb dX9_isLetter_16 (by decide) ?_
      obtain rfl := Option.some.inj H
      exact ret_z C G rfl rfl dX9_isLetter_17
    · have H := if_f H c2
      refine lv_iconst (v := 1) hx hb dX9_isLetter_12 (by decide) ?_
      refine lv_goto (tgt := 17) hx hb dX9_isLetter_13 (by decide) ?_
      obtain rfl := Option.some.inj H
      exact ret_z C G rfl rfl dX9_isLetter_17
def f_X9_isFigure (p0 : Int32) : Option Int32 := if p0 < 48 then (some 0) else (if 57 < p0 then (some 0) else (some 1))
set_option maxHeartbeats 4000000 in
set_option maxRecDepth 100000 in
theorem c_X9_isFigure (l : Launch) (D : va_G) (cy : Nat → ClassId) (p0 : Int32) (z : Int32) (hz : f_X9_isFigure p0 = some z) : MI l yX9_isFigure wsX9_isFigure ({ frames := 0, cells := 0, slots := 0, locals := 0 } : Room) D cy [.int p0] [] z [] := by
  refine met_start (Qf := fun A => MQi D cy z [] A) (cc := cX9_isFigure) (nL := 1) (ret := (some .boolean)) RX9 rfl (by decide) rfl (Nat.le_of_ble_eq_true rfl) ?_
  intro p e s m below meth c A ls C G hl
  have hl : lv_has ls 1 [(0, .int p0)] := hl
  have H := hz
  unfold f_X9_isFigure at H
  obtain ⟨hx, hb, hr, hml, hown, hts, hlk, hK, hA, hE⟩ := id C
  refine lv_iload_n hx hb dX9_isFigure_0 rfl (lv_at hl 0 rfl) ?_
  refine lv_bipush (v := 48) hx hb dX9_isFigure_1 (by decide) ?_
  refine lv_icmp_lt (tgt := 16) hx hb dX9_isFigure_3 (by decide) (fun c1 => ?_) (fun c1 => ?_)
  · have H := if_t H c1
    refine lv_iconst (v := 0) hx hb dX9_isFigure_16 (by decide) ?_
    obtain rfl := Option.some.inj H
    exact ret_z C G rfl rfl dX9_isFigure_17
  · have H := if_f H c1
    refine lv_iload_n hx hb dX9_isFigure_6 rfl (lv_at hl 0 rfl) ?_
    refine lv_bipush (v := 57) hx hb dX9_isFigure_7 (by decide) ?_
    refine lv_icmp_gt (tgt := 16) hx hb dX9_isFigure_9 (by decide) (fun c2 => ?_) (fun c2 => ?_)
    · have H := if_t H c2
      refine lv_iconst (v := 0) hx hb dX9_isFigure_16 (by decide) ?_
      obtain rfl := Option.some.inj H
      exact ret_z C G rfl rfl dX9_isFigure_17
    · have H := if_f H c2
      refine lv_iconst (v := 1) hx hb dX9_isFigure_12 (by decide) ?_
      refine lv_goto (tgt := 17) hx hb dX9_isFigure_13 (by decide) ?_
      obtain rfl := Option.some.inj H
      exact ret_z C G rfl rfl dX9_isFigure_17
