def f_X2_isOne_L4 (x1 : Int32) : Nat → Int32 → Int32 → Option Int32
  | 0, _, _ => none
  | n + 1, x2, x3 => if 6 ≤ x3 then (some x2) else (if x2 = x1 then (some x2) else (if x2 = 0 then (some x2) else (gd (inb x2 6) (f_X2_isOne_L4 x1 n (tbA.getD (ix x2) 0) (x3 + 1)))))
theorem f_X2_isOne_L4_z (x1 : Int32) (x2 x3 : Int32) : f_X2_isOne_L4 x1 0 x2 x3 = none := rfl
theorem f_X2_isOne_L4_s (x1 : Int32) (n : Nat) (x2 x3 : Int32) : f_X2_isOne_L4 x1 (n + 1) x2 x3 = if 6 ≤ x3 then (some x2) else (if x2 = x1 then (some x2) else (if x2 = 0 then (some x2) else (gd (inb x2 6) (f_X2_isOne_L4 x1 n (tbA.getD (ix x2) 0) (x3 + 1))))) := rfl
set_option maxHeartbeats 4000000 in
set_option maxRecDepth 100000 in
theorem wl_X2_isOne_4 {p : Program} {l : Launch} {e : Env} {s : State} {m : MethodId} {below : List Frame} {meth : Method} {c : Code} {D : va_G} {cy : Nat → ClassId} {A : Nat → Prop} {args : Array Value} {Q : State → Prop} (C : Cx D cy A p s m meth c cX2_isOne 4 (some .boolean) wsX2_isOne RX2 args) (x1 : Int32) :
    ∀ (n : Nat) (x2 x3 : Int32) (z : Int32), f_X2_isOne_L4 x1 n x2 x3 = some z → (∀ (U : Heap) (locs : List Loc) (ls : Array Slot), Gd D A s [] U locs → lv_has ls 4 [(1, .int x1), (2, .int z)] → W p l e ({ frames := 0, cells := 0, slots := 0, locals := 0 } : Room) s m args below meth c U locs 0 0 Q (F0 m 31 ls [])) → ∀ (U : Heap) (locs : List Loc) (ls : Array Slot), Gd D A s [] U locs → lv_has ls 4 [(1, .int x1), (2, .int x2), (3, .int x3)] → W p l e ({ frames := 0, cells := 0, slots := 0, locals := 0 } : Room) s m args below meth c U locs 0 0 Q (F0 m 4 ls []) := by
  obtain ⟨hx, hb, hr, hml, hown, hts, hlk, hK, hA, hE⟩ := id C
  have lk0 := hts (Cond.fieldLink RX2 47 "TideDebts$Chart" "IS_ALSO" "[I") (List.mem_of_getElem? (i := 1) rfl)
  intro n
  induction n with
  | zero =>
    intro x2 x3 z H
    rw [f_X2_isOne_L4_z] at H
    cases H
  | succ n ih =>
    intro x2 x3 z H kk U locs ls G hl
    rw [f_X2_isOne_L4_s] at H
    refine lv_iload_n hx hb dX2_isOne_4 rfl (lv_at hl 2 rfl) ?_
    refine lv_bipush (v := 6) hx hb dX2_isOne_5 (by decide) ?_
    refine lv_icmp_ge (tgt := 31) hx hb dX2_isOne_7 (by decide) (fun c1 => ?_) (fun c1 => ?_)
    · have H := if_t H c1
      obtain rfl := Option.some.inj H
      exact kk _ _ _ G (lv_sub hl [0, 1] rfl)
    · have H := if_f H c1
      refine lv_iload_n hx hb dX2_isOne_10 rfl (lv_at hl 1 rfl) ?_
      refine lv_iload_n hx hb dX2_isOne_11 rfl (lv_at hl 0 rfl) ?_
      refine lv_icmp_eq (tgt := 31) hx hb dX2_isOne_12 (by decide) (fun c2 => ?_) (fun c2 => ?_)
      · have H := if_t H c2
        obtain rfl := Option.some.inj H
        exact kk _ _ _ G (lv_sub hl [0, 1] rfl)
      · have H := if_f H c2
        refine lv_iload_n hx hb dX2_isOne_15 rfl (lv_at hl 1 rfl) ?_
        refine lv_if_eq (tgt := 31) hx hb dX2_isOne_16 (by decide) (fun c3 => ?_) (fun c3 => ?_)
        · have H := if_t H c3
          obtain rfl := Option.some.inj H
          exact kk _ _ _ G (lv_sub hl [0, 1] rfl)
        · have H := if_f H c3
          refine va_gets hx hb hE.1.1.1 G.2.2 hown lk0 (fun _ h9 => h9) dX2_isOne_19 ?_
          refine lv_iload_n hx hb dX2_isOne_22 rfl (lv_at hl 1 rfl) ?_
          obtain ⟨hb4, H⟩ := gd_some H
          refine va_ti hx hb hE.1.1.2 G.2.2 (inb_in hb4) (v := .int (tbA.getD (ix x2) 0)) rfl dX2_isOne_23 ?_
          refine lv_istore_n (lv' := [(2, .int (tbA.getD (ix x2) 0)), (1, .int x1), (3, .int x3)]) hx hb dX2_isOne_24 rfl hl (by decide) rfl (fun ls hl => ?_)
          refine lv_iinc (v := x3 + 1) (lv' := [(3, .int (x3 + 1)), (2, .int (tbA.getD (ix x2) 0)), (1, .int x1)]) hx hb dX2_isOne_25 hl (k := 2) rfl rfl (by decide) rfl (fun ls hl => ?_)
          refine lv_goto (tgt := 4) hx hb dX2_isOne_28 (by decide) ?_
          exact ih (tbA.getD (ix x2) 0) (x3 + 1) z H kk _ _ _ G (lv_sub hl [2, 1, 0] rfl)
def f_X2_isOne (p0 p1 : Int32) : Option Int32 := bd (f_X2_isOne_L4 p1 2000 p0 0) (fun z5 => if z5 = p1 then (some 1) else (some 0))
set_option maxHeartbeats 4000000 in
set_option maxRecDepth 100000 in
theorem c_X2_isOne (l : Launch) (D : va_G) (cy : Nat → ClassId) (p0 p1 : Int32) (z : Int32) (hz : f_X2_isOne p0 p1 = some z) : MI l yX2_isOne wsX2_isOne ({ frames := 0, cells := 0, slots := 0, locals := 0 } : Room) D cy [.int p0, .int p1] [] z [] := by
  refine met_start (Qf := fun A => MQi D cy z [] A) (cc := cX2_isOne) (nL := 4) (ret := (some .boolean)) RX2 rfl (by decide) rfl (Nat.le_of_ble_eq_true rfl) ?_
  intro p e s m below meth c A ls C G hl
  have hl : lv_has ls 4 [(0, .int p0), (1, .int p1)] := hl
  have H := hz
  unfold f_X2_isOne at H
  obtain ⟨hx, hb, hr, hml, hown, hts, hlk, hK, hA, hE⟩ := id C
  refine lv_iload_n hx hb dX2_isOne_0 rfl (lv_at hl 0 rfl) ?_
  refine lv_istore_n (lv' := [(2, .int p0), (0, .int p0), (1, .int p1)]) hx hb dX2_isOne_1 rfl hl (by decide) rfl (fun ls hl => ?_)
  refine lv_iconst (v := 0) hx hb dX2_isOne_2 (by decide) ?_
  refine lv_istore_n (lv' := [(3, .int 0), (2, .int p0), (0, .int p0), (1, .int p1)]) hx hb dX2_isOne_3 rfl hl (by decide) rfl (fun ls hl => ?_)
  obtain ⟨z5, hz5, H⟩ := bd_some H
  refine wl_X2_isOne_4 C  p1 _ p0 0 z5 hz5 (fun U locs ls G hl => ?_) _ _ _ G (lv_sub hl [3, 1, 0] rfl)
  have G : Gd D A s [] U locs := G
  have hl : lv_has ls 4 [(1, .int p1), (2, .int z5)] := hl
  refine lv_iload_n hx hb dX2_isOne_31 rfl (lv_at hl 1 rfl) ?_
  refine lv_iload_n hx hb dX2_isOne_32 rfl (lv_at hl 0 rfl) ?_
  refine lv_icmp_ne (tgt := 40) hx hb dX2_isOne_33 (by decide) (fun c6 => ?_) (fun c6 => ?_)
  · have H := if_f H c6
    refine lv_iconst (v := 0) hx hb dX2_isOne_40 (by decide) ?_
    obtain rfl := Option.some.inj H
    exact ret_z C G rfl rfl dX2_isOne_41
  · have H := if_t H c6
    refine lv_iconst (v := 1) hx hb dX2_isOne_36 (by decide) ?_
    refine lv_goto (tgt := 41) hx hb dX2_isOne_37 (by decide) ?_
    obtain rfl := Option.some.inj H
    exact ret_z C G rfl rfl dX2_isOne_41
def f_X7_isBlank (p0 : Int32) : Option Int32 := if p0 = 32 then (some 1) else (if p0 = 10 then (some 1) else (some 0))
set_option maxHeartbeats 4000000 in
set_option maxRecDepth 100000 in
theorem c_X7_isBlank (l : Launch) (D : va_G) (cy : Nat → ClassId) (p0 : Int32) (z : Int32) (hz : f_X7_isBlank p0 = some z) : MI l yX7_isBlank wsX7_isBlank ({ frames := 0, cells := 0, slots := 0, locals := 0 } : Room) D cy [.int p0] [] z [] := by
  refine met_start (Qf := fun A => MQi D cy z [] A) (cc := cX7_isBlank) (nL := 1) (ret := (some .boolean)) RX7 rfl (by decide) rfl (Nat.le_of_ble_eq_true rfl) ?_
  intro p e s m below meth c A ls C G hl
  have hl : lv_has ls 1 [(0, .int p0)] := hl
  have H := hz
  unfold f_X7_isBlank at H
  obtain ⟨hx, hb, hr, hml, hown, hts, hlk, hK, hA, hE⟩ := id C
  refine lv_iload_n hx hb dX7_isBlank_0 rfl (lv_at hl 0 rfl) ?_
  refine lv_bipush (v := 32) hx hb dX7_isBlank_1 (by decide) ?_
  refine lv_icmp_eq (tgt := 12) hx hb dX7_isBlank_3 (by decide) (fun c1 => ?_) (fun c1 => ?_)
  · have H := if_t H c1
    refine lv_iconst (v := 1) hx hb dX7_isBlank_12 (by decide) ?_
    refine lv_goto (tgt := 17) hx hb dX7_isBlank_13 (by decide) ?_
    obtain rfl := Option.some.inj H
    exact ret_z C G rfl rfl dX7_isBlank_17
  · have H := if_f H c1
    refine lv_iload_n hx hb dX7_isBlank_6 rfl (lv_at hl 0 rfl) ?_
    refine lv_bipush (v := 10) hx hb dX7_isBlank_7 (by decide) ?_
    refine lv_icmp_ne (tgt := 16) hx hb dX7_isBlank_9 (by decide) (fun c2 => ?_) (fun c2 => ?_)
    · have H := if_f H c2
      refine lv_iconst (v := 0) hx hb dX7_isBlank_16 (by decide) ?_
      obtain rfl := Option.some.inj H
      exact ret_z C G rfl rfl dX7_isBlank_17
    · have H := if_t H c2
      refine lv_iconst (v := 1) hx hb dX7_isBlank_12 (by decide) ?_
      refine lv_goto (tgt := 17) hx hb dX7_isBlank_13 (by decide) ?_
      obtain rfl := Option.some.inj H
      exact ret_z C G rfl rfl dX7_isBlank_17
def f_X7_isLetter (p0 : Int32) : Option Int32 := if p0 < 97 then (some 0) else (if 122 < p0 then (some 0) else (some 1))
set_option maxHeartbeats 4000000 in
set_option maxRecDepth 100000 in
theorem c_X7_isLetter (l : Launch) (D : va_G) (cy : Nat → ClassId) (p0 : Int32) (z : Int32) (hz : f_X7_isLetter p0 = some z) : MI l yX7_isLetter wsX7_isLetter ({ frames := 0, cells := 0, slots := 0, locals := 0 } : Room) D cy [.int p0] [] z [] := by
  refine met_start (Qf := fun A => MQi D cy z [] A) (cc := cX7_isLetter) (nL := 1) (ret := (some .boolean)) RX7 rfl (by decide) rfl (Nat.le_of_ble_eq_true rfl) ?_
  intro p e s m below meth c A ls C G hl
  have hl : lv_has ls 1 [(0, .int p0)] := hl
  have H := hz
  unfold f_X7_isLetter at H
  obtain ⟨hx, hb, hr, hml, hown, hts, hlk, hK, hA, hE⟩ := id C
  refine lv_iload_n hx hb dX7_isLetter_0 rfl (lv_at hl 0 rfl) ?_
  refine lv_bipush (v := 97) hx hb dX7_isLetter_1 (by decide) ?_
  refine lv_icmp_lt (tgt := 16) hx hb dX7_isLetter_3 (by decide) (fun c1 => ?_) (fun c1 => ?_)
  · have H := if_t H c1
    refine lv_iconst (v := 0) hx hb dX7_isLetter_16 (by decide) ?_
    obtain rfl := Option.some.inj H
    exact ret_z C G rfl rfl dX7_isLetter_17
  · have H := if_f H c1
    refine lv_iload_n hx hb dX7_isLetter_6 rfl (lv_at hl 0 rfl) ?_
    refine lv_bipush (v := 122) hx hb dX7_isLetter_7 (by decide) ?_
    refine lv_icmp_gt (tgt := 16) hx hb dX7_isLetter_9 (by decide) (fun c2 => ?_) (fun c2 => ?_)
    · have H := if_t H c2
      refine lv_iconst (v := 0) hx hb dX7_isLetter_16 (by decide) ?_
      obtain rfl := Option.some.inj H
      exact ret_z C G rfl rfl dX7_isLetter_17
    · have H := if_f H c2
      refine lv_iconst (v := 1) hx hb dX7_isLetter_12 (by decide) ?_
      refine lv_goto (tgt := 17) hx hb dX7_isLetter_13 (by decide) ?_
      obtain rfl := Option.some.inj H
      exact ret_z C G rfl rfl dX7_isLetter_17
def f_X7_isFigure (p0 : Int32) : Option Int32 := if p0 < 48 then (some 0) else (if 57 < p0 then (some 0) else (some 1))
set_option maxHeartbeats 4000000 in
set_option maxRecDepth 100000 in
theorem c_X7_isFigure (l : Launch) (D : va_G) (cy : Nat → ClassId) (p0 : Int32) (z : Int32) (hz : f_X7_isFigure p0 = some z) : MI l yX7_isFigure wsX7_isFigure ({ frames := 0, cells := 0, slots := 0, locals := 0 } : Room) D cy [.int p0] [] z [] := by
  refine met_start (Qf := fun A => MQi D cy z [] A) (cc := cX7_isFigure) (nL := 1) (ret := (some .boolean)) RX7 rfl (by decide) rfl (Nat.le_of_ble_eq_true rfl) ?_
  intro p e s m below meth c A ls C G hl
  have hl : lv_has ls 1 [(0, .int p0)] := hl
  have H := hz
  unfold f_X7_isFigure at H
  obtain ⟨hx, hb, hr, hml, hown, hts, hlk, hK, hA, hE⟩ := id C
  refine lv_iload_n hx hb dX7_isFigure_0 rfl (lv_at hl 0 rfl) ?_
  refine lv_bipush (v := 48) hx hb dX7_isFigure_1 (by decide) ?_
  refine lv_icmp_lt (tgt := 16) hx hb dX7_isFigure_3 (by decide) (fun c1 => ?_) (fun c1 => ?_)
  · have H := if_t H c1
    refine lv_iconst (v := 0) hx hb dX7_isFigure_16 (by decide) ?_
    obtain rfl := Option.some.inj H
    exact ret_z C G rfl rfl dX7_isFigure_17
  · have H := if_f H c1
    refine lv_iload_n hx hb dX7_isFigure_6 rfl (lv_at hl 0 rfl) ?_
    refine lv_bipush (v := 57) hx hb dX7_isFigure_7 (by decide) ?_
    refine lv_icmp_gt (tgt := 16) hx hb dX7_isFigure_9 (by decide) (fun c2 => ?_) (fun c2 => ?_)
    · have H := if_t H c2
      refine lv_iconst (v := 0) hx hb dX7_isFigure_16 (by decide) ?_
      obtain rfl := Option.some.inj H
      exact ret_z C G rfl rfl dX7_isFigure_17
    · have H := if_f H c2
      refine lv_iconst (v := 1) hx hb dX7_isFigure_12 (by decide) ?_
      refine lv_goto (tgt := 17) hx hb dX7_isFigure_13 (by decide) ?_
      obtain rfl := Option.some.inj H
      exact ret_z C G rfl rfl dX7_isFigure_17
def f_X7_write_L5 (x1 : Int64) : Nat → Int32 → (Nat → Int32) → Int32 → Option (Int32 × (Nat → Int32))
  | 0, _, _, _ => none
  | n + 1, a_len, a_byt, x4 => if x4 < 0 then (some (a_len, a_byt)) else (if 400 ≤ a_len then (some (a_len, a_byt)) else (gd (inb a_len 400) (f_X7_write_L5 x1 n (a_len + 1) (upd a_byt (ix a_len) (vp_nar .byte (((x1 >>> ((8 * x4 : Int32).toInt64 &&& 63)).toInt32).toInt8.toInt32))) (x4 + (-1)))))
theorem f_X7_write_L5_z (x1 : Int64) (a_len : Int32) (a_byt : Nat → Int32) (x4 : Int32) : f_X7_write_L5 x1 0 a_len a_byt x4 = none := rfl
theorem f_X7_write_L5_s (x1 : Int64) (n : Nat) (a_len : Int32) (a_byt : Nat → Int32) (x4 : Int32) : f_X7_write_L5 x1 (n + 1) a_len a_byt x4 = if x4 < 0 then (some (a_len, a_byt)) else (if 400 ≤ a_len then (some (a_len, a_byt)) else (gd (inb a_len 400) (f_X7_write_L5 x1 n (a_len + 1) (upd a_byt (ix a_len) (vp_nar .byte (((x1 >>> ((8 * x4 : Int32).toInt64 &&& 63)).toInt32).toInt8.toInt32))) (x4 + (-1))))) := rfl
set_option maxHeartbeats 4000000 in
set_option maxRecDepth 100000 in
theorem wl_X7_write_5 {p : Program} {l : Launch} {e : Env} {s : State} {m : MethodId} {below : List Frame} {meth : Method} {c : Code} {D : va_G} {cy : Nat → ClassId} {A : Nat → Prop} {args : Array Value} {Q : State → Prop} (C : Cx D cy A p s m meth c cX7_write 5 none wsX7_write RX7 args) (aAd : Nat → Nat) (a_tok a_stt a_fin a_num a_flw : Int32) (x1 : Int64) :
    ∀ (n : Nat) (a_len : Int32) (a_byt : Nat → Int32) (x4 : Int32) (z : (Int32 × (Nat → Int32))), f_X7_write_L5 x1 n a_len a_byt x4 = some z → (∀ (U : Heap) (locs : List Loc) (ls : Array Slot), Gd D A s (w_Tape cy aAd z.1 a_tok a_stt a_fin a_num a_flw z.2) U locs → lv_has ls 5 [] → W p l e ({ frames := 0, cells := 0, slots := 0, locals := 0 } : Room) s m args below meth c U locs 0 0 Q (F0 m 54 ls [])) → ∀ (U : Heap) (locs : List Loc) (ls : Array Slot), Gd D A s (w_Tape cy aAd a_len a_tok a_stt a_fin a_num a_flw a_byt) U locs → lv_has ls 5 [(0, .ref (aAd 0)), (1, .long x1), (4, .int x4)] → W p l e ({ frames := 0, cells := 0, slots := 0, locals := 0 } : Room) s m args below meth c U locs 0 0 Q (F0 m 5 ls []) := by
  obtain ⟨hx, hb, hr, hml, hown, hts, hlk, hK, hA, hE⟩ := id C
  have lk0 := hts (Cond.fieldLink RX7 15 "TideDebts$Tape" "length" "I") (List.mem_of_getElem? (i := 1) rfl)
  have lk1 := hts (Cond.fieldLink RX7 9 "TideDebts$Tape" "bytes" "[B") (List.mem_of_getElem? (i := 2) rfl)
  have hiX7 : ∀ w ∈ u_ws RX7 TX7 7, w ∈ wsX7_write := fun _ h => List.mem_cons_of_mem _ (List.mem_append_right _ h)
  intro n
  induction n with
  | zero =>
    intro a_len a_byt x4 z H
    rw [f_X7_write_L5_z] at H
    cases H
  | succ n ih =>
    intro a_len a_byt x4 z H kk U locs ls G hl
    rw [f_X7_write_L5_s] at H
    refine lv_iload hx hb dX7_write_5 (lv_at hl 2 rfl) ?_
    refine lv_if_lt (tgt := 54) hx hb dX7_write_7 (by decide) (fun c1 => ?_) (fun c1 => ?_)
    · have H := if_t H c1
      obtain rfl := Option.some.inj H
      exact kk _ _ _ G (lv_sub hl [] rfl)
    · have H := if_f H c1
      refine lv_aload_n hx hb dX7_write_10 rfl (lv_at hl 0 rfl) ?_
      refine va_get (D := D) (ci := 7) (v := .int a_len) (C := RX7) (T := TX7) (N := 7) hx hb hts hiX7 hown hK G.1 0 rfl rfl 1 (by decide) lk0 (fun _ h9 => h9) rfl dX7_write_11 ?_
      refine lv_sipush (v := 400) hx hb dX7_write_14 (by decide) ?_
      refine lv_icmp_ge (tgt := 54) hx hb dX7_write_17 (by decide) (fun c2 => ?_) (fun c2 => ?_)
      · have H := if_t H c2
        obtain rfl := Option.some.inj H
        exact kk _ _ _ G (lv_sub hl [] rfl)
      · have H := if_f H c2
        refine lv_aload_n hx hb dX7_write_20 rfl (lv_at hl 0 rfl) ?_
        refine va_get (D := D) (ci := 7) (v := .ref (aAd 1)) (C := RX7) (T := TX7) (N := 7) hx hb hts hiX7 hown hK G.1 0 rfl rfl 0 (by decide) lk1 (fun _ h9 => h9) rfl dX7_write_21 ?_
        refine lv_aload_n hx hb dX7_write_24 rfl (lv_at hl 0 rfl) ?_
        refine va_get (D := D) (ci := 7) (v := .int a_len) (C := RX7) (T := TX7) (N := 7) hx hb hts hiX7 hown hK G.1 0 rfl rfl 1 (by decide) lk0 (fun _ h9 => h9) rfl dX7_write_25 ?_
        refine lv_lload_n hx hb dX7_write_28 rfl (lv_at hl 1 rfl) ?_
        refine lv_bipush (v := 8) hx hb dX7_write_29 (by decide) ?_
        refine lv_iload hx hb dX7_write_31 (lv_at hl 2 rfl) ?_
        refine lv_imul hx hb dX7_write_33 ?_
        refine lv_lshr hx hb dX7_write_34 rfl ?_
        refine lv_l2i hx hb dX7_write_35 rfl ?_
        refine lv_i2b hx hb dX7_write_36 rfl ?_
        obtain ⟨hb3, H⟩ := gd_some H
        refine va_bast hx hb hK G.1 G.2.1 G.2.2 1 0 rfl rfl (inb_in hb3) dX7_write_37 (fun U locs hP hD hS => ?_)
        have G : Gd D A s (w_Tape cy aAd a_len a_tok a_stt a_fin a_num a_flw (upd a_byt (ix a_len) (vp_nar .byte (((x1 >>> ((8 * x4 : Int32).toInt64 &&& 63)).toInt32).toInt8.toInt32)))) U locs := ⟨hP, hD, hS⟩
        refine lv_aload_n hx hb dX7_write_38 rfl (lv_at hl 0 rfl) ?_
        refine lv_dup hx hb dX7_write_39 rfl ?_
        refine va_get (D := D) (ci := 7) (v := .int a_len) (C := RX7) (T := TX7) (N := 7) hx hb hts hiX7 hown hK G.1 0 rfl rfl 1 (by decide) lk0 (fun _ h9 => h9) rfl dX7_write_40 ?_
        refine lv_iconst (v := 1) hx hb dX7_write_43 (by decide) ?_
        refine lv_iadd hx hb dX7_write_44 ?_
        refine va_put (D := D) (ci := 7) (v := .int (a_len + 1)) (ty := .int) (C := RX7) (T := TX7) (N := 7) hx hb hts hiX7 tyX7 tyX7_ok nmX7 hown hK G.1 G.2.1 G.2.2 0 rfl rfl 1 (by decide) lk0 (fun _ h9 => h9) rfl (tyX7_ok 1 (by decide)) rfl rfl (Nat.le_of_ble_eq_true rfl) dX7_write_45 (fun U locs hP hD hS => ?_)
        have G : Gd D A s (w_Tape cy aAd (a_len + 1) a_tok a_stt a_fin a_num a_flw (upd a_byt (ix a_len) (vp_nar .byte (((x1 >>> ((8 * x4 : Int32).toInt64 &&& 63)).toInt32).toInt8.toInt32)))) U locs := ⟨hP, hD, hS⟩
        refine lv_iinc (v := x4 + (-1)) (lv' := [(4, .int (x4 + (-1))), (0, .ref (aAd 0)), (1, .long x1)]) hx hb dX7_write_48 hl (k := 2) rfl rfl (by decide) rfl (fun ls hl => ?_)
        refine lv_goto (tgt := 5) hx hb dX7_write_51 (by decide) ?_
        exact ih (a_len + 1) (upd a_byt (ix a_len) (vp_nar .byte (((x1 >>> ((8 * x4 : Int32).toInt64 &&& 63)).toInt32).toInt8.toInt32))) (x4 + (-1)) z H kk _ _ _ G (lv_sub hl [1, 2, 0] rfl)
def f_X7_write (a_len : Int32) (a_byt : Nat → Int32) (p1 : Int64) (p3 : Int32) : Option (Int32 × (Nat → Int32)) := bd (f_X7_write_L5 p1 2000 a_len a_byt (p3 - 1)) (fun z4 => some (z4.1, z4.2))
set_option maxHeartbeats 4000000 in
set_option maxRecDepth 100000 in
theorem c_X7_write (l : Launch) (D : va_G) (cy : Nat → ClassId) (aAd : Nat → Nat) (a_len a_tok a_stt a_fin a_num a_flw : Int32) (a_byt : Nat → Int32) (p1 : Int64) (p3 : Int32) (z : (Int32 × (Nat → Int32))) (hz : f_X7_write a_len a_byt p1 p3 = some z) : MV l yX7_write wsX7_write ({ frames := 0, cells := 0, slots := 0, locals := 0 } : Room) D cy [.ref (aAd 0), .long p1, .int p3] (w_Tape cy aAd a_len a_tok a_stt a_fin a_num a_flw a_byt) (w_Tape cy aAd z.1 a_tok a_stt a_fin a_num a_flw z.2) := by
  refine met_start (Qf := fun A => MQv D cy (w_Tape cy aAd z.1 a_tok a_stt a_fin a_num a_flw z.2) A) (cc := cX7_write) (nL := 5) (ret := none) RX7 rfl (by decide) rfl (Nat.le_of_ble_eq_true rfl) ?_
  intro p e s m below meth c A ls C G hl
  have hl : lv_has ls 5 [(0, .ref (aAd 0)), (1, .long p1), (3, .int p3)] := hl
  have H := hz
  unfold f_X7_write at H
  obtain ⟨hx, hb, hr, hml, hown, hts, hlk, hK, hA, hE⟩ := id C
  refine lv_iload_n hx hb dX7_write_0 rfl (lv_at hl 2 rfl) ?_
  refine lv_iconst (v := 1) hx hb dX7_write_1 (by decide) ?_
  refine lv_isub hx hb dX7_write_2 ?_
  refine lv_istore (lv' := [(4, .int (p3 - 1)), (0, .ref (aAd 0)), (1, .long p1), (3, .int p3)]) hx hb dX7_write_3 hl (by decide) rfl (fun ls hl => ?_)
  obtain ⟨z4, hz4, H⟩ := bd_some H
  refine wl_X7_write_5 C aAd a_tok a_stt a_fin a_num a_flw p1 _ a_len a_byt (p3 - 1) z4 hz4 (fun U locs ls G hl => ?_) _ _ _ G (lv_sub hl [1, 2, 0] rfl)
  have G : Gd D A s (w_Tape cy aAd z4.1 a_tok a_stt a_fin a_num a_flw z4.2) U locs := G
  have hl : lv_has ls 5 [] := hl
  obtain rfl := Option.some.inj H
  exact ret_v C G dX7_write_54
def f_X7_stepOverLetters_L0 (a_len : Int32) (a_byt : Nat → Int32) : Nat → Int32 → Option Int32
  | 0, _ => none
  | n + 1, a_fin => if a_len ≤ a_fin then (some a_fin) else (gd (inb a_fin 400) (bd (f_X7_isLetter (a_byt (ix a_fin))) (fun z3 => if z3 = 0 then (some a_fin) else (f_X7_stepOverLetters_L0 a_len a_byt n (a_fin + 1)))))
theorem f_X7_stepOverLetters_L0_z (a_len : Int32) (a_byt : Nat → Int32) (a_fin : Int32) : f_X7_stepOverLetters_L0 a_len a_byt 0 a_fin = none := rfl
theorem f_X7_stepOverLetters_L0_s (a_len : Int32) (a_byt : Nat → Int32) (n : Nat) (a_fin : Int32) : f_X7_stepOverLetters_L0 a_len a_byt (n + 1) a_fin = if a_len ≤ a_fin then (some a_fin) else (gd (inb a_fin 400) (bd (f_X7_isLetter (a_byt (ix a_fin))) (fun z3 => if z3 = 0 then (some a_fin) else (f_X7_stepOverLetters_L0 a_len a_byt n (a_fin + 1))))) := rfl
set_option maxHeartbeats 4000000 in
set_option maxRecDepth 100000 in
theorem wl_X7_stepOverLetters_0 {p : Program} {l : Launch} {e : Env} {s : State} {m : MethodId} {below : List Frame} {meth : Method} {c : Code} {D : va_G} {cy : Nat → ClassId} {A : Nat → Prop} {args : Array Value} {Q : State → Prop} (C : Cx D cy A p s m meth c cX7_stepOverLetters 1 none wsX7_stepOverLetters RX7 args) (aAd : Nat → Nat) (a_len a_tok a_stt a_num a_flw : Int32) (a_byt : Nat → Int32) :
    ∀ (n : Nat) (a_fin : Int32) (z : Int32), f_X7_stepOverLetters_L0 a_len a_byt n a_fin = some z → (∀ (U : Heap) (locs : List Loc) (ls : Array Slot), Gd D A s (w_Tape cy aAd a_len a_tok a_stt z a_num a_flw a_byt) U locs → lv_has ls 1 [] → W p l e ({ frames := 1, cells := 0, slots := 0, locals := 20 } : Room) s m args below meth c U locs 0 0 Q (F0 m 39 ls [])) → ∀ (U : Heap) (locs : List Loc) (ls : Array Slot), Gd D A s (w_Tape cy aAd a_len a_tok a_stt a_fin a_num a_flw a_byt) U locs → lv_has ls 1 [(0, .ref (aAd 0))] → W p l e ({ frames := 1, cells := 0, slots := 0, locals := 20 } : Room) s m args below meth c U locs 0 0 Q (F0 m 0 ls []) := by
  obtain ⟨hx, hb, hr, hml, hown, hts, hlk, hK, hA, hE⟩ := id C
  have lk0 := hts (Cond.fieldLink RX7 19 "TideDebts$Tape" "end" "I") (List.mem_of_getElem? (i := 1) rfl)
  have lk1 := hts (Cond.fieldLink RX7 15 "TideDebts$Tape" "length" "I") (List.mem_of_getElem? (i := 2) rfl)
  have lk2 := hts (Cond.fieldLink RX7 9 "TideDebts$Tape" "bytes" "[B") (List.mem_of_getElem? (i := 3) rfl)
  have hiX7 : ∀ w ∈ u_ws RX7 TX7 7, w ∈ wsX7_stepOverLetters := fun _ h => List.mem_cons_of_mem _ (List.mem_append_right _ h)
  intro n
  induction n with
  | zero =>
    intro a_fin z H
    rw [f_X7_stepOverLetters_L0_z] at H
    cases H
  | succ n ih =>
    intro a_fin z H kk U locs ls G hl
    rw [f_X7_stepOverLetters_L0_s] at H
    refine lv_aload_n hx hb dX7_stepOverLetters_0 rfl (lv_at hl 0 rfl) ?_
    refine va_get (D := D) (ci := 7) (v := .int a_fin) (C := RX7) (T := TX7) (N := 7) hx hb hts hiX7 hown hK G.1 0 rfl rfl 4 (by decide) lk0 (fun _ h9 => h9) rfl dX7_stepOverLetters_1 ?_
    refine lv_aload_n hx hb dX7_stepOverLetters_4 rfl (lv_at hl 0 rfl) ?_
    refine va_get (D := D) (ci := 7) (v := .int a_len) (C := RX7) (T := TX7) (N := 7) hx hb hts hiX7 hown hK G.1 0 rfl rfl 1 (by decide) lk1 (fun _ h9 => h9) rfl dX7_stepOverLetters_5 ?_
    refine lv_icmp_ge (tgt := 39) hx hb dX7_stepOverLetters_8 (by decide) (fun c1 => ?_) (fun c1 => ?_)
    · have H := if_t H c1
      obtain rfl := Option.some.inj H
      exact kk _ _ _ G (lv_sub hl [] rfl)
    · have H := if_f H c1
      refine lv_aload_n hx hb dX7_stepOverLetters_11 rfl (lv_at hl 0 rfl) ?_
      refine va_get (D := D) (ci := 7) (v := .ref (aAd 1)) (C := RX7) (T := TX7) (N := 7) hx hb hts hiX7 hown hK G.1 0 rfl rfl 0 (by decide) lk2 (fun _ h9 => h9) rfl dX7_stepOverLetters_12 ?_
      refine lv_aload_n hx hb dX7_stepOverLetters_15 rfl (lv_at hl 0 rfl) ?_
      refine va_get (D := D) (ci := 7) (v := .int a_fin) (C := RX7) (T := TX7) (N := 7) hx hb hts hiX7 hown hK G.1 0 rfl rfl 4 (by decide) lk0 (fun _ h9 => h9) rfl dX7_stepOverLetters_16 ?_
      obtain ⟨hb2, H⟩ := gd_some H
      refine g_bald (v := a_byt (ix a_fin)) hx hb hK G.1 1 0 rfl rfl hb2 rfl dX7_stepOverLetters_19 ?_
      obtain ⟨z3, hz3, H⟩ := bd_some H
      refine MI.callS z3 [.int (a_byt (ix a_fin))] [] [] C G (c_X7_isLetter l D cy (a_byt (ix a_fin)) z3 hz3) gX7_stepOverLetters_X7_isLetter rfl rfl rfl (n := 1) (by decide +kernel) ⟨Nat.le_of_ble_eq_true rfl, Nat.le_of_ble_eq_true rfl⟩ rfl rfl rfl rfl hl.1 rfl (Nat.le_of_ble_eq_true rfl) dX7_stepOverLetters_20 ⟨Nat.zero_le _, Nat.zero_le _⟩ (fun U locs G => ?_)
      have G : Gd D A s (w_Tape cy aAd a_len a_tok a_stt a_fin a_num a_flw a_byt) U locs := G
      refine lv_if_eq (tgt := 39) hx hb dX7_stepOverLetters_23 (by decide) (fun c4 => ?_) (fun c4 => ?_)
      · have H := if_t H c4
        obtain rfl := Option.some.inj H
        exact kk _ _ _ G (lv_sub hl [] rfl)
      · have H := if_f H c4
        refine lv_aload_n hx hb dX7_stepOverLetters_26 rfl (lv_at hl 0 rfl) ?_
        refine lv_dup hx hb dX7_stepOverLetters_27 rfl ?_
        refine va_get (D := D) (ci := 7) (v := .int a_fin) (C := RX7) (T := TX7) (N := 7) hx hb hts hiX7 hown hK G.1 0 rfl rfl 4 (by decide) lk0 (fun _ h9 => h9) rfl dX7_stepOverLetters_28 ?_
        refine lv_iconst (v := 1) hx hb dX7_stepOverLetters_31 (by decide) ?_
        refine lv_iadd hx hb dX7_stepOverLetters_32 ?_
        refine va_put (D := D) (ci := 7) (v := .int (a_fin + 1)) (ty := .int) (C := RX7) (T := TX7) (N := 7) hx hb hts hiX7 tyX7 tyX7_ok nmX7 hown hK G.1 G.2.1 G.2.2 0 rfl rfl 4 (by decide) lk0 (fun _ h9 => h9) rfl (tyX7_ok 4 (by decide)) rfl rfl (Nat.le_of_ble_eq_true rfl) dX7_stepOverLetters_33 (fun U locs hP hD hS => ?_)
        have G : Gd D A s (w_Tape cy aAd a_len a_tok a_stt (a_fin + 1) a_num a_flw a_byt) U locs := ⟨hP, hD, hS⟩
        refine lv_goto (tgt := 0) hx hb dX7_stepOverLetters_36 (by decide) ?_
        exact ih (a_fin + 1) z H kk _ _ _ G (lv_sub hl [0] rfl)
def f_X7_stepOverLetters (a_len a_fin : Int32) (a_byt : Nat → Int32) : Option Int32 := bd (f_X7_stepOverLetters_L0 a_len a_byt 2000 a_fin) (fun z5 => some z5)
set_option maxHeartbeats 4000000 in
set_option maxRecDepth 100000 in
theorem c_X7_stepOverLetters (l : Launch) (D : va_G) (cy : Nat → ClassId) (aAd : Nat → Nat) (a_len a_tok a_stt a_fin a_num a_flw : Int32) (a_byt : Nat → Int32) (z : Int32) (hz : f_X7_stepOverLetters a_len a_fin a_byt = some z) : MV l yX7_stepOverLetters wsX7_stepOverLetters ({ frames := 1, cells := 0, slots := 0, locals := 20 } : Room) D cy [.ref (aAd 0)] (w_Tape cy aAd a_len a_tok a_stt a_fin a_num a_flw a_byt) (w_Tape cy aAd a_len a_tok a_stt z a_num a_flw a_byt) := by
  refine met_start (Qf := fun A => MQv D cy (w_Tape cy aAd a_len a_tok a_stt z a_num a_flw a_byt) A) (cc := cX7_stepOverLetters) (nL := 1) (ret := none) RX7 rfl (by decide) rfl (Nat.le_of_ble_eq_true rfl) ?_
  intro p e s m below meth c A ls C G hl
  have hl : lv_has ls 1 [(0, .ref (aAd 0))] := hl
  have H := hz
  unfold f_X7_stepOverLetters at H
  obtain ⟨hx, hb, hr, hml, hown, hts, hlk, hK, hA, hE⟩ := id C
  obtain ⟨z5, hz5, H⟩ := bd_some H
  refine wl_X7_stepOverLetters_0 C aAd a_len a_tok a_stt a_num a_flw a_byt _ a_fin z5 hz5 (fun U locs ls G hl => ?_) _ _ _ G (lv_sub hl [0] rfl)
  have G : Gd D A s (w_Tape cy aAd a_len a_tok a_stt z5 a_num a_flw a_byt) U locs := G
  have hl : lv_has ls 1 [] := hl
  obtain rfl := Option.some.inj H
  exact ret_v C G dX7_stepOverLetters_39
def f_X7_stepOverFigures_L5 (a_len : Int32) (a_byt : Nat → Int32) : Nat → Int32 → Int32 → Option (Int32 × Int32)
  | 0, _, _ => none
  | n + 1, a_fin, a_num => if a_len ≤ a_fin then (some (a_fin, a_num)) else (gd (inb a_fin 400) (bd (f_X7_isFigure (a_byt (ix a_fin))) (fun z3 => if z3 = 0 then (some (a_fin, a_num)) else (f_X7_stepOverFigures_L5 a_len a_byt n (a_fin + 1) ((a_num * 10) + ((a_byt (ix a_fin)) - 48))))))
theorem f_X7_stepOverFigures_L5_z (a_len : Int32) (a_byt : Nat → Int32) (a_fin a_num : Int32) : f_X7_stepOverFigures_L5 a_len a_byt 0 a_fin a_num = none := rfl
theorem f_X7_stepOverFigures_L5_s (a_len : Int32) (a_byt : Nat → Int32) (n : Nat) (a_fin a_num : Int32) : f_X7_stepOverFigures_L5 a_len a_byt (n + 1) a_fin a_num = if a_len ≤ a_fin then (some (a_fin, a_num)) else (gd (inb a_fin 400) (bd (f_X7_isFigure (a_byt (ix a_fin))) (fun z3 => if z3 = 0 then (some (a_fin, a_num)) else (f_X7_stepOverFigures_L5 a_len a_byt n (a_fin + 1) ((a_num * 10) + ((a_byt (ix a_fin)) - 48)))))) := rfl
set_option maxHeartbeats 4000000 in
set_option maxRecDepth 100000 in
theorem wl_X7_stepOverFigures_5 {p : Program} {l : Launch} {e : Env} {s : State} {m : MethodId} {below : List Frame} {meth : Method} {c : Code} {D : va_G} {cy : Nat → ClassId} {A : Nat → Prop} {args : Array Value} {Q : State → Prop} (C : Cx D cy A p s m meth c cX7_stepOverFigures 1 none wsX7_stepOverFigures RX7 args) (aAd : Nat → Nat) (a_len a_tok a_stt a_flw : Int32) (a_byt : Nat → Int32) :
    ∀ (n : Nat) (a_fin a_num : Int32) (z : (Int32 × Int32)), f_X7_stepOverFigures_L5 a_len a_byt n a_fin a_num = some z → (∀ (U : Heap) (locs : List Loc) (ls : Array Slot), Gd D A s (w_Tape cy aAd a_len a_tok a_stt z.1 z.2 a_flw a_byt) U locs → lv_has ls 1 [] → W p l e ({ frames := 1, cells := 0, slots := 0, locals := 20 } : Room) s m args below meth c U locs 0 0 Q (F0 m 68 ls [])) → ∀ (U : Heap) (locs : List Loc) (ls : Array Slot), Gd D A s (w_Tape cy aAd a_len a_tok a_stt a_fin a_num a_flw a_byt) U locs → lv_has ls 1 [(0, .ref (aAd 0))] → W p l e ({ frames := 1, cells := 0, slots := 0, locals := 20 } : Room) s m args below meth c U locs 0 0 Q (F0 m 5 ls []) := by
  obtain ⟨hx, hb, hr, hml, hown, hts, hlk, hK, hA, hE⟩ := id C
  have lk0 := hts (Cond.fieldLink RX7 19 "TideDebts$Tape" "end" "I") (List.mem_of_getElem? (i := 2) rfl)
  have lk1 := hts (Cond.fieldLink RX7 15 "TideDebts$Tape" "length" "I") (List.mem_of_getElem? (i := 3) rfl)
  have lk2 := hts (Cond.fieldLink RX7 9 "TideDebts$Tape" "bytes" "[B") (List.mem_of_getElem? (i := 4) rfl)
  have lk3 := hts (Cond.fieldLink RX7 81 "TideDebts$Tape" "number" "I") (List.mem_of_getElem? (i := 1) rfl)
  have hiX7 : ∀ w ∈ u_ws RX7 TX7 7, w ∈ wsX7_stepOverFigures := fun _ h => List.mem_cons_of_mem _ (List.mem_append_right _ h)
  intro n
  induction n with
  | zero =>
    intro a_fin a_num z H
    rw [f_X7_stepOverFigures_L5_z] at H
    cases H
  | succ n ih =>
    intro a_fin a_num z H kk U locs ls G hl
    rw [f_X7_stepOverFigures_L5_s] at H
    refine lv_aload_n hx hb dX7_stepOverFigures_5 rfl (lv_at hl 0 rfl) ?_
    refine va_get (D := D) (ci := 7) (v := .int a_fin) (C := RX7) (T := TX7) (N := 7) hx hb hts hiX7 hown hK G.1 0 rfl rfl 4 (by decide) lk0 (fun _ h9 => h9) rfl dX7_stepOverFigures_6 ?_
    refine lv_aload_n hx hb dX7_stepOverFigures_9 rfl (lv_at hl 0 rfl) ?_
    refine va_get (D := D) (ci := 7) (v := .int a_len) (C := RX7) (T := TX7) (N := 7) hx hb hts hiX7 hown hK G.1 0 rfl rfl 1 (by decide) lk1 (fun _ h9 => h9) rfl dX7_stepOverFigures_10 ?_
    refine lv_icmp_ge (tgt := 68) hx hb dX7_stepOverFigures_13 (by decide) (fun c1 => ?_) (fun c1 => ?_)
    · have H := if_t H c1
      obtain rfl := Option.some.inj H
      exact kk _ _ _ G (lv_sub hl [] rfl)
    · have H := if_f H c1
      refine lv_aload_n hx hb dX7_stepOverFigures_16 rfl (lv_at hl 0 rfl) ?_
      refine va_get (D := D) (ci := 7) (v := .ref (aAd 1)) (C := RX7) (T := TX7) (N := 7) hx hb hts hiX7 hown hK G.1 0 rfl rfl 0 (by decide) lk2 (fun _ h9 => h9) rfl dX7_stepOverFigures_17 ?_
      refine lv_aload_n hx hb dX7_stepOverFigures_20 rfl (lv_at hl 0 rfl) ?_
      refine va_get (D := D) (ci := 7) (v := .int a_fin) (C := RX7) (T := TX7) (N := 7) hx hb hts hiX7 hown hK G.1 0 rfl rfl 4 (by decide) lk0 (fun _ h9 => h9) rfl dX7_stepOverFigures_21 ?_
      obtain ⟨hb2, H⟩ := gd_some H
      refine g_bald (v := a_byt (ix a_fin)) hx hb hK G.1 1 0 rfl rfl hb2 rfl dX7_stepOverFigures_24 ?_
      obtain ⟨z3, hz3, H⟩ := bd_some H
      refine MI.callS z3 [.int (a_byt (ix a_fin))] [] [] C G (c_X7_isFigure l D cy (a_byt (ix a_fin)) z3 hz3) gX7_stepOverFigures_X7_isFigure rfl rfl rfl (n := 1) (by decide +kernel) ⟨Nat.le_of_ble_eq_true rfl, Nat.le_of_ble_eq_true rfl⟩ rfl rfl rfl rfl hl.1 rfl (Nat.le_of_ble_eq_true rfl) dX7_stepOverFigures_25 ⟨Nat.zero_le _, Nat.zero_le _⟩ (fun U locs G => ?_)
      have G : Gd D A s (w_Tape cy aAd a_len a_tok a_stt a_fin a_num a_flw a_byt) U locs := G
      refine lv_if_eq (tgt := 68) hx hb dX7_stepOverFigures_28 (by decide) (fun c4 => ?_) (fun c4 => ?_)
      · have H := if_t H c4
        obtain rfl := Option.some.inj H
        exact kk _ _ _ G (lv_sub hl [] rfl)
      · have H := if_f H c4
        refine lv_aload_n hx hb dX7_stepOverFigures_31 rfl (lv_at hl 0 rfl) ?_
        refine lv_aload_n hx hb dX7_stepOverFigures_32 rfl (lv_at hl 0 rfl) ?_
        refine va_get (D := D) (ci := 7) (v := .int a_num) (C := RX7) (T := TX7) (N := 7) hx hb hts hiX7 hown hK G.1 0 rfl rfl 5 (by decide) lk3 (fun _ h9 => h9) rfl dX7_stepOverFigures_33 ?_
        refine lv_bipush (v := 10) hx hb dX7_stepOverFigures_36 (by decide) ?_
        refine lv_imul hx hb dX7_stepOverFigures_38 ?_
        refine lv_aload_n hx hb dX7_stepOverFigures_39 rfl (lv_at hl 0 rfl) ?_
        refine va_get (D := D) (ci := 7) (v := .ref (aAd 1)) (C := RX7) (T := TX7) (N := 7) hx hb hts hiX7 hown hK G.1 0 rfl rfl 0 (by decide) lk2 (fun _ h9 => h9) rfl dX7_stepOverFigures_40 ?_
        refine lv_aload_n hx hb dX7_stepOverFigures_43 rfl (lv_at hl 0 rfl) ?_
        refine va_get (D := D) (ci := 7) (v := .int a_fin) (C := RX7) (T := TX7) (N := 7) hx hb hts hiX7 hown hK G.1 0 rfl rfl 4 (by decide) lk0 (fun _ h9 => h9) rfl dX7_stepOverFigures_44 ?_
        refine g_bald (v := a_byt (ix a_fin)) hx hb hK G.1 1 0 rfl rfl hb2 rfl dX7_stepOverFigures_47 ?_
        refine lv_bipush (v := 48) hx hb dX7_stepOverFigures_48 (by decide) ?_
        refine lv_isub hx hb dX7_stepOverFigures_50 ?_
        refine lv_iadd hx hb dX7_stepOverFigures_51 ?_
        refine va_put (D := D) (ci := 7) (v := .int ((a_num * 10) + ((a_byt (ix a_fin)) - 48))) (ty := .int) (C := RX7) (T := TX7) (N := 7) hx hb hts hiX7 tyX7 tyX7_ok nmX7 hown hK G.1 G.2.1 G.2.2 0 rfl rfl 5 (by decide) lk3 (fun _ h9 => h9) rfl (tyX7_ok 5 (by decide)) rfl rfl (Nat.le_of_ble_eq_true rfl) dX7_stepOverFigures_52 (fun U locs hP hD hS => ?_)
        have G : Gd D A s (w_Tape cy aAd a_len a_tok a_stt a_fin ((a_num * 10) + ((a_byt (ix a_fin)) - 48)) a_flw a_byt) U locs := ⟨hP, hD, hS⟩
        refine lv_aload_n hx hb dX7_stepOverFigures_55 rfl (lv_at hl 0 rfl) ?_
        refine lv_dup hx hb dX7_stepOverFigures_56 rfl ?_
        refine va_get (D := D) (ci := 7) (v := .int a_fin) (C := RX7) (T := TX7) (N := 7) hx hb hts hiX7 hown hK G.1 0 rfl rfl 4 (by decide) lk0 (fun _ h9 => h9) rfl dX7_stepOverFigures_57 ?_
        refine lv_iconst (v := 1) hx hb dX7_stepOverFigures_60 (by decide) ?_
        refine lv_iadd hx hb dX7_stepOverFigures_61 ?_
        refine va_put (D := D) (ci := 7) (v := .int (a_fin + 1)) (ty := .int) (C := RX7) (T := TX7) (N := 7) hx hb hts hiX7 tyX7 tyX7_ok nmX7 hown hK G.1 G.2.1 G.2.2 0 rfl rfl 4 (by decide) lk0 (fun _ h9 => h9) rfl (tyX7_ok 4 (by decide)) rfl rfl (Nat.le_of_ble_eq_true rfl) dX7_stepOverFigures_62 (fun U locs hP hD hS => ?_)
        have G : Gd D A s (w_Tape cy aAd a_len a_tok a_stt (a_fin + 1) ((a_num * 10) + ((a_byt (ix a_fin)) - 48)) a_flw a_byt) U locs := ⟨hP, hD, hS⟩
        refine lv_goto (tgt := 5) hx hb dX7_stepOverFigures_65 (by decide) ?_
        exact ih (a_fin + 1) ((a_num * 10) + ((a_byt (ix a_fin)) - 48)) z H kk _ _ _ G (lv_sub hl [0] rfl)
def f_X7_stepOverFigures (a_len a_fin a_num : Int32) (a_byt : Nat → Int32) : Option (Int32 × Int32) := bd (f_X7_stepOverFigures_L5 a_len a_byt 2000 a_fin 0) (fun z5 => some (z5.1, z5.2))
set_option maxHeartbeats 4000000 in
set_option maxRecDepth 100000 in
theorem c_X7_stepOverFigures (l : Launch) (D : va_G) (cy : Nat → ClassId) (aAd : Nat → Nat) (a_len a_tok a_stt a_fin a_num a_flw : Int32) (a_byt : Nat → Int32) (z : (Int32 × Int32)) (hz : f_X7_stepOverFigures a_len a_fin a_num a_byt = some z) : MV l yX7_stepOverFigures wsX7_stepOverFigures ({ frames := 1, cells := 0, slots := 0, locals := 20 } : Room) D cy [.ref (aAd 0)] (w_Tape cy aAd a_len a_tok a_stt a_fin a_num a_flw a_byt) (w_Tape cy aAd a_len a_tok a_stt z.1 z.2 a_flw a_byt) := by
  refine met_start (Qf := fun A => MQv D cy (w_Tape cy aAd a_len a_tok a_stt z.1 z.2 a_flw a_byt) A) (cc := cX7_stepOverFigures) (nL := 1) (ret := none) RX7 rfl (by decide) rfl (Nat.le_of_ble_eq_true rfl) ?_
  intro p e s m below meth c A ls C G hl
  have hl : lv_has ls 1 [(0, .ref (aAd 0))] := hl
  have H := hz
  unfold f_X7_stepOverFigures at H
  obtain ⟨hx, hb, hr, hml, hown, hts, hlk, hK, hA, hE⟩ := id C
  have lk0 := hts (Cond.fieldLink RX7 81 "TideDebts$Tape" "number" "I") (List.mem_of_getElem? (i := 1) rfl)
  have hiX7 : ∀ w ∈ u_ws RX7 TX7 7, w ∈ wsX7_stepOverFigures := fun _ h => List.mem_cons_of_mem _ (List.mem_append_right _ h)
  refine lv_aload_n hx hb dX7_stepOverFigures_0 rfl (lv_at hl 0 rfl) ?_
  refine lv_iconst (v := 0) hx hb dX7_stepOverFigures_1 (by decide) ?_
  refine va_put (D := D) (ci := 7) (v := .int 0) (ty := .int) (C := RX7) (T := TX7) (N := 7) hx hb hts hiX7 tyX7 tyX7_ok nmX7 hown hK G.1 G.2.1 G.2.2 0 rfl rfl 5 (by decide) lk0 (fun _ h9 => h9) rfl (tyX7_ok 5 (by decide)) rfl rfl (Nat.le_of_ble_eq_true rfl) dX7_stepOverFigures_2 (fun U locs hP hD hS => ?_)
  have G : Gd D A s (w_Tape cy aAd a_len a_tok a_stt a_fin 0 a_flw a_byt) U locs := ⟨hP, hD, hS⟩
  obtain ⟨z5, hz5, H⟩ := bd_some H
  refine wl_X7_stepOverFigures_5 C aAd a_len a_tok a_stt a_flw a_byt _ a_fin 0 z5 hz5 (fun U locs ls G hl => ?_) _ _ _ G (lv_sub hl [0] rfl)
  have G : Gd D A s (w_Tape cy aAd a_len a_tok a_stt z5.1 z5.2 a_flw a_byt) U locs := G
  have hl : lv_has ls 1 [] := hl
  obtain rfl := Option.some.inj H
  exact ret_v C G dX7_stepOverFigures_68
def f_X7_step_L8 (a_len : Int32) (a_byt : Nat → Int32) : Nat → Int32 → Option Int32
  | 0, _ => none
  | n + 1, a_stt => if a_len ≤ a_stt then (some a_stt) else (gd (inb a_stt 400) (bd (f_X7_isBlank (a_byt (ix a_stt))) (fun z3 => if z3 = 0 then (some a_stt) else (f_X7_step_L8 a_len a_byt n (a_stt + 1)))))
theorem f_X7_step_L8_z (a_len : Int32) (a_byt : Nat → Int32) (a_stt : Int32) : f_X7_step_L8 a_len a_byt 0 a_stt = none := rfl
theorem f_X7_step_L8_s (a_len : Int32) (a_byt : Nat → Int32) (n : Nat) (a_stt : Int32) : f_X7_step_L8 a_len a_byt (n + 1) a_stt = if a_len ≤ a_stt then (some a_stt) else (gd (inb a_stt 400) (bd (f_X7_isBlank (a_byt (ix a_stt))) (fun z3 => if z3 = 0 then (some a_stt) else (f_X7_step_L8 a_len a_byt n (a_stt + 1))))) := rfl
set_option maxHeartbeats 4000000 in
set_option maxRecDepth 100000 in
theorem wl_X7_step_8 {p : Program} {l : Launch} {e : Env} {s : State} {m : MethodId} {below : List Frame} {meth : Method} {c : Code} {D : va_G} {cy : Nat → ClassId} {A : Nat → Prop} {args : Array Value} {Q : State → Prop} (C : Cx D cy A p s m meth c cX7_step 1 none wsX7_step RX7 args) (aAd : Nat → Nat) (a_len a_tok a_fin a_num a_flw : Int32) (a_byt : Nat → Int32) :
    ∀ (n : Nat) (a_stt : Int32) (z : Int32), f_X7_step_L8 a_len a_byt n a_stt = some z → (∀ (U : Heap) (locs : List Loc) (ls : Array Slot), Gd D A s (w_Tape cy aAd a_len a_tok z a_fin a_num a_flw a_byt) U locs → lv_has ls 1 [(0, .ref (aAd 0))] → W p l e ({ frames := 2, cells := 0, slots := 0, locals := 40 } : Room) s m args below meth c U locs 0 0 Q (F0 m 47 ls [])) → ∀ (U : Heap) (locs : List Loc) (ls : Array Slot), Gd D A s (w_Tape cy aAd a_len a_tok a_stt a_fin a_num a_flw a_byt) U locs → lv_has ls 1 [(0, .ref (aAd 0))] → W p l e ({ frames := 2, cells := 0, slots := 0, locals := 40 } : Room) s m args below meth c U locs 0 0 Q (F0 m 8 ls []) := by
  obtain ⟨hx, hb, hr, hml, hown, hts, hlk, hK, hA, hE⟩ := id C
  have lk0 := hts (Cond.fieldLink RX7 94 "TideDebts$Tape" "start" "I") (List.mem_of_getElem? (i := 2) rfl)
  have lk1 := hts (Cond.fieldLink RX7 15 "TideDebts$Tape" "length" "I") (List.mem_of_getElem? (i := 3) rfl)
  have lk2 := hts (Cond.fieldLink RX7 9 "TideDebts$Tape" "bytes" "[B") (List.mem_of_getElem? (i := 4) rfl)
  have hiX7 : ∀ w ∈ u_ws RX7 TX7 7, w ∈ wsX7_step := fun _ h => List.mem_cons_of_mem _ (List.mem_append_right _ h)
  intro n
  induction n with
  | zero =>
    intro a_stt z H
    rw [f_X7_step_L8_z] at H
    cases H
  | succ n ih =>
    intro a_stt z H kk U locs ls G hl
    rw [f_X7_step_L8_s] at H
    refine lv_aload_n hx hb dX7_step_8 rfl (lv_at hl 0 rfl) ?_
    refine va_get (D := D) (ci := 7) (v := .int a_stt) (C := RX7) (T := TX7) (N := 7) hx hb hts hiX7 hown hK G.1 0 rfl rfl 3 (by decide) lk0 (fun _ h9 => h9) rfl dX7_step_9 ?_
    refine lv_aload_n hx hb dX7_step_12 rfl (lv_at hl 0 rfl) ?_
    refine va_get (D := D) (ci := 7) (v := .int a_len) (C := RX7) (T := TX7) (N := 7) hx hb hts hiX7 hown hK G.1 0 rfl rfl 1 (by decide) lk1 (fun _ h9 => h9) rfl dX7_step_13 ?_
    refine lv_icmp_ge (tgt := 47) hx hb dX7_step_16 (by decide) (fun c1 => ?_) (fun c1 => ?_)
    · have H := if_t H c1
      obtain rfl := Option.some.inj H
      exact kk _ _ _ G (lv_sub hl [0] rfl)
    · have H := if_f H c1
      refine lv_aload_n hx hb dX7_step_19 rfl (lv_at hl 0 rfl) ?_
      refine va_get (D := D) (ci := 7) (v := .ref (aAd 1)) (C := RX7) (T := TX7) (N := 7) hx hb hts hiX7 hown hK G.1 0 rfl rfl 0 (by decide) lk2 (fun _ h9 => h9) rfl dX7_step_20 ?_
      refine lv_aload_n hx hb dX7_step_23 rfl (lv_at hl 0 rfl) ?_
      refine va_get (D := D) (ci := 7) (v := .int a_stt) (C := RX7) (T := TX7) (N := 7) hx hb hts hiX7 hown hK G.1 0 rfl rfl 3 (by decide) lk0 (fun _ h9 => h9) rfl dX7_step_24 ?_
      obtain ⟨hb2, H⟩ := gd_some H
      refine g_bald (v := a_byt (ix a_stt)) hx hb hK G.1 1 0 rfl rfl hb2 rfl dX7_step_27 ?_
      obtain ⟨z3, hz3, H⟩ := bd_some H
      refine MI.callS z3 [.int (a_byt (ix a_stt))] [] [] C G (c_X7_isBlank l D cy (a_byt (ix a_stt)) z3 hz3) gX7_step_X7_isBlank rfl rfl rfl (n := 1) (by decide +kernel) ⟨Nat.le_of_ble_eq_true rfl, Nat.le_of_ble_eq_true rfl⟩ rfl rfl rfl rfl hl.1 rfl (Nat.le_of_ble_eq_true rfl) dX7_step_28 ⟨Nat.zero_le _, Nat.zero_le _⟩ (fun U locs G => ?_)
      have G : Gd D A s (w_Tape cy aAd a_len a_tok a_stt a_fin a_num a_flw a_byt) U locs := G
      refine lv_if_eq (tgt := 47) hx hb dX7_step_31 (by decide) (fun c4 => ?_) (fun c4 => ?_)
      · have H := if_t H c4
        obtain rfl := Option.some.inj H
        exact kk _ _ _ G (lv_sub hl [0] rfl)
      · have H := if_f H c4
        refine lv_aload_n hx hb dX7_step_34 rfl (lv_at hl 0 rfl) ?_
        refine lv_dup hx hb dX7_step_35 rfl ?_
        refine va_get (D := D) (ci := 7) (v := .int a_stt) (C := RX7) (T := TX7) (N := 7) hx hb hts hiX7 hown hK G.1 0 rfl rfl 3 (by decide) lk0 (fun _ h9 => h9) rfl dX7_step_36 ?_
        refine lv_iconst (v := 1) hx hb dX7_step_39 (by decide) ?_
        refine lv_iadd hx hb dX7_step_40 ?_
        refine va_put (D := D) (ci := 7) (v := .int (a_stt + 1)) (ty := .int) (C := RX7) (T := TX7) (N := 7) hx hb hts hiX7 tyX7 tyX7_ok nmX7 hown hK G.1 G.2.1 G.2.2 0 rfl rfl 3 (by decide) lk0 (fun _ h9 => h9) rfl (tyX7_ok 3 (by decide)) rfl rfl (Nat.le_of_ble_eq_true rfl) dX7_step_41 (fun U locs hP hD hS => ?_)
        have G : Gd D A s (w_Tape cy aAd a_len a_tok (a_stt + 1) a_fin a_num a_flw a_byt) U locs := ⟨hP, hD, hS⟩
        refine lv_goto (tgt := 8) hx hb dX7_step_44 (by decide) ?_
        exact ih (a_stt + 1) z H kk _ _ _ G (lv_sub hl [0] rfl)
def f_X7_step (a_len a_tok a_stt a_fin a_num : Int32) (a_byt : Nat → Int32) : Option (Int32 × Int32 × Int32 × Int32) := bd (f_X7_step_L8 a_len a_byt 2000 a_fin) (fun z5 => if z5 < a_len then (gd (inb z5 400) (bd (f_X7_isLetter (a_byt (ix z5))) (fun z8 => if z8 = 0 then (bd (f_X7_isFigure (a_byt (ix z5))) (fun z10 => if z10 = 0 then (if (a_byt (ix z5)) = 59 then (some (3, z5, z5 + 1, a_num)) else (some (4, z5, z5 + 1, a_num))) else (bd (f_X7_stepOverFigures a_len z5 a_num a_byt) (fun z13 => if 3 < (z13.1 - z5) then (some (4, z5, z13.1, z13.2)) else (some (2, z5, z13.1, z13.2)))))) else (bd (f_X7_stepOverLetters a_len z5 a_byt) (fun z15 => some (1, z5, z15, a_num)))))) else (some (0, z5, z5, a_num)))
set_option maxHeartbeats 4000000 in
set_option maxRecDepth 100000 in
theorem c_X7_step (l : Launch) (D : va_G) (cy : Nat → ClassId) (aAd : Nat → Nat) (a_len a_tok a_stt a_fin a_num a_flw : Int32) (a_byt : Nat → Int32) (z : (Int32 × Int32 × Int32 × Int32)) (hz : f_X7_step a_len a_tok a_stt a_fin a_num a_byt = some z) : MV l yX7_step wsX7_step ({ frames := 2, cells := 0, slots := 0, locals := 40 } : Room) D cy [.ref (aAd 0)] (w_Tape cy aAd a_len a_tok a_stt a_fin a_num a_flw a_byt) (w_Tape cy aAd a_len z.1 z.2.1 z.2.2.1 z.2.2.2 a_flw a_byt) := by
  refine met_start (Qf := fun A => MQv D cy (w_Tape cy aAd a_len z.1 z.2.1 z.2.2.1 z.2.2.2 a_flw a_byt) A) (cc := cX7_step) (nL := 1) (ret := none) RX7 rfl (by decide) rfl (Nat.le_of_ble_eq_true rfl) ?_
  intro p e s m below meth c A ls C G hl
  have hl : lv_has ls 1 [(0, .ref (aAd 0))] := hl
  have H := hz
  unfold f_X7_step at H
  obtain ⟨hx, hb, hr, hml, hown, hts, hlk, hK, hA, hE⟩ := id C
  have lk0 := hts (Cond.fieldLink RX7 19 "TideDebts$Tape" "end" "I") (List.mem_of_getElem? (i := 1) rfl)
  have lk1 := hts (Cond.fieldLink RX7 94 "TideDebts$Tape" "start" "I") (List.mem_of_getElem? (i := 2) rfl)
  have lk2 := hts (Cond.fieldLink RX7 15 "TideDebts$Tape" "length" "I") (List.mem_of_getElem? (i := 3) rfl)
  have lk3 := hts (Cond.fieldLink RX7 9 "TideDebts$Tape" "bytes" "[B") (List.mem_of_getElem? (i := 4) rfl)
  have lk4 := hts (Cond.fieldLink RX7 37 "TideDebts$Tape" "token" "I") (List.mem_of_getElem? (i := 5) rfl)
  have hiX7 : ∀ w ∈ u_ws RX7 TX7 7, w ∈ wsX7_step := fun _ h => List.mem_cons_of_mem _ (List.mem_append_right _ h)
  refine lv_aload_n hx hb dX7_step_0 rfl (lv_at hl 0 rfl) ?_
  refine lv_aload_n hx hb dX7_step_1 rfl (lv_at hl 0 rfl) ?_
  refine va_get (D := D) (ci := 7) (v := .int a_fin) (C := RX7) (T := TX7) (N := 7) hx hb hts hiX7 hown hK G.1 0 rfl rfl 4 (by decide) lk0 (fun _ h9 => h9) rfl dX7_step_2 ?_
  refine va_put (D := D) (ci := 7) (v := .int a_fin) (ty := .int) (C := RX7) (T := TX7) (N := 7) hx hb hts hiX7 tyX7 tyX7_ok nmX7 hown hK G.1 G.2.1 G.2.2 0 rfl rfl 3 (by decide) lk1 (fun _ h9 => h9) rfl (tyX7_ok 3 (by decide)) rfl rfl (Nat.le_of_ble_eq_true rfl) dX7_step_5 (fun U locs hP hD hS => ?_)
  have G : Gd D A s (w_Tape cy aAd a_len a_tok a_fin a_fin a_num a_flw a_byt) U locs := ⟨hP, hD, hS⟩
  obtain ⟨z5, hz5, H⟩ := bd_some H
  refine wl_X7_step_8 C aAd a_len a_tok a_fin a_num a_flw a_byt _ a_fin z5 hz5 (fun U locs ls G hl => ?_) _ _ _ G (lv_sub hl [0] rfl)
  have G : Gd D A s (w_Tape cy aAd a_len a_tok z5 a_fin a_num a_flw a_byt) U locs := G
  have hl : lv_has ls 1 [(0, .ref (aAd 0))] := hl
  refine lv_aload_n hx hb dX7_step_47 rfl (lv_at hl 0 rfl) ?_
  refine lv_aload_n hx hb dX7_step_48 rfl (lv_at hl 0 rfl) ?_
  refine va_get (D := D) (ci := 7) (v := .int z5) (C := RX7) (T := TX7) (N := 7) hx hb hts hiX7 hown hK G.1 0 rfl rfl 3 (by decide) lk1 (fun _ h9 => h9) rfl dX7_step_49 ?_
  refine va_put (D := D) (ci := 7) (v := .int z5) (ty := .int) (C := RX7) (T := TX7) (N := 7) hx hb hts hiX7 tyX7 tyX7_ok nmX7 hown hK G.1 G.2.1 G.2.2 0 rfl rfl 4 (by decide) lk0 (fun _ h9 => h9) rfl (tyX7_ok 4 (by decide)) rfl rfl (Nat.le_of_ble_eq_true rfl) dX7_step_52 (fun U locs hP hD hS => ?_)
  have G : Gd D A s (w_Tape cy aAd a_len a_tok z5 z5 a_num a_flw a_byt) U locs := ⟨hP, hD, hS⟩
  refine lv_aload_n hx hb dX7_step_55 rfl (lv_at hl 0 rfl) ?_
  refine va_get (D := D) (ci := 7) (v := .int z5) (C := RX7) (T := TX7) (N := 7) hx hb hts hiX7 hown hK G.1 0 rfl rfl 3 (by decide) lk1 (fun _ h9 => h9) rfl dX7_step_56 ?_
  refine lv_aload_n hx hb dX7_step_59 rfl (lv_at hl 0 rfl) ?_
  refine va_get (D := D) (ci := 7) (v := .int a_len) (C := RX7) (T := TX7) (N := 7) hx hb hts hiX7 hown hK G.1 0 rfl rfl 1 (by decide) lk2 (fun _ h9 => h9) rfl dX7_step_60 ?_
  refine lv_icmp_lt (tgt := 74) hx hb dX7_step_63 (by decide) (fun c6 => ?_) (fun c6 => ?_)
  · have H := if_t H c6
    refine lv_aload_n hx hb dX7_step_74 rfl (lv_at hl 0 rfl) ?_
    refine va_get (D := D) (ci := 7) (v := .ref (aAd 1)) (C := RX7) (T := TX7) (N := 7) hx hb hts hiX7 hown hK G.1 0 rfl rfl 0 (by decide) lk3 (fun _ h9 => h9) rfl dX7_step_75 ?_
    refine lv_aload_n hx hb dX7_step_78 rfl (lv_at hl 0 rfl) ?_
    refine va_get (D := D) (ci := 7) (v := .int z5) (C := RX7) (T := TX7) (N := 7) hx hb hts hiX7 hown hK G.1 0 rfl rfl 3 (by decide) lk1 (fun _ h9 => h9) rfl dX7_step_79 ?_
    obtain ⟨hb7, H⟩ := gd_some H
    refine g_bald (v := a_byt (ix z5)) hx hb hK G.1 1 0 rfl rfl hb7 rfl dX7_step_82 ?_
    obtain ⟨z8, hz8, H⟩ := bd_some H
    refine MI.callS z8 [.int (a_byt (ix z5))] [] [] C G (c_X7_isLetter l D cy (a_byt (ix z5)) z8 hz8) gX7_step_X7_isLetter rfl rfl rfl (n := 1) (by decide +kernel) ⟨Nat.le_of_ble_eq_true rfl, Nat.le_of_ble_eq_true rfl⟩ rfl rfl rfl rfl hl.1 rfl (Nat.le_of_ble_eq_true rfl) dX7_step_83 ⟨Nat.zero_le _, Nat.zero_le _⟩ (fun U locs G => ?_)
    have G : Gd D A s (w_Tape cy aAd a_len a_tok z5 z5 a_num a_flw a_byt) U locs := G
    refine lv_if_eq (tgt := 101) hx hb dX7_step_86 (by decide) (fun c9 => ?_) (fun c9 => ?_)
    · have H := if_t H c9
      refine lv_aload_n hx hb dX7_step_101 rfl (lv_at hl 0 rfl) ?_
      refine va_get (D := D) (ci := 7) (v := .ref (aAd 1)) (C := RX7) (T := TX7) (N := 7) hx hb hts hiX7 hown hK G.1 0 rfl rfl 0 (by decide) lk3 (fun _ h9 => h9) rfl dX7_step_102 ?_
      refine lv_aload_n hx hb dX7_step_105 rfl (lv_at hl 0 rfl) ?_
      refine va_get (D := D) (ci := 7) (v := .int z5) (C := RX7) (T := TX7) (N := 7) hx hb hts hiX7 hown hK G.1 0 rfl rfl 3 (by decide) lk1 (fun _ h9 => h9) rfl dX7_step_106 ?_
      refine g_bald (v := a_byt (ix z5)) hx hb hK G.1 1 0 rfl rfl hb7 rfl dX7_step_109 ?_
      obtain ⟨z10, hz10, H⟩ := bd_some H
      refine MI.callS z10 [.int (a_byt (ix z5))] [] [] C G (c_X7_isFigure l D cy (a_byt (ix z5)) z10 hz10) gX7_step_X7_isFigure rfl rfl rfl (n := 1) (by decide +kernel) ⟨Nat.le_of_ble_eq_true rfl, Nat.le_of_ble_eq_true rfl⟩ rfl rfl rfl rfl hl.1 rfl (Nat.le_of_ble_eq_true rfl) dX7_step_110 ⟨Nat.zero_le _, Nat.zero_le _⟩ (fun U locs G => ?_)
      have G : Gd D A s (w_Tape cy aAd a_len a_tok z5 z5 a_num a_flw a_byt) U locs := G
      refine lv_if_eq (tgt := 145) hx hb dX7_step_113 (by decide) (fun c11 => ?_) (fun c11 => ?_)
      · have H := if_t H c11
        refine lv_aload_n hx hb dX7_step_145 rfl (lv_at hl 0 rfl) ?_
        refine lv_aload_n hx hb dX7_step_146 rfl (lv_at hl 0 rfl) ?_
        refine va_get (D := D) (ci := 7) (v := .ref (aAd 1)) (C := RX7) (T := TX7) (N := 7) hx hb hts hiX7 hown hK G.1 0 rfl rfl 0 (by decide) lk3 (fun _ h9 => h9) rfl dX7_step_147 ?_
        refine lv_aload_n hx hb dX7_step_150 rfl (lv_at hl 0 rfl) ?_
        refine va_get (D := D) (ci := 7) (v := .int z5) (C := RX7) (T := TX7) (N := 7) hx hb hts hiX7 hown hK G.1 0 rfl rfl 3 (by decide) lk1 (fun _ h9 => h9) rfl dX7_step_151 ?_
        refine g_bald (v := a_byt (ix z5)) hx hb hK G.1 1 0 rfl rfl hb7 rfl dX7_step_154 ?_
        refine lv_bipush (v := 59) hx hb dX7_step_155 (by decide) ?_
        refine lv_icmp_ne (tgt := 164) hx hb dX7_step_157 (by decide) (fun c12 => ?_) (fun c12 => ?_)
        · have H := if_f H c12
          refine lv_iconst (v := 4) hx hb dX7_step_164 (by decide) ?_
          refine va_put (D := D) (ci := 7) (v := .int 4) (ty := .int) (C := RX7) (T := TX7) (N := 7) hx hb hts hiX7 tyX7 tyX7_ok nmX7 hown hK G.1 G.2.1 G.2.2 0 rfl rfl 2 (by decide) lk4 (fun _ h9 => h9) rfl (tyX7_ok 2 (by decide)) rfl rfl (Nat.le_of_ble_eq_true rfl) dX7_step_165 (fun U locs hP hD hS => ?_)
          have G : Gd D A s (w_Tape cy aAd a_len 4 z5 z5 a_num a_flw a_byt) U locs := ⟨hP, hD, hS⟩
          refine lv_aload_n hx hb dX7_step_168 rfl (lv_at hl 0 rfl) ?_
          refine lv_dup hx hb dX7_step_169 rfl ?_
          refine va_get (D := D) (ci := 7) (v := .int z5) (C := RX7) (T := TX7) (N := 7) hx hb hts hiX7 hown hK G.1 0 rfl rfl 4 (by decide) lk0 (fun _ h9 => h9) rfl dX7_step_170 ?_
          refine lv_iconst (v := 1) hx hb dX7_step_173 (by decide) ?_
          refine lv_iadd hx hb dX7_step_174 ?_
          refine va_put (D := D) (ci := 7) (v := .int (z5 + 1)) (ty := .int) (C := RX7) (T := TX7) (N := 7) hx hb hts hiX7 tyX7 tyX7_ok nmX7 hown hK G.1 G.2.1 G.2.2 0 rfl rfl 4 (by decide) lk0 (fun _ h9 => h9) rfl (tyX7_ok 4 (by decide)) rfl rfl (Nat.le_of_ble_eq_true rfl) dX7_step_175 (fun U locs hP hD hS => ?_)
          have G : Gd D A s (w_Tape cy aAd a_len 4 z5 (z5 + 1) a_num a_flw a_byt) U locs := ⟨hP, hD, hS⟩
          obtain rfl := Option.some.inj H
          exact ret_v C G dX7_step_178
        · have H := if_t H c12
          refine lv_iconst (v := 3) hx hb dX7_step_160 (by decide) ?_
          refine lv_goto (tgt := 165) hx hb dX7_step_161 (by decide) ?_
          refine va_put (D := D) (ci := 7) (v := .int 3) (ty := .int) (C := RX7) (T := TX7) (N := 7) hx hb hts hiX7 tyX7 tyX7_ok nmX7 hown hK G.1 G.2.1 G.2.2 0 rfl rfl 2 (by decide) lk4 (fun _ h9 => h9) rfl (tyX7_ok 2 (by decide)) rfl rfl (Nat.le_of_ble_eq_true rfl) dX7_step_165 (fun U locs hP hD hS => ?_)
          have G : Gd D A s (w_Tape cy aAd a_len 3 z5 z5 a_num a_flw a_byt) U locs := ⟨hP, hD, hS⟩
          refine lv_aload_n hx hb dX7_step_168 rfl (lv_at hl 0 rfl) ?_
          refine lv_dup hx hb dX7_step_169 rfl ?_
          refine va_get (D := D) (ci := 7) (v := .int z5) (C := RX7) (T := TX7) (N := 7) hx hb hts hiX7 hown hK G.1 0 rfl rfl 4 (by decide) lk0 (fun _ h9 => h9) rfl dX7_step_170 ?_
          refine lv_iconst (v := 1) hx hb dX7_step_173 (by decide) ?_
          refine lv_iadd hx hb dX7_step_174 ?_
          refine va_put (D := D) (ci := 7) (v := .int (z5 + 1)) (ty := .int) (C := RX7) (T := TX7) (N := 7) hx hb hts hiX7 tyX7 tyX7_ok nmX7 hown hK G.1 G.2.1 G.2.2 0 rfl rfl 4 (by decide) lk0 (fun _ h9 => h9) rfl (tyX7_ok 4 (by decide)) rfl rfl (Nat.le_of_ble_eq_true rfl) dX7_step_175 (fun U locs hP hD hS => ?_)
          have G : Gd D A s (w_Tape cy aAd a_len 3 z5 (z5 + 1) a_num a_flw a_byt) U locs := ⟨hP, hD, hS⟩
          obtain rfl := Option.some.inj H
          exact ret_v C G dX7_step_178
      · have H := if_f H c11
        refine lv_aload_n hx hb dX7_step_116 rfl (lv_at hl 0 rfl) ?_
        obtain ⟨z13, hz13, H⟩ := bd_some H
        refine MV.callVw [] [] C G (c_X7_stepOverFigures l D cy aAd a_len a_tok z5 z5 a_num a_flw a_byt z13 hz13) gX7_step_X7_stepOverFigures rfl rfl rfl (n := 0) (by decide +kernel) ⟨Nat.le_of_ble_eq_true rfl, Nat.le_of_ble_eq_true rfl⟩ (q0 := 0) (ci := 7) rfl rfl rfl rfl hl.1 rfl (Nat.le_of_ble_eq_true rfl) dX7_step_117 ⟨Nat.zero_le _, Nat.zero_le _⟩ (fun U locs G => ?_)
        have G : Gd D A s (w_Tape cy aAd a_len a_tok z5 z13.1 z13.2 a_flw a_byt) U locs := G
        refine lv_aload_n hx hb dX7_step_120 rfl (lv_at hl 0 rfl) ?_
        refine lv_aload_n hx hb dX7_step_121 rfl (lv_at hl 0 rfl) ?_
        refine va_get (D := D) (ci := 7) (v := .int z13.1) (C := RX7) (T := TX7) (N := 7) hx hb hts hiX7 hown hK G.1 0 rfl rfl 4 (by decide) lk0 (fun _ h9 => h9) rfl dX7_step_122 ?_
        refine lv_aload_n hx hb dX7_step_125 rfl (lv_at hl 0 rfl) ?_
        refine va_get (D := D) (ci := 7) (v := .int z5) (C := RX7) (T := TX7) (N := 7) hx hb hts hiX7 hown hK G.1 0 rfl rfl 3 (by decide) lk1 (fun _ h9 => h9) rfl dX7_step_126 ?_
        refine lv_isub hx hb dX7_step_129 ?_
        refine lv_iconst (v := 3) hx hb dX7_step_130 (by decide) ?_
        refine lv_icmp_gt (tgt := 138) hx hb dX7_step_131 (by decide) (fun c14 => ?_) (fun c14 => ?_)
        · have H := if_t H c14
          refine lv_iconst (v := 4) hx hb dX7_step_138 (by decide) ?_
          refine va_put (D := D) (ci := 7) (v := .int 4) (ty := .int) (C := RX7) (T := TX7) (N := 7) hx hb hts hiX7 tyX7 tyX7_ok nmX7 hown hK G.1 G.2.1 G.2.2 0 rfl rfl 2 (by decide) lk4 (fun _ h9 => h9) rfl (tyX7_ok 2 (by decide)) rfl rfl (Nat.le_of_ble_eq_true rfl) dX7_step_139 (fun U locs hP hD hS => ?_)
          have G : Gd D A s (w_Tape cy aAd a_len 4 z5 z13.1 z13.2 a_flw a_byt) U locs := ⟨hP, hD, hS⟩
          refine lv_goto (tgt := 178) hx hb dX7_step_142 (by decide) ?_
          obtain rfl := Option.some.inj H
          exact ret_v C G dX7_step_178
        · have H := if_f H c14
          refine lv_iconst (v := 2) hx hb dX7_step_134 (by decide) ?_
          refine lv_goto (tgt := 139) hx hb dX7_step_135 (by decide) ?_
          refine va_put (D := D) (ci := 7) (v := .int 2) (ty := .int) (C := RX7) (T := TX7) (N := 7) hx hb hts hiX7 tyX7 tyX7_ok nmX7 hown hK G.1 G.2.1 G.2.2 0 rfl rfl 2 (by decide) lk4 (fun _ h9 => h9) rfl (tyX7_ok 2 (by decide)) rfl rfl (Nat.le_of_ble_eq_true rfl) dX7_step_139 (fun U locs hP hD hS => ?_)
          have G : Gd D A s (w_Tape cy aAd a_len 2 z5 z13.1 z13.2 a_flw a_byt) U locs := ⟨hP, hD, hS⟩
          refine lv_goto (tgt := 178) hx hb dX7_step_142 (by decide) ?_
          obtain rfl := Option.some.inj H
          exact ret_v C G dX7_step_178
    · have H := if_f H c9
      refine lv_aload_n hx hb dX7_step_89 rfl (lv_at hl 0 rfl) ?_
      refine lv_iconst (v := 1) hx hb dX7_step_90 (by decide) ?_
      refine va_put (D := D) (ci := 7) (v := .int 1) (ty := .int) (C := RX7) (T := TX7) (N := 7) hx hb hts hiX7 tyX7 tyX7_ok nmX7 hown hK G.1 G.2.1 G.2.2 0 rfl rfl 2 (by decide) lk4 (fun _ h9 => h9) rfl (tyX7_ok 2 (by decide)) rfl rfl (Nat.le_of_ble_eq_true rfl) dX7_step_91 (fun U locs hP hD hS => ?_)
      have G : Gd D A s (w_Tape cy aAd a_len 1 z5 z5 a_num a_flw a_byt) U locs := ⟨hP, hD, hS⟩
      refine lv_aload_n hx hb dX7_step_94 rfl (lv_at hl 0 rfl) ?_
      obtain ⟨z15, hz15, H⟩ := bd_some H
      refine MV.callVw [] [] C G (c_X7_stepOverLetters l D cy aAd a_len 1 z5 z5 a_num a_flw a_byt z15 hz15) gX7_step_X7_stepOverLetters rfl rfl rfl (n := 0) (by decide +kernel) ⟨Nat.le_of_ble_eq_true rfl, Nat.le_of_ble_eq_true rfl⟩ (q0 := 0) (ci := 7) rfl rfl rfl rfl hl.1 rfl (Nat.le_of_ble_eq_true rfl) dX7_step_95 ⟨Nat.zero_le _, Nat.zero_le _⟩ (fun U locs G => ?_)
      have G : Gd D A s (w_Tape cy aAd a_len 1 z5 z15 a_num a_flw a_byt) U locs := G
      refine lv_goto (tgt := 178) hx hb dX7_step_98 (by decide) ?_
      obtain rfl := Option.some.inj H
      exact ret_v C G dX7_step_178
  · have H := if_f H c6
    refine lv_aload_n hx hb dX7_step_66 rfl (lv_at hl 0 rfl) ?_
    refine lv_iconst (v := 0) hx hb dX7_step_67 (by decide) ?_
    refine va_put (D := D) (ci := 7) (v := .int 0) (ty := .int) (C := RX7) (T := TX7) (N := 7) hx hb hts hiX7 tyX7 tyX7_ok nmX7 hown hK G.1 G.2.1 G.2.2 0 rfl rfl 2 (by decide) lk4 (fun _ h9 => h9) rfl (tyX7_ok 2 (by decide)) rfl rfl (Nat.le_of_ble_eq_true rfl) dX7_step_68 (fun U locs hP hD hS => ?_)
    have G : Gd D A s (w_Tape cy aAd a_len 0 z5 z5 a_num a_flw a_byt) U locs := ⟨hP, hD, hS⟩
    refine lv_goto (tgt := 178) hx hb dX7_step_71 (by decide) ?_
    obtain rfl := Option.some.inj H
    exact ret_v C G dX7_step_178
def f_X7_isWord_L28 (a_stt : Int32) (a_byt : Nat → Int32) (k1 : Nat) : Nat → Int32 → Option Int32
  | 0, _ => none
  | n + 1, x2 => if (xtl k1) ≤ x2 then (some 1) else (gd (inb (a_stt + x2) 400) (gd (inb x2 (xtL.getD k1 0)) (if (a_byt (ix (a_stt + x2))) = (xtc k1 x2) then (f_X7_isWord_L28 a_stt a_byt k1 n (x2 + 1)) else (some 0))))
theorem f_X7_isWord_L28_z (a_stt : Int32) (a_byt : Nat → Int32) (k1 : Nat) (x2 : Int32) : f_X7_isWord_L28 a_stt a_byt k1 0 x2 = none := rfl
theorem f_X7_isWord_L28_s (a_stt : Int32) (a_byt : Nat → Int32) (k1 : Nat) (n : Nat) (x2 : Int32) : f_X7_isWord_L28 a_stt a_byt k1 (n + 1) x2 = if (xtl k1) ≤ x2 then (some 1) else (gd (inb (a_stt + x2) 400) (gd (inb x2 (xtL.getD k1 0)) (if (a_byt (ix (a_stt + x2))) = (xtc k1 x2) then (f_X7_isWord_L28 a_stt a_byt k1 n (x2 + 1)) else (some 0)))) := rfl
set_option maxHeartbeats 4000000 in
set_option maxRecDepth 100000 in
theorem wl_X7_isWord_28 {p : Program} {l : Launch} {e : Env} {s : State} {m : MethodId} {below : List Frame} {meth : Method} {c : Code} {D : va_G} {cy : Nat → ClassId} {A : Nat → Prop} {args : Array Value} (C : Cx D cy A p s m meth c cX7_isWord 3 (some .boolean) wsX7_isWord RX7 args) (aAd : Nat → Nat) (a_len a_tok a_stt a_fin a_num a_flw : Int32) (a_byt : Nat → Int32) (k1 : Nat) (hk1 : k1 < 7) :
    ∀ (n : Nat) (x2 : Int32) (z : Int32), f_X7_isWord_L28 a_stt a_byt k1 n x2 = some z → ∀ (U : Heap) (locs : List Loc) (ls : Array Slot), Gd D A s (w_Tape cy aAd a_len a_tok a_stt a_fin a_num a_flw a_byt) U locs → lv_has ls 3 [(0, .ref (aAd 0)), (1, .ref (cy (20 + k1))), (2, .int x2)] → W p l e ({ frames := 4, cells := 0, slots := 0, locals := 85 } : Room) s m args below meth c U locs 0 0 (MQ below (MQi D cy z (w_Tape cy aAd a_len a_tok a_stt a_fin a_num a_flw a_byt) A) args s 0 0 A) (F0 m 28 ls []) := by
  obtain ⟨hx, hb, hr, hml, hown, hts, hlk, hK, hA, hE⟩ := id C
  have lk0 := hts (Cond.fieldLink RX7 9 "TideDebts$Tape" "bytes" "[B") (List.mem_of_getElem? (i := 4) rfl)
  have lk1 := hts (Cond.fieldLink RX7 94 "TideDebts$Tape" "start" "I") (List.mem_of_getElem? (i := 3) rfl)
  have hiX7 : ∀ w ∈ u_ws RX7 TX7 7, w ∈ wsX7_isWord := fun _ h => List.mem_cons_of_mem _ (List.mem_append_right _ h)
  intro n
  induction n with
  | zero =>
    intro x2 z H
    rw [f_X7_isWord_L28_z] at H
    cases H
  | succ n ih =>
    intro x2 z H U locs ls G hl
    rw [f_X7_isWord_L28_s] at H
    refine lv_iload_n hx hb dX7_isWord_28 rfl (lv_at hl 2 rfl) ?_
    refine lv_aload_n hx hb dX7_isWord_29 rfl (lv_at hl 1 rfl) ?_
    refine MI.callVr (xtl k1) [] [.int x2] C G (c_J0_length l D cy k1 hk1) gX7_isWord_J0_length_8abf5 rfl rfl rfl (n := 0) (by decide +kernel) ⟨Nat.le_of_ble_eq_true rfl, Nat.le_of_ble_eq_true rfl⟩ (vk_recv (adK := fun i => cy (20 + i)) (i := k1) hE.1.2.2.2.2.1 hk1 G.2.2) rfl hl.1 rfl (Nat.le_of_ble_eq_true rfl) dX7_isWord_30 ⟨Nat.zero_le _, Nat.zero_le _⟩ (fun U locs G => ?_)
    refine lv_icmp_ge (tgt := 63) hx hb dX7_isWord_33 (by decide) (fun c3 => ?_) (fun c3 => ?_)
    · have H := if_t H c3
      refine lv_iconst (v := 1) hx hb dX7_isWord_63 (by decide) ?_
      obtain rfl := Option.some.inj H
      exact ret_z C G rfl rfl dX7_isWord_64
    · have H := if_f H c3
      refine lv_aload_n hx hb dX7_isWord_36 rfl (lv_at hl 0 rfl) ?_
      refine va_get (D := D) (ci := 7) (v := .ref (aAd 1)) (C := RX7) (T := TX7) (N := 7) hx hb hts hiX7 hown hK G.1 0 rfl rfl 0 (by decide) lk0 (fun _ h9 => h9) rfl dX7_isWord_37 ?_
      refine lv_aload_n hx hb dX7_isWord_40 rfl (lv_at hl 0 rfl) ?_
      refine va_get (D := D) (ci := 7) (v := .int a_stt) (C := RX7) (T := TX7) (N := 7) hx hb hts hiX7 hown hK G.1 0 rfl rfl 3 (by decide) lk1 (fun _ h9 => h9) rfl dX7_isWord_41 ?_
      refine lv_iload_n hx hb dX7_isWord_44 rfl (lv_at hl 2 rfl) ?_
      refine lv_iadd hx hb dX7_isWord_45 ?_
      obtain ⟨hb4, H⟩ := gd_some H
      refine g_bald (v := a_byt (ix (a_stt + x2))) hx hb hK G.1 1 0 rfl rfl hb4 rfl dX7_isWord_46 ?_
      refine lv_aload_n hx hb dX7_isWord_47 rfl (lv_at hl 1 rfl) ?_
      refine lv_iload_n hx hb dX7_isWord_48 rfl (lv_at hl 2 rfl) ?_
      obtain ⟨hb5, H⟩ := gd_some H
      refine MI.callVr (xtc k1 x2) [.int x2] [.int (a_byt (ix (a_stt + x2)))] C G (c_J0_charAt l D cy k1 x2 hk1 hb5) gX7_isWord_J0_charAt_5068e rfl rfl rfl (n := 1) (by decide +kernel) ⟨Nat.le_of_ble_eq_true rfl, Nat.le_of_ble_eq_true rfl⟩ (vk_recv (adK := fun i => cy (20 + i)) (i := k1) hE.1.2.2.2.2.1 hk1 G.2.2) rfl hl.1 rfl (Nat.le_of_ble_eq_true rfl) dX7_isWord_49 ⟨Nat.zero_le _, Nat.zero_le _⟩ (fun U locs G => ?_)
      refine lv_icmp_eq (tgt := 57) hx hb dX7_isWord_52 (by decide) (fun c6 => ?_) (fun c6 => ?_)
      · have H := if_t H c6
        refine lv_iinc (v := x2 + 1) (lv' := [(2, .int (x2 + 1)), (0, .ref (aAd 0)), (1, .ref (cy (20 + k1)))]) hx hb dX7_isWord_57 hl (k := 2) rfl rfl (by decide) rfl (fun ls hl => ?_)
        refine lv_goto (tgt := 28) hx hb dX7_isWord_60 (by decide) ?_
        exact ih (x2 + 1) z H _ _ _ G (lv_sub hl [1, 2, 0] rfl)
      · have H := if_f H c6
        refine lv_iconst (v := 0) hx hb dX7_isWord_55 (by decide) ?_
        obtain rfl := Option.some.inj H
        exact ret_z C G rfl rfl dX7_isWord_56
def f_X7_isWord (a_tok a_stt a_fin : Int32) (a_byt : Nat → Int32) (k1 : Nat) : Option Int32 := if a_tok = 1 then (if (a_fin - a_stt) = (xtl k1) then (f_X7_isWord_L28 a_stt a_byt k1 2000 0) else (some 0)) else (some 0)
set_option maxHeartbeats 4000000 in
set_option maxRecDepth 100000 in
theorem c_X7_isWord (l : Launch) (D : va_G) (cy : Nat → ClassId) (aAd : Nat → Nat) (a_len a_tok a_stt a_fin a_num a_flw : Int32) (a_byt : Nat → Int32) (k1 : Nat) (hk1 : k1 < 7) (z : Int32) (hz : f_X7_isWord a_tok a_stt a_fin a_byt k1 = some z) : MI l yX7_isWord wsX7_isWord ({ frames := 4, cells := 0, slots := 0, locals := 85 } : Room) D cy [.ref (aAd 0), .ref (cy (20 + k1))] (w_Tape cy aAd a_len a_tok a_stt a_fin a_num a_flw a_byt) z (w_Tape cy aAd a_len a_tok a_stt a_fin a_num a_flw a_byt) := by
  refine met_start (Qf := fun A => MQi D cy z (w_Tape cy aAd a_len a_tok a_stt a_fin a_num a_flw a_byt) A) (cc := cX7_isWord) (nL := 3) (ret := (some .boolean)) RX7 rfl (by decide) rfl (Nat.le_of_ble_eq_true rfl) ?_
  intro p e s m below meth c A ls C G hl
  have hl : lv_has ls 3 [(0, .ref (aAd 0)), (1, .ref (cy (20 + k1)))] := hl
  have H := hz
  unfold f_X7_isWord at H
  obtain ⟨hx, hb, hr, hml, hown, hts, hlk, hK, hA, hE⟩ := id C
  have lk0 := hts (Cond.fieldLink RX7 37 "TideDebts$Tape" "token" "I") (List.mem_of_getElem? (i := 1) rfl)
  have lk1 := hts (Cond.fieldLink RX7 19 "TideDebts$Tape" "end" "I") (List.mem_of_getElem? (i := 2) rfl)
  have lk2 := hts (Cond.fieldLink RX7 94 "TideDebts$Tape" "start" "I") (List.mem_of_getElem? (i := 3) rfl)
  have hiX7 : ∀ w ∈ u_ws RX7 TX7 7, w ∈ wsX7_isWord := fun _ h => List.mem_cons_of_mem _ (List.mem_append_right _ h)
  refine lv_aload_n hx hb dX7_isWord_0 rfl (lv_at hl 0 rfl) ?_
  refine va_get (D := D) (ci := 7) (v := .int a_tok) (C := RX7) (T := TX7) (N := 7) hx hb hts hiX7 hown hK G.1 0 rfl rfl 2 (by decide) lk0 (fun _ h9 => h9) rfl dX7_isWord_1 ?_
  refine lv_iconst (v := 1) hx hb dX7_isWord_4 (by decide) ?_
  refine lv_icmp_ne (tgt := 24) hx hb dX7_isWord_5 (by decide) (fun c1 => ?_) (fun c1 => ?_)
  · have H := if_f H c1
    refine lv_iconst (v := 0) hx hb dX7_isWord_24 (by decide) ?_
    obtain rfl := Option.some.inj H
    exact ret_z C G rfl rfl dX7_isWord_25
  · have H := if_t H c1
    refine lv_aload_n hx hb dX7_isWord_8 rfl (lv_at hl 0 rfl) ?_
    refine va_get (D := D) (ci := 7) (v := .int a_fin) (C := RX7) (T := TX7) (N := 7) hx hb hts hiX7 hown hK G.1 0 rfl rfl 4 (by decide) lk1 (fun _ h9 => h9) rfl dX7_isWord_9 ?_
    refine lv_aload_n hx hb dX7_isWord_12 rfl (lv_at hl 0 rfl) ?_
    refine va_get (D := D) (ci := 7) (v := .int a_stt) (C := RX7) (T := TX7) (N := 7) hx hb hts hiX7 hown hK G.1 0 rfl rfl 3 (by decide) lk2 (fun _ h9 => h9) rfl dX7_isWord_13 ?_
    refine lv_isub hx hb dX7_isWord_16 ?_
    refine lv_aload_n hx hb dX7_isWord_17 rfl (lv_at hl 1 rfl) ?_
    refine MI.callVr (xtl k1) [] [.int (a_fin - a_stt)] C G (c_J0_length l D cy k1 hk1) gX7_isWord_J0_length_8abf5 rfl rfl rfl (n := 0) (by decide +kernel) ⟨Nat.le_of_ble_eq_true rfl, Nat.le_of_ble_eq_true rfl⟩ (vk_recv (adK := fun i => cy (20 + i)) (i := k1) hE.1.2.2.2.2.1 hk1 G.2.2) rfl hl.1 rfl (Nat.le_of_ble_eq_true rfl) dX7_isWord_18 ⟨Nat.zero_le _, Nat.zero_le _⟩ (fun U locs G => ?_)
    refine lv_icmp_eq (tgt := 26) hx hb dX7_isWord_21 (by decide) (fun c2 => ?_) (fun c2 => ?_)
    · have H := if_t H c2
      refine lv_iconst (v := 0) hx hb dX7_isWord_26 (by decide) ?_
      refine lv_istore_n (lv' := [(2, .int 0), (0, .ref (aAd 0)), (1, .ref (cy (20 + k1)))]) hx hb dX7_isWord_27 rfl hl (by decide) rfl (fun ls hl => ?_)
      exact wl_X7_isWord_28 C aAd a_len a_tok a_stt a_fin a_num a_flw a_byt k1 hk1 _ 0 z H _ _ _ G (lv_sub hl [1, 2, 0] rfl)
    · have H := if_f H c2
      refine lv_iconst (v := 0) hx hb dX7_isWord_24 (by decide) ?_
      obtain rfl := Option.some.inj H
      exact ret_z C G rfl rfl dX7_isWord_25
def f_X7_sortOfWord (a_tok a_stt a_fin : Int32) (a_byt : Nat → Int32) : Option Int32 := bd (f_X7_isWord a_tok a_stt a_fin a_byt 2) (fun z1 => if z1 = 0 then (bd (f_X7_isWord a_tok a_stt a_fin a_byt 3) (fun z3 => if z3 = 0 then (bd (f_X7_isWord a_tok a_stt a_fin a_byt 4) (fun z5 => if z5 = 0 then (bd (f_X7_isWord a_tok a_stt a_fin a_byt 5) (fun z7 => if z7 = 0 then (bd (f_X7_isWord a_tok a_stt a_fin a_byt 6) (fun z9 => if z9 = 0 then (some 0) else (some 5))) else (some 4))) else (some 3))) else (some 2))) else (some 1))
set_option maxHeartbeats 4000000 in
set_option maxRecDepth 100000 in
theorem c_X7_sortOfWord (l : Launch) (D : va_G) (cy : Nat → ClassId) (aAd : Nat → Nat) (a_len a_tok a_stt a_fin a_num a_flw : Int32) (a_byt : Nat → Int32) (z : Int32) (hz : f_X7_sortOfWord a_tok a_stt a_fin a_byt = some z) : MI l yX7_sortOfWord wsX7_sortOfWord ({ frames := 5, cells := 0, slots := 0, locals := 107 } : Room) D cy [.ref (aAd 0)] (w_Tape cy aAd a_len a_tok a_stt a_fin a_num a_flw a_byt) z (w_Tape cy aAd a_len a_tok a_stt a_fin a_num a_flw a_byt) := by
  refine met_start (Qf := fun A => MQi D cy z (w_Tape cy aAd a_len a_tok a_stt a_fin a_num a_flw a_byt) A) (cc := cX7_sortOfWord) (nL := 1) (ret := (some .int)) RX7 rfl (by decide) rfl (Nat.le_of_ble_eq_true rfl) ?_
  intro p e s m below meth c A ls C G hl
  have hl : lv_has ls 1 [(0, .ref (aAd 0))] := hl
  have H := hz
  unfold f_X7_sortOfWord at H
  obtain ⟨hx, hb, hr, hml, hown, hts, hlk, hK, hA, hE⟩ := id C
  refine lv_aload_n hx hb dX7_sortOfWord_0 rfl (lv_at hl 0 rfl) ?_
  refine va_ldcS (q := cy 22) hx hb hown hE.2.2.2.1 dX7_sortOfWord_1 ?_
  obtain ⟨z1, hz1, H⟩ := bd_some H
  refine MI.callVw z1 [.ref (cy 22)] [] C G (c_X7_isWord l D cy aAd a_len a_tok a_stt a_fin a_num a_flw a_byt 2 (by decide) z1 hz1) gX7_sortOfWord_X7_isWord rfl rfl rfl (n := 1) (by decide +kernel) ⟨Nat.le_of_ble_eq_true rfl, Nat.le_of_ble_eq_true rfl⟩ (q0 := 0) (ci := 7) rfl rfl rfl rfl hl.1 rfl (Nat.le_of_ble_eq_true rfl) dX7_sortOfWord_3 ⟨Nat.zero_le _, Nat.zero_le _⟩ (fun U locs G => ?_)
  have G : Gd D A s (w_Tape cy aAd a_len a_tok a_stt a_fin a_num a_flw a_byt) U locs := G
  refine lv_if_eq (tgt := 11) hx hb dX7_sortOfWord_6 (by decide) (fun c2 => ?_) (fun c2 => ?_)
  · have H := if_t H c2
    refine lv_aload_n hx hb dX7_sortOfWord_11 rfl (lv_at hl 0 rfl) ?_
    refine va_ldcS (q := cy 23) hx hb hown hE.2.2.2.2.1 dX7_sortOfWord_12 ?_
    obtain ⟨z3, hz3, H⟩ := bd_some H
    refine MI.callVw z3 [.ref (cy 23)] [] C G (c_X7_isWord l D cy aAd a_len a_tok a_stt a_fin a_num a_flw a_byt 3 (by decide) z3 hz3) gX7_sortOfWord_X7_isWord rfl rfl rfl (n := 1) (by decide +kernel) ⟨Nat.le_of_ble_eq_true rfl, Nat.le_of_ble_eq_true rfl⟩ (q0 := 0) (ci := 7) rfl rfl rfl rfl hl.1 rfl (Nat.le_of_ble_eq_true rfl) dX7_sortOfWord_14 ⟨Nat.zero_le _, Nat.zero_le _⟩ (fun U locs G => ?_)
    have G : Gd D A s (w_Tape cy aAd a_len a_tok a_stt a_fin a_num a_flw a_byt) U locs := G
    refine lv_if_eq (tgt := 22) hx hb dX7_sortOfWord_17 (by decide) (fun c4 => ?_) (fun c4 => ?_)
    · have H := if_t H c4
      refine lv_aload_n hx hb dX7_sortOfWord_22 rfl (lv_at hl 0 rfl) ?_
      refine va_ldcS (q := cy 24) hx hb hown hE.2.2.2.2.2.1 dX7_sortOfWord_23 ?_
      obtain ⟨z5, hz5, H⟩ := bd_some H
      refine MI.callVw z5 [.ref (cy 24)] [] C G (c_X7_isWord l D cy aAd a_len a_tok a_stt a_fin a_num a_flw a_byt 4 (by decide) z5 hz5) gX7_sortOfWord_X7_isWord rfl rfl rfl (n := 1) (by decide +kernel) ⟨Nat.le_of_ble_eq_true rfl, Nat.le_of_ble_eq_true rfl⟩ (q0 := 0) (ci := 7) rfl rfl rfl rfl hl.1 rfl (Nat.le_of_ble_eq_true rfl) dX7_sortOfWord_25 ⟨Nat.zero_le _, Nat.zero_le _⟩ (fun U locs G => ?_)
      have G : Gd D A s (w_Tape cy aAd a_len a_tok a_stt a_fin a_num a_flw a_byt) U locs := G
      refine lv_if_eq (tgt := 33) hx hb dX7_sortOfWord_28 (by decide) (fun c6 => ?_) (fun c6 => ?_)
      · have H := if_t H c6
        refine lv_aload_n hx hb dX7_sortOfWord_33 rfl (lv_at hl 0 rfl) ?_
        refine va_ldcS (q := cy 25) hx hb hown hE.2.2.2.2.2.2.1 dX7_sortOfWord_34 ?_
        obtain ⟨z7, hz7, H⟩ := bd_some H
        refine MI.callVw z7 [.ref (cy 25)] [] C G (c_X7_isWord l D cy aAd a_len a_tok a_stt a_fin a_num a_flw a_byt 5 (by decide) z7 hz7) gX7_sortOfWord_X7_isWord rfl rfl rfl (n := 1) (by decide +kernel) ⟨Nat.le_of_ble_eq_true rfl, Nat.le_of_ble_eq_true rfl⟩ (q0 := 0) (ci := 7) rfl rfl rfl rfl hl.1 rfl (Nat.le_of_ble_eq_true rfl) dX7_sortOfWord_36 ⟨Nat.zero_le _, Nat.zero_le _⟩ (fun U locs G => ?_)
        have G : Gd D A s (w_Tape cy aAd a_len a_tok a_stt a_fin a_num a_flw a_byt) U locs := G
        refine lv_if_eq (tgt := 44) hx hb dX7_sortOfWord_39 (by decide) (fun c8 => ?_) (fun c8 => ?_)
        · have H := if_t H c8
          refine lv_aload_n hx hb dX7_sortOfWord_44 rfl (lv_at hl 0 rfl) ?_
          refine va_ldcS (q := cy 26) hx hb hown hE.2.2.2.2.2.2.2 dX7_sortOfWord_45 ?_
          obtain ⟨z9, hz9, H⟩ := bd_some H
          refine MI.callVw z9 [.ref (cy 26)] [] C G (c_X7_isWord l D cy aAd a_len a_tok a_stt a_fin a_num a_flw a_byt 6 (by decide) z9 hz9) gX7_sortOfWord_X7_isWord rfl rfl rfl (n := 1) (by decide +kernel) ⟨Nat.le_of_ble_eq_true rfl, Nat.le_of_ble_eq_true rfl⟩ (q0 := 0) (ci := 7) rfl rfl rfl rfl hl.1 rfl (Nat.le_of_ble_eq_true rfl) dX7_sortOfWord_47 ⟨Nat.zero_le _, Nat.zero_le _⟩ (fun U locs G => ?_)
          have G : Gd D A s (w_Tape cy aAd a_len a_tok a_stt a_fin a_num a_flw a_byt) U locs := G
          refine lv_if_eq (tgt := 57) hx hb dX7_sortOfWord_50 (by decide) (fun c10 => ?_) (fun c10 => ?_)
          · have H := if_t H c10
            refine lv_iconst (v := 0) hx hb dX7_sortOfWord_57 (by decide) ?_
            obtain rfl := Option.some.inj H
            exact ret_i C G rfl dX7_sortOfWord_58
          · have H := if_f H c10
            refine lv_iconst (v := 5) hx hb dX7_sortOfWord_53 (by decide) ?_
            refine lv_goto (tgt := 58) hx hb dX7_sortOfWord_54 (by decide) ?_
            obtain rfl := Option.some.inj H
            exact ret_i C G rfl dX7_sortOfWord_58
        · have H := if_f H c8
          refine lv_iconst (v := 4) hx hb dX7_sortOfWord_42 (by decide) ?_
          obtain rfl := Option.some.inj H
          exact ret_i C G rfl dX7_sortOfWord_43
      · have H := if_f H c6
        refine lv_iconst (v := 3) hx hb dX7_sortOfWord_31 (by decide) ?_
        obtain rfl := Option.some.inj H
        exact ret_i C G rfl dX7_sortOfWord_32
    · have H := if_f H c4
      refine lv_iconst (v := 2) hx hb dX7_sortOfWord_20 (by decide) ?_
      obtain rfl := Option.some.inj H
      exact ret_i C G rfl dX7_sortOfWord_21
  · have H := if_f H c2
    refine lv_iconst (v := 1) hx hb dX7_sortOfWord_9 (by decide) ?_
    obtain rfl := Option.some.inj H
    exact ret_i C G rfl dX7_sortOfWord_10
def f_X7_takeIf (a_len a_tok a_stt a_fin a_num a_flw : Int32) (a_byt : Nat → Int32) (p1 : Int32) : Option (Int32 × Int32 × Int32 × Int32 × Int32) := if a_flw = 0 then (if p1 = 0 then (some (a_tok, a_stt, a_fin, a_num, 1)) else (bd (f_X7_step a_len a_tok a_stt a_fin a_num a_byt) (fun z3 => some (z3.1, z3.2.1, z3.2.2.1, z3.2.2.2, a_flw)))) else (some (a_tok, a_stt, a_fin, a_num, a_flw))
set_option maxHeartbeats 4000000 in
set_option maxRecDepth 100000 in
theorem c_X7_takeIf (l : Launch) (D : va_G) (cy : Nat → ClassId) (aAd : Nat → Nat) (a_len a_tok a_stt a_fin a_num a_flw : Int32) (a_byt : Nat → Int32) (p1 : Int32) (z : (Int32 × Int32 × Int32 × Int32 × Int32)) (hz : f_X7_takeIf a_len a_tok a_stt a_fin a_num a_flw a_byt p1 = some z) : MV l yX7_takeIf wsX7_takeIf ({ frames := 3, cells := 0, slots := 0, locals := 60 } : Room) D cy [.ref (aAd 0), .int p1] (w_Tape cy aAd a_len a_tok a_stt a_fin a_num a_flw a_byt) (w_Tape cy aAd a_len z.1 z.2.1 z.2.2.1 z.2.2.2.1 z.2.2.2.2 a_byt) := by
  refine met_start (Qf := fun A => MQv D cy (w_Tape cy aAd a_len z.1 z.2.1 z.2.2.1 z.2.2.2.1 z.2.2.2.2 a_byt) A) (cc := cX7_takeIf) (nL := 2) (ret := none) RX7 rfl (by decide) rfl (Nat.le_of_ble_eq_true rfl) ?_
  intro p e s m below meth c A ls C G hl
  have hl : lv_has ls 2 [(0, .ref (aAd 0)), (1, .int p1)] := hl
  have H := hz
  unfold f_X7_takeIf at H
  obtain ⟨hx, hb, hr, hml, hown, hts, hlk, hK, hA, hE⟩ := id C
  have lk0 := hts (Cond.fieldLink RX7 22 "TideDebts$Tape" "flaw" "I") (List.mem_of_getElem? (i := 1) rfl)
  have hiX7 : ∀ w ∈ u_ws RX7 TX7 7, w ∈ wsX7_takeIf := fun _ h => List.mem_cons_of_mem _ (List.mem_append_right _ h)
  refine lv_aload_n hx hb dX7_takeIf_0 rfl (lv_at hl 0 rfl) ?_
  refine va_get (D := D) (ci := 7) (v := .int a_flw) (C := RX7) (T := TX7) (N := 7) hx hb hts hiX7 hown hK G.1 0 rfl rfl 6 (by decide) lk0 (fun _ h9 => h9) rfl dX7_takeIf_1 ?_
  refine lv_if_eq (tgt := 8) hx hb dX7_takeIf_4 (by decide) (fun c1 => ?_) (fun c1 => ?_)
  · have H := if_t H c1
    refine lv_iload_n hx hb dX7_takeIf_8 rfl (lv_at hl 1 rfl) ?_
    refine lv_if_eq (tgt := 19) hx hb dX7_takeIf_9 (by decide) (fun c2 => ?_) (fun c2 => ?_)
    · have H := if_t H c2
      refine lv_aload_n hx hb dX7_takeIf_19 rfl (lv_at hl 0 rfl) ?_
      refine lv_iconst (v := 1) hx hb dX7_takeIf_20 (by decide) ?_
      refine va_put (D := D) (ci := 7) (v := .int 1) (ty := .int) (C := RX7) (T := TX7) (N := 7) hx hb hts hiX7 tyX7 tyX7_ok nmX7 hown hK G.1 G.2.1 G.2.2 0 rfl rfl 6 (by decide) lk0 (fun _ h9 => h9) rfl (tyX7_ok 6 (by decide)) rfl rfl (Nat.le_of_ble_eq_true rfl) dX7_takeIf_21 (fun U locs hP hD hS => ?_)
      have G : Gd D A s (w_Tape cy aAd a_len a_tok a_stt a_fin a_num 1 a_byt) U locs := ⟨hP, hD, hS⟩
      obtain rfl := Option.some.inj H
      exact ret_v C G dX7_takeIf_24
    · have H := if_f H c2
      refine lv_aload_n hx hb dX7_takeIf_12 rfl (lv_at hl 0 rfl) ?_
      obtain ⟨z3, hz3, H⟩ := bd_some H
      refine MV.callVw [] [] C G (c_X7_step l D cy aAd a_len a_tok a_stt a_fin a_num a_flw a_byt z3 hz3) gX7_takeIf_X7_step rfl rfl rfl (n := 0) (by decide +kernel) ⟨Nat.le_of_ble_eq_true rfl, Nat.le_of_ble_eq_true rfl⟩ (q0 := 0) (ci := 7) rfl rfl rfl rfl hl.1 rfl (Nat.le_of_ble_eq_true rfl) dX7_takeIf_13 ⟨Nat.zero_le _, Nat.zero_le _⟩ (fun U locs G => ?_)
      have G : Gd D A s (w_Tape cy aAd a_len z3.1 z3.2.1 z3.2.2.1 z3.2.2.2 a_flw a_byt) U locs := G
      refine lv_goto (tgt := 24) hx hb dX7_takeIf_16 (by decide) ?_
      obtain rfl := Option.some.inj H
      exact ret_v C G dX7_takeIf_24
  · have H := if_f H c1
    obtain rfl := Option.some.inj H
    exact ret_v C G dX7_takeIf_7
def f_X7_takeWord (a_len a_tok a_stt a_fin a_num a_flw : Int32) (a_byt : Nat → Int32) (k1 : Nat) : Option (Int32 × Int32 × Int32 × Int32 × Int32) := bd (f_X7_isWord a_tok a_stt a_fin a_byt k1) (fun z1 => bd (f_X7_takeIf a_len a_tok a_stt a_fin a_num a_flw a_byt z1) (fun z2 => some (z2.1, z2.2.1, z2.2.2.1, z2.2.2.2.1, z2.2.2.2.2)))
set_option maxHeartbeats 4000000 in
set_option maxRecDepth 100000 in
theorem c_X7_takeWord (l : Launch) (D : va_G) (cy : Nat → ClassId) (aAd : Nat → Nat) (a_len a_tok a_stt a_fin a_num a_flw : Int32) (a_byt : Nat → Int32) (k1 : Nat) (hk1 : k1 < 7) (z : (Int32 × Int32 × Int32 × Int32 × Int32)) (hz : f_X7_takeWord a_len a_tok a_stt a_fin a_num a_flw a_byt k1 = some z) : MV l yX7_takeWord wsX7_takeWord ({ frames := 5, cells := 0, slots := 0, locals := 107 } : Room) D cy [.ref (aAd 0), .ref (cy (20 + k1))] (w_Tape cy aAd a_len a_tok a_stt a_fin a_num a_flw a_byt) (w_Tape cy aAd a_len z.1 z.2.1 z.2.2.1 z.2.2.2.1 z.2.2.2.2 a_byt) := by
  refine met_start (Qf := fun A => MQv D cy (w_Tape cy aAd a_len z.1 z.2.1 z.2.2.1 z.2.2.2.1 z.2.2.2.2 a_byt) A) (cc := cX7_takeWord) (nL := 2) (ret := none) RX7 rfl (by decide) rfl (Nat.le_of_ble_eq_true rfl) ?_
  intro p e s m below meth c A ls C G hl
  have hl : lv_has ls 2 [(0, .ref (aAd 0)), (1, .ref (cy (20 + k1)))] := hl
  have H := hz
  unfold f_X7_takeWord at H
  obtain ⟨hx, hb, hr, hml, hown, hts, hlk, hK, hA, hE⟩ := id C
  refine lv_aload_n hx hb dX7_takeWord_0 rfl (lv_at hl 0 rfl) ?_
  refine lv_aload_n hx hb dX7_takeWord_1 rfl (lv_at hl 0 rfl) ?_
  refine lv_aload_n hx hb dX7_takeWord_2 rfl (lv_at hl 1 rfl) ?_
  obtain ⟨z1, hz1, H⟩ := bd_some H
  refine MI.callVw z1 [.ref (cy (20 + k1))] [.ref (aAd 0)] C G (c_X7_isWord l D cy aAd a_len a_tok a_stt a_fin a_num a_flw a_byt k1 hk1 z1 hz1) gX7_takeWord_X7_isWord rfl rfl rfl (n := 1) (by decide +kernel) ⟨Nat.le_of_ble_eq_true rfl, Nat.le_of_ble_eq_true rfl⟩ (q0 := 0) (ci := 7) rfl rfl rfl rfl hl.1 rfl (Nat.le_of_ble_eq_true rfl) dX7_takeWord_3 ⟨Nat.zero_le _, Nat.zero_le _⟩ (fun U locs G => ?_)
  have G : Gd D A s (w_Tape cy aAd a_len a_tok a_stt a_fin a_num a_flw a_byt) U locs := G
  obtain ⟨z2, hz2, H⟩ := bd_some H
  refine MV.callVw [.int z1] [] C G (c_X7_takeIf l D cy aAd a_len a_tok a_stt a_fin a_num a_flw a_byt z1 z2 hz2) gX7_takeWord_X7_takeIf rfl rfl rfl (n := 1) (by decide +kernel) ⟨Nat.le_of_ble_eq_true rfl, Nat.le_of_ble_eq_true rfl⟩ (q0 := 0) (ci := 7) rfl rfl rfl rfl hl.1 rfl (Nat.le_of_ble_eq_true rfl) dX7_takeWord_6 ⟨Nat.zero_le _, Nat.zero_le _⟩ (fun U locs G => ?_)
  have G : Gd D A s (w_Tape cy aAd a_len z2.1 z2.2.1 z2.2.2.1 z2.2.2.2.1 z2.2.2.2.2 a_byt) U locs := G
  obtain rfl := Option.some.inj H
  exact ret_v C G dX7_takeWord_9
def f_X7_takeSign (a_len a_tok a_stt a_fin a_num a_flw : Int32) (a_byt : Nat → Int32) : Option (Int32 × Int32 × Int32 × Int32 × Int32) := if a_tok = 3 then (bd (f_X7_takeIf a_len a_tok a_stt a_fin a_num a_flw a_byt 1) (fun z3 => some (z3.1, z3.2.1, z3.2.2.1, z3.2.2.2.1, z3.2.2.2.2))) else (bd (f_X7_takeIf a_len a_tok a_stt a_fin a_num a_flw a_byt 0) (fun z2 => some (z2.1, z2.2.1, z2.2.2.1, z2.2.2.2.1, z2.2.2.2.2)))
set_option maxHeartbeats 4000000 in
set_option maxRecDepth 100000 in
theorem c_X7_takeSign (l : Launch) (D : va_G) (cy : Nat → ClassId) (aAd : Nat → Nat) (a_len a_tok a_stt a_fin a_num a_flw : Int32) (a_byt : Nat → Int32) (z : (Int32 × Int32 × Int32 × Int32 × Int32)) (hz : f_X7_takeSign a_len a_tok a_stt a_fin a_num a_flw a_byt = some z) : MV l yX7_takeSign wsX7_takeSign ({ frames := 4, cells := 0, slots := 0, locals := 81 } : Room) D cy [.ref (aAd 0)] (w_Tape cy aAd a_len a_tok a_stt a_fin a_num a_flw a_byt) (w_Tape cy aAd a_len z.1 z.2.1 z.2.2.1 z.2.2.2.1 z.2.2.2.2 a_byt) := by
  refine met_start (Qf := fun A => MQv D cy (w_Tape cy aAd a_len z.1 z.2.1 z.2.2.1 z.2.2.2.1 z.2.2.2.2 a_byt) A) (cc := cX7_takeSign) (nL := 1) (ret := none) RX7 rfl (by decide) rfl (Nat.le_of_ble_eq_true rfl) ?_
  intro p e s m below meth c A ls C G hl
  have hl : lv_has ls 1 [(0, .ref (aAd 0))] := hl
  have H := hz
  unfold f_X7_takeSign at H
  obtain ⟨hx, hb, hr, hml, hown, hts, hlk, hK, hA, hE⟩ := id C
  have lk0 := hts (Cond.fieldLink RX7 37 "TideDebts$Tape" "token" "I") (List.mem_of_getElem? (i := 1) rfl)
  have hiX7 : ∀ w ∈ u_ws RX7 TX7 7, w ∈ wsX7_takeSign := fun _ h => List.mem_cons_of_mem _ (List.mem_append_right _ h)
  refine lv_aload_n hx hb dX7_takeSign_0 rfl (lv_at hl 0 rfl) ?_
  refine lv_aload_n hx hb dX7_takeSign_1 rfl (lv_at hl 0 rfl) ?_
  refine va_get (D := D) (ci := 7) (v := .int a_tok) (C := RX7) (T := TX7) (N := 7) hx hb hts hiX7 hown hK G.1 0 rfl rfl 2 (by decide) lk0 (fun _ h9 => h9) rfl dX7_takeSign_2 ?_
  refine lv_iconst (v := 3) hx hb dX7_takeSign_5 (by decide) ?_
  refine lv_icmp_ne (tgt := 13) hx hb dX7_takeSign_6 (by decide) (fun c1 => ?_) (fun c1 => ?_)
  · have H := if_f H c1
    refine lv_iconst (v := 0) hx hb dX7_takeSign_13 (by decide) ?_
    obtain ⟨z2, hz2, H⟩ := bd_some H
    refine MV.callVw [.int 0] [] C G (c_X7_takeIf l D cy aAd a_len a_tok a_stt a_fin a_num a_flw a_byt 0 z2 hz2) gX7_takeSign_X7_takeIf rfl rfl rfl (n := 1) (by decide +kernel) ⟨Nat.le_of_ble_eq_true rfl, Nat.le_of_ble_eq_true rfl⟩ (q0 := 0) (ci := 7) rfl rfl rfl rfl hl.1 rfl (Nat.le_of_ble_eq_true rfl) dX7_takeSign_14 ⟨Nat.zero_le _, Nat.zero_le _⟩ (fun U locs G => ?_)
    have G : Gd D A s (w_Tape cy aAd a_len z2.1 z2.2.1 z2.2.2.1 z2.2.2.2.1 z2.2.2.2.2 a_byt) U locs := G
    obtain rfl := Option.some.inj H
    exact ret_v C G dX7_takeSign_17
  · have H := if_t H c1
    refine lv_iconst (v := 1) hx hb dX7_takeSign_9 (by decide) ?_
    refine lv_goto (tgt := 14) hx hb dX7_takeSign_10 (by decide) ?_
    obtain ⟨z3, hz3, H⟩ := bd_some H
    refine MV.callVw [.int 1] [] C G (c_X7_takeIf l D cy aAd a_len a_tok a_stt a_fin a_num a_flw a_byt 1 z3 hz3) gX7_takeSign_X7_takeIf rfl rfl rfl (n := 1) (by decide +kernel) ⟨Nat.le_of_ble_eq_true rfl, Nat.le_of_ble_eq_true rfl⟩ (q0 := 0) (ci := 7) rfl rfl rfl rfl hl.1 rfl (Nat.le_of_ble_eq_true rfl) dX7_takeSign_14 ⟨Nat.zero_le _, Nat.zero_le _⟩ (fun U locs G => ?_)
    have G : Gd D A s (w_Tape cy aAd a_len z3.1 z3.2.1 z3.2.2.1 z3.2.2.2.1 z3.2.2.2.2 a_byt) U locs := G
    obtain rfl := Option.some.inj H
    exact ret_v C G dX7_takeSign_17
def f_X7_takeNumber (a_len a_tok a_stt a_fin a_num a_flw : Int32) (a_byt : Nat → Int32) (p1 : Int32) : Option (Int32 × Int32 × Int32 × Int32 × Int32 × Int32) := if a_flw = 0 then (if a_tok = 2 then (if a_num ≤ p1 then (if a_tok = 2 then (bd (f_X7_takeIf a_len a_tok a_stt a_fin a_num a_flw a_byt 1) (fun z12 => some (a_num, z12.1, z12.2.1, z12.2.2.1, z12.2.2.2.1, z12.2.2.2.2))) else (bd (f_X7_takeIf a_len a_tok a_stt a_fin a_num a_flw a_byt 0) (fun z11 => some (a_num, z11.1, z11.2.1, z11.2.2.1, z11.2.2.2.1, z11.2.2.2.2)))) else (if a_tok = 2 then (bd (f_X7_takeIf a_len a_tok a_stt a_fin a_num 2 a_byt 1) (fun z15 => some (a_num, z15.1, z15.2.1, z15.2.2.1, z15.2.2.2.1, z15.2.2.2.2))) else (bd (f_X7_takeIf a_len a_tok a_stt a_fin a_num 2 a_byt 0) (fun z14 => some (a_num, z14.1, z14.2.1, z14.2.2.1, z14.2.2.2.1, z14.2.2.2.2))))) else (if a_tok = 2 then (bd (f_X7_takeIf a_len a_tok a_stt a_fin a_num a_flw a_byt 1) (fun z8 => some (a_num, z8.1, z8.2.1, z8.2.2.1, z8.2.2.2.1, z8.2.2.2.2))) else (bd (f_X7_takeIf a_len a_tok a_stt a_fin a_num a_flw a_byt 0) (fun z7 => some (a_num, z7.1, z7.2.1, z7.2.2.1, z7.2.2.2.1, z7.2.2.2.2))))) else (if a_tok = 2 then (bd (f_X7_takeIf a_len a_tok a_stt a_fin a_num a_flw a_byt 1) (fun z4 => some (a_num, z4.1, z4.2.1, z4.2.2.1, z4.2.2.2.1, z4.2.2.2.2))) else (bd (f_X7_takeIf a_len a_tok a_stt a_fin a_num a_flw a_byt 0) (fun z3 => some (a_num, z3.1, z3.2.1, z3.2.2.1, z3.2.2.2.1, z3.2.2.2.2))))
set_option maxHeartbeats 4000000 in
set_option maxRecDepth 100000 in
theorem c_X7_takeNumber (l : Launch) (D : va_G) (cy : Nat → ClassId) (aAd : Nat → Nat) (a_len a_tok a_stt a_fin a_num a_flw : Int32) (a_byt : Nat → Int32) (p1 : Int32) (z : (Int32 × Int32 × Int32 × Int32 × Int32 × Int32)) (hz : f_X7_takeNumber a_len a_tok a_stt a_fin a_num a_flw a_byt p1 = some z) : MI l yX7_takeNumber wsX7_takeNumber ({ frames := 4, cells := 0, slots := 0, locals := 81 } : Room) D cy [.ref (aAd 0), .int p1] (w_Tape cy aAd a_len a_tok a_stt a_fin a_num a_flw a_byt) z.1 (w_Tape cy aAd a_len z.2.1 z.2.2.1 z.2.2.2.1 z.2.2.2.2.1 z.2.2.2.2.2 a_byt) := by
  refine met_start (Qf := fun A => MQi D cy z.1 (w_Tape cy aAd a_len z.2.1 z.2.2.1 z.2.2.2.1 z.2.2.2.2.1 z.2.2.2.2.2 a_byt) A) (cc := cX7_takeNumber) (nL := 3) (ret := (some .int)) RX7 rfl (by decide) rfl (Nat.le_of_ble_eq_true rfl) ?_
  intro p e s m below meth c A ls C G hl
  have hl : lv_has ls 3 [(0, .ref (aAd 0)), (1, .int p1)] := hl
  have H := hz
  unfold f_X7_takeNumber at H
  obtain ⟨hx, hb, hr, hml, hown, hts, hlk, hK, hA, hE⟩ := id C
  have lk0 := hts (Cond.fieldLink RX7 81 "TideDebts$Tape" "number" "I") (List.mem_of_getElem? (i := 1) rfl)
  have lk1 := hts (Cond.fieldLink RX7 22 "TideDebts$Tape" "flaw" "I") (List.mem_of_getElem? (i := 2) rfl)
  have lk2 := hts (Cond.fieldLink RX7 37 "TideDebts$Tape" "token" "I") (List.mem_of_getElem? (i := 3) rfl)
  have hiX7 : ∀ w ∈ u_ws RX7 TX7 7, w ∈ wsX7_takeNumber := fun _ h => List.mem_cons_of_mem _ (List.mem_append_right _ h)
  refine lv_aload_n hx hb dX7_takeNumber_0 rfl (lv_at hl 0 rfl) ?_
  refine va_get (D := D) (ci := 7) (v := .int a_num) (C := RX7) (T := TX7) (N := 7) hx hb hts hiX7 hown hK G.1 0 rfl rfl 5 (by decide) lk0 (fun _ h9 => h9) rfl dX7_takeNumber_1 ?_
  refine lv_istore_n (lv' := [(2, .int a_num), (0, .ref (aAd 0)), (1, .int p1)]) hx hb dX7_takeNumber_4 rfl hl (by decide) rfl (fun ls hl => ?_)
  refine lv_aload_n hx hb dX7_takeNumber_5 rfl (lv_at hl 1 rfl) ?_
  refine va_get (D := D) (ci := 7) (v := .int a_flw) (C := RX7) (T := TX7) (N := 7) hx hb hts hiX7 hown hK G.1 0 rfl rfl 6 (by decide) lk1 (fun _ h9 => h9) rfl dX7_takeNumber_6 ?_
  refine lv_if_ne (tgt := 30) hx hb dX7_takeNumber_9 (by decide) (fun c1 => ?_) (fun c1 => ?_)
  · have H := if_f H c1
    refine lv_aload_n hx hb dX7_takeNumber_30 rfl (lv_at hl 1 rfl) ?_
    refine lv_aload_n hx hb dX7_takeNumber_31 rfl (lv_at hl 1 rfl) ?_
    refine va_get (D := D) (ci := 7) (v := .int a_tok) (C := RX7) (T := TX7) (N := 7) hx hb hts hiX7 hown hK G.1 0 rfl rfl 2 (by decide) lk2 (fun _ h9 => h9) rfl dX7_takeNumber_32 ?_
    refine lv_iconst (v := 2) hx hb dX7_takeNumber_35 (by decide) ?_
    refine lv_icmp_ne (tgt := 43) hx hb dX7_takeNumber_36 (by decide) (fun c2 => ?_) (fun c2 => ?_)
    · have H := if_f H c2
      refine lv_iconst (v := 0) hx hb dX7_takeNumber_43 (by decide) ?_
      obtain ⟨z3, hz3, H⟩ := bd_some H
      refine MV.callVw [.int 0] [] C G (c_X7_takeIf l D cy aAd a_len a_tok a_stt a_fin a_num a_flw a_byt 0 z3 hz3) gX7_takeNumber_X7_takeIf rfl rfl rfl (n := 1) (by decide +kernel) ⟨Nat.le_of_ble_eq_true rfl, Nat.le_of_ble_eq_true rfl⟩ (q0 := 0) (ci := 7) rfl rfl rfl rfl hl.1 rfl (Nat.le_of_ble_eq_true rfl) dX7_takeNumber_44 ⟨Nat.zero_le _, Nat.zero_le _⟩ (fun U locs G => ?_)
      have G : Gd D A s (w_Tape cy aAd a_len z3.1 z3.2.1 z3.2.2.1 z3.2.2.2.1 z3.2.2.2.2 a_byt) U locs := G
      refine lv_iload_n hx hb dX7_takeNumber_47 rfl (lv_at hl 0 rfl) ?_
      obtain rfl := Option.some.inj H
      exact ret_i C G rfl dX7_takeNumber_48
    · have H := if_t H c2
      refine lv_iconst (v := 1) hx hb dX7_takeNumber_39 (by decide) ?_
      refine lv_goto (tgt := 44) hx hb dX7_takeNumber_40 (by decide) ?_
      obtain ⟨z4, hz4, H⟩ := bd_some H
      refine MV.callVw [.int 1] [] C G (c_X7_takeIf l D cy aAd a_len a_tok a_stt a_fin a_num a_flw a_byt 1 z4 hz4) gX7_takeNumber_X7_takeIf rfl rfl rfl (n := 1) (by decide +kernel) ⟨Nat.le_of_ble_eq_true rfl, Nat.le_of_ble_eq_true rfl⟩ (q0 := 0) (ci := 7) rfl rfl rfl rfl hl.1 rfl (Nat.le_of_ble_eq_true rfl) dX7_takeNumber_44 ⟨Nat.zero_le _, Nat.zero_le _⟩ (fun U locs G => ?_)
      have G : Gd D A s (w_Tape cy aAd a_len z4.1 z4.2.1 z4.2.2.1 z4.2.2.2.1 z4.2.2.2.2 a_byt) U locs := G
      refine lv_iload_n hx hb dX7_takeNumber_47 rfl (lv_at hl 0 rfl) ?_
      obtain rfl := Option.some.inj H
      exact ret_i C G rfl dX7_takeNumber_48
  · have H := if_t H c1
    refine lv_aload_n hx hb dX7_takeNumber_12 rfl (lv_at hl 1 rfl) ?_
    refine va_get (D := D) (ci := 7) (v := .int a_tok) (C := RX7) (T := TX7) (N := 7) hx hb hts hiX7 hown hK G.1 0 rfl rfl 2 (by decide) lk2 (fun _ h9 => h9) rfl dX7_takeNumber_13 ?_
    refine lv_iconst (v := 2) hx hb dX7_takeNumber_16 (by decide) ?_
    refine lv_icmp_ne (tgt := 30) hx hb dX7_takeNumber_17 (by decide) (fun c5 => ?_) (fun c5 => ?_)
    · have H := if_f H c5
      refine lv_aload_n hx hb dX7_takeNumber_30 rfl (lv_at hl 1 rfl) ?_
      refine lv_aload_n hx hb dX7_takeNumber_31 rfl (lv_at hl 1 rfl) ?_
      refine va_get (D := D) (ci := 7) (v := .int a_tok) (C := RX7) (T := TX7) (N := 7) hx hb hts hiX7 hown hK G.1 0 rfl rfl 2 (by decide) lk2 (fun _ h9 => h9) rfl dX7_takeNumber_32 ?_
      refine lv_iconst (v := 2) hx hb dX7_takeNumber_35 (by decide) ?_
      refine lv_icmp_ne (tgt := 43) hx hb dX7_takeNumber_36 (by decide) (fun c6 => ?_) (fun c6 => ?_)
      · have H := if_f H c6
        refine lv_iconst (v := 0) hx hb dX7_takeNumber_43 (by decide) ?_
        obtain ⟨z7, hz7, H⟩ := bd_some H
        refine MV.callVw [.int 0] [] C G (c_X7_takeIf l D cy aAd a_len a_tok a_stt a_fin a_num a_flw a_byt 0 z7 hz7) gX7_takeNumber_X7_takeIf rfl rfl rfl (n := 1) (by decide +kernel) ⟨Nat.le_of_ble_eq_true rfl, Nat.le_of_ble_eq_true rfl⟩ (q0 := 0) (ci := 7) rfl rfl rfl rfl hl.1 rfl (Nat.le_of_ble_eq_true rfl) dX7_takeNumber_44 ⟨Nat.zero_le _, Nat.zero_le _⟩ (fun U locs G => ?_)
        have G : Gd D A s (w_Tape cy aAd a_len z7.1 z7.2.1 z7.2.2.1 z7.2.2.2.1 z7.2.2.2.2 a_byt) U locs := G
        refine lv_iload_n hx hb dX7_takeNumber_47 rfl (lv_at hl 0 rfl) ?_
        obtain rfl := Option.some.inj H
        exact ret_i C G rfl dX7_takeNumber_48
      · have H := if_t H c6
        refine lv_iconst (v := 1) hx hb dX7_takeNumber_39 (by decide) ?_
        refine lv_goto (tgt := 44) hx hb dX7_takeNumber_40 (by decide) ?_
        obtain ⟨z8, hz8, H⟩ := bd_some H
        refine MV.callVw [.int 1] [] C G (c_X7_takeIf l D cy aAd a_len a_tok a_stt a_fin a_num a_flw a_byt 1 z8 hz8) gX7_takeNumber_X7_takeIf rfl rfl rfl (n := 1) (by decide +kernel) ⟨Nat.le_of_ble_eq_true rfl, Nat.le_of_ble_eq_true rfl⟩ (q0 := 0) (ci := 7) rfl rfl rfl rfl hl.1 rfl (Nat.le_of_ble_eq_true rfl) dX7_takeNumber_44 ⟨Nat.zero_le _, Nat.zero_le _⟩ (fun U locs G => ?_)
        have G : Gd D A s (w_Tape cy aAd a_len z8.1 z8.2.1 z8.2.2.1 z8.2.2.2.1 z8.2.2.2.2 a_byt) U locs := G
        refine lv_iload_n hx hb dX7_takeNumber_47 rfl (lv_at hl 0 rfl) ?_
        obtain rfl := Option.some.inj H
        exact ret_i C G rfl dX7_takeNumber_48
    · have H := if_t H c5
      refine lv_iload_n hx hb dX7_takeNumber_20 rfl (lv_at hl 0 rfl) ?_
      refine lv_iload_n hx hb dX7_takeNumber_21 rfl (lv_at hl 2 rfl) ?_
      refine lv_icmp_le (tgt := 30) hx hb dX7_takeNumber_22 (by decide) (fun c9 => ?_) (fun c9 => ?_)
      · have H := if_t H c9
        refine lv_aload_n hx hb dX7_takeNumber_30 rfl (lv_at hl 1 rfl) ?_
        refine lv_aload_n hx hb dX7_takeNumber_31 rfl (lv_at hl 1 rfl) ?_
        refine va_get (D := D) (ci := 7) (v := .int a_tok) (C := RX7) (T := TX7) (N := 7) hx hb hts hiX7 hown hK G.1 0 rfl rfl 2 (by decide) lk2 (fun _ h9 => h9) rfl dX7_takeNumber_32 ?_
        refine lv_iconst (v := 2) hx hb dX7_takeNumber_35 (by decide) ?_
        refine lv_icmp_ne (tgt := 43) hx hb dX7_takeNumber_36 (by decide) (fun c10 => ?_) (fun c10 => ?_)
        · have H := if_f H c10
          refine lv_iconst (v := 0) hx hb dX7_takeNumber_43 (by decide) ?_
          obtain ⟨z11, hz11, H⟩ := bd_some H
          refine MV.callVw [.int 0] [] C G (c_X7_takeIf l D cy aAd a_len a_tok a_stt a_fin a_num a_flw a_byt 0 z11 hz11) gX7_takeNumber_X7_takeIf rfl rfl rfl (n := 1) (by decide +kernel) ⟨Nat.le_of_ble_eq_true rfl, Nat.le_of_ble_eq_true rfl⟩ (q0 := 0) (ci := 7) rfl rfl rfl rfl hl.1 rfl (Nat.le_of_ble_eq_true rfl) dX7_takeNumber_44 ⟨Nat.zero_le _, Nat.zero_le _⟩ (fun U locs G => ?_)
          have G : Gd D A s (w_Tape cy aAd a_len z11.1 z11.2.1 z11.2.2.1 z11.2.2.2.1 z11.2.2.2.2 a_byt) U locs := G
          refine lv_iload_n hx hb dX7_takeNumber_47 rfl (lv_at hl 0 rfl) ?_
          obtain rfl := Option.some.inj H
          exact ret_i C G rfl dX7_takeNumber_48
        · have H := if_t H c10
          refine lv_iconst (v := 1) hx hb dX7_takeNumber_39 (by decide) ?_
          refine lv_goto (tgt := 44) hx hb dX7_takeNumber_40 (by decide) ?_
          obtain ⟨z12, hz12, H⟩ := bd_some H
          refine MV.callVw [.int 1] [] C G (c_X7_takeIf l D cy aAd a_len a_tok a_stt a_fin a_num a_flw a_byt 1 z12 hz12) gX7_takeNumber_X7_takeIf rfl rfl rfl (n := 1) (by decide +kernel) ⟨Nat.le_of_ble_eq_true rfl, Nat.le_of_ble_eq_true rfl⟩ (q0 := 0) (ci := 7) rfl rfl rfl rfl hl.1 rfl (Nat.le_of_ble_eq_true rfl) dX7_takeNumber_44 ⟨Nat.zero_le _, Nat.zero_le _⟩ (fun U locs G => ?_)
          have G : Gd D A s (w_Tape cy aAd a_len z12.1 z12.2.1 z12.2.2.1 z12.2.2.2.1 z12.2.2.2.2 a_byt) U locs := G
          refine lv_iload_n hx hb dX7_takeNumber_47 rfl (lv_at hl 0 rfl) ?_
          obtain rfl := Option.some.inj H
          exact ret_i C G rfl dX7_takeNumber_48
      · have H := if_f H c9
        refine lv_aload_n hx hb dX7_takeNumber_25 rfl (lv_at hl 1 rfl) ?_
        refine lv_iconst (v := 2) hx hb dX7_takeNumber_26 (by decide) ?_
        refine va_put (D := D) (ci := 7) (v := .int 2) (ty := .int) (C := RX7) (T := TX7) (N := 7) hx hb hts hiX7 tyX7 tyX7_ok nmX7 hown hK G.1 G.2.1 G.2.2 0 rfl rfl 6 (by decide) lk1 (fun _ h9 => h9) rfl (tyX7_ok 6 (by decide)) rfl rfl (Nat.le_of_ble_eq_true rfl) dX7_takeNumber_27 (fun U locs hP hD hS => ?_)
        have G : Gd D A s (w_Tape cy aAd a_len a_tok a_stt a_fin a_num 2 a_byt) U locs := ⟨hP, hD, hS⟩
        refine lv_aload_n hx hb dX7_takeNumber_30 rfl (lv_at hl 1 rfl) ?_
        refine lv_aload_n hx hb dX7_takeNumber_31 rfl (lv_at hl 1 rfl) ?_
        refine va_get (D := D) (ci := 7) (v := .int a_tok) (C := RX7) (T := TX7) (N := 7) hx hb hts hiX7 hown hK G.1 0 rfl rfl 2 (by decide) lk2 (fun _ h9 => h9) rfl dX7_takeNumber_32 ?_
        refine lv_iconst (v := 2) hx hb dX7_takeNumber_35 (by decide) ?_
        refine lv_icmp_ne (tgt := 43) hx hb dX7_takeNumber_36 (by decide) (fun c13 => ?_) (fun c13 => ?_)
        · have H := if_f H c13
          refine lv_iconst (v := 0) hx hb dX7_takeNumber_43 (by decide) ?_
          obtain ⟨z14, hz14, H⟩ := bd_some H
          refine MV.callVw [.int 0] [] C G (c_X7_takeIf l D cy aAd a_len a_tok a_stt a_fin a_num 2 a_byt 0 z14 hz14) gX7_takeNumber_X7_takeIf rfl rfl rfl (n := 1) (by decide +kernel) ⟨Nat.le_of_ble_eq_true rfl, Nat.le_of_ble_eq_true rfl⟩ (q0 := 0) (ci := 7) rfl rfl rfl rfl hl.1 rfl (Nat.le_of_ble_eq_true rfl) dX7_takeNumber_44 ⟨Nat.zero_le _, Nat.zero_le _⟩ (fun U locs G => ?_)
          have G : Gd D A s (w_Tape cy aAd a_len z14.1 z14.2.1 z14.2.2.1 z14.2.2.2.1 z14.2.2.2.2 a_byt) U locs := G
          refine lv_iload_n hx hb dX7_takeNumber_47 rfl (lv_at hl 0 rfl) ?_
          obtain rfl := Option.some.inj H
          exact ret_i C G rfl dX7_takeNumber_48
        · have H := if_t H c13
          refine lv_iconst (v := 1) hx hb dX7_takeNumber_39 (by decide) ?_
          refine lv_goto (tgt := 44) hx hb dX7_takeNumber_40 (by decide) ?_
          obtain ⟨z15, hz15, H⟩ := bd_some H
          refine MV.callVw [.int 1] [] C G (c_X7_takeIf l D cy aAd a_len a_tok a_stt a_fin a_num 2 a_byt 1 z15 hz15) gX7_takeNumber_X7_takeIf rfl rfl rfl (n := 1) (by decide +kernel) ⟨Nat.le_of_ble_eq_true rfl, Nat.le_of_ble_eq_true rfl⟩ (q0 := 0) (ci := 7) rfl rfl rfl rfl hl.1 rfl (Nat.le_of_ble_eq_true rfl) dX7_takeNumber_44 ⟨Nat.zero_le _, Nat.zero_le _⟩ (fun U locs G => ?_)
          have G : Gd D A s (w_Tape cy aAd a_len z15.1 z15.2.1 z15.2.2.1 z15.2.2.2.1 z15.2.2.2.2 a_byt) U locs := G
          refine lv_iload_n hx hb dX7_takeNumber_47 rfl (lv_at hl 0 rfl) ?_
          obtain rfl := Option.some.inj H
          exact ret_i C G rfl dX7_takeNumber_48
def f_X7_takeSort (a_len a_tok a_stt a_fin a_num a_flw : Int32) (a_byt : Nat → Int32) : Option (Int32 × Int32 × Int32 × Int32 × Int32 × Int32) := bd (f_X7_sortOfWord a_tok a_stt a_fin a_byt) (fun z1 => if z1 = 0 then (bd (f_X7_takeIf a_len a_tok a_stt a_fin a_num a_flw a_byt 0) (fun z3 => some (z1, z3.1, z3.2.1, z3.2.2.1, z3.2.2.2.1, z3.2.2.2.2))) else (bd (f_X7_takeIf a_len a_tok a_stt a_fin a_num a_flw a_byt 1) (fun z4 => some (z1, z4.1, z4.2.1, z4.2.2.1, z4.2.2.2.1, z4.2.2.2.2))))
set_option maxHeartbeats 4000000 in
set_option maxRecDepth 100000 in
theorem c_X7_takeSort (l : Launch) (D : va_G) (cy : Nat → ClassId) (aAd : Nat → Nat) (a_len a_tok a_stt a_fin a_num a_flw : Int32) (a_byt : Nat → Int32) (z : (Int32 × Int32 × Int32 × Int32 × Int32 × Int32)) (hz : f_X7_takeSort a_len a_tok a_stt a_fin a_num a_flw a_byt = some z) : MI l yX7_takeSort wsX7_takeSort ({ frames := 6, cells := 0, slots := 0, locals := 127 } : Room) D cy [.ref (aAd 0)] (w_Tape cy aAd a_len a_tok a_stt a_fin a_num a_flw a_byt) z.1 (w_Tape cy aAd a_len z.2.1 z.2.2.1 z.2.2.2.1 z.2.2.2.2.1 z.2.2.2.2.2 a_byt) := by
  refine met_start (Qf := fun A => MQi D cy z.1 (w_Tape cy aAd a_len z.2.1 z.2.2.1 z.2.2.2.1 z.2.2.2.2.1 z.2.2.2.2.2 a_byt) A) (cc := cX7_takeSort) (nL := 2) (ret := (some .int)) RX7 rfl (by decide) rfl (Nat.le_of_ble_eq_true rfl) ?_
  intro p e s m below meth c A ls C G hl
  have hl : lv_has ls 2 [(0, .ref (aAd 0))] := hl
  have H := hz
  unfold f_X7_takeSort at H
  obtain ⟨hx, hb, hr, hml, hown, hts, hlk, hK, hA, hE⟩ := id C
  refine lv_aload_n hx hb dX7_takeSort_0 rfl (lv_at hl 0 rfl) ?_
  obtain ⟨z1, hz1, H⟩ := bd_some H
  refine MI.callVw z1 [] [] C G (c_X7_sortOfWord l D cy aAd a_len a_tok a_stt a_fin a_num a_flw a_byt z1 hz1) gX7_takeSort_X7_sortOfWord rfl rfl rfl (n := 0) (by decide +kernel) ⟨Nat.le_of_ble_eq_true rfl, Nat.le_of_ble_eq_true rfl⟩ (q0 := 0) (ci := 7) rfl rfl rfl rfl hl.1 rfl (Nat.le_of_ble_eq_true rfl) dX7_takeSort_1 ⟨Nat.zero_le _, Nat.zero_le _⟩ (fun U locs G => ?_)
  have G : Gd D A s (w_Tape cy aAd a_len a_tok a_stt a_fin a_num a_flw a_byt) U locs := G
  refine lv_istore_n (lv' := [(1, .int z1), (0, .ref (aAd 0))]) hx hb dX7_takeSort_4 rfl hl (by decide) rfl (fun ls hl => ?_)
  refine lv_aload_n hx hb dX7_takeSort_5 rfl (lv_at hl 1 rfl) ?_
  refine lv_iload_n hx hb dX7_takeSort_6 rfl (lv_at hl 0 rfl) ?_
  refine lv_if_eq (tgt := 14) hx hb dX7_takeSort_7 (by decide) (fun c2 => ?_) (fun c2 => ?_)
  · have H := if_t H c2
    refine lv_iconst (v := 0) hx hb dX7_takeSort_14 (by decide) ?_
    obtain ⟨z3, hz3, H⟩ := bd_some H
    refine MV.callVw [.int 0] [] C G (c_X7_takeIf l D cy aAd a_len a_tok a_stt a_fin a_num a_flw a_byt 0 z3 hz3) gX7_takeSort_X7_takeIf rfl rfl rfl (n := 1) (by decide +kernel) ⟨Nat.le_of_ble_eq_true rfl, Nat.le_of_ble_eq_true rfl⟩ (q0 := 0) (ci := 7) rfl rfl rfl rfl hl.1 rfl (Nat.le_of_ble_eq_true rfl) dX7_takeSort_15 ⟨Nat.zero_le _, Nat.zero_le _⟩ (fun U locs G => ?_)
    have G : Gd D A s (w_Tape cy aAd a_len z3.1 z3.2.1 z3.2.2.1 z3.2.2.2.1 z3.2.2.2.2 a_byt) U locs := G
    refine lv_iload_n hx hb dX7_takeSort_18 rfl (lv_at hl 0 rfl) ?_
    obtain rfl := Option.some.inj H
    exact ret_i C G rfl dX7_takeSort_19
  · have H := if_f H c2
    refine lv_iconst (v := 1) hx hb dX7_takeSort_10 (by decide) ?_
    refine lv_goto (tgt := 15) hx hb dX7_takeSort_11 (by decide) ?_
    obtain ⟨z4, hz4, H⟩ := bd_some H
    refine MV.callVw [.int 1] [] C G (c_X7_takeIf l D cy aAd a_len a_tok a_stt a_fin a_num a_flw a_byt 1 z4 hz4) gX7_takeSort_X7_takeIf rfl rfl rfl (n := 1) (by decide +kernel) ⟨Nat.le_of_ble_eq_true rfl, Nat.le_of_ble_eq_true rfl⟩ (q0 := 0) (ci := 7) rfl rfl rfl rfl hl.1 rfl (Nat.le_of_ble_eq_true rfl) dX7_takeSort_15 ⟨Nat.zero_le _, Nat.zero_le _⟩ (fun U locs G => ?_)
    have G : Gd D A s (w_Tape cy aAd a_len z4.1 z4.2.1 z4.2.2.1 z4.2.2.2.1 z4.2.2.2.2 a_byt) U locs := G
    refine lv_iload_n hx hb dX7_takeSort_18 rfl (lv_at hl 0 rfl) ?_
    obtain rfl := Option.some.inj H
    exact ret_i C G rfl dX7_takeSort_19
def f_X7_readTide_L8 (a_len : Int32) (a_byt : Nat → Int32) : Nat → Int32 → Int32 → Int32 → Int32 → Int32 → (Nat → Int32) → Int32 → Option (Int32 × Int32 × Int32 × Int32 × Int32 × (Nat → Int32))
  | 0, _, _, _, _, _, _, _ => none
  | n + 1, a_tok, a_stt, a_fin, a_num, a_flw, b_lev, x2 => if 12 ≤ x2 then (some (a_tok, a_stt, a_fin, a_num, a_flw, b_lev)) else (bd (f_X7_takeNumber a_len a_tok a_stt a_fin a_num a_flw a_byt 40) (fun z3 => gd (inb x2 12) (f_X7_readTide_L8 a_len a_byt n z3.2.1 z3.2.2.1 z3.2.2.2.1 z3.2.2.2.2.1 z3.2.2.2.2.2 (upd b_lev (ix x2) z3.1) (x2 + 1))))
theorem f_X7_readTide_L8_z (a_len : Int32) (a_byt : Nat → Int32) (a_tok a_stt a_fin a_num a_flw : Int32) (b_lev : Nat → Int32) (x2 : Int32) : f_X7_readTide_L8 a_len a_byt 0 a_tok a_stt a_fin a_num a_flw b_lev x2 = none := rfl
theorem f_X7_readTide_L8_s (a_len : Int32) (a_byt : Nat → Int32) (n : Nat) (a_tok a_stt a_fin a_num a_flw : Int32) (b_lev : Nat → Int32) (x2 : Int32) : f_X7_readTide_L8 a_len a_byt (n + 1) a_tok a_stt a_fin a_num a_flw b_lev x2 = if 12 ≤ x2 then (some (a_tok, a_stt, a_fin, a_num, a_flw, b_lev)) else (bd (f_X7_takeNumber a_len a_tok a_stt a_fin a_num a_flw a_byt 40) (fun z3 => gd (inb x2 12) (f_X7_readTide_L8 a_len a_byt n z3.2.1 z3.2.2.1 z3.2.2.2.1 z3.2.2.2.2.1 z3.2.2.2.2.2 (upd b_lev (ix x2) z3.1) (x2 + 1)))) := rfl
set_option maxHeartbeats 4000000 in
set_option maxRecDepth 100000 in
theorem wl_X7_readTide_8 {p : Program} {l : Launch} {e : Env} {s : State} {m : MethodId} {below : List Frame} {meth : Method} {c : Code} {D : va_G} {cy : Nat → ClassId} {A : Nat → Prop} {args : Array Value} {Q : State → Prop} (C : Cx D cy A p s m meth c cX7_readTide 3 none wsX7_readTide RX7 args) (aAd : Nat → Nat) (bAd : Nat → Nat) (a_len : Int32) (a_byt : Nat → Int32) (b_wat : Int32) (b_kin b_cdp b_sil : Nat → Int32) :
    ∀ (n : Nat) (a_tok a_stt a_fin a_num a_flw : Int32) (b_lev : Nat → Int32) (x2 : Int32) (z : (Int32 × Int32 × Int32 × Int32 × Int32 × (Nat → Int32))), f_X7_readTide_L8 a_len a_byt n a_tok a_stt a_fin a_num a_flw b_lev x2 = some z → (∀ (U : Heap) (locs : List Loc) (ls : Array Slot), Gd D A s (w_Tape cy aAd a_len z.1 z.2.1 z.2.2.1 z.2.2.2.1 z.2.2.2.2.1 a_byt ++ w_Ch cy bAd b_wat z.2.2.2.2.2 b_kin b_cdp b_sil) U locs → lv_has ls 3 [(0, .ref (aAd 0))] → W p l e ({ frames := 6, cells := 0, slots := 0, locals := 128 } : Room) s m args below meth c U locs 0 0 Q (F0 m 32 ls [])) → ∀ (U : Heap) (locs : List Loc) (ls : Array Slot), Gd D A s (w_Tape cy aAd a_len a_tok a_stt a_fin a_num a_flw a_byt ++ w_Ch cy bAd b_wat b_lev b_kin b_cdp b_sil) U locs → lv_has ls 3 [(0, .ref (aAd 0)), (1, .ref (bAd 0)), (2, .int x2)] → W p l e ({ frames := 6, cells := 0, slots := 0, locals := 128 } : Room) s m args below meth c U locs 0 0 Q (F0 m 8 ls []) := by
  obtain ⟨hx, hb, hr, hml, hown, hts, hlk, hK, hA, hE⟩ := id C
  have lk0 := hts (Cond.fieldLink RX7 49 "TideDebts$Chart" "levels" "[I") (List.mem_of_getElem? (i := 1) rfl)
  have hiX2 : ∀ w ∈ u_ws RX2 TX2 5, w ∈ wsX7_readTide := fun _ h => List.mem_cons_of_mem _ (List.mem_append_left _ (List.mem_append_right _ h))
  intro n
  induction n with
  | zero =>
    intro a_tok a_stt a_fin a_num a_flw b_lev x2 z H
    rw [f_X7_readTide_L8_z] at H
    cases H
  | succ n ih =>
    intro a_tok a_stt a_fin a_num a_flw b_lev x2 z H kk U locs ls G hl
    rw [f_X7_readTide_L8_s] at H
    refine lv_iload_n hx hb dX7_readTide_8 rfl (lv_at hl 2 rfl) ?_
    refine lv_bipush (v := 12) hx hb dX7_readTide_9 (by decide) ?_
    refine lv_icmp_ge (tgt := 32) hx hb dX7_readTide_11 (by decide) (fun c2 => ?_) (fun c2 => ?_)
    · have H := if_t H c2
      obtain rfl := Option.some.inj H
      exact kk _ _ _ G (lv_sub hl [0] rfl)
    · have H := if_f H c2
      refine lv_aload_n hx hb dX7_readTide_14 rfl (lv_at hl 1 rfl) ?_
      refine va_get (D := D) (ci := 2) (v := .ref (bAd 1)) (C := RX2) (T := TX2) (N := 5) hx hb hts hiX2 hown hK G.1 2 rfl rfl 0 (by decide) lk0 (fun _ h9 => h9) rfl dX7_readTide_15 ?_
      refine lv_iload_n hx hb dX7_readTide_18 rfl (lv_at hl 2 rfl) ?_
      refine lv_aload_n hx hb dX7_readTide_19 rfl (lv_at hl 0 rfl) ?_
      refine lv_bipush (v := 40) hx hb dX7_readTide_20 (by decide) ?_
      obtain ⟨z3, hz3, H⟩ := bd_some H
      refine MI.callVw z3.1 [.int 40] [.int x2, .ref (bAd 1)] C G (MI.tail _ (c_X7_takeNumber l D cy aAd a_len a_tok a_stt a_fin a_num a_flw a_byt 40 z3 hz3)) gX7_readTide_X7_takeNumber rfl rfl rfl (n := 1) (by decide +kernel) ⟨Nat.le_of_ble_eq_true rfl, Nat.le_of_ble_eq_true rfl⟩ (q0 := 0) (ci := 7) rfl rfl rfl rfl hl.1 rfl (Nat.le_of_ble_eq_true rfl) dX7_readTide_22 ⟨Nat.zero_le _, Nat.zero_le _⟩ (fun U locs G => ?_)
      have G : Gd D A s (w_Tape cy aAd a_len z3.2.1 z3.2.2.1 z3.2.2.2.1 z3.2.2.2.2.1 z3.2.2.2.2.2 a_byt ++ w_Ch cy bAd b_wat b_lev b_kin b_cdp b_sil) U locs := G
      obtain ⟨hb4, H⟩ := gd_some H
      refine va_iast hx hb hK G.1 G.2.1 G.2.2 3 1 rfl rfl (inb_in hb4) dX7_readTide_25 (fun U locs hP hD hS => ?_)
      have G : Gd D A s (w_Tape cy aAd a_len z3.2.1 z3.2.2.1 z3.2.2.2.1 z3.2.2.2.2.1 z3.2.2.2.2.2 a_byt ++ w_Ch cy bAd b_wat (upd b_lev (ix x2) z3.1) b_kin b_cdp b_sil) U locs := ⟨hP, hD, hS⟩
      refine lv_iinc (v := x2 + 1) (lv' := [(2, .int (x2 + 1)), (0, .ref (aAd 0)), (1, .ref (bAd 0))]) hx hb dX7_readTide_26 hl (k := 2) rfl rfl (by decide) rfl (fun ls hl => ?_)
      refine lv_goto (tgt := 8) hx hb dX7_readTide_29 (by decide) ?_
      exact ih z3.2.1 z3.2.2.1 z3.2.2.2.1 z3.2.2.2.2.1 z3.2.2.2.2.2 (upd b_lev (ix x2) z3.1) (x2 + 1) z H kk _ _ _ G (lv_sub hl [1, 2, 0] rfl)
def f_X7_readTide (a_len a_tok a_stt a_fin a_num a_flw : Int32) (a_byt b_lev : Nat → Int32) : Option (Int32 × Int32 × Int32 × Int32 × Int32 × (Nat → Int32)) := bd (f_X7_takeWord a_len a_tok a_stt a_fin a_num a_flw a_byt 0) (fun z1 => bd (f_X7_readTide_L8 a_len a_byt 2000 z1.1 z1.2.1 z1.2.2.1 z1.2.2.2.1 z1.2.2.2.2 b_lev 0) (fun z5 => bd (f_X7_takeSign a_len z5.1 z5.2.1 z5.2.2.1 z5.2.2.2.1 z5.2.2.2.2.1 a_byt) (fun z6 => some (z6.1, z6.2.1, z6.2.2.1, z6.2.2.2.1, z6.2.2.2.2, z5.2.2.2.2.2))))
set_option maxHeartbeats 4000000 in
set_option maxRecDepth 100000 in
theorem c_X7_readTide (l : Launch) (D : va_G) (cy : Nat → ClassId) (aAd : Nat → Nat) (bAd : Nat → Nat) (a_len a_tok a_stt a_fin a_num a_flw : Int32) (a_byt : Nat → Int32) (b_wat : Int32) (b_lev b_kin b_cdp b_sil : Nat → Int32) (z : (Int32 × Int32 × Int32 × Int32 × Int32 × (Nat → Int32))) (hz : f_X7_readTide a_len a_tok a_stt a_fin a_num a_flw a_byt b_lev = some z) : MV l yX7_readTide wsX7_readTide ({ frames := 6, cells := 0, slots := 0, locals := 128 } : Room) D cy [.ref (aAd 0), .ref (bAd 0)] (w_Tape cy aAd a_len a_tok a_stt a_fin a_num a_flw a_byt ++ w_Ch cy bAd b_wat b_lev b_kin b_cdp b_sil) (w_Tape cy aAd a_len z.1 z.2.1 z.2.2.1 z.2.2.2.1 z.2.2.2.2.1 a_byt ++ w_Ch cy bAd b_wat z.2.2.2.2.2 b_kin b_cdp b_sil) := by
  refine met_start (Qf := fun A => MQv D cy (w_Tape cy aAd a_len z.1 z.2.1 z.2.2.1 z.2.2.2.1 z.2.2.2.2.1 a_byt ++ w_Ch cy bAd b_wat z.2.2.2.2.2 b_kin b_cdp b_sil) A) (cc := cX7_readTide) (nL := 3) (ret := none) RX7 rfl (by decide) rfl (Nat.le_of_ble_eq_true rfl) ?_
  intro p e s m below meth c A ls C G hl
  have hl : lv_has ls 3 [(0, .ref (aAd 0)), (1, .ref (bAd 0))] := hl
  have H := hz
  unfold f_X7_readTide at H
  obtain ⟨hx, hb, hr, hml, hown, hts, hlk, hK, hA, hE⟩ := id C
  refine lv_aload_n hx hb dX7_readTide_0 rfl (lv_at hl 0 rfl) ?_
  refine va_ldcS (q := cy 20) hx hb hown hE.2.1 dX7_readTide_1 ?_
  obtain ⟨z1, hz1, H⟩ := bd_some H
  refine MV.callVw [.ref (cy 20)] [] C G (MV.tail _ (c_X7_takeWord l D cy aAd a_len a_tok a_stt a_fin a_num a_flw a_byt 0 (by decide) z1 hz1)) gX7_readTide_X7_takeWord rfl rfl rfl (n := 1) (by decide +kernel) ⟨Nat.le_of_ble_eq_true rfl, Nat.le_of_ble_eq_true rfl⟩ (q0 := 0) (ci := 7) rfl rfl rfl rfl hl.1 rfl (Nat.le_of_ble_eq_true rfl) dX7_readTide_3 ⟨Nat.zero_le _, Nat.zero_le _⟩ (fun U locs G => ?_)
  have G : Gd D A s (w_Tape cy aAd a_len z1.1 z1.2.1 z1.2.2.1 z1.2.2.2.1 z1.2.2.2.2 a_byt ++ w_Ch cy bAd b_wat b_lev b_kin b_cdp b_sil) U locs := G
  refine lv_iconst (v := 0) hx hb dX7_readTide_6 (by decide) ?_
  refine lv_istore_n (lv' := [(2, .int 0), (0, .ref (aAd 0)), (1, .ref (bAd 0))]) hx hb dX7_readTide_7 rfl hl (by decide) rfl (fun ls hl => ?_)
  obtain ⟨z5, hz5, H⟩ := bd_some H
  refine wl_X7_readTide_8 C aAd bAd a_len a_byt b_wat b_kin b_cdp b_sil _ z1.1 z1.2.1 z1.2.2.1 z1.2.2.2.1 z1.2.2.2.2 b_lev 0 z5 hz5 (fun U locs ls G hl => ?_) _ _ _ G (lv_sub hl [1, 2, 0] rfl)
  have G : Gd D A s (w_Tape cy aAd a_len z5.1 z5.2.1 z5.2.2.1 z5.2.2.2.1 z5.2.2.2.2.1 a_byt ++ w_Ch cy bAd b_wat z5.2.2.2.2.2 b_kin b_cdp b_sil) U locs := G
  have hl : lv_has ls 3 [(0, .ref (aAd 0))] := hl
  refine lv_aload_n hx hb dX7_readTide_32 rfl (lv_at hl 0 rfl) ?_
  obtain ⟨z6, hz6, H⟩ := bd_some H
  refine MV.callVw [] [] C G (MV.tail _ (c_X7_takeSign l D cy aAd a_len z5.1 z5.2.1 z5.2.2.1 z5.2.2.2.1 z5.2.2.2.2.1 a_byt z6 hz6)) gX7_readTide_X7_takeSign rfl rfl rfl (n := 0) (by decide +kernel) ⟨Nat.le_of_ble_eq_true rfl, Nat.le_of_ble_eq_true rfl⟩ (q0 := 0) (ci := 7) rfl rfl rfl rfl hl.1 rfl (Nat.le_of_ble_eq_true rfl) dX7_readTide_33 ⟨Nat.zero_le _, Nat.zero_le _⟩ (fun U locs G => ?_)
  have G : Gd D A s (w_Tape cy aAd a_len z6.1 z6.2.1 z6.2.2.1 z6.2.2.2.1 z6.2.2.2.2 a_byt ++ w_Ch cy bAd b_wat z5.2.2.2.2.2 b_kin b_cdp b_sil) U locs := G
  obtain rfl := Option.some.inj H
  exact ret_v C G dX7_readTide_36
def f_X7_readWater (a_len a_tok a_stt a_fin a_num a_flw : Int32) (a_byt : Nat → Int32) (b_wat : Int32) (b_kin b_cdp b_sil : Nat → Int32) : Option (Int32 × Int32 × Int32 × Int32 × Int32 × Int32 × (Nat → Int32) × (Nat → Int32) × (Nat → Int32)) := bd (f_X7_isWord a_tok a_stt a_fin a_byt 1) (fun z1 => if z1 = 0 then (bd (f_X7_takeWord a_len a_tok a_stt a_fin a_num a_flw a_byt 1) (fun z3 => bd (f_X7_takeSort a_len z3.1 z3.2.1 z3.2.2.1 z3.2.2.2.1 z3.2.2.2.2 a_byt) (fun z4 => bd (f_X7_takeNumber a_len z4.2.1 z4.2.2.1 z4.2.2.2.1 z4.2.2.2.2.1 z4.2.2.2.2.2 a_byt 200) (fun z5 => bd (f_X7_takeNumber a_len z5.2.1 z5.2.2.1 z5.2.2.2.1 z5.2.2.2.2.1 z5.2.2.2.2.2 a_byt 40) (fun z6 => bd (f_X7_takeSign a_len z6.2.1 z6.2.2.1 z6.2.2.2.1 z6.2.2.2.2.1 z6.2.2.2.2.2 a_byt) (fun z7 => if z7.2.2.2.2 = 0 then (bd (f_X2_add b_wat b_kin b_cdp b_sil z4.1 z5.1 z6.1) (fun z9 => some (z7.1, z7.2.1, z7.2.2.1, z7.2.2.2.1, z7.2.2.2.2, z9.1, z9.2.1, z9.2.2.1, z9.2.2.2))) else (some (z7.1, z7.2.1, z7.2.2.1, z7.2.2.2.1, z7.2.2.2.2, b_wat, b_kin, b_cdp, b_sil)))))))) else (if b_wat < 6 then (bd (f_X7_takeWord a_len a_tok a_stt a_fin a_num a_flw a_byt 1) (fun z11 => bd (f_X7_takeSort a_len z11.1 z11.2.1 z11.2.2.1 z11.2.2.2.1 z11.2.2.2.2 a_byt) (fun z12 => bd (f_X7_takeNumber a_len z12.2.1 z12.2.2.1 z12.2.2.2.1 z12.2.2.2.2.1 z12.2.2.2.2.2 a_byt 200) (fun z13 => bd (f_X7_takeNumber a_len z13.2.1 z13.2.2.1 z13.2.2.2.1 z13.2.2.2.2.1 z13.2.2.2.2.2 a_byt 40) (fun z14 => bd (f_X7_takeSign a_len z14.2.1 z14.2.2.1 z14.2.2.2.1 z14.2.2.2.2.1 z14.2.2.2.2.2 a_byt) (fun z15 => if z15.2.2.2.2 = 0 then (bd (f_X2_add b_wat b_kin b_cdp b_sil z12.1 z13.1 z14.1) (fun z17 => some (z15.1, z15.2.1, z15.2.2.1, z15.2.2.2.1, z15.2.2.2.2, z17.1, z17.2.1, z17.2.2.1, z17.2.2.2))) else (some (z15.1, z15.2.1, z15.2.2.1, z15.2.2.2.1, z15.2.2.2.2, b_wat, b_kin, b_cdp, b_sil)))))))) else (bd (f_X7_takeWord a_len a_tok a_stt a_fin a_num 3 a_byt 1) (fun z18 => bd (f_X7_takeSort a_len z18.1 z18.2.1 z18.2.2.1 z18.2.2.2.1 z18.2.2.2.2 a_byt) (fun z19 => bd (f_X7_takeNumber a_len z19.2.1 z19.2.2.1 z19.2.2.2.1 z19.2.2.2.2.1 z19.2.2.2.2.2 a_byt 200) (fun z20 => bd (f_X7_takeNumber a_len z20.2.1 z20.2.2.1 z20.2.2.2.1 z20.2.2.2.2.1 z20.2.2.2.2.2 a_byt 40) (fun z21 => bd (f_X7_takeSign a_len z21.2.1 z21.2.2.1 z21.2.2.2.1 z21.2.2.2.2.1 z21.2.2.2.2.2 a_byt) (fun z22 => if z22.2.2.2.2 = 0 then (bd (f_X2_add b_wat b_kin b_cdp b_sil z19.1 z20.1 z21.1) (fun z24 => some (z22.1, z22.2.1, z22.2.2.1, z22.2.2.2.1, z22.2.2.2.2, z24.1, z24.2.1, z24.2.2.1, z24.2.2.2))) else (some (z22.1, z22.2.1, z22.2.2.1, z22.2.2.2.1, z22.2.2.2.2, b_wat, b_kin, b_cdp, b_sil))))))))))
set_option maxHeartbeats 4000000 in
set_option maxRecDepth 100000 in
theorem c_X7_readWater (l : Launch) (D : va_G) (cy : Nat → ClassId) (aAd : Nat → Nat) (bAd : Nat → Nat) (a_len a_tok a_stt a_fin a_num a_flw : Int32) (a_byt : Nat → Int32) (b_wat : Int32) (b_lev b_kin b_cdp b_sil : Nat → Int32) (z : (Int32 × Int32 × Int32 × Int32 × Int32 × Int32 × (Nat → Int32) × (Nat → Int32) × (Nat → Int32))) (hz : f_X7_readWater a_len a_tok a_stt a_fin a_num a_flw a_byt b_wat b_kin b_cdp b_sil = some z) : MV l yX7_readWater wsX7_readWater ({ frames := 7, cells := 0, slots := 0, locals := 148 } : Room) D cy [.ref (aAd 0), .ref (bAd 0)] (w_Tape cy aAd a_len a_tok a_stt a_fin a_num a_flw a_byt ++ w_Ch cy bAd b_wat b_lev b_kin b_cdp b_sil) (w_Tape cy aAd a_len z.1 z.2.1 z.2.2.1 z.2.2.2.1 z.2.2.2.2.1 a_byt ++ w_Ch cy bAd z.2.2.2.2.2.1 b_lev z.2.2.2.2.2.2.1 z.2.2.2.2.2.2.2.1 z.2.2.2.2.2.2.2.2) := by
  refine met_start (Qf := fun A => MQv D cy (w_Tape cy aAd a_len z.1 z.2.1 z.2.2.1 z.2.2.2.1 z.2.2.2.2.1 a_byt ++ w_Ch cy bAd z.2.2.2.2.2.1 b_lev z.2.2.2.2.2.2.1 z.2.2.2.2.2.2.2.1 z.2.2.2.2.2.2.2.2) A) (cc := cX7_readWater) (nL := 5) (ret := none) RX7 rfl (by decide) rfl (Nat.le_of_ble_eq_true rfl) ?_
  intro p e s m below meth c A ls C G hl
  have hl : lv_has ls 5 [(0, .ref (aAd 0)), (1, .ref (bAd 0))] := hl
  have H := hz
  unfold f_X7_readWater at H
  obtain ⟨hx, hb, hr, hml, hown, hts, hlk, hK, hA, hE⟩ := id C
  have lk0 := hts (Cond.fieldLink RX7 22 "TideDebts$Tape" "flaw" "I") (List.mem_of_getElem? (i := 2) rfl)
  have lk1 := hts (Cond.fieldLink RX7 25 "TideDebts$Chart" "waters" "I") (List.mem_of_getElem? (i := 1) rfl)
  have hiX2 : ∀ w ∈ u_ws RX2 TX2 5, w ∈ wsX7_readWater := fun _ h => List.mem_cons_of_mem _ (List.mem_append_left _ (List.mem_append_right _ h))
  have hiX7 : ∀ w ∈ u_ws RX7 TX7 7, w ∈ wsX7_readWater := fun _ h => List.mem_cons_of_mem _ (List.mem_append_right _ h)
  refine lv_aload_n hx hb dX7_readWater_0 rfl (lv_at hl 0 rfl) ?_
  refine va_ldcS (q := cy 21) hx hb hown hE.2.2.1 dX7_readWater_1 ?_
  obtain ⟨z1, hz1, H⟩ := bd_some H
  refine MI.callVw z1 [.ref (cy 21)] [] C G (MI.tail _ (c_X7_isWord l D cy aAd a_len a_tok a_stt a_fin a_num a_flw a_byt 1 (by decide) z1 hz1)) gX7_readWater_X7_isWord rfl rfl rfl (n := 1) (by decide +kernel) ⟨Nat.le_of_ble_eq_true rfl, Nat.le_of_ble_eq_true rfl⟩ (q0 := 0) (ci := 7) rfl rfl rfl rfl hl.1 rfl (Nat.le_of_ble_eq_true rfl) dX7_readWater_3 ⟨Nat.zero_le _, Nat.zero_le _⟩ (fun U locs G => ?_)
  have G : Gd D A s (w_Tape cy aAd a_len a_tok a_stt a_fin a_num a_flw a_byt ++ w_Ch cy bAd b_wat b_lev b_kin b_cdp b_sil) U locs := G
  refine lv_if_eq (tgt := 23) hx hb dX7_readWater_6 (by decide) (fun c2 => ?_) (fun c2 => ?_)
  · have H := if_t H c2
    refine lv_aload_n hx hb dX7_readWater_23 rfl (lv_at hl 0 rfl) ?_
    refine va_ldcS (q := cy 21) hx hb hown hE.2.2.1 dX7_readWater_24 ?_
    obtain ⟨z3, hz3, H⟩ := bd_some H
    refine MV.callVw [.ref (cy 21)] [] C G (MV.tail _ (c_X7_takeWord l D cy aAd a_len a_tok a_stt a_fin a_num a_flw a_byt 1 (by decide) z3 hz3)) gX7_readWater_X7_takeWord rfl rfl rfl (n := 1) (by decide +kernel) ⟨Nat.le_of_ble_eq_true rfl, Nat.le_of_ble_eq_true rfl⟩ (q0 := 0) (ci := 7) rfl rfl rfl rfl hl.1 rfl (Nat.le_of_ble_eq_true rfl) dX7_readWater_26 ⟨Nat.zero_le _, Nat.zero_le _⟩ (fun U locs G => ?_)
    have G : Gd D A s (w_Tape cy aAd a_len z3.1 z3.2.1 z3.2.2.1 z3.2.2.2.1 z3.2.2.2.2 a_byt ++ w_Ch cy bAd b_wat b_lev b_kin b_cdp b_sil) U locs := G
    refine lv_aload_n hx hb dX7_readWater_29 rfl (lv_at hl 0 rfl) ?_
    obtain ⟨z4, hz4, H⟩ := bd_some H
    refine MI.callVw z4.1 [] [] C G (MI.tail _ (c_X7_takeSort l D cy aAd a_len z3.1 z3.2.1 z3.2.2.1 z3.2.2.2.1 z3.2.2.2.2 a_byt z4 hz4)) gX7_readWater_X7_takeSort rfl rfl rfl (n := 0) (by decide +kernel) ⟨Nat.le_of_ble_eq_true rfl, Nat.le_of_ble_eq_true rfl⟩ (q0 := 0) (ci := 7) rfl rfl rfl rfl hl.1 rfl (Nat.le_of_ble_eq_true rfl) dX7_readWater_30 ⟨Nat.zero_le _, Nat.zero_le _⟩ (fun U locs G => ?_)
    have G : Gd D A s (w_Tape cy aAd a_len z4.2.1 z4.2.2.1 z4.2.2.2.1 z4.2.2.2.2.1 z4.2.2.2.2.2 a_byt ++ w_Ch cy bAd b_wat b_lev b_kin b_cdp b_sil) U locs := G
    refine lv_istore_n (lv' := [(2, .int z4.1), (0, .ref (aAd 0)), (1, .ref (bAd 0))]) hx hb dX7_readWater_33 rfl hl (by decide) rfl (fun ls hl => ?_)
    refine lv_aload_n hx hb dX7_readWater_34 rfl (lv_at hl 1 rfl) ?_
    refine lv_sipush (v := 200) hx hb dX7_readWater_35 (by decide) ?_
    obtain ⟨z5, hz5, H⟩ := bd_some H
    refine MI.callVw z5.1 [.int 200] [] C G (MI.tail _ (c_X7_takeNumber l D cy aAd a_len z4.2.1 z4.2.2.1 z4.2.2.2.1 z4.2.2.2.2.1 z4.2.2.2.2.2 a_byt 200 z5 hz5)) gX7_readWater_X7_takeNumber rfl rfl rfl (n := 1) (by decide +kernel) ⟨Nat.le_of_ble_eq_true rfl, Nat.le_of_ble_eq_true rfl⟩ (q0 := 0) (ci := 7) rfl rfl rfl rfl hl.1 rfl (Nat.le_of_ble_eq_true rfl) dX7_readWater_38 ⟨Nat.zero_le _, Nat.zero_le _⟩ (fun U locs G => ?_)
    have G : Gd D A s (w_Tape cy aAd a_len z5.2.1 z5.2.2.1 z5.2.2.2.1 z5.2.2.2.2.1 z5.2.2.2.2.2 a_byt ++ w_Ch cy bAd b_wat b_lev b_kin b_cdp b_sil) U locs := G
    refine lv_istore_n (lv' := [(3, .int z5.1), (2, .int z4.1), (0, .ref (aAd 0)), (1, .ref (bAd 0))]) hx hb dX7_readWater_41 rfl hl (by decide) rfl (fun ls hl => ?_)
    refine lv_aload_n hx hb dX7_readWater_42 rfl (lv_at hl 2 rfl) ?_
    refine lv_bipush (v := 40) hx hb dX7_readWater_43 (by decide) ?_
    obtain ⟨z6, hz6, H⟩ := bd_some H
    refine MI.callVw z6.1 [.int 40] [] C G (MI.tail _ (c_X7_takeNumber l D cy aAd a_len z5.2.1 z5.2.2.1 z5.2.2.2.1 z5.2.2.2.2.1 z5.2.2.2.2.2 a_byt 40 z6 hz6)) gX7_readWater_X7_takeNumber rfl rfl rfl (n := 1) (by decide +kernel) ⟨Nat.le_of_ble_eq_true rfl, Nat.le_of_ble_eq_true rfl⟩ (q0 := 0) (ci := 7) rfl rfl rfl rfl hl.1 rfl (Nat.le_of_ble_eq_true rfl) dX7_readWater_45 ⟨Nat.zero_le _, Nat.zero_le _⟩ (fun U locs G => ?_)
    have G : Gd D A s (w_Tape cy aAd a_len z6.2.1 z6.2.2.1 z6.2.2.2.1 z6.2.2.2.2.1 z6.2.2.2.2.2 a_byt ++ w_Ch cy bAd b_wat b_lev b_kin b_cdp b_sil) U locs := G
    refine lv_istore (lv' := [(4, .int z6.1), (3, .int z5.1), (2, .int z4.1), (0, .ref (aAd 0)), (1, .ref (bAd 0))]) hx hb dX7_readWater_48 hl (by decide) rfl (fun ls hl => ?_)
    refine lv_aload_n hx hb dX7_readWater_50 rfl (lv_at hl 3 rfl) ?_
    obtain ⟨z7, hz7, H⟩ := bd_some H
    refine MV.callVw [] [] C G (MV.tail _ (c_X7_takeSign l D cy aAd a_len z6.2.1 z6.2.2.1 z6.2.2.2.1 z6.2.2.2.2.1 z6.2.2.2.2.2 a_byt z7 hz7)) gX7_readWater_X7_takeSign rfl rfl rfl (n := 0) (by decide +kernel) ⟨Nat.le_of_ble_eq_true rfl, Nat.le_of_ble_eq_true rfl⟩ (q0 := 0) (ci := 7) rfl rfl rfl rfl hl.1 rfl (Nat.le_of_ble_eq_true rfl) dX7_readWater_51 ⟨Nat.zero_le _, Nat.zero_le _⟩ (fun U locs G => ?_)
    have G : Gd D A s (w_Tape cy aAd a_len z7.1 z7.2.1 z7.2.2.1 z7.2.2.2.1 z7.2.2.2.2 a_byt ++ w_Ch cy bAd b_wat b_lev b_kin b_cdp b_sil) U locs := G
    refine lv_aload_n hx hb dX7_readWater_54 rfl (lv_at hl 3 rfl) ?_
    refine va_get (D := D) (ci := 7) (v := .int z7.2.2.2.2) (C := RX7) (T := TX7) (N := 7) hx hb hts hiX7 hown hK G.1 0 rfl rfl 6 (by decide) lk0 (fun _ h9 => h9) rfl dX7_readWater_55 ?_
    refine lv_if_ne (tgt := 69) hx hb dX7_readWater_58 (by decide) (fun c8 => ?_) (fun c8 => ?_)
    · have H := if_f H c8
      obtain rfl := Option.some.inj H
      exact ret_v C G dX7_readWater_69
    · have H := if_t H c8
      refine lv_aload_n hx hb dX7_readWater_61 rfl (lv_at hl 4 rfl) ?_
      refine lv_iload_n hx hb dX7_readWater_62 rfl (lv_at hl 2 rfl) ?_
      refine lv_iload_n hx hb dX7_readWater_63 rfl (lv_at hl 1 rfl) ?_
      refine lv_iload hx hb dX7_readWater_64 (lv_at hl 0 rfl) ?_
      obtain ⟨z9, hz9, H⟩ := bd_some H
      refine MV.callV [.int z4.1, .int z5.1, .int z6.1] [] [2, 3, 4, 5, 6] C G (c_X2_add l D cy bAd b_wat b_lev b_kin b_cdp b_sil z4.1 z5.1 z6.1 z9 hz9) gX7_readWater_X2_add rfl rfl rfl (n := 3) (by decide +kernel) ⟨Nat.le_of_ble_eq_true rfl, Nat.le_of_ble_eq_true rfl⟩ (q0 := 2) (ci := 2) rfl rfl rfl rfl rfl rfl rfl hl.1 rfl (Nat.le_of_ble_eq_true rfl) dX7_readWater_66 ⟨Nat.zero_le _, Nat.zero_le _⟩ (fun U locs G => ?_)
      have G : Gd D A s (w_Tape cy aAd a_len z7.1 z7.2.1 z7.2.2.1 z7.2.2.2.1 z7.2.2.2.2 a_byt ++ w_Ch cy bAd z9.1 b_lev z9.2.1 z9.2.2.1 z9.2.2.2) U locs := G
      obtain rfl := Option.some.inj H
      exact ret_v C G dX7_readWater_69
  · have H := if_f H c2
    refine lv_aload_n hx hb dX7_readWater_9 rfl (lv_at hl 1 rfl) ?_
    refine va_get (D := D) (ci := 2) (v := .int b_wat) (C := RX2) (T := TX2) (N := 5) hx hb hts hiX2 hown hK G.1 2 rfl rfl 4 (by decide) lk1 (fun _ h9 => h9) rfl dX7_readWater_10 ?_
    refine lv_bipush (v := 6) hx hb dX7_readWater_13 (by decide) ?_
    refine lv_icmp_lt (tgt := 23) hx hb dX7_readWater_15 (by decide) (fun c10 => ?_) (fun c10 => ?_)
    · have H := if_t H c10
      refine lv_aload_n hx hb dX7_readWater_23 rfl (lv_at hl 0 rfl) ?_
      refine va_ldcS (q := cy 21) hx hb hown hE.2.2.1 dX7_readWater_24 ?_
      obtain ⟨z11, hz11, H⟩ := bd_some H
      refine MV.callVw [.ref (cy 21)] [] C G (MV.tail _ (c_X7_takeWord l D cy aAd a_len a_tok a_stt a_fin a_num a_flw a_byt 1 (by decide) z11 hz11)) gX7_readWater_X7_takeWord rfl rfl rfl (n := 1) (by decide +kernel) ⟨Nat.le_of_ble_eq_true rfl, Nat.le_of_ble_eq_true rfl⟩ (q0 := 0) (ci := 7) rfl rfl rfl rfl hl.1 rfl (Nat.le_of_ble_eq_true rfl) dX7_readWater_26 ⟨Nat.zero_le _, Nat.zero_le _⟩ (fun U locs G => ?_)
      have G : Gd D A s (w_Tape cy aAd a_len z11.1 z11.2.1 z11.2.2.1 z11.2.2.2.1 z11.2.2.2.2 a_byt ++ w_Ch cy bAd b_wat b_lev b_kin b_cdp b_sil) U locs := G
      refine lv_aload_n hx hb dX7_readWater_29 rfl (lv_at hl 0 rfl) ?_
      obtain ⟨z12, hz12, H⟩ := bd_some H
      refine MI.callVw z12.1 [] [] C G (MI.tail _ (c_X7_takeSort l D cy aAd a_len z11.1 z11.2.1 z11.2.2.1 z11.2.2.2.1 z11.2.2.2.2 a_byt z12 hz12)) gX7_readWater_X7_takeSort rfl rfl rfl (n := 0) (by decide +kernel) ⟨Nat.le_of_ble_eq_true rfl, Nat.le_of_ble_eq_true rfl⟩ (q0 := 0) (ci := 7) rfl rfl rfl rfl hl.1 rfl (Nat.le_of_ble_eq_true rfl) dX7_readWater_30 ⟨Nat.zero_le _, Nat.zero_le _⟩ (fun U locs G => ?_)
      have G : Gd D A s (w_Tape cy aAd a_len z12.2.1 z12.2.2.1 z12.2.2.2.1 z12.2.2.2.2.1 z12.2.2.2.2.2 a_byt ++ w_Ch cy bAd b_wat b_lev b_kin b_cdp b_sil) U locs := G
      refine lv_istore_n (lv' := [(2, .int z12.1), (0, .ref (aAd 0)), (1, .ref (bAd 0))]) hx hb dX7_readWater_33 rfl hl (by decide) rfl (fun ls hl => ?_)
      refine lv_aload_n hx hb dX7_readWater_34 rfl (lv_at hl 1 rfl) ?_
      refine lv_sipush (v := 200) hx hb dX7_readWater_35 (by decide) ?_
      obtain ⟨z13, hz13, H⟩ := bd_some H
      refine MI.callVw z13.1 [.int 200] [] C G (MI.tail _ (c_X7_takeNumber l D cy aAd a_len z12.2.1 z12.2.2.1 z12.2.2.2.1 z12.2.2.2.2.1 z12.2.2.2.2.2 a_byt 200 z13 hz13)) gX7_readWater_X7_takeNumber rfl rfl rfl (n := 1) (by decide +kernel) ⟨Nat.le_of_ble_eq_true rfl, Nat.le_of_ble_eq_true rfl⟩ (q0 := 0) (ci := 7) rfl rfl rfl rfl hl.1 rfl (Nat.le_of_ble_eq_true rfl) dX7_readWater_38 ⟨Nat.zero_le _, Nat.zero_le _⟩ (fun U locs G => ?_)
      have G : Gd D A s (w_Tape cy aAd a_len z13.2.1 z13.2.2.1 z13.2.2.2.1 z13.2.2.2.2.1 z13.2.2.2.2.2 a_byt ++ w_Ch cy bAd b_wat b_lev b_kin b_cdp b_sil) U locs := G
      refine lv_istore_n (lv' := [(3, .int z13.1), (2, .int z12.1), (0, .ref (aAd 0)), (1, .ref (bAd 0))]) hx hb dX7_readWater_41 rfl hl (by decide) rfl (fun ls hl => ?_)
      refine lv_aload_n hx hb dX7_readWater_42 rfl (lv_at hl 2 rfl) ?_
      refine lv_bipush (v := 40) hx hb dX7_readWater_43 (by decide) ?_
      obtain ⟨z14, hz14, H⟩ := bd_some H
      refine MI.callVw z14.1 [.int 40] [] C G (MI.tail _ (c_X7_takeNumber l D cy aAd a_len z13.2.1 z13.2.2.1 z13.2.2.2.1 z13.2.2.2.2.1 z13.2.2.2.2.2 a_byt 40 z14 hz14)) gX7_readWater_X7_takeNumber rfl rfl rfl (n := 1) (by decide +kernel) ⟨Nat.le_of_ble_eq_true rfl, Nat.le_of_ble_eq_true rfl⟩ (q0 := 0) (ci := 7) rfl rfl rfl rfl hl.1 rfl (Nat.le_of_ble_eq_true rfl) dX7_readWater_45 ⟨Nat.zero_le _, Nat.zero_le _⟩ (fun U locs G => ?_)
      have G : Gd D A s (w_Tape cy aAd a_len z14.2.1 z14.2.2.1 z14.2.2.2.1 z14.2.2.2.2.1 z14.2.2.2.2.2 a_byt ++ w_Ch cy bAd b_wat b_lev b_kin b_cdp b_sil) U locs := G
      refine lv_istore (lv' := [(4, .int z14.1), (3, .int z13.1), (2, .int z12.1), (0, .ref (aAd 0)), (1, .ref (bAd 0))]) hx hb dX7_readWater_48 hl (by decide) rfl (fun ls hl => ?_)
      refine lv_aload_n hx hb dX7_readWater_50 rfl (lv_at hl 3 rfl) ?_
      obtain ⟨z15, hz15, H⟩ := bd_some H
      refine MV.callVw [] [] C G (MV.tail _ (c_X7_takeSign l D cy aAd a_len z14.2.1 z14.2.2.1 z14.2.2.2.1 z14.2.2.2.2.1 z14.2.2.2.2.2 a_byt z15 hz15)) gX7_readWater_X7_takeSign rfl rfl rfl (n := 0) (by decide +kernel) ⟨Nat.le_of_ble_eq_true rfl, Nat.le_of_ble_eq_true rfl⟩ (q0 := 0) (ci := 7) rfl rfl rfl rfl hl.1 rfl (Nat.le_of_ble_eq_true rfl) dX7_readWater_51 ⟨Nat.zero_le _, Nat.zero_le _⟩ (fun U locs G => ?_)
      have G : Gd D A s (w_Tape cy aAd a_len z15.1 z15.2.1 z15.2.2.1 z15.2.2.2.1 z15.2.2.2.2 a_byt ++ w_Ch cy bAd b_wat b_lev b_kin b_cdp b_sil) U locs := G
      refine lv_aload_n hx hb dX7_readWater_54 rfl (lv_at hl 3 rfl) ?_
      refine va_get (D := D) (ci := 7) (v := .int z15.2.2.2.2) (C := RX7) (T := TX7) (N := 7) hx hb hts hiX7 hown hK G.1 0 rfl rfl 6 (by decide) lk0 (fun _ h9 => h9) rfl dX7_readWater_55 ?_
      refine lv_if_ne (tgt := 69) hx hb dX7_readWater_58 (by decide) (fun c16 => ?_) (fun c16 => ?_)
      · have H := if_f H c16
        obtain rfl := Option.some.inj H
        exact ret_v C G dX7_readWater_69
      · have H := if_t H c16
        refine lv_aload_n hx hb dX7_readWater_61 rfl (lv_at hl 4 rfl) ?_
        refine lv_iload_n hx hb dX7_readWater_62 rfl (lv_at hl 2 rfl) ?_
        refine lv_iload_n hx hb dX7_readWater_63 rfl (lv_at hl 1 rfl) ?_
        refine lv_iload hx hb dX7_readWater_64 (lv_at hl 0 rfl) ?_
        obtain ⟨z17, hz17, H⟩ := bd_some H
        refine MV.callV [.int z12.1, .int z13.1, .int z14.1] [] [2, 3, 4, 5, 6] C G (c_X2_add l D cy bAd b_wat b_lev b_kin b_cdp b_sil z12.1 z13.1 z14.1 z17 hz17) gX7_readWater_X2_add rfl rfl rfl (n := 3) (by decide +kernel) ⟨Nat.le_of_ble_eq_true rfl, Nat.le_of_ble_eq_true rfl⟩ (q0 := 2) (ci := 2) rfl rfl rfl rfl rfl rfl rfl hl.1 rfl (Nat.le_of_ble_eq_true rfl) dX7_readWater_66 ⟨Nat.zero_le _, Nat.zero_le _⟩ (fun U locs G => ?_)
        have G : Gd D A s (w_Tape cy aAd a_len z15.1 z15.2.1 z15.2.2.1 z15.2.2.2.1 z15.2.2.2.2 a_byt ++ w_Ch cy bAd z17.1 b_lev z17.2.1 z17.2.2.1 z17.2.2.2) U locs := G
        obtain rfl := Option.some.inj H
        exact ret_v C G dX7_readWater_69
    · have H := if_f H c10
      refine lv_aload_n hx hb dX7_readWater_18 rfl (lv_at hl 0 rfl) ?_
      refine lv_iconst (v := 3) hx hb dX7_readWater_19 (by decide) ?_
      refine va_put (D := D) (ci := 7) (v := .int 3) (ty := .int) (C := RX7) (T := TX7) (N := 7) hx hb hts hiX7 tyX7 tyX7_ok nmX7 hown hK G.1 G.2.1 G.2.2 0 rfl rfl 6 (by decide) lk0 (fun _ h9 => h9) rfl (tyX7_ok 6 (by decide)) rfl rfl (Nat.le_of_ble_eq_true rfl) dX7_readWater_20 (fun U locs hP hD hS => ?_)
      have G : Gd D A s (w_Tape cy aAd a_len a_tok a_stt a_fin a_num 3 a_byt ++ w_Ch cy bAd b_wat b_lev b_kin b_cdp b_sil) U locs := ⟨hP, hD, hS⟩
      refine lv_aload_n hx hb dX7_readWater_23 rfl (lv_at hl 0 rfl) ?_
      refine va_ldcS (q := cy 21) hx hb hown hE.2.2.1 dX7_readWater_24 ?_
      obtain ⟨z18, hz18, H⟩ := bd_some H
      refine MV.callVw [.ref (cy 21)] [] C G (MV.tail _ (c_X7_takeWord l D cy aAd a_len a_tok a_stt a_fin a_num 3 a_byt 1 (by decide) z18 hz18)) gX7_readWater_X7_takeWord rfl rfl rfl (n := 1) (by decide +kernel) ⟨Nat.le_of_ble_eq_true rfl, Nat.le_of_ble_eq_true rfl⟩ (q0 := 0) (ci := 7) rfl rfl rfl rfl hl.1 rfl (Nat.le_of_ble_eq_true rfl) dX7_readWater_26 ⟨Nat.zero_le _, Nat.zero_le _⟩ (fun U locs G => ?_)
      have G : Gd D A s (w_Tape cy aAd a_len z18.1 z18.2.1 z18.2.2.1 z18.2.2.2.1 z18.2.2.2.2 a_byt ++ w_Ch cy bAd b_wat b_lev b_kin b_cdp b_sil) U locs := G
      refine lv_aload_n hx hb dX7_readWater_29 rfl (lv_at hl 0 rfl) ?_
      obtain ⟨z19, hz19, H⟩ := bd_some H
      refine MI.callVw z19.1 [] [] C G (MI.tail _ (c_X7_takeSort l D cy aAd a_len z18.1 z18.2.1 z18.2.2.1 z18.2.2.2.1 z18.2.2.2.2 a_byt z19 hz19)) gX7_readWater_X7_takeSort rfl rfl rfl (n := 0) (by decide +kernel) ⟨Nat.le_of_ble_eq_true rfl, Nat.le_of_ble_eq_true rfl⟩ (q0 := 0) (ci := 7) rfl rfl rfl rfl hl.1 rfl (Nat.le_of_ble_eq_true rfl) dX7_readWater_30 ⟨Nat.zero_le _, Nat.zero_le _⟩ (fun U locs G => ?_)
      have G : Gd D A s (w_Tape cy aAd a_len z19.2.1 z19.2.2.1 z19.2.2.2.1 z19.2.2.2.2.1 z19.2.2.2.2.2 a_byt ++ w_Ch cy bAd b_wat b_lev b_kin b_cdp b_sil) U locs := G
      refine lv_istore_n (lv' := [(2, .int z19.1), (0, .ref (aAd 0)), (1, .ref (bAd 0))]) hx hb dX7_readWater_33 rfl hl (by decide) rfl (fun ls hl => ?_)
      refine lv_aload_n hx hb dX7_readWater_34 rfl (lv_at hl 1 rfl) ?_
      refine lv_sipush (v := 200) hx hb dX7_readWater_35 (by decide) ?_
      obtain ⟨z20, hz20, H⟩ := bd_some H
      refine MI.callVw z20.1 [.int 200] [] C G (MI.tail _ (c_X7_takeNumber l D cy aAd a_len z19.2.1 z19.2.2.1 z19.2.2.2.1 z19.2.2.2.2.1 z19.2.2.2.2.2 a_byt 200 z20 hz20)) gX7_readWater_X7_takeNumber rfl rfl rfl (n := 1) (by decide +kernel) ⟨Nat.le_of_ble_eq_true rfl, Nat.le_of_ble_eq_true rfl⟩ (q0 := 0) (ci := 7) rfl rfl rfl rfl hl.1 rfl (Nat.le_of_ble_eq_true rfl) dX7_readWater_38 ⟨Nat.zero_le _, Nat.zero_le _⟩ (fun U locs G => ?_)
      have G : Gd D A s (w_Tape cy aAd a_len z20.2.1 z20.2.2.1 z20.2.2.2.1 z20.2.2.2.2.1 z20.2.2.2.2.2 a_byt ++ w_Ch cy bAd b_wat b_lev b_kin b_cdp b_sil) U locs := G
      refine lv_istore_n (lv' := [(3, .int z20.1), (2, .int z19.1), (0, .ref (aAd 0)), (1, .ref (bAd 0))]) hx hb dX7_readWater_41 rfl hl (by decide) rfl (fun ls hl => ?_)
      refine lv_aload_n hx hb dX7_readWater_42 rfl (lv_at hl 2 rfl) ?_
      refine lv_bipush (v := 40) hx hb dX7_readWater_43 (by decide) ?_
      obtain ⟨z21, hz21, H⟩ := bd_some H
      refine MI.callVw z21.1 [.int 40] [] C G (MI.tail _ (c_X7_takeNumber l D cy aAd a_len z20.2.1 z20.2.2.1 z20.2.2.2.1 z20.2.2.2.2.1 z20.2.2.2.2.2 a_byt 40 z21 hz21)) gX7_readWater_X7_takeNumber rfl rfl rfl (n := 1) (by decide +kernel) ⟨Nat.le_of_ble_eq_true rfl, Nat.le_of_ble_eq_true rfl⟩ (q0 := 0) (ci := 7) rfl rfl rfl rfl hl.1 rfl (Nat.le_of_ble_eq_true rfl) dX7_readWater_45 ⟨Nat.zero_le _, Nat.zero_le _⟩ (fun U locs G => ?_)
      have G : Gd D A s (w_Tape cy aAd a_len z21.2.1 z21.2.2.1 z21.2.2.2.1 z21.2.2.2.2.1 z21.2.2.2.2.2 a_byt ++ w_Ch cy bAd b_wat b_lev b_kin b_cdp b_sil) U locs := G
      refine lv_istore (lv' := [(4, .int z21.1), (3, .int z20.1), (2, .int z19.1), (0, .ref (aAd 0)), (1, .ref (bAd 0))]) hx hb dX7_readWater_48 hl (by decide) rfl (fun ls hl => ?_)
      refine lv_aload_n hx hb dX7_readWater_50 rfl (lv_at hl 3 rfl) ?_
      obtain ⟨z22, hz22, H⟩ := bd_some H
      refine MV.callVw [] [] C G (MV.tail _ (c_X7_takeSign l D cy aAd a_len z21.2.1 z21.2.2.1 z21.2.2.2.1 z21.2.2.2.2.1 z21.2.2.2.2.2 a_byt z22 hz22)) gX7_readWater_X7_takeSign rfl rfl rfl (n := 0) (by decide +kernel) ⟨Nat.le_of_ble_eq_true rfl, Nat.le_of_ble_eq_true rfl⟩ (q0 := 0) (ci := 7) rfl rfl rfl rfl hl.1 rfl (Nat.le_of_ble_eq_true rfl) dX7_readWater_51 ⟨Nat.zero_le _, Nat.zero_le _⟩ (fun U locs G => ?_)
      have G : Gd D A s (w_Tape cy aAd a_len z22.1 z22.2.1 z22.2.2.1 z22.2.2.2.1 z22.2.2.2.2 a_byt ++ w_Ch cy bAd b_wat b_lev b_kin b_cdp b_sil) U locs := G
      refine lv_aload_n hx hb dX7_readWater_54 rfl (lv_at hl 3 rfl) ?_
      refine va_get (D := D) (ci := 7) (v := .int z22.2.2.2.2) (C := RX7) (T := TX7) (N := 7) hx hb hts hiX7 hown hK G.1 0 rfl rfl 6 (by decide) lk0 (fun _ h9 => h9) rfl dX7_readWater_55 ?_
      refine lv_if_ne (tgt := 69) hx hb dX7_readWater_58 (by decide) (fun c23 => ?_) (fun c23 => ?_)
      · have H := if_f H c23
        obtain rfl := Option.some.inj H
        exact ret_v C G dX7_readWater_69
      · have H := if_t H c23
        refine lv_aload_n hx hb dX7_readWater_61 rfl (lv_at hl 4 rfl) ?_
        refine lv_iload_n hx hb dX7_readWater_62 rfl (lv_at hl 2 rfl) ?_
        refine lv_iload_n hx hb dX7_readWater_63 rfl (lv_at hl 1 rfl) ?_
        refine lv_iload hx hb dX7_readWater_64 (lv_at hl 0 rfl) ?_
        obtain ⟨z24, hz24, H⟩ := bd_some H
        refine MV.callV [.int z19.1, .int z20.1, .int z21.1] [] [2, 3, 4, 5, 6] C G (c_X2_add l D cy bAd b_wat b_lev b_kin b_cdp b_sil z19.1 z20.1 z21.1 z24 hz24) gX7_readWater_X2_add rfl rfl rfl (n := 3) (by decide +kernel) ⟨Nat.le_of_ble_eq_true rfl, Nat.le_of_ble_eq_true rfl⟩ (q0 := 2) (ci := 2) rfl rfl rfl rfl rfl rfl rfl hl.1 rfl (Nat.le_of_ble_eq_true rfl) dX7_readWater_66 ⟨Nat.zero_le _, Nat.zero_le _⟩ (fun U locs G => ?_)
        have G : Gd D A s (w_Tape cy aAd a_len z22.1 z22.2.1 z22.2.2.1 z22.2.2.2.1 z22.2.2.2.2 a_byt ++ w_Ch cy bAd z24.1 b_lev z24.2.1 z24.2.2.1 z24.2.2.2) U locs := G
        obtain rfl := Option.some.inj H
        exact ret_v C G dX7_readWater_69
def f_X7_read_L26 (a_len : Int32) (a_byt : Nat → Int32) : Nat → Int32 → Int32 → Int32 → Int32 → Int32 → Int32 → (Nat → Int32) → (Nat → Int32) → (Nat → Int32) → Int32 → Option (Int32 × Int32 × Int32 × Int32 × Int32 × Int32 × (Nat → Int32) × (Nat → Int32) × (Nat → Int32))
  | 0, _, _, _, _, _, _, _, _, _, _ => none
  | n + 1, a_tok, a_stt, a_fin, a_num, a_flw, b_wat, b_kin, b_cdp, b_sil, x2 => if 6 < x2 then (some (a_tok, a_stt, a_fin, a_num, a_flw, b_wat, b_kin, b_cdp, b_sil)) else (if a_flw = 0 then (if a_tok = 0 then (some (a_tok, a_stt, a_fin, a_num, a_flw, b_wat, b_kin, b_cdp, b_sil)) else (bd (f_X7_readWater a_len a_tok a_stt a_fin a_num a_flw a_byt b_wat b_kin b_cdp b_sil) (fun z6 => f_X7_read_L26 a_len a_byt n z6.1 z6.2.1 z6.2.2.1 z6.2.2.2.1 z6.2.2.2.2.1 z6.2.2.2.2.2.1 z6.2.2.2.2.2.2.1 z6.2.2.2.2.2.2.2.1 z6.2.2.2.2.2.2.2.2 (x2 + 1)))) else (some (a_tok, a_stt, a_fin, a_num, a_flw, b_wat, b_kin, b_cdp, b_sil)))
theorem f_X7_read_L26_z (a_len : Int32) (a_byt : Nat → Int32) (a_tok a_stt a_fin a_num a_flw b_wat : Int32) (b_kin b_cdp b_sil : Nat → Int32) (x2 : Int32) : f_X7_read_L26 a_len a_byt 0 a_tok a_stt a_fin a_num a_flw b_wat b_kin b_cdp b_sil x2 = none := rfl
theorem f_X7_read_L26_s (a_len : Int32) (a_byt : Nat → Int32) (n : Nat) (a_tok a_stt a_fin a_num a_flw b_wat : Int32) (b_kin b_cdp b_sil : Nat → Int32) (x2 : Int32) : f_X7_read_L26 a_len a_byt (n + 1) a_tok a_stt a_fin a_num a_flw b_wat b_kin b_cdp b_sil x2 = if 6 < x2 then (some (a_tok, a_stt, a_fin, a_num, a_flw, b_wat, b_kin, b_cdp, b_sil)) else (if a_flw = 0 then (if a_tok = 0 then (some (a_tok, a_stt, a_fin, a_num, a_flw, b_wat, b_kin, b_cdp, b_sil)) else (bd (f_X7_readWater a_len a_tok a_stt a_fin a_num a_flw a_byt b_wat b_kin b_cdp b_sil) (fun z6 => f_X7_read_L26 a_len a_byt n z6.1 z6.2.1 z6.2.2.1 z6.2.2.2.1 z6.2.2.2.2.1 z6.2.2.2.2.2.1 z6.2.2.2.2.2.2.1 z6.2.2.2.2.2.2.2.1 z6.2.2.2.2.2.2.2.2 (x2 + 1)))) else (some (a_tok, a_stt, a_fin, a_num, a_flw, b_wat, b_kin, b_cdp, b_sil))) := rfl
set_option maxHeartbeats 4000000 in
set_option maxRecDepth 100000 in
theorem wl_X7_read_26 {p : Program} {l : Launch} {e : Env} {s : State} {m : MethodId} {below : List Frame} {meth : Method} {c : Code} {D : va_G} {cy : Nat → ClassId} {A : Nat → Prop} {args : Array Value} {Q : State → Prop} (C : Cx D cy A p s m meth c cX7_read 3 (some .int) wsX7_read RX7 args) (aAd : Nat → Nat) (bAd : Nat → Nat) (a_len : Int32) (a_byt b_lev : Nat → Int32) :
    ∀ (n : Nat) (a_tok a_stt a_fin a_num a_flw b_wat : Int32) (b_kin b_cdp b_sil : Nat → Int32) (x2 : Int32) (z : (Int32 × Int32 × Int32 × Int32 × Int32 × Int32 × (Nat → Int32) × (Nat → Int32) × (Nat → Int32))), f_X7_read_L26 a_len a_byt n a_tok a_stt a_fin a_num a_flw b_wat b_kin b_cdp b_sil x2 = some z → (∀ (U : Heap) (locs : List Loc) (ls : Array Slot), Gd D A s (w_Tape cy aAd a_len z.1 z.2.1 z.2.2.1 z.2.2.2.1 z.2.2.2.2.1 a_byt ++ w_Ch cy bAd z.2.2.2.2.2.1 b_lev z.2.2.2.2.2.2.1 z.2.2.2.2.2.2.2.1 z.2.2.2.2.2.2.2.2) U locs → lv_has ls 3 [(0, .ref (aAd 0))] → W p l e ({ frames := 8, cells := 0, slots := 0, locals := 172 } : Room) s m args below meth c U locs 0 0 Q (F0 m 57 ls [])) → ∀ (U : Heap) (locs : List Loc) (ls : Array Slot), Gd D A s (w_Tape cy aAd a_len a_tok a_stt a_fin a_num a_flw a_byt ++ w_Ch cy bAd b_wat b_lev b_kin b_cdp b_sil) U locs → lv_has ls 3 [(0, .ref (aAd 0)), (1, .ref (bAd 0)), (2, .int x2)] → W p l e ({ frames := 8, cells := 0, slots := 0, locals := 172 } : Room) s m args below meth c U locs 0 0 Q (F0 m 26 ls []) := by
  obtain ⟨hx, hb, hr, hml, hown, hts, hlk, hK, hA, hE⟩ := id C
  have lk0 := hts (Cond.fieldLink RX7 22 "TideDebts$Tape" "flaw" "I") (List.mem_of_getElem? (i := 2) rfl)
  have lk1 := hts (Cond.fieldLink RX7 37 "TideDebts$Tape" "token" "I") (List.mem_of_getElem? (i := 4) rfl)
  have hiX7 : ∀ w ∈ u_ws RX7 TX7 7, w ∈ wsX7_read := fun _ h => List.mem_cons_of_mem _ (List.mem_append_left _ (List.mem_append_right _ h))
  intro n
  induction n with
  | zero =>
    intro a_tok a_stt a_fin a_num a_flw b_wat b_kin b_cdp b_sil x2 z H
    rw [f_X7_read_L26_z] at H
    cases H
  | succ n ih =>
    intro a_tok a_stt a_fin a_num a_flw b_wat b_kin b_cdp b_sil x2 z H kk U locs ls G hl
    rw [f_X7_read_L26_s] at H
    refine lv_iload_n hx hb dX7_read_26 rfl (lv_at hl 2 rfl) ?_
    refine lv_bipush (v := 6) hx hb dX7_read_27 (by decide) ?_
    refine lv_icmp_gt (tgt := 57) hx hb dX7_read_29 (by decide) (fun c3 => ?_) (fun c3 => ?_)
    · have H := if_t H c3
      obtain rfl := Option.some.inj H
      exact kk _ _ _ G (lv_sub hl [0] rfl)
    · have H := if_f H c3
      refine lv_aload_n hx hb dX7_read_32 rfl (lv_at hl 0 rfl) ?_
      refine va_get (D := D) (ci := 7) (v := .int a_flw) (C := RX7) (T := TX7) (N := 7) hx hb hts hiX7 hown hK G.1 0 rfl rfl 6 (by decide) lk0 (fun _ h9 => h9) rfl dX7_read_33 ?_
      refine lv_if_ne (tgt := 57) hx hb dX7_read_36 (by decide) (fun c4 => ?_) (fun c4 => ?_)
      · have H := if_f H c4
        obtain rfl := Option.some.inj H
        exact kk _ _ _ G (lv_sub hl [0] rfl)
      · have H := if_t H c4
        refine lv_aload_n hx hb dX7_read_39 rfl (lv_at hl 0 rfl) ?_
        refine va_get (D := D) (ci := 7) (v := .int a_tok) (C := RX7) (T := TX7) (N := 7) hx hb hts hiX7 hown hK G.1 0 rfl rfl 2 (by decide) lk1 (fun _ h9 => h9) rfl dX7_read_40 ?_
        refine lv_if_eq (tgt := 57) hx hb dX7_read_43 (by decide) (fun c5 => ?_) (fun c5 => ?_)
        · have H := if_t H c5
          obtain rfl := Option.some.inj H
          exact kk _ _ _ G (lv_sub hl [0] rfl)
        · have H := if_f H c5
          refine lv_aload_n hx hb dX7_read_46 rfl (lv_at hl 0 rfl) ?_
          refine lv_aload_n hx hb dX7_read_47 rfl (lv_at hl 1 rfl) ?_
          obtain ⟨z6, hz6, H⟩ := bd_some H
          refine MV.callVw [.ref (bAd 0)] [] C G (c_X7_readWater l D cy aAd bAd a_len a_tok a_stt a_fin a_num a_flw a_byt b_wat b_lev b_kin b_cdp b_sil z6 hz6) gX7_read_X7_readWater rfl rfl rfl (n := 1) (by decide +kernel) ⟨Nat.le_of_ble_eq_true rfl, Nat.le_of_ble_eq_true rfl⟩ (q0 := 0) (ci := 7) rfl rfl rfl rfl hl.1 rfl (Nat.le_of_ble_eq_true rfl) dX7_read_48 ⟨Nat.zero_le _, Nat.zero_le _⟩ (fun U locs G => ?_)
          have G : Gd D A s (w_Tape cy aAd a_len z6.1 z6.2.1 z6.2.2.1 z6.2.2.2.1 z6.2.2.2.2.1 a_byt ++ w_Ch cy bAd z6.2.2.2.2.2.1 b_lev z6.2.2.2.2.2.2.1 z6.2.2.2.2.2.2.2.1 z6.2.2.2.2.2.2.2.2) U locs := G
          refine lv_iinc (v := x2 + 1) (lv' := [(2, .int (x2 + 1)), (0, .ref (aAd 0)), (1, .ref (bAd 0))]) hx hb dX7_read_51 hl (k := 2) rfl rfl (by decide) rfl (fun ls hl => ?_)
          refine lv_goto (tgt := 26) hx hb dX7_read_54 (by decide) ?_
          exact ih z6.1 z6.2.1 z6.2.2.1 z6.2.2.2.1 z6.2.2.2.2.1 z6.2.2.2.2.2.1 z6.2.2.2.2.2.2.1 z6.2.2.2.2.2.2.2.1 z6.2.2.2.2.2.2.2.2 (x2 + 1) z H kk _ _ _ G (lv_sub hl [1, 2, 0] rfl)
def f_X7_read (a_len a_tok a_stt a_fin a_num a_flw : Int32) (a_byt : Nat → Int32) (b_wat : Int32) (b_lev b_kin b_cdp b_sil : Nat → Int32) : Option (Int32 × Int32 × Int32 × Int32 × Int32 × Int32 × Int32 × Int32 × (Nat → Int32) × (Nat → Int32) × (Nat → Int32) × (Nat → Int32)) := bd (f_X7_step a_len a_tok a_stt 0 a_num a_byt) (fun z1 => bd (f_X7_readTide a_len z1.1 z1.2.1 z1.2.2.1 z1.2.2.2 0 a_byt b_lev) (fun z2 => bd (f_X7_read_L26 a_len a_byt 2000 z2.1 z2.2.1 z2.2.2.1 z2.2.2.2.1 z2.2.2.2.2.1 0 b_kin b_cdp b_sil 0) (fun z7 => some (z7.2.2.2.2.1, 0, z7.1, z7.2.1, z7.2.2.1, z7.2.2.2.1, z7.2.2.2.2.1, z7.2.2.2.2.2.1, z2.2.2.2.2.2, z7.2.2.2.2.2.2.1, z7.2.2.2.2.2.2.2.1, z7.2.2.2.2.2.2.2.2))))
set_option maxHeartbeats 4000000 in
set_option maxRecDepth 100000 in
theorem c_X7_read (l : Launch) (D : va_G) (cy : Nat → ClassId) (aAd : Nat → Nat) (bAd : Nat → Nat) (a_len a_tok a_stt a_fin a_num a_flw : Int32) (a_byt : Nat → Int32) (b_wat : Int32) (b_lev b_kin b_cdp b_sil : Nat → Int32) (z : (Int32 × Int32 × Int32 × Int32 × Int32 × Int32 × Int32 × Int32 × (Nat → Int32) × (Nat → Int32) × (Nat → Int32) × (Nat → Int32))) (hz : f_X7_read a_len a_tok a_stt a_fin a_num a_flw a_byt b_wat b_lev b_kin b_cdp b_sil = some z) : MI l yX7_read wsX7_read ({ frames := 8, cells := 0, slots := 0, locals := 172 } : Room) D cy [.ref (aAd 0), .ref (bAd 0)] (w_Tape cy aAd a_len a_tok a_stt a_fin a_num a_flw a_byt ++ w_Ch cy bAd b_wat b_lev b_kin b_cdp b_sil) z.1 (w_Tape cy aAd z.2.1 z.2.2.1 z.2.2.2.1 z.2.2.2.2.1 z.2.2.2.2.2.1 z.2.2.2.2.2.2.1 a_byt ++ w_Ch cy bAd z.2.2.2.2.2.2.2.1 z.2.2.2.2.2.2.2.2.1 z.2.2.2.2.2.2.2.2.2.1 z.2.2.2.2.2.2.2.2.2.2.1 z.2.2.2.2.2.2.2.2.2.2.2) := by
  refine met_start (Qf := fun A => MQi D cy z.1 (w_Tape cy aAd z.2.1 z.2.2.1 z.2.2.2.1 z.2.2.2.2.1 z.2.2.2.2.2.1 z.2.2.2.2.2.2.1 a_byt ++ w_Ch cy bAd z.2.2.2.2.2.2.2.1 z.2.2.2.2.2.2.2.2.1 z.2.2.2.2.2.2.2.2.2.1 z.2.2.2.2.2.2.2.2.2.2.1 z.2.2.2.2.2.2.2.2.2.2.2) A) (cc := cX7_read) (nL := 3) (ret := (some .int)) RX7 rfl (by decide) rfl (Nat.le_of_ble_eq_true rfl) ?_
  intro p e s m below meth c A ls C G hl
  have hl : lv_has ls 3 [(0, .ref (aAd 0)), (1, .ref (bAd 0))] := hl
  have H := hz
  unfold f_X7_read at H
  obtain ⟨hx, hb, hr, hml, hown, hts, hlk, hK, hA, hE⟩ := id C
  have lk0 := hts (Cond.fieldLink RX7 19 "TideDebts$Tape" "end" "I") (List.mem_of_getElem? (i := 1) rfl)
  have lk1 := hts (Cond.fieldLink RX7 22 "TideDebts$Tape" "flaw" "I") (List.mem_of_getElem? (i := 2) rfl)
  have lk2 := hts (Cond.fieldLink RX7 25 "TideDebts$Chart" "waters" "I") (List.mem_of_getElem? (i := 3) rfl)
  have lk3 := hts (Cond.fieldLink RX7 15 "TideDebts$Tape" "length" "I") (List.mem_of_getElem? (i := 5) rfl)
  have hiX2 : ∀ w ∈ u_ws RX2 TX2 5, w ∈ wsX7_read := fun _ h => List.mem_cons_of_mem _ (List.mem_append_right _ h)
  have hiX7 : ∀ w ∈ u_ws RX7 TX7 7, w ∈ wsX7_read := fun _ h => List.mem_cons_of_mem _ (List.mem_append_left _ (List.mem_append_right _ h))
  refine lv_aload_n hx hb dX7_read_0 rfl (lv_at hl 0 rfl) ?_
  refine lv_iconst (v := 0) hx hb dX7_read_1 (by decide) ?_
  refine va_put (D := D) (ci := 7) (v := .int 0) (ty := .int) (C := RX7) (T := TX7) (N := 7) hx hb hts hiX7 tyX7 tyX7_ok nmX7 hown hK G.1 G.2.1 G.2.2 0 rfl rfl 4 (by decide) lk0 (fun _ h9 => h9) rfl (tyX7_ok 4 (by decide)) rfl rfl (Nat.le_of_ble_eq_true rfl) dX7_read_2 (fun U locs hP hD hS => ?_)
  have G : Gd D A s (w_Tape cy aAd a_len a_tok a_stt 0 a_num a_flw a_byt ++ w_Ch cy bAd b_wat b_lev b_kin b_cdp b_sil) U locs := ⟨hP, hD, hS⟩
  refine lv_aload_n hx hb dX7_read_5 rfl (lv_at hl 0 rfl) ?_
  refine lv_iconst (v := 0) hx hb dX7_read_6 (by decide) ?_
  refine va_put (D := D) (ci := 7) (v := .int 0) (ty := .int) (C := RX7) (T := TX7) (N := 7) hx hb hts hiX7 tyX7 tyX7_ok nmX7 hown hK G.1 G.2.1 G.2.2 0 rfl rfl 6 (by decide) lk1 (fun _ h9 => h9) rfl (tyX7_ok 6 (by decide)) rfl rfl (Nat.le_of_ble_eq_true rfl) dX7_read_7 (fun U locs hP hD hS => ?_)
  have G : Gd D A s (w_Tape cy aAd a_len a_tok a_stt 0 a_num 0 a_byt ++ w_Ch cy bAd b_wat b_lev b_kin b_cdp b_sil) U locs := ⟨hP, hD, hS⟩
  refine lv_aload_n hx hb dX7_read_10 rfl (lv_at hl 1 rfl) ?_
  refine lv_iconst (v := 0) hx hb dX7_read_11 (by decide) ?_
  refine va_put (D := D) (ci := 2) (v := .int 0) (ty := .int) (C := RX2) (T := TX2) (N := 5) hx hb hts hiX2 tyX2 tyX2_ok nmX2 hown hK G.1 G.2.1 G.2.2 2 rfl rfl 4 (by decide) lk2 (fun _ h9 => h9) rfl (tyX2_ok 4 (by decide)) rfl rfl (Nat.le_of_ble_eq_true rfl) dX7_read_12 (fun U locs hP hD hS => ?_)
  have G : Gd D A s (w_Tape cy aAd a_len a_tok a_stt 0 a_num 0 a_byt ++ w_Ch cy bAd 0 b_lev b_kin b_cdp b_sil) U locs := ⟨hP, hD, hS⟩
  refine lv_aload_n hx hb dX7_read_15 rfl (lv_at hl 0 rfl) ?_
  obtain ⟨z1, hz1, H⟩ := bd_some H
  refine MV.callVw [] [] C G (MV.tail _ (c_X7_step l D cy aAd a_len a_tok a_stt 0 a_num 0 a_byt z1 hz1)) gX7_read_X7_step rfl rfl rfl (n := 0) (by decide +kernel) ⟨Nat.le_of_ble_eq_true rfl, Nat.le_of_ble_eq_true rfl⟩ (q0 := 0) (ci := 7) rfl rfl rfl rfl hl.1 rfl (Nat.le_of_ble_eq_true rfl) dX7_read_16 ⟨Nat.zero_le _, Nat.zero_le _⟩ (fun U locs G => ?_)
  have G : Gd D A s (w_Tape cy aAd a_len z1.1 z1.2.1 z1.2.2.1 z1.2.2.2 0 a_byt ++ w_Ch cy bAd 0 b_lev b_kin b_cdp b_sil) U locs := G
  refine lv_aload_n hx hb dX7_read_19 rfl (lv_at hl 0 rfl) ?_
  refine lv_aload_n hx hb dX7_read_20 rfl (lv_at hl 1 rfl) ?_
  obtain ⟨z2, hz2, H⟩ := bd_some H
  refine MV.callVw [.ref (bAd 0)] [] C G (c_X7_readTide l D cy aAd bAd a_len z1.1 z1.2.1 z1.2.2.1 z1.2.2.2 0 a_byt 0 b_lev b_kin b_cdp b_sil z2 hz2) gX7_read_X7_readTide rfl rfl rfl (n := 1) (by decide +kernel) ⟨Nat.le_of_ble_eq_true rfl, Nat.le_of_ble_eq_true rfl⟩ (q0 := 0) (ci := 7) rfl rfl rfl rfl hl.1 rfl (Nat.le_of_ble_eq_true rfl) dX7_read_21 ⟨Nat.zero_le _, Nat.zero_le _⟩ (fun U locs G => ?_)
  have G : Gd D A s (w_Tape cy aAd a_len z2.1 z2.2.1 z2.2.2.1 z2.2.2.2.1 z2.2.2.2.2.1 a_byt ++ w_Ch cy bAd 0 z2.2.2.2.2.2 b_kin b_cdp b_sil) U locs := G
  refine lv_iconst (v := 0) hx hb dX7_read_24 (by decide) ?_
  refine lv_istore_n (lv' := [(2, .int 0), (0, .ref (aAd 0)), (1, .ref (bAd 0))]) hx hb dX7_read_25 rfl hl (by decide) rfl (fun ls hl => ?_)
  obtain ⟨z7, hz7, H⟩ := bd_some H
  refine wl_X7_read_26 C aAd bAd a_len a_byt z2.2.2.2.2.2 _ z2.1 z2.2.1 z2.2.2.1 z2.2.2.2.1 z2.2.2.2.2.1 0 b_kin b_cdp b_sil 0 z7 hz7 (fun U locs ls G hl => ?_) _ _ _ G (lv_sub hl [1, 2, 0] rfl)
  have G : Gd D A s (w_Tape cy aAd a_len z7.1 z7.2.1 z7.2.2.1 z7.2.2.2.1 z7.2.2.2.2.1 a_byt ++ w_Ch cy bAd z7.2.2.2.2.2.1 z2.2.2.2.2.2 z7.2.2.2.2.2.2.1 z7.2.2.2.2.2.2.2.1 z7.2.2.2.2.2.2.2.2) U locs := G
  have hl : lv_has ls 3 [(0, .ref (aAd 0))] := hl
  refine lv_aload_n hx hb dX7_read_57 rfl (lv_at hl 0 rfl) ?_
  refine lv_iconst (v := 0) hx hb dX7_read_58 (by decide) ?_
  refine va_put (D := D) (ci := 7) (v := .int 0) (ty := .int) (C := RX7) (T := TX7) (N := 7) hx hb hts hiX7 tyX7 tyX7_ok nmX7 hown hK G.1 G.2.1 G.2.2 0 rfl rfl 1 (by decide) lk3 (fun _ h9 => h9) rfl (tyX7_ok 1 (by decide)) rfl rfl (Nat.le_of_ble_eq_true rfl) dX7_read_59 (fun U locs hP hD hS => ?_)
  have G : Gd D A s (w_Tape cy aAd 0 z7.1 z7.2.1 z7.2.2.1 z7.2.2.2.1 z7.2.2.2.2.1 a_byt ++ w_Ch cy bAd z7.2.2.2.2.2.1 z2.2.2.2.2.2 z7.2.2.2.2.2.2.1 z7.2.2.2.2.2.2.2.1 z7.2.2.2.2.2.2.2.2) U locs := ⟨hP, hD, hS⟩
  refine lv_aload_n hx hb dX7_read_62 rfl (lv_at hl 0 rfl) ?_
  refine va_get (D := D) (ci := 7) (v := .int z7.2.2.2.2.1) (C := RX7) (T := TX7) (N := 7) hx hb hts hiX7 hown hK G.1 0 rfl rfl 6 (by decide) lk1 (fun _ h9 => h9) rfl dX7_read_63 ?_
  obtain rfl := Option.some.inj H
  exact ret_i C G rfl dX7_read_66
