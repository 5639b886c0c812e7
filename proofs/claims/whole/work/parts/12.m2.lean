def f_X9_next_L0 (leng : Int32) (tape : Nat → Int32) : Nat → Int32 → Option Int32
  | 0, _ => none
  | n + 1, cursor => bd (f_X9_byteAt leng tape cursor) (fun z1 => if z1 = 32 then (f_X9_next_L0 leng tape n (cursor + 1)) else (bd (f_X9_byteAt leng tape cursor) (fun z3 => if z3 = 10 then (f_X9_next_L0 leng tape n (cursor + 1)) else (some cursor))))
theorem f_X9_next_L0_z (leng : Int32) (tape : Nat → Int32) (cursor : Int32) : f_X9_next_L0 leng tape 0 cursor = none := rfl
theorem f_X9_next_L0_s (leng : Int32) (tape : Nat → Int32) (n : Nat) (cursor : Int32) : f_X9_next_L0 leng tape (n + 1) cursor = bd (f_X9_byteAt leng tape cursor) (fun z1 => if z1 = 32 then (f_X9_next_L0 leng tape n (cursor + 1)) else (bd (f_X9_byteAt leng tape cursor) (fun z3 => if z3 = 10 then (f_X9_next_L0 leng tape n (cursor + 1)) else (some cursor)))) := rfl
set_option maxHeartbeats 4000000 in
set_option maxRecDepth 100000 in
theorem wl_X9_next_0 {p : Program} {l : Launch} {e : Env} {s : State} {m : MethodId} {below : List Frame} {meth : Method} {c : Code} {D : va_G} {cy : Nat → ClassId} {A : Nat → Prop} {args : Array Value} {Q : State → Prop} (C : Cx D cy A p s m meth c cX9_next 2 none wsX9_next RX9 args) (mAd : Nat → Nat) (thrown status acts taped latest leng token start till fault faultAt gifts traced : Int32) (lane many item bay fresh thn was tape left gift isKept kept trace : Nat → Int32) :
    ∀ (n : Nat) (cursor : Int32) (z : Int32), f_X9_next_L0 leng tape n cursor = some z → (∀ (U : Heap) (locs : List Loc) (ls : Array Slot), Gd D A s (w_M cy mAd thrown status acts taped latest leng z token start till fault faultAt gifts traced lane many item bay fresh thn was tape left gift isKept kept trace) U locs → lv_has ls 2 [(0, .ref (mAd 0))] → W p l e ({ frames := 1, cells := 0, slots := 0, locals := 21 } : Room) s m args below meth c U locs 0 0 Q (F0 m 39 ls [])) → ∀ (U : Heap) (locs : List Loc) (ls : Array Slot), Gd D A s (w_M cy mAd thrown status acts taped latest leng cursor token start till fault faultAt gifts traced lane many item bay fresh thn was tape left gift isKept kept trace) U locs → lv_has ls 2 [(0, .ref (mAd 0))] → W p l e ({ frames := 1, cells := 0, slots := 0, locals := 21 } : Room) s m args below meth c U locs 0 0 Q (F0 m 0 ls []) := by
  obtain ⟨hx, hb, hr, hml, hown, hts, hlk, hK, hA, hE⟩ := id C
  have lk0 := hts (Cond.fieldLink RX9 87 "TideDebtsModel" "cursor" "I") (List.mem_of_getElem? (i := 1) rfl)
  have hiX9 : ∀ w ∈ u_ws RX9 TX9 27, w ∈ wsX9_next := fun _ h => List.mem_cons_of_mem _ (List.mem_append_right _ h)
  intro n
  induction n with
  | zero =>
    intro cursor z H
    rw [f_X9_next_L0_z] at H
    cases H
  | succ n ih =>
    intro cursor z H kk U locs ls G hl
    rw [f_X9_next_L0_s] at H
    refine lv_aload_n hx hb dX9_next_0 rfl (lv_at hl 0 rfl) ?_
    refine lv_aload_n hx hb dX9_next_1 rfl (lv_at hl 0 rfl) ?_
    refine va_get (D := D) (ci := 9) (v := .int cursor) (C := RX9) (T := TX9) (N := 27) hx hb hts hiX9 hown hK G.1 0 rfl rfl 14 (by decide) lk0 (fun _ h9 => h9) rfl dX9_next_2 ?_
    obtain ⟨z1, hz1, H⟩ := bd_some H
    refine MI.callVw z1 [.int cursor] [] C G (c_X9_byteAt l D cy mAd thrown status acts taped latest leng cursor token start till fault faultAt gifts traced lane many item bay fresh thn was tape left gift isKept kept trace cursor z1 hz1) gX9_next_X9_byteAt rfl rfl rfl (n := 1) (by decide +kernel) ⟨Nat.le_of_ble_eq_true rfl, Nat.le_of_ble_eq_true rfl⟩ (q0 := 0) (ci := 9) rfl rfl rfl rfl hl.1 rfl (Nat.le_of_ble_eq_true rfl) dX9_next_5 ⟨Nat.zero_le _, Nat.zero_le _⟩ (fun U locs G => ?_)
    have G : Gd D A s (w_M cy mAd thrown status acts taped latest leng cursor token start till fault faultAt gifts traced lane many item bay fresh thn was tape left gift isKept kept trace) U locs := G
    refine lv_bipush (v := 32) hx hb dX9_next_8 (by decide) ?_
    refine lv_icmp_eq (tgt := 26) hx hb dX9_next_10 (by decide) (fun c2 => ?_) (fun c2 => ?_)
    · have H := if_t H c2
      refine lv_aload_n hx hb dX9_next_26 rfl (lv_at hl 0 rfl) ?_
      refine lv_dup hx hb dX9_next_27 rfl ?_
      refine va_get (D := D) (ci := 9) (v := .int cursor) (C := RX9) (T := TX9) (N := 27) hx hb hts hiX9 hown hK G.1 0 rfl rfl 14 (by decide) lk0 (fun _ h9 => h9) rfl dX9_next_28 ?_
      refine lv_iconst (v := 1) hx hb dX9_next_31 (by decide) ?_
      refine lv_iadd hx hb dX9_next_32 ?_
      refine va_put (D := D) (ci := 9) (v := .int (cursor + 1)) (ty := .int) (C := RX9) (T := TX9) (N := 27) hx hb hts hiX9 tyX9 tyX9_ok nmX9 hown hK G.1 G.2.1 G.2.2 0 rfl rfl 14 (by decide) lk0 (fun _ h9 => h9) rfl (tyX9_ok 14 (by decide)) rfl rfl (Nat.le_of_ble_eq_true rfl) dX9_next_33 (fun U locs hP hD hS => ?_)
      have G : Gd D A s (w_M cy mAd thrown status acts taped latest leng (cursor + 1) token start till fault faultAt gifts traced lane many item bay fresh thn was tape left gift isKept kept trace) U locs := ⟨hP, hD, hS⟩
      refine lv_goto (tgt := 0) hx hb dX9_next_36 (by decide) ?_
      exact ih (cursor + 1) z H kk _ _ _ G (lv_sub hl [0] rfl)
    · have H := if_f H c2
      refine lv_aload_n hx hb dX9_next_13 rfl (lv_at hl 0 rfl) ?_
      refine lv_aload_n hx hb dX9_next_14 rfl (lv_at hl 0 rfl) ?_
      refine va_get (D := D) (ci := 9) (v := .int cursor) (C := RX9) (T := TX9) (N := 27) hx hb hts hiX9 hown hK G.1 0 rfl rfl 14 (by decide) lk0 (fun _ h9 => h9) rfl dX9_next_15 ?_
      obtain ⟨z3, hz3, H⟩ := bd_some H
      refine MI.callVw z3 [.int cursor] [] C G (c_X9_byteAt l D cy mAd thrown status acts taped latest leng cursor token start till fault faultAt gifts traced lane many item bay fresh thn was tape left gift isKept kept trace cursor z3 hz3) gX9_next_X9_byteAt rfl rfl rfl (n := 1) (by decide +kernel) ⟨Nat.le_of_ble_eq_true rfl, Nat.le_of_ble_eq_true rfl⟩ (q0 := 0) (ci := 9) rfl rfl rfl rfl hl.1 rfl (Nat.le_of_ble_eq_true rfl) dX9_next_18 ⟨Nat.zero_le _, Nat.zero_le _⟩ (fun U locs G => ?_)
      have G : Gd D A s (w_M cy mAd thrown status acts taped latest leng cursor token start till fault faultAt gifts traced lane many item bay fresh thn was tape left gift isKept kept trace) U locs := G
      refine lv_bipush (v := 10) hx hb dX9_next_21 (by decide) ?_
      refine lv_icmp_ne (tgt := 39) hx hb dX9_next_23 (by decide) (fun c4 => ?_) (fun c4 => ?_)
      · have H := if_f H c4
        obtain rfl := Option.some.inj H
        exact kk _ _ _ G (lv_sub hl [0] rfl)
      · have H := if_t H c4
        refine lv_aload_n hx hb dX9_next_26 rfl (lv_at hl 0 rfl) ?_
        refine lv_dup hx hb dX9_next_27 rfl ?_
        refine va_get (D := D) (ci := 9) (v := .int cursor) (C := RX9) (T := TX9) (N := 27) hx hb hts hiX9 hown hK G.1 0 rfl rfl 14 (by decide) lk0 (fun _ h9 => h9) rfl dX9_next_28 ?_
        refine lv_iconst (v := 1) hx hb dX9_next_31 (by decide) ?_
        refine lv_iadd hx hb dX9_next_32 ?_
        refine va_put (D := D) (ci := 9) (v := .int (cursor + 1)) (ty := .int) (C := RX9) (T := TX9) (N := 27) hx hb hts hiX9 tyX9 tyX9_ok nmX9 hown hK G.1 G.2.1 G.2.2 0 rfl rfl 14 (by decide) lk0 (fun _ h9 => h9) rfl (tyX9_ok 14 (by decide)) rfl rfl (Nat.le_of_ble_eq_true rfl) dX9_next_33 (fun U locs hP hD hS => ?_)
        have G : Gd D A s (w_M cy mAd thrown status acts taped latest leng (cursor + 1) token start till fault faultAt gifts traced lane many item bay fresh thn was tape left gift isKept kept trace) U locs := ⟨hP, hD, hS⟩
        refine lv_goto (tgt := 0) hx hb dX9_next_36 (by decide) ?_
        exact ih (cursor + 1) z H kk _ _ _ G (lv_sub hl [0] rfl)
def f_X9_next_L119 (leng : Int32) (tape : Nat → Int32) : Nat → Int32 → Option Int32
  | 0, _ => none
  | n + 1, cursor => bd (f_X9_byteAt leng tape cursor) (fun z13 => bd (f_X9_isFigure z13) (fun z14 => if z14 = 0 then (some cursor) else (f_X9_next_L119 leng tape n (cursor + 1))))
theorem f_X9_next_L119_z (leng : Int32) (tape : Nat → Int32) (cursor : Int32) : f_X9_next_L119 leng tape 0 cursor = none := rfl
theorem f_X9_next_L119_s (leng : Int32) (tape : Nat → Int32) (n : Nat) (cursor : Int32) : f_X9_next_L119 leng tape (n + 1) cursor = bd (f_X9_byteAt leng tape cursor) (fun z13 => bd (f_X9_isFigure z13) (fun z14 => if z14 = 0 then (some cursor) else (f_X9_next_L119 leng tape n (cursor + 1)))) := rfl
set_option maxHeartbeats 4000000 in
set_option maxRecDepth 100000 in
theorem wl_X9_next_119 {p : Program} {l : Launch} {e : Env} {s : State} {m : MethodId} {below : List Frame} {meth : Method} {c : Code} {D : va_G} {cy : Nat → ClassId} {A : Nat → Prop} {args : Array Value} {Q : State → Prop} (C : Cx D cy A p s m meth c cX9_next 2 none wsX9_next RX9 args) (mAd : Nat → Nat) (thrown status acts taped latest leng token start till fault faultAt gifts traced : Int32) (lane many item bay fresh thn was tape left gift isKept kept trace : Nat → Int32) :
    ∀ (n : Nat) (cursor : Int32) (z : Int32), f_X9_next_L119 leng tape n cursor = some z → (∀ (U : Heap) (locs : List Loc) (ls : Array Slot), Gd D A s (w_M cy mAd thrown status acts taped latest leng z token start till fault faultAt gifts traced lane many item bay fresh thn was tape left gift isKept kept trace) U locs → lv_has ls 2 [(0, .ref (mAd 0))] → W p l e ({ frames := 1, cells := 0, slots := 0, locals := 21 } : Room) s m args below meth c U locs 0 0 Q (F0 m 146 ls [])) → ∀ (U : Heap) (locs : List Loc) (ls : Array Slot), Gd D A s (w_M cy mAd thrown status acts taped latest leng cursor token start till fault faultAt gifts traced lane many item bay fresh thn was tape left gift isKept kept trace) U locs → lv_has ls 2 [(0, .ref (mAd 0))] → W p l e ({ frames := 1, cells := 0, slots := 0, locals := 21 } : Room) s m args below meth c U locs 0 0 Q (F0 m 119 ls []) := by
  obtain ⟨hx, hb, hr, hml, hown, hts, hlk, hK, hA, hE⟩ := id C
  have lk0 := hts (Cond.fieldLink RX9 87 "TideDebtsModel" "cursor" "I") (List.mem_of_getElem? (i := 1) rfl)
  have hiX9 : ∀ w ∈ u_ws RX9 TX9 27, w ∈ wsX9_next := fun _ h => List.mem_cons_of_mem _ (List.mem_append_right _ h)
  intro n
  induction n with
  | zero =>
    intro cursor z H
    rw [f_X9_next_L119_z] at H
    cases H
  | succ n ih =>
    intro cursor z H kk U locs ls G hl
    rw [f_X9_next_L119_s] at H
    refine lv_aload_n hx hb dX9_next_119 rfl (lv_at hl 0 rfl) ?_
    refine lv_aload_n hx hb dX9_next_120 rfl (lv_at hl 0 rfl) ?_
    refine va_get (D := D) (ci := 9) (v := .int cursor) (C := RX9) (T := TX9) (N := 27) hx hb hts hiX9 hown hK G.1 0 rfl rfl 14 (by decide) lk0 (fun _ h9 => h9) rfl dX9_next_121 ?_
    obtain ⟨z13, hz13, H⟩ := bd_some H
    refine MI.callVw z13 [.int cursor] [] C G (c_X9_byteAt l D cy mAd thrown status acts taped latest leng cursor token start till fault faultAt gifts traced lane many item bay fresh thn was tape left gift isKept kept trace cursor z13 hz13) gX9_next_X9_byteAt rfl rfl rfl (n := 1) (by decide +kernel) ⟨Nat.le_of_ble_eq_true rfl, Nat.le_of_ble_eq_true rfl⟩ (q0 := 0) (ci := 9) rfl rfl rfl rfl hl.1 rfl (Nat.le_of_ble_eq_true rfl) dX9_next_124 ⟨Nat.zero_le _, Nat.zero_le _⟩ (fun U locs G => ?_)
    have G : Gd D A s (w_M cy mAd thrown status acts taped latest leng cursor token start till fault faultAt gifts traced lane many item bay fresh thn was tape left gift isKept kept trace) U locs := G
    obtain ⟨z14, hz14, H⟩ := bd_some H
    refine MI.callS z14 [.int z13] [] [] C G (c_X9_isFigure l D cy z13 z14 hz14) gX9_next_X9_isFigure rfl rfl rfl (n := 1) (by decide +kernel) ⟨Nat.le_of_ble_eq_true rfl, Nat.le_of_ble_eq_true rfl⟩ rfl rfl rfl rfl hl.1 rfl (Nat.le_of_ble_eq_true rfl) dX9_next_127 ⟨Nat.zero_le _, Nat.zero_le _⟩ (fun U locs G => ?_)
    have G : Gd D A s (w_M cy mAd thrown status acts taped latest leng cursor token start till fault faultAt gifts traced lane many item bay fresh thn was tape left gift isKept kept trace) U locs := G
    refine lv_if_eq (tgt := 146) hx hb dX9_next_130 (by decide) (fun c15 => ?_) (fun c15 => ?_)
    · have H := if_t H c15
      obtain rfl := Option.some.inj H
      exact kk _ _ _ G (lv_sub hl [0] rfl)
    · have H := if_f H c15
      refine lv_aload_n hx hb dX9_next_133 rfl (lv_at hl 0 rfl) ?_
      refine lv_dup hx hb dX9_next_134 rfl ?_
      refine va_get (D := D) (ci := 9) (v := .int cursor) (C := RX9) (T := TX9) (N := 27) hx hb hts hiX9 hown hK G.1 0 rfl rfl 14 (by decide) lk0 (fun _ h9 => h9) rfl dX9_next_135 ?_
      refine lv_iconst (v := 1) hx hb dX9_next_138 (by decide) ?_
      refine lv_iadd hx hb dX9_next_139 ?_
      refine va_put (D := D) (ci := 9) (v := .int (cursor + 1)) (ty := .int) (C := RX9) (T := TX9) (N := 27) hx hb hts hiX9 tyX9 tyX9_ok nmX9 hown hK G.1 G.2.1 G.2.2 0 rfl rfl 14 (by decide) lk0 (fun _ h9 => h9) rfl (tyX9_ok 14 (by decide)) rfl rfl (Nat.le_of_ble_eq_true rfl) dX9_next_140 (fun U locs hP hD hS => ?_)
      have G : Gd D A s (w_M cy mAd thrown status acts taped latest leng (cursor + 1) token start till fault faultAt gifts traced lane many item bay fresh thn was tape left gift isKept kept trace) U locs := ⟨hP, hD, hS⟩
      refine lv_goto (tgt := 119) hx hb dX9_next_143 (by decide) ?_
      exact ih (cursor + 1) z H kk _ _ _ G (lv_sub hl [0] rfl)
def f_X9_next_L77 (leng : Int32) (tape : Nat → Int32) : Nat → Int32 → Option Int32
  | 0, _ => none
  | n + 1, cursor => bd (f_X9_byteAt leng tape cursor) (fun z18 => bd (f_X9_isLetter z18) (fun z19 => if z19 = 0 then (some cursor) else (f_X9_next_L77 leng tape n (cursor + 1))))
theorem f_X9_next_L77_z (leng : Int32) (tape : Nat → Int32) (cursor : Int32) : f_X9_next_L77 leng tape 0 cursor = none := rfl
theorem f_X9_next_L77_s (leng : Int32) (tape : Nat → Int32) (n : Nat) (cursor : Int32) : f_X9_next_L77 leng tape (n + 1) cursor = bd (f_X9_byteAt leng tape cursor) (fun z18 => bd (f_X9_isLetter z18) (fun z19 => if z19 = 0 then (some cursor) else (f_X9_next_L77 leng tape n (cursor + 1)))) := rfl
set_option maxHeartbeats 4000000 in
set_option maxRecDepth 100000 in
theorem wl_X9_next_77 {p : Program} {l : Launch} {e : Env} {s : State} {m : MethodId} {below : List Frame} {meth : Method} {c : Code} {D : va_G} {cy : Nat → ClassId} {A : Nat → Prop} {args : Array Value} {Q : State → Prop} (C : Cx D cy A p s m meth c cX9_next 2 none wsX9_next RX9 args) (mAd : Nat → Nat) (thrown status acts taped latest leng token start till fault faultAt gifts traced : Int32) (lane many item bay fresh thn was tape left gift isKept kept trace : Nat → Int32) :
    ∀ (n : Nat) (cursor : Int32) (z : Int32), f_X9_next_L77 leng tape n cursor = some z → (∀ (U : Heap) (locs : List Loc) (ls : Array Slot), Gd D A s (w_M cy mAd thrown status acts taped latest leng z token start till fault faultAt gifts traced lane many item bay fresh thn was tape left gift isKept kept trace) U locs → lv_has ls 2 [(0, .ref (mAd 0))] → W p l e ({ frames := 1, cells := 0, slots := 0, locals := 21 } : Room) s m args below meth c U locs 0 0 Q (F0 m 104 ls [])) → ∀ (U : Heap) (locs : List Loc) (ls : Array Slot), Gd D A s (w_M cy mAd thrown status acts taped latest leng cursor token start till fault faultAt gifts traced lane many item bay fresh thn was tape left gift isKept kept trace) U locs → lv_has ls 2 [(0, .ref (mAd 0))] → W p l e ({ frames := 1, cells := 0, slots := 0, locals := 21 } : Room) s m args below meth c U locs 0 0 Q (F0 m 77 ls []) := by
  obtain ⟨hx, hb, hr, hml, hown, hts, hlk, hK, hA, hE⟩ := id C
  have lk0 := hts (Cond.fieldLink RX9 87 "TideDebtsModel" "cursor" "I") (List.mem_of_getElem? (i := 1) rfl)
  have hiX9 : ∀ w ∈ u_ws RX9 TX9 27, w ∈ wsX9_next := fun _ h => List.mem_cons_of_mem _ (List.mem_append_right _ h)
  intro n
  induction n with
  | zero =>
    intro cursor z H
    rw [f_X9_next_L77_z] at H
    cases H
  | succ n ih =>
    intro cursor z H kk U locs ls G hl
    rw [f_X9_next_L77_s] at H
    refine lv_aload_n hx hb dX9_next_77 rfl (lv_at hl 0 rfl) ?_
    refine lv_aload_n hx hb dX9_next_78 rfl (lv_at hl 0 rfl) ?_
    refine va_get (D := D) (ci := 9) (v := .int cursor) (C := RX9) (T := TX9) (N := 27) hx hb hts hiX9 hown hK G.1 0 rfl rfl 14 (by decide) lk0 (fun _ h9 => h9) rfl dX9_next_79 ?_
    obtain ⟨z18, hz18, H⟩ := bd_some H
    refine MI.callVw z18 [.int cursor] [] C G (c_X9_byteAt l D cy mAd thrown status acts taped latest leng cursor token start till fault faultAt gifts traced lane many item bay fresh thn was tape left gift isKept kept trace cursor z18 hz18) gX9_next_X9_byteAt rfl rfl rfl (n := 1) (by decide +kernel) ⟨Nat.le_of_ble_eq_true rfl, Nat.le_of_ble_eq_true rfl⟩ (q0 := 0) (ci := 9) rfl rfl rfl rfl hl.1 rfl (Nat.le_of_ble_eq_true rfl) dX9_next_82 ⟨Nat.zero_le _, Nat.zero_le _⟩ (fun U locs G => ?_)
    have G : Gd D A s (w_M cy mAd thrown status acts taped latest leng cursor token start till fault faultAt gifts traced lane many item bay fresh thn was tape left gift isKept kept trace) U locs := G
    obtain ⟨z19, hz19, H⟩ := bd_some H
    refine MI.callS z19 [.int z18] [] [] C G (c_X9_isLetter l D cy z18 z19 hz19) gX9_next_X9_isLetter rfl rfl rfl (n := 1) (by decide +kernel) ⟨Nat.le_of_ble_eq_true rfl, Nat.le_of_ble_eq_true rfl⟩ rfl rfl rfl rfl hl.1 rfl (Nat.le_of_ble_eq_true rfl) dX9_next_85 ⟨Nat.zero_le _, Nat.zero_le _⟩ (fun U locs G => ?_)
    have G : Gd D A s (w_M cy mAd thrown status acts taped latest leng cursor token start till fault faultAt gifts traced lane many item bay fresh thn was tape left gift isKept kept trace) U locs := G
    refine lv_if_eq (tgt := 104) hx hb dX9_next_88 (by decide) (fun c20 => ?_) (fun c20 => ?_)
    · have H := if_t H c20
      obtain rfl := Option.some.inj H
      exact kk _ _ _ G (lv_sub hl [0] rfl)
    · have H := if_f H c20
      refine lv_aload_n hx hb dX9_next_91 rfl (lv_at hl 0 rfl) ?_
      refine lv_dup hx hb dX9_next_92 rfl ?_
      refine va_get (D := D) (ci := 9) (v := .int cursor) (C := RX9) (T := TX9) (N := 27) hx hb hts hiX9 hown hK G.1 0 rfl rfl 14 (by decide) lk0 (fun _ h9 => h9) rfl dX9_next_93 ?_
      refine lv_iconst (v := 1) hx hb dX9_next_96 (by decide) ?_
      refine lv_iadd hx hb dX9_next_97 ?_
      refine va_put (D := D) (ci := 9) (v := .int (cursor + 1)) (ty := .int) (C := RX9) (T := TX9) (N := 27) hx hb hts hiX9 tyX9 tyX9_ok nmX9 hown hK G.1 G.2.1 G.2.2 0 rfl rfl 14 (by decide) lk0 (fun _ h9 => h9) rfl (tyX9_ok 14 (by decide)) rfl rfl (Nat.le_of_ble_eq_true rfl) dX9_next_98 (fun U locs hP hD hS => ?_)
      have G : Gd D A s (w_M cy mAd thrown status acts taped latest leng (cursor + 1) token start till fault faultAt gifts traced lane many item bay fresh thn was tape left gift isKept kept trace) U locs := ⟨hP, hD, hS⟩
      refine lv_goto (tgt := 77) hx hb dX9_next_101 (by decide) ?_
      exact ih (cursor + 1) z H kk _ _ _ G (lv_sub hl [0] rfl)
def f_X9_next (leng cursor token start till : Int32) (tape : Nat → Int32) : Option (Int32 × Int32 × Int32 × Int32) := bd (f_X9_next_L0 leng tape 2000 cursor) (fun z5 => bd (f_X9_byteAt leng tape z5) (fun z6 => if z6 = (-1000000) then (some (z5, 1, z5, z5)) else (bd (f_X9_isLetter z6) (fun z8 => if z8 = 0 then (bd (f_X9_isFigure z6) (fun z10 => if z10 = 0 then (if z6 = 59 then (some (z5 + 1, 4, z5, z5 + 1)) else (some (z5 + 1, 0, z5, z5 + 1))) else (bd (f_X9_next_L119 leng tape 2000 z5) (fun z16 => if (z16 - z5) ≤ 3 then (some (z16, 3, z5, z16)) else (some (z16, 0, z5, z16)))))) else (bd (f_X9_next_L77 leng tape 2000 z5) (fun z21 => some (z21, 2, z5, z21)))))))
set_option maxHeartbeats 4000000 in
set_option maxRecDepth 100000 in
theorem c_X9_next (l : Launch) (D : va_G) (cy : Nat → ClassId) (mAd : Nat → Nat) (thrown status acts taped latest leng cursor token start till fault faultAt gifts traced : Int32) (lane many item bay fresh thn was tape left gift isKept kept trace : Nat → Int32) (z : (Int32 × Int32 × Int32 × Int32)) (hz : f_X9_next leng cursor token start till tape = some z) : MV l yX9_next wsX9_next ({ frames := 1, cells := 0, slots := 0, locals := 21 } : Room) D cy [.ref (mAd 0)] (w_M cy mAd thrown status acts taped latest leng cursor token start till fault faultAt gifts traced lane many item bay fresh thn was tape left gift isKept kept trace) (w_M cy mAd thrown status acts taped latest leng z.1 z.2.1 z.2.2.1 z.2.2.2 fault faultAt gifts traced lane many item bay fresh thn was tape left gift isKept kept trace) := by
  refine met_start (Qf := fun A => MQv D cy (w_M cy mAd thrown status acts taped latest leng z.1 z.2.1 z.2.2.1 z.2.2.2 fault faultAt gifts traced lane many item bay fresh thn was tape left gift isKept kept trace) A) (cc := cX9_next) (nL := 2) (ret := none) RX9 rfl (by decide) rfl (Nat.le_of_ble_eq_true rfl) ?_
  intro p e s m below meth c A ls C G hl
  have hl : lv_has ls 2 [(0, .ref (mAd 0))] := hl
  have H := hz
  unfold f_X9_next at H
  obtain ⟨hx, hb, hr, hml, hown, hts, hlk, hK, hA, hE⟩ := id C
  have lk0 := hts (Cond.fieldLink RX9 87 "TideDebtsModel" "cursor" "I") (List.mem_of_getElem? (i := 1) rfl)
  have lk1 := hts (Cond.fieldLink RX9 93 "TideDebtsModel" "start" "I") (List.mem_of_getElem? (i := 2) rfl)
  have lk2 := hts (Cond.constant RX9 86 (-1000000)) (List.mem_of_getElem? (i := 3) rfl)
  have lk3 := hts (Cond.fieldLink RX9 96 "TideDebtsModel" "token" "I") (List.mem_of_getElem? (i := 4) rfl)
  have lk4 := hts (Cond.fieldLink RX9 105 "TideDebtsModel" "till" "I") (List.mem_of_getElem? (i := 5) rfl)
  have hiX9 : ∀ w ∈ u_ws RX9 TX9 27, w ∈ wsX9_next := fun _ h => List.mem_cons_of_mem _ (List.mem_append_right _ h)
  obtain ⟨z5, hz5, H⟩ := bd_some H
  refine wl_X9_next_0 C mAd thrown status acts taped latest leng token start till fault faultAt gifts traced lane many item bay fresh thn was tape left gift isKept kept trace _ cursor z5 hz5 (fun U locs ls G hl => ?_) _ _ _ G (lv_sub hl [0] rfl)
  have G : Gd D A s (w_M cy mAd thrown status acts taped latest leng z5 token start till fault faultAt gifts traced lane many item bay fresh thn was tape left gift isKept kept trace) U locs := G
  have hl : lv_has ls 2 [(0, .ref (mAd 0))] := hl
  refine lv_aload_n hx hb dX9_next_39 rfl (lv_at hl 0 rfl) ?_
  refine lv_aload_n hx hb dX9_next_40 rfl (lv_at hl 0 rfl) ?_
  refine va_get (D := D) (ci := 9) (v := .int z5) (C := RX9) (T := TX9) (N := 27) hx hb hts hiX9 hown hK G.1 0 rfl rfl 14 (by decide) lk0 (fun _ h9 => h9) rfl dX9_next_41 ?_
  refine va_put (D := D) (ci := 9) (v := .int z5) (ty := .int) (C := RX9) (T := TX9) (N := 27) hx hb hts hiX9 tyX9 tyX9_ok nmX9 hown hK G.1 G.2.1 G.2.2 0 rfl rfl 16 (by decide) lk1 (fun _ h9 => h9) rfl (tyX9_ok 16 (by decide)) rfl rfl (Nat.le_of_ble_eq_true rfl) dX9_next_44 (fun U locs hP hD hS => ?_)
  have G : Gd D A s (w_M cy mAd thrown status acts taped latest leng z5 token z5 till fault faultAt gifts traced lane many item bay fresh thn was tape left gift isKept kept trace) U locs := ⟨hP, hD, hS⟩
  refine lv_aload_n hx hb dX9_next_47 rfl (lv_at hl 0 rfl) ?_
  refine lv_aload_n hx hb dX9_next_48 rfl (lv_at hl 0 rfl) ?_
  refine va_get (D := D) (ci := 9) (v := .int z5) (C := RX9) (T := TX9) (N := 27) hx hb hts hiX9 hown hK G.1 0 rfl rfl 14 (by decide) lk0 (fun _ h9 => h9) rfl dX9_next_49 ?_
  obtain ⟨z6, hz6, H⟩ := bd_some H
  refine MI.callVw z6 [.int z5] [] C G (c_X9_byteAt l D cy mAd thrown status acts taped latest leng z5 token z5 till fault faultAt gifts traced lane many item bay fresh thn was tape left gift isKept kept trace z5 z6 hz6) gX9_next_X9_byteAt rfl rfl rfl (n := 1) (by decide +kernel) ⟨Nat.le_of_ble_eq_true rfl, Nat.le_of_ble_eq_true rfl⟩ (q0 := 0) (ci := 9) rfl rfl rfl rfl hl.1 rfl (Nat.le_of_ble_eq_true rfl) dX9_next_52 ⟨Nat.zero_le _, Nat.zero_le _⟩ (fun U locs G => ?_)
  have G : Gd D A s (w_M cy mAd thrown status acts taped latest leng z5 token z5 till fault faultAt gifts traced lane many item bay fresh thn was tape left gift isKept kept trace) U locs := G
  refine lv_istore_n (lv' := [(1, .int z6), (0, .ref (mAd 0))]) hx hb dX9_next_55 rfl hl (by decide) rfl (fun ls hl => ?_)
  refine lv_iload_n hx hb dX9_next_56 rfl (lv_at hl 0 rfl) ?_
  refine lv_ldc hx hb hown lk2 dX9_next_57 ?_
  refine lv_icmp_ne (tgt := 70) hx hb dX9_next_59 (by decide) (fun c7 => ?_) (fun c7 => ?_)
  · have H := if_f H c7
    refine lv_iload_n hx hb dX9_next_70 rfl (lv_at hl 0 rfl) ?_
    obtain ⟨z8, hz8, H⟩ := bd_some H
    refine MI.callS z8 [.int z6] [] [] C G (c_X9_isLetter l D cy z6 z8 hz8) gX9_next_X9_isLetter rfl rfl rfl (n := 1) (by decide +kernel) ⟨Nat.le_of_ble_eq_true rfl, Nat.le_of_ble_eq_true rfl⟩ rfl rfl rfl rfl hl.1 rfl (Nat.le_of_ble_eq_true rfl) dX9_next_71 ⟨Nat.zero_le _, Nat.zero_le _⟩ (fun U locs G => ?_)
    have G : Gd D A s (w_M cy mAd thrown status acts taped latest leng z5 token z5 till fault faultAt gifts traced lane many item bay fresh thn was tape left gift isKept kept trace) U locs := G
    refine lv_if_eq (tgt := 112) hx hb dX9_next_74 (by decide) (fun c9 => ?_) (fun c9 => ?_)
    · have H := if_t H c9
      refine lv_iload_n hx hb dX9_next_112 rfl (lv_at hl 0 rfl) ?_
      obtain ⟨z10, hz10, H⟩ := bd_some H
      refine MI.callS z10 [.int z6] [] [] C G (c_X9_isFigure l D cy z6 z10 hz10) gX9_next_X9_isFigure rfl rfl rfl (n := 1) (by decide +kernel) ⟨Nat.le_of_ble_eq_true rfl, Nat.le_of_ble_eq_true rfl⟩ rfl rfl rfl rfl hl.1 rfl (Nat.le_of_ble_eq_true rfl) dX9_next_113 ⟨Nat.zero_le _, Nat.zero_le _⟩ (fun U locs G => ?_)
      have G : Gd D A s (w_M cy mAd thrown status acts taped latest leng z5 token z5 till fault faultAt gifts traced lane many item bay fresh thn was tape left gift isKept kept trace) U locs := G
      refine lv_if_eq (tgt := 171) hx hb dX9_next_116 (by decide) (fun c11 => ?_) (fun c11 => ?_)
      · have H := if_t H c11
        refine lv_aload_n hx hb dX9_next_171 rfl (lv_at hl 1 rfl) ?_
        refine lv_dup hx hb dX9_next_172 rfl ?_
        refine va_get (D := D) (ci := 9) (v := .int z5) (C := RX9) (T := TX9) (N := 27) hx hb hts hiX9 hown hK G.1 0 rfl rfl 14 (by decide) lk0 (fun _ h9 => h9) rfl dX9_next_173 ?_
        refine lv_iconst (v := 1) hx hb dX9_next_176 (by decide) ?_
        refine lv_iadd hx hb dX9_next_177 ?_
        refine va_put (D := D) (ci := 9) (v := .int (z5 + 1)) (ty := .int) (C := RX9) (T := TX9) (N := 27) hx hb hts hiX9 tyX9 tyX9_ok nmX9 hown hK G.1 G.2.1 G.2.2 0 rfl rfl 14 (by decide) lk0 (fun _ h9 => h9) rfl (tyX9_ok 14 (by decide)) rfl rfl (Nat.le_of_ble_eq_true rfl) dX9_next_178 (fun U locs hP hD hS => ?_)
        have G : Gd D A s (w_M cy mAd thrown status acts taped latest leng (z5 + 1) token z5 till fault faultAt gifts traced lane many item bay fresh thn was tape left gift isKept kept trace) U locs := ⟨hP, hD, hS⟩
        refine lv_aload_n hx hb dX9_next_181 rfl (lv_at hl 1 rfl) ?_
        refine lv_iload_n hx hb dX9_next_182 rfl (lv_at hl 0 rfl) ?_
        refine lv_bipush (v := 59) hx hb dX9_next_183 (by decide) ?_
        refine lv_icmp_ne (tgt := 192) hx hb dX9_next_185 (by decide) (fun c12 => ?_) (fun c12 => ?_)
        · have H := if_f H c12
          refine lv_iconst (v := 0) hx hb dX9_next_192 (by decide) ?_
          refine va_put (D := D) (ci := 9) (v := .int 0) (ty := .int) (C := RX9) (T := TX9) (N := 27) hx hb hts hiX9 tyX9 tyX9_ok nmX9 hown hK G.1 G.2.1 G.2.2 0 rfl rfl 15 (by decide) lk3 (fun _ h9 => h9) rfl (tyX9_ok 15 (by decide)) rfl rfl (Nat.le_of_ble_eq_true rfl) dX9_next_193 (fun U locs hP hD hS => ?_)
          have G : Gd D A s (w_M cy mAd thrown status acts taped latest leng (z5 + 1) 0 z5 till fault faultAt gifts traced lane many item bay fresh thn was tape left gift isKept kept trace) U locs := ⟨hP, hD, hS⟩
          refine lv_aload_n hx hb dX9_next_196 rfl (lv_at hl 1 rfl) ?_
          refine lv_aload_n hx hb dX9_next_197 rfl (lv_at hl 1 rfl) ?_
          refine va_get (D := D) (ci := 9) (v := .int (z5 + 1)) (C := RX9) (T := TX9) (N := 27) hx hb hts hiX9 hown hK G.1 0 rfl rfl 14 (by decide) lk0 (fun _ h9 => h9) rfl dX9_next_198 ?_
          refine va_put (D := D) (ci := 9) (v := .int (z5 + 1)) (ty := .int) (C := RX9) (T := TX9) (N := 27) hx hb hts hiX9 tyX9 tyX9_ok nmX9 hown hK G.1 G.2.1 G.2.2 0 rfl rfl 17 (by decide) lk4 (fun _ h9 => h9) rfl (tyX9_ok 17 (by decide)) rfl rfl (Nat.le_of_ble_eq_true rfl) dX9_next_201 (fun U locs hP hD hS => ?_)
          have G : Gd D A s (w_M cy mAd thrown status acts taped latest leng (z5 + 1) 0 z5 (z5 + 1) fault faultAt gifts traced lane many item bay fresh thn was tape left gift isKept kept trace) U locs := ⟨hP, hD, hS⟩
          obtain rfl := Option.some.inj H
          exact ret_v C G dX9_next_204
        · have H := if_t H c12
          refine lv_iconst (v := 4) hx hb dX9_next_188 (by decide) ?_
          refine lv_goto (tgt := 193) hx hb dX9_next_189 (by decide) ?_
          refine va_put (D := D) (ci := 9) (v := .int 4) (ty := .int) (C := RX9) (T := TX9) (N := 27) hx hb hts hiX9 tyX9 tyX9_ok nmX9 hown hK G.1 G.2.1 G.2.2 0 rfl rfl 15 (by decide) lk3 (fun _ h9 => h9) rfl (tyX9_ok 15 (by decide)) rfl rfl (Nat.le_of_ble_eq_true rfl) dX9_next_193 (fun U locs hP hD hS => ?_)
          have G : Gd D A s (w_M cy mAd thrown status acts taped latest leng (z5 + 1) 4 z5 till fault faultAt gifts traced lane many item bay fresh thn was tape left gift isKept kept trace) U locs := ⟨hP, hD, hS⟩
          refine lv_aload_n hx hb dX9_next_196 rfl (lv_at hl 1 rfl) ?_
          refine lv_aload_n hx hb dX9_next_197 rfl (lv_at hl 1 rfl) ?_
          refine va_get (D := D) (ci := 9) (v := .int (z5 + 1)) (C := RX9) (T := TX9) (N := 27) hx hb hts hiX9 hown hK G.1 0 rfl rfl 14 (by decide) lk0 (fun _ h9 => h9) rfl dX9_next_198 ?_
          refine va_put (D := D) (ci := 9) (v := .int (z5 + 1)) (ty := .int) (C := RX9) (T := TX9) (N := 27) hx hb hts hiX9 tyX9 tyX9_ok nmX9 hown hK G.1 G.2.1 G.2.2 0 rfl rfl 17 (by decide) lk4 (fun _ h9 => h9) rfl (tyX9_ok 17 (by decide)) rfl rfl (Nat.le_of_ble_eq_true rfl) dX9_next_201 (fun U locs hP hD hS => ?_)
          have G : Gd D A s (w_M cy mAd thrown status acts taped latest leng (z5 + 1) 4 z5 (z5 + 1) fault faultAt gifts traced lane many item bay fresh thn was tape left gift isKept kept trace) U locs := ⟨hP, hD, hS⟩
          obtain rfl := Option.some.inj H
          exact ret_v C G dX9_next_204
      · have H := if_f H c11
        obtain ⟨z16, hz16, H⟩ := bd_some H
        refine wl_X9_next_119 C mAd thrown status acts taped latest leng token z5 till fault faultAt gifts traced lane many item bay fresh thn was tape left gift isKept kept trace _ z5 z16 hz16 (fun U locs ls G hl => ?_) _ _ _ G (lv_sub hl [1] rfl)
        have G : Gd D A s (w_M cy mAd thrown status acts taped latest leng z16 token z5 till fault faultAt gifts traced lane many item bay fresh thn was tape left gift isKept kept trace) U locs := G
        have hl : lv_has ls 2 [(0, .ref (mAd 0))] := hl
        refine lv_aload_n hx hb dX9_next_146 rfl (lv_at hl 0 rfl) ?_
        refine lv_aload_n hx hb dX9_next_147 rfl (lv_at hl 0 rfl) ?_
        refine va_get (D := D) (ci := 9) (v := .int z16) (C := RX9) (T := TX9) (N := 27) hx hb hts hiX9 hown hK G.1 0 rfl rfl 14 (by decide) lk0 (fun _ h9 => h9) rfl dX9_next_148 ?_
        refine lv_aload_n hx hb dX9_next_151 rfl (lv_at hl 0 rfl) ?_
        refine va_get (D := D) (ci := 9) (v := .int z5) (C := RX9) (T := TX9) (N := 27) hx hb hts hiX9 hown hK G.1 0 rfl rfl 16 (by decide) lk1 (fun _ h9 => h9) rfl dX9_next_152 ?_
        refine lv_isub hx hb dX9_next_155 ?_
        refine lv_iconst (v := 3) hx hb dX9_next_156 (by decide) ?_
        refine lv_icmp_le (tgt := 164) hx hb dX9_next_157 (by decide) (fun c17 => ?_) (fun c17 => ?_)
        · have H := if_t H c17
          refine lv_iconst (v := 3) hx hb dX9_next_164 (by decide) ?_
          refine va_put (D := D) (ci := 9) (v := .int 3) (ty := .int) (C := RX9) (T := TX9) (N := 27) hx hb hts hiX9 tyX9 tyX9_ok nmX9 hown hK G.1 G.2.1 G.2.2 0 rfl rfl 15 (by decide) lk3 (fun _ h9 => h9) rfl (tyX9_ok 15 (by decide)) rfl rfl (Nat.le_of_ble_eq_true rfl) dX9_next_165 (fun U locs hP hD hS => ?_)
          have G : Gd D A s (w_M cy mAd thrown status acts taped latest leng z16 3 z5 till fault faultAt gifts traced lane many item bay fresh thn was tape left gift isKept kept trace) U locs := ⟨hP, hD, hS⟩
          refine lv_goto (tgt := 196) hx hb dX9_next_168 (by decide) ?_
          refine lv_aload_n hx hb dX9_next_196 rfl (lv_at hl 0 rfl) ?_
          refine lv_aload_n hx hb dX9_next_197 rfl (lv_at hl 0 rfl) ?_
          refine va_get (D := D) (ci := 9) (v := .int z16) (C := RX9) (T := TX9) (N := 27) hx hb hts hiX9 hown hK G.1 0 rfl rfl 14 (by decide) lk0 (fun _ h9 => h9) rfl dX9_next_198 ?_
          refine va_put (D := D) (ci := 9) (v := .int z16) (ty := .int) (C := RX9) (T := TX9) (N := 27) hx hb hts hiX9 tyX9 tyX9_ok nmX9 hown hK G.1 G.2.1 G.2.2 0 rfl rfl 17 (by decide) lk4 (fun _ h9 => h9) rfl (tyX9_ok 17 (by decide)) rfl rfl (Nat.le_of_ble_eq_true rfl) dX9_next_201 (fun U locs hP hD hS => ?_)
          have G : Gd D A s (w_M cy mAd thrown status acts taped latest leng z16 3 z5 z16 fault faultAt gifts traced lane many item bay fresh thn was tape left gift isKept kept trace) U locs := ⟨hP, hD, hS⟩
          obtain rfl := Option.some.inj H
          exact ret_v C G dX9_next_204
        · have H := if_f H c17
          refine lv_iconst (v := 0) hx hb dX9_next_160 (by decide) ?_
          refine lv_goto (tgt := 165) hx hb dX9_next_161 (by decide) ?_
          refine va_put (D := D) (ci := 9) (v := .int 0) (ty := .int) (C := RX9) (T := TX9) (N := 27) hx hb hts hiX9 tyX9 tyX9_ok nmX9 hown hK G.1 G.2.1 G.2.2 0 rfl rfl 15 (by decide) lk3 (fun _ h9 => h9) rfl (tyX9_ok 15 (by decide)) rfl rfl (Nat.le_of_ble_eq_true rfl) dX9_next_165 (fun U locs hP hD hS => ?_)
          have G : Gd D A s (w_M cy mAd thrown status acts taped latest leng z16 0 z5 till fault faultAt gifts traced lane many item bay fresh thn was tape left gift isKept kept trace) U locs := ⟨hP, hD, hS⟩
          refine lv_goto (tgt := 196) hx hb dX9_next_168 (by decide) ?_
          refine lv_aload_n hx hb dX9_next_196 rfl (lv_at hl 0 rfl) ?_
          refine lv_aload_n hx hb dX9_next_197 rfl (lv_at hl 0 rfl) ?_
          refine va_get (D := D) (ci := 9) (v := .int z16) (C := RX9) (T := TX9) (N := 27) hx hb hts hiX9 hown hK G.1 0 rfl rfl 14 (by decide) lk0 (fun _ h9 => h9) rfl dX9_next_198 ?_
          refine va_put (D := D) (ci := 9) (v := .int z16) (ty := .int) (C := RX9) (T := TX9) (N := 27) hx hb hts hiX9 tyX9 tyX9_ok nmX9 hown hK G.1 G.2.1 G.2.2 0 rfl rfl 17 (by decide) lk4 (fun _ h9 => h9) rfl (tyX9_ok 17 (by decide)) rfl rfl (Nat.le_of_ble_eq_true rfl) dX9_next_201 (fun U locs hP hD hS => ?_)
          have G : Gd D A s (w_M cy mAd thrown status acts taped latest leng z16 0 z5 z16 fault faultAt gifts traced lane many item bay fresh thn was tape left gift isKept kept trace) U locs := ⟨hP, hD, hS⟩
          obtain rfl := Option.some.inj H
          exact ret_v C G dX9_next_204
    · have H := if_f H c9
      obtain ⟨z21, hz21, H⟩ := bd_some H
      refine wl_X9_next_77 C mAd thrown status acts taped latest leng token z5 till fault faultAt gifts traced lane many item bay fresh thn was tape left gift isKept kept trace _ z5 z21 hz21 (fun U locs ls G hl => ?_) _ _ _ G (lv_sub hl [1] rfl)
      have G : Gd D A s (w_M cy mAd thrown status acts taped latest leng z21 token z5 till fault faultAt gifts traced lane many item bay fresh thn was tape left gift isKept kept trace) U locs := G
      have hl : lv_has ls 2 [(0, .ref (mAd 0))] := hl
      refine lv_aload_n hx hb dX9_next_104 rfl (lv_at hl 0 rfl) ?_
      refine lv_iconst (v := 2) hx hb dX9_next_105 (by decide) ?_
      refine va_put (D := D) (ci := 9) (v := .int 2) (ty := .int) (C := RX9) (T := TX9) (N := 27) hx hb hts hiX9 tyX9 tyX9_ok nmX9 hown hK G.1 G.2.1 G.2.2 0 rfl rfl 15 (by decide) lk3 (fun _ h9 => h9) rfl (tyX9_ok 15 (by decide)) rfl rfl (Nat.le_of_ble_eq_true rfl) dX9_next_106 (fun U locs hP hD hS => ?_)
      have G : Gd D A s (w_M cy mAd thrown status acts taped latest leng z21 2 z5 till fault faultAt gifts traced lane many item bay fresh thn was tape left gift isKept kept trace) U locs := ⟨hP, hD, hS⟩
      refine lv_goto (tgt := 196) hx hb dX9_next_109 (by decide) ?_
      refine lv_aload_n hx hb dX9_next_196 rfl (lv_at hl 0 rfl) ?_
      refine lv_aload_n hx hb dX9_next_197 rfl (lv_at hl 0 rfl) ?_
      refine va_get (D := D) (ci := 9) (v := .int z21) (C := RX9) (T := TX9) (N := 27) hx hb hts hiX9 hown hK G.1 0 rfl rfl 14 (by decide) lk0 (fun _ h9 => h9) rfl dX9_next_198 ?_
      refine va_put (D := D) (ci := 9) (v := .int z21) (ty := .int) (C := RX9) (T := TX9) (N := 27) hx hb hts hiX9 tyX9 tyX9_ok nmX9 hown hK G.1 G.2.1 G.2.2 0 rfl rfl 17 (by decide) lk4 (fun _ h9 => h9) rfl (tyX9_ok 17 (by decide)) rfl rfl (Nat.le_of_ble_eq_true rfl) dX9_next_201 (fun U locs hP hD hS => ?_)
      have G : Gd D A s (w_M cy mAd thrown status acts taped latest leng z21 2 z5 z21 fault faultAt gifts traced lane many item bay fresh thn was tape left gift isKept kept trace) U locs := ⟨hP, hD, hS⟩
      obtain rfl := Option.some.inj H
      exact ret_v C G dX9_next_204
  · have H := if_t H c7
    refine lv_aload_n hx hb dX9_next_62 rfl (lv_at hl 1 rfl) ?_
    refine lv_iconst (v := 1) hx hb dX9_next_63 (by decide) ?_
    refine va_put (D := D) (ci := 9) (v := .int 1) (ty := .int) (C := RX9) (T := TX9) (N := 27) hx hb hts hiX9 tyX9 tyX9_ok nmX9 hown hK G.1 G.2.1 G.2.2 0 rfl rfl 15 (by decide) lk3 (fun _ h9 => h9) rfl (tyX9_ok 15 (by decide)) rfl rfl (Nat.le_of_ble_eq_true rfl) dX9_next_64 (fun U locs hP hD hS => ?_)
    have G : Gd D A s (w_M cy mAd thrown status acts taped latest leng z5 1 z5 till fault faultAt gifts traced lane many item bay fresh thn was tape left gift isKept kept trace) U locs := ⟨hP, hD, hS⟩
    refine lv_goto (tgt := 196) hx hb dX9_next_67 (by decide) ?_
    refine lv_aload_n hx hb dX9_next_196 rfl (lv_at hl 1 rfl) ?_
    refine lv_aload_n hx hb dX9_next_197 rfl (lv_at hl 1 rfl) ?_
    refine va_get (D := D) (ci := 9) (v := .int z5) (C := RX9) (T := TX9) (N := 27) hx hb hts hiX9 hown hK G.1 0 rfl rfl 14 (by decide) lk0 (fun _ h9 => h9) rfl dX9_next_198 ?_
    refine va_put (D := D) (ci := 9) (v := .int z5) (ty := .int) (C := RX9) (T := TX9) (N := 27) hx hb hts hiX9 tyX9 tyX9_ok nmX9 hown hK G.1 G.2.1 G.2.2 0 rfl rfl 17 (by decide) lk4 (fun _ h9 => h9) rfl (tyX9_ok 17 (by decide)) rfl rfl (Nat.le_of_ble_eq_true rfl) dX9_next_201 (fun U locs hP hD hS => ?_)
    have G : Gd D A s (w_M cy mAd thrown status acts taped latest leng z5 1 z5 z5 fault faultAt gifts traced lane many item bay fresh thn was tape left gift isKept kept trace) U locs := ⟨hP, hD, hS⟩
    obtain rfl := Option.some.inj H
    exact ret_v C G dX9_next_204
def f_X9_begin (taped leng cursor token start till fault : Int32) (tape : Nat → Int32) : Option (Int32 × Int32 × Int32 × Int32 × Int32 × Int32 × Int32) := bd (f_X9_next taped 0 token start till tape) (fun z1 => some (0, taped, z1.1, z1.2.1, z1.2.2.1, z1.2.2.2, 0))
set_option maxHeartbeats 4000000 in
set_option maxRecDepth 100000 in
theorem c_X9_begin (l : Launch) (D : va_G) (cy : Nat → ClassId) (mAd : Nat → Nat) (thrown status acts taped latest leng cursor token start till fault faultAt gifts traced : Int32) (lane many item bay fresh thn was tape left gift isKept kept trace : Nat → Int32) (z : (Int32 × Int32 × Int32 × Int32 × Int32 × Int32 × Int32)) (hz : f_X9_begin taped leng cursor token start till fault tape = some z) : MV l yX9_begin wsX9_begin ({ frames := 2, cells := 0, slots := 0, locals := 42 } : Room) D cy [.ref (mAd 0)] (w_M cy mAd thrown status acts taped latest leng cursor token start till fault faultAt gifts traced lane many item bay fresh thn was tape left gift isKept kept trace) (w_M cy mAd thrown status acts z.1 latest z.2.1 z.2.2.1 z.2.2.2.1 z.2.2.2.2.1 z.2.2.2.2.2.1 z.2.2.2.2.2.2 faultAt gifts traced lane many item bay fresh thn was tape left gift isKept kept trace) := by
  refine met_start (Qf := fun A => MQv D cy (w_M cy mAd thrown status acts z.1 latest z.2.1 z.2.2.1 z.2.2.2.1 z.2.2.2.2.1 z.2.2.2.2.2.1 z.2.2.2.2.2.2 faultAt gifts traced lane many item bay fresh thn was tape left gift isKept kept trace) A) (cc := cX9_begin) (nL := 1) (ret := none) RX9 rfl (by decide) rfl (Nat.le_of_ble_eq_true rfl) ?_
  intro p e s m below meth c A ls C G hl
  have hl : lv_has ls 1 [(0, .ref (mAd 0))] := hl
  have H := hz
  unfold f_X9_begin at H
  obtain ⟨hx, hb, hr, hml, hown, hts, hlk, hK, hA, hE⟩ := id C
  have lk0 := hts (Cond.fieldLink RX9 77 "TideDebtsModel" "taped" "I") (List.mem_of_getElem? (i := 1) rfl)
  have lk1 := hts (Cond.fieldLink RX9 83 "TideDebtsModel" "length" "I") (List.mem_of_getElem? (i := 2) rfl)
  have lk2 := hts (Cond.fieldLink RX9 87 "TideDebtsModel" "cursor" "I") (List.mem_of_getElem? (i := 3) rfl)
  have lk3 := hts (Cond.fieldLink RX9 108 "TideDebtsModel" "fault" "I") (List.mem_of_getElem? (i := 4) rfl)
  have hiX9 : ∀ w ∈ u_ws RX9 TX9 27, w ∈ wsX9_begin := fun _ h => List.mem_cons_of_mem _ (List.mem_append_right _ h)
  refine lv_aload_n hx hb dX9_begin_0 rfl (lv_at hl 0 rfl) ?_
  refine lv_aload_n hx hb dX9_begin_1 rfl (lv_at hl 0 rfl) ?_
  refine va_get (D := D) (ci := 9) (v := .int taped) (C := RX9) (T := TX9) (N := 27) hx hb hts hiX9 hown hK G.1 0 rfl rfl 11 (by decide) lk0 (fun _ h9 => h9) rfl dX9_begin_2 ?_
  refine va_put (D := D) (ci := 9) (v := .int taped) (ty := .int) (C := RX9) (T := TX9) (N := 27) hx hb hts hiX9 tyX9 tyX9_ok nmX9 hown hK G.1 G.2.1 G.2.2 0 rfl rfl 13 (by decide) lk1 (fun _ h9 => h9) rfl (tyX9_ok 13 (by decide)) rfl rfl (Nat.le_of_ble_eq_true rfl) dX9_begin_5 (fun U locs hP hD hS => ?_)
  have G : Gd D A s (w_M cy mAd thrown status acts taped latest taped cursor token start till fault faultAt gifts traced lane many item bay fresh thn was tape left gift isKept kept trace) U locs := ⟨hP, hD, hS⟩
  refine lv_aload_n hx hb dX9_begin_8 rfl (lv_at hl 0 rfl) ?_
  refine lv_iconst (v := 0) hx hb dX9_begin_9 (by decide) ?_
  refine va_put (D := D) (ci := 9) (v := .int 0) (ty := .int) (C := RX9) (T := TX9) (N := 27) hx hb hts hiX9 tyX9 tyX9_ok nmX9 hown hK G.1 G.2.1 G.2.2 0 rfl rfl 11 (by decide) lk0 (fun _ h9 => h9) rfl (tyX9_ok 11 (by decide)) rfl rfl (Nat.le_of_ble_eq_true rfl) dX9_begin_10 (fun U locs hP hD hS => ?_)
  have G : Gd D A s (w_M cy mAd thrown status acts 0 latest taped cursor token start till fault faultAt gifts traced lane many item bay fresh thn was tape left gift isKept kept trace) U locs := ⟨hP, hD, hS⟩
  refine lv_aload_n hx hb dX9_begin_13 rfl (lv_at hl 0 rfl) ?_
  refine lv_iconst (v := 0) hx hb dX9_begin_14 (by decide) ?_
  refine va_put (D := D) (ci := 9) (v := .int 0) (ty := .int) (C := RX9) (T := TX9) (N := 27) hx hb hts hiX9 tyX9 tyX9_ok nmX9 hown hK G.1 G.2.1 G.2.2 0 rfl rfl 14 (by decide) lk2 (fun _ h9 => h9) rfl (tyX9_ok 14 (by decide)) rfl rfl (Nat.le_of_ble_eq_true rfl) dX9_begin_15 (fun U locs hP hD hS => ?_)
  have G : Gd D A s (w_M cy mAd thrown status acts 0 latest taped 0 token start till fault faultAt gifts traced lane many item bay fresh thn was tape left gift isKept kept trace) U locs := ⟨hP, hD, hS⟩
  refine lv_aload_n hx hb dX9_begin_18 rfl (lv_at hl 0 rfl) ?_
  refine lv_iconst (v := 0) hx hb dX9_begin_19 (by decide) ?_
  refine va_put (D := D) (ci := 9) (v := .int 0) (ty := .int) (C := RX9) (T := TX9) (N := 27) hx hb hts hiX9 tyX9 tyX9_ok nmX9 hown hK G.1 G.2.1 G.2.2 0 rfl rfl 18 (by decide) lk3 (fun _ h9 => h9) rfl (tyX9_ok 18 (by decide)) rfl rfl (Nat.le_of_ble_eq_true rfl) dX9_begin_20 (fun U locs hP hD hS => ?_)
  have G : Gd D A s (w_M cy mAd thrown status acts 0 latest taped 0 token start till 0 faultAt gifts traced lane many item bay fresh thn was tape left gift isKept kept trace) U locs := ⟨hP, hD, hS⟩
  refine lv_aload_n hx hb dX9_begin_23 rfl (lv_at hl 0 rfl) ?_
  obtain ⟨z1, hz1, H⟩ := bd_some H
  refine MV.callVw [] [] C G (c_X9_next l D cy mAd thrown status acts 0 latest taped 0 token start till 0 faultAt gifts traced lane many item bay fresh thn was tape left gift isKept kept trace z1 hz1) gX9_begin_X9_next rfl rfl rfl (n := 0) (by decide +kernel) ⟨Nat.le_of_ble_eq_true rfl, Nat.le_of_ble_eq_true rfl⟩ (q0 := 0) (ci := 9) rfl rfl rfl rfl hl.1 rfl (Nat.le_of_ble_eq_true rfl) dX9_begin_24 ⟨Nat.zero_le _, Nat.zero_le _⟩ (fun U locs G => ?_)
  have G : Gd D A s (w_M cy mAd thrown status acts 0 latest taped z1.1 z1.2.1 z1.2.2.1 z1.2.2.2 0 faultAt gifts traced lane many item bay fresh thn was tape left gift isKept kept trace) U locs := G
  obtain rfl := Option.some.inj H
  exact ret_v C G dX9_begin_27
def f_X9_bad (start fault faultAt p1 : Int32) : Option (Int32 × Int32) := if fault = 0 then (some (p1, start)) else (some (fault, faultAt))
set_option maxHeartbeats 4000000 in
set_option maxRecDepth 100000 in
theorem c_X9_bad (l : Launch) (D : va_G) (cy : Nat → ClassId) (mAd : Nat → Nat) (thrown status acts taped latest leng cursor token start till fault faultAt gifts traced : Int32) (lane many item bay fresh thn was tape left gift isKept kept trace : Nat → Int32) (p1 : Int32) (z : (Int32 × Int32)) (hz : f_X9_bad start fault faultAt p1 = some z) : MV l yX9_bad wsX9_bad ({ frames := 0, cells := 0, slots := 0, locals := 0 } : Room) D cy [.ref (mAd 0), .int p1] (w_M cy mAd thrown status acts taped latest leng cursor token start till fault faultAt gifts traced lane many item bay fresh thn was tape left gift isKept kept trace) (w_M cy mAd thrown status acts taped latest leng cursor token start till z.1 z.2 gifts traced lane many item bay fresh thn was tape left gift isKept kept trace) := by
  refine met_start (Qf := fun A => MQv D cy (w_M cy mAd thrown status acts taped latest leng cursor token start till z.1 z.2 gifts traced lane many item bay fresh thn was tape left gift isKept kept trace) A) (cc := cX9_bad) (nL := 2) (ret := none) RX9 rfl (by decide) rfl (Nat.le_of_ble_eq_true rfl) ?_
  intro p e s m below meth c A ls C G hl
  have hl : lv_has ls 2 [(0, .ref (mAd 0)), (1, .int p1)] := hl
  have H := hz
  unfold f_X9_bad at H
  obtain ⟨hx, hb, hr, hml, hown, hts, hlk, hK, hA, hE⟩ := id C
  have lk0 := hts (Cond.fieldLink RX9 108 "TideDebtsModel" "fault" "I") (List.mem_of_getElem? (i := 1) rfl)
  have lk1 := hts (Cond.fieldLink RX9 93 "TideDebtsModel" "start" "I") (List.mem_of_getElem? (i := 2) rfl)
  have lk2 := hts (Cond.fieldLink RX9 114 "TideDebtsModel" "faultAt" "I") (List.mem_of_getElem? (i := 3) rfl)
  have hiX9 : ∀ w ∈ u_ws RX9 TX9 27, w ∈ wsX9_bad := fun _ h => List.mem_cons_of_mem _ (List.mem_append_right _ h)
  refine lv_aload_n hx hb dX9_bad_0 rfl (lv_at hl 0 rfl) ?_
  refine va_get (D := D) (ci := 9) (v := .int fault) (C := RX9) (T := TX9) (N := 27) hx hb hts hiX9 hown hK G.1 0 rfl rfl 18 (by decide) lk0 (fun _ h9 => h9) rfl dX9_bad_1 ?_
  refine lv_if_ne (tgt := 20) hx hb dX9_bad_4 (by decide) (fun c1 => ?_) (fun c1 => ?_)
  · have H := if_f H c1
    obtain rfl := Option.some.inj H
    exact ret_v C G dX9_bad_20
  · have H := if_t H c1
    refine lv_aload_n hx hb dX9_bad_7 rfl (lv_at hl 0 rfl) ?_
    refine lv_iload_n hx hb dX9_bad_8 rfl (lv_at hl 1 rfl) ?_
    refine va_put (D := D) (ci := 9) (v := .int p1) (ty := .int) (C := RX9) (T := TX9) (N := 27) hx hb hts hiX9 tyX9 tyX9_ok nmX9 hown hK G.1 G.2.1 G.2.2 0 rfl rfl 18 (by decide) lk0 (fun _ h9 => h9) rfl (tyX9_ok 18 (by decide)) rfl rfl (Nat.le_of_ble_eq_true rfl) dX9_bad_9 (fun U locs hP hD hS => ?_)
    have G : Gd D A s (w_M cy mAd thrown status acts taped latest leng cursor token start till p1 faultAt gifts traced lane many item bay fresh thn was tape left gift isKept kept trace) U locs := ⟨hP, hD, hS⟩
    refine lv_aload_n hx hb dX9_bad_12 rfl (lv_at hl 0 rfl) ?_
    refine lv_aload_n hx hb dX9_bad_13 rfl (lv_at hl 0 rfl) ?_
    refine va_get (D := D) (ci := 9) (v := .int start) (C := RX9) (T := TX9) (N := 27) hx hb hts hiX9 hown hK G.1 0 rfl rfl 16 (by decide) lk1 (fun _ h9 => h9) rfl dX9_bad_14 ?_
    refine va_put (D := D) (ci := 9) (v := .int start) (ty := .int) (C := RX9) (T := TX9) (N := 27) hx hb hts hiX9 tyX9 tyX9_ok nmX9 hown hK G.1 G.2.1 G.2.2 0 rfl rfl 19 (by decide) lk2 (fun _ h9 => h9) rfl (tyX9_ok 19 (by decide)) rfl rfl (Nat.le_of_ble_eq_true rfl) dX9_bad_17 (fun U locs hP hD hS => ?_)
    have G : Gd D A s (w_M cy mAd thrown status acts taped latest leng cursor token start till p1 start gifts traced lane many item bay fresh thn was tape left gift isKept kept trace) U locs := ⟨hP, hD, hS⟩
    obtain rfl := Option.some.inj H
    exact ret_v C G dX9_bad_20
def f_X9_must (leng cursor token start till fault faultAt : Int32) (tape : Nat → Int32) (p1 : Int32) : Option (Int32 × Int32 × Int32 × Int32 × Int32 × Int32) := if p1 = 0 then (bd (f_X9_bad start fault faultAt 1) (fun z4 => if z4.1 = 0 then (bd (f_X9_next leng cursor token start till tape) (fun z6 => some (z6.1, z6.2.1, z6.2.2.1, z6.2.2.2, z4.1, z4.2))) else (some (cursor, token, start, till, z4.1, z4.2)))) else (if fault = 0 then (bd (f_X9_next leng cursor token start till tape) (fun z3 => some (z3.1, z3.2.1, z3.2.2.1, z3.2.2.2, fault, faultAt))) else (some (cursor, token, start, till, fault, faultAt)))
set_option maxHeartbeats 4000000 in
set_option maxRecDepth 100000 in
theorem c_X9_must (l : Launch) (D : va_G) (cy : Nat → ClassId) (mAd : Nat → Nat) (thrown status acts taped latest leng cursor token start till fault faultAt gifts traced : Int32) (lane many item bay fresh thn was tape left gift isKept kept trace : Nat → Int32) (p1 : Int32) (z : (Int32 × Int32 × Int32 × Int32 × Int32 × Int32)) (hz : f_X9_must leng cursor token start till fault faultAt tape p1 = some z) : MV l yX9_must wsX9_must ({ frames := 2, cells := 0, slots := 0, locals := 42 } : Room) D cy [.ref (mAd 0), .int p1] (w_M cy mAd thrown status acts taped latest leng cursor token start till fault faultAt gifts traced lane many item bay fresh thn was tape left gift isKept kept trace) (w_M cy mAd thrown status acts taped latest leng z.1 z.2.1 z.2.2.1 z.2.2.2.1 z.2.2.2.2.1 z.2.2.2.2.2 gifts traced lane many item bay fresh thn was tape left gift isKept kept trace) := by
  refine met_start (Qf := fun A => MQv D cy (w_M cy mAd thrown status acts taped latest leng z.1 z.2.1 z.2.2.1 z.2.2.2.1 z.2.2.2.2.1 z.2.2.2.2.2 gifts traced lane many item bay fresh thn was tape left gift isKept kept trace) A) (cc := cX9_must) (nL := 2) (ret := none) RX9 rfl (by decide) rfl (Nat.le_of_ble_eq_true rfl) ?_
  intro p e s m below meth c A ls C G hl
  have hl : lv_has ls 2 [(0, .ref (mAd 0)), (1, .int p1)] := hl
  have H := hz
  unfold f_X9_must at H
  obtain ⟨hx, hb, hr, hml, hown, hts, hlk, hK, hA, hE⟩ := id C
  have lk0 := hts (Cond.fieldLink RX9 108 "TideDebtsModel" "fault" "I") (List.mem_of_getElem? (i := 1) rfl)
  have hiX9 : ∀ w ∈ u_ws RX9 TX9 27, w ∈ wsX9_must := fun _ h => List.mem_cons_of_mem _ (List.mem_append_right _ h)
  refine lv_iload_n hx hb dX9_must_0 rfl (lv_at hl 1 rfl) ?_
  refine lv_if_ne (tgt := 9) hx hb dX9_must_1 (by decide) (fun c1 => ?_) (fun c1 => ?_)
  · have H := if_f H c1
    refine lv_aload_n hx hb dX9_must_9 rfl (lv_at hl 0 rfl) ?_
    refine va_get (D := D) (ci := 9) (v := .int fault) (C := RX9) (T := TX9) (N := 27) hx hb hts hiX9 hown hK G.1 0 rfl rfl 18 (by decide) lk0 (fun _ h9 => h9) rfl dX9_must_10 ?_
    refine lv_if_ne (tgt := 20) hx hb dX9_must_13 (by decide) (fun c2 => ?_) (fun c2 => ?_)
    · have H := if_f H c2
      obtain rfl := Option.some.inj H
      exact ret_v C G dX9_must_20
    · have H := if_t H c2
      refine lv_aload_n hx hb dX9_must_16 rfl (lv_at hl 0 rfl) ?_
      obtain ⟨z3, hz3, H⟩ := bd_some H
      refine MV.callVw [] [] C G (c_X9_next l D cy mAd thrown status acts taped latest leng cursor token start till fault faultAt gifts traced lane many item bay fresh thn was tape left gift isKept kept trace z3 hz3) gX9_must_X9_next rfl rfl rfl (n := 0) (by decide +kernel) ⟨Nat.le_of_ble_eq_true rfl, Nat.le_of_ble_eq_true rfl⟩ (q0 := 0) (ci := 9) rfl rfl rfl rfl hl.1 rfl (Nat.le_of_ble_eq_true rfl) dX9_must_17 ⟨Nat.zero_le _, Nat.zero_le _⟩ (fun U locs G => ?_)
      have G : Gd D A s (w_M cy mAd thrown status acts taped latest leng z3.1 z3.2.1 z3.2.2.1 z3.2.2.2 fault faultAt gifts traced lane many item bay fresh thn was tape left gift isKept kept trace) U locs := G
      obtain rfl := Option.some.inj H
      exact ret_v C G dX9_must_20
  · have H := if_t H c1
    refine lv_aload_n hx hb dX9_must_4 rfl (lv_at hl 0 rfl) ?_
    refine lv_iconst (v := 1) hx hb dX9_must_5 (by decide) ?_
    obtain ⟨z4, hz4, H⟩ := bd_some H
    refine MV.callVw [.int 1] [] C G (c_X9_bad l D cy mAd thrown status acts taped latest leng cursor token start till fault faultAt gifts traced lane many item bay fresh thn was tape left gift isKept kept trace 1 z4 hz4) gX9_must_X9_bad rfl rfl rfl (n := 1) (by decide +kernel) ⟨Nat.le_of_ble_eq_true rfl, Nat.le_of_ble_eq_true rfl⟩ (q0 := 0) (ci := 9) rfl rfl rfl rfl hl.1 rfl (Nat.le_of_ble_eq_true rfl) dX9_must_6 ⟨Nat.zero_le _, Nat.zero_le _⟩ (fun U locs G => ?_)
    have G : Gd D A s (w_M cy mAd thrown status acts taped latest leng cursor token start till z4.1 z4.2 gifts traced lane many item bay fresh thn was tape left gift isKept kept trace) U locs := G
    refine lv_aload_n hx hb dX9_must_9 rfl (lv_at hl 0 rfl) ?_
    refine va_get (D := D) (ci := 9) (v := .int z4.1) (C := RX9) (T := TX9) (N := 27) hx hb hts hiX9 hown hK G.1 0 rfl rfl 18 (by decide) lk0 (fun _ h9 => h9) rfl dX9_must_10 ?_
    refine lv_if_ne (tgt := 20) hx hb dX9_must_13 (by decide) (fun c5 => ?_) (fun c5 => ?_)
    · have H := if_f H c5
      obtain rfl := Option.some.inj H
      exact ret_v C G dX9_must_20
    · have H := if_t H c5
      refine lv_aload_n hx hb dX9_must_16 rfl (lv_at hl 0 rfl) ?_
      obtain ⟨z6, hz6, H⟩ := bd_some H
      refine MV.callVw [] [] C G (c_X9_next l D cy mAd thrown status acts taped latest leng cursor token start till z4.1 z4.2 gifts traced lane many item bay fresh thn was tape left gift isKept kept trace z6 hz6) gX9_must_X9_next rfl rfl rfl (n := 0) (by decide +kernel) ⟨Nat.le_of_ble_eq_true rfl, Nat.le_of_ble_eq_true rfl⟩ (q0 := 0) (ci := 9) rfl rfl rfl rfl hl.1 rfl (Nat.le_of_ble_eq_true rfl) dX9_must_17 ⟨Nat.zero_le _, Nat.zero_le _⟩ (fun U locs G => ?_)
      have G : Gd D A s (w_M cy mAd thrown status acts taped latest leng z6.1 z6.2.1 z6.2.2.1 z6.2.2.2 z4.1 z4.2 gifts traced lane many item bay fresh thn was tape left gift isKept kept trace) U locs := G
      obtain rfl := Option.some.inj H
      exact ret_v C G dX9_must_20
def f_X9_name_L7 (token start till : Int32) (tape : Nat → Int32) : Nat → Int64 → Int32 → Option Int64
  | 0, _, _ => none
  | n + 1, x1, x3 => if till ≤ x3 then (some x1) else (if token = 2 then (if 8 ≤ (till - start) then (some x1) else (gd (inb x3 400) (nm ((x1 <<< ((8 : Int32).toInt64 &&& 63)) ||| ((tape (ix x3) : Int32).toInt64)) (fun x1_5 => f_X9_name_L7 token start till tape n x1_5 (x3 + 1))))) else (some x1))
theorem f_X9_name_L7_z (token start till : Int32) (tape : Nat → Int32) (x1 : Int64) (x3 : Int32) : f_X9_name_L7 token start till tape 0 x1 x3 = none := rfl
theorem f_X9_name_L7_s (token start till : Int32) (tape : Nat → Int32) (n : Nat) (x1 : Int64) (x3 : Int32) : f_X9_name_L7 token start till tape (n + 1) x1 x3 = if till ≤ x3 then (some x1) else (if token = 2 then (if 8 ≤ (till - start) then (some x1) else (gd (inb x3 400) (nm ((x1 <<< ((8 : Int32).toInt64 &&& 63)) ||| ((tape (ix x3) : Int32).toInt64)) (fun x1_5 => f_X9_name_L7 token start till tape n x1_5 (x3 + 1))))) else (some x1)) := rfl
set_option maxHeartbeats 4000000 in
set_option maxRecDepth 100000 in
theorem wl_X9_name_7 {p : Program} {l : Launch} {e : Env} {s : State} {m : MethodId} {below : List Frame} {meth : Method} {c : Code} {D : va_G} {cy : Nat → ClassId} {A : Nat → Prop} {args : Array Value} {Q : State → Prop} (C : Cx D cy A p s m meth c cX9_name 4 (some .long) wsX9_name RX9 args) (mAd : Nat → Nat) (thrown status acts taped latest leng cursor token start till fault faultAt gifts traced : Int32) (lane many item bay fresh thn was tape left gift isKept kept trace : Nat → Int32) :
    ∀ (n : Nat) (x1 : Int64) (x3 : Int32) (z : Int64), f_X9_name_L7 token start till tape n x1 x3 = some z → (∀ (U : Heap) (locs : List Loc) (ls : Array Slot), Gd D A s (w_M cy mAd thrown status acts taped latest leng cursor token start till fault faultAt gifts traced lane many item bay fresh thn was tape left gift isKept kept trace) U locs → lv_has ls 4 [(0, .ref (mAd 0)), (1, .long z)] → W p l e ({ frames := 0, cells := 0, slots := 0, locals := 0 } : Room) s m args below meth c U locs 0 0 Q (F0 m 56 ls [])) → ∀ (U : Heap) (locs : List Loc) (ls : Array Slot), Gd D A s (w_M cy mAd thrown status acts taped latest leng cursor token start till fault faultAt gifts traced lane many item bay fresh thn was tape left gift isKept kept trace) U locs → lv_has ls 4 [(0, .ref (mAd 0)), (1, .long x1), (3, .int x3)] → W p l e ({ frames := 0, cells := 0, slots := 0, locals := 0 } : Room) s m args below meth c U locs 0 0 Q (F0 m 7 ls []) := by
  obtain ⟨hx, hb, hr, hml, hown, hts, hlk, hK, hA, hE⟩ := id C
  have lk0 := hts (Cond.fieldLink RX9 105 "TideDebtsModel" "till" "I") (List.mem_of_getElem? (i := 2) rfl)
  have lk1 := hts (Cond.fieldLink RX9 96 "TideDebtsModel" "token" "I") (List.mem_of_getElem? (i := 3) rfl)
  have lk2 := hts (Cond.fieldLink RX9 93 "TideDebtsModel" "start" "I") (List.mem_of_getElem? (i := 1) rfl)
  have lk3 := hts (Cond.fieldLink RX9 31 "TideDebtsModel" "tape" "[I") (List.mem_of_getElem? (i := 4) rfl)
  have hiX9 : ∀ w ∈ u_ws RX9 TX9 27, w ∈ wsX9_name := fun _ h => List.mem_cons_of_mem _ (List.mem_append_right _ h)
  intro n
  induction n with
  | zero =>
    intro x1 x3 z H
    rw [f_X9_name_L7_z] at H
    cases H
  | succ n ih =>
    intro x1 x3 z H kk U locs ls G hl
    rw [f_X9_name_L7_s] at H
    refine lv_iload_n hx hb dX9_name_7 rfl (lv_at hl 2 rfl) ?_
    refine lv_aload_n hx hb dX9_name_8 rfl (lv_at hl 0 rfl) ?_
    refine va_get (D := D) (ci := 9) (v := .int till) (C := RX9) (T := TX9) (N := 27) hx hb hts hiX9 hown hK G.1 0 rfl rfl 17 (by decide) lk0 (fun _ h9 => h9) rfl dX9_name_9 ?_
    refine lv_icmp_ge (tgt := 56) hx hb dX9_name_12 (by decide) (fun c1 => ?_) (fun c1 => ?_)
    · have H := if_t H c1
      obtain rfl := Option.some.inj H
      exact kk _ _ _ G (lv_sub hl [0, 1] rfl)
    · have H := if_f H c1
      refine lv_aload_n hx hb dX9_name_15 rfl (lv_at hl 0 rfl) ?_
      refine va_get (D := D) (ci := 9) (v := .int token) (C := RX9) (T := TX9) (N := 27) hx hb hts hiX9 hown hK G.1 0 rfl rfl 15 (by decide) lk1 (fun _ h9 => h9) rfl dX9_name_16 ?_
      refine lv_iconst (v := 2) hx hb dX9_name_19 (by decide) ?_
      refine lv_icmp_ne (tgt := 56) hx hb dX9_name_20 (by decide) (fun c2 => ?_) (fun c2 => ?_)
      · have H := if_f H c2
        obtain rfl := Option.some.inj H
        exact kk _ _ _ G (lv_sub hl [0, 1] rfl)
      · have H := if_t H c2
        refine lv_aload_n hx hb dX9_name_23 rfl (lv_at hl 0 rfl) ?_
        refine va_get (D := D) (ci := 9) (v := .int till) (C := RX9) (T := TX9) (N := 27) hx hb hts hiX9 hown hK G.1 0 rfl rfl 17 (by decide) lk0 (fun _ h9 => h9) rfl dX9_name_24 ?_
        refine lv_aload_n hx hb dX9_name_27 rfl (lv_at hl 0 rfl) ?_
        refine va_get (D := D) (ci := 9) (v := .int start) (C := RX9) (T := TX9) (N := 27) hx hb hts hiX9 hown hK G.1 0 rfl rfl 16 (by decide) lk2 (fun _ h9 => h9) rfl dX9_name_28 ?_
        refine lv_isub hx hb dX9_name_31 ?_
        refine lv_bipush (v := 8) hx hb dX9_name_32 (by decide) ?_
        refine lv_icmp_ge (tgt := 56) hx hb dX9_name_34 (by decide) (fun c3 => ?_) (fun c3 => ?_)
        · have H := if_t H c3
          obtain rfl := Option.some.inj H
          exact kk _ _ _ G (lv_sub hl [0, 1] rfl)
        · have H := if_f H c3
          refine lv_lload_n hx hb dX9_name_37 rfl (lv_at hl 1 rfl) ?_
          refine lv_bipush (v := 8) hx hb dX9_name_38 (by decide) ?_
          refine lv_lshl hx hb dX9_name_40 rfl ?_
          refine lv_aload_n hx hb dX9_name_41 rfl (lv_at hl 0 rfl) ?_
          refine va_get (D := D) (ci := 9) (v := .ref (mAd 8)) (C := RX9) (T := TX9) (N := 27) hx hb hts hiX9 hown hK G.1 0 rfl rfl 10 (by decide) lk3 (fun _ h9 => h9) rfl dX9_name_42 ?_
          refine lv_iload_n hx hb dX9_name_45 rfl (lv_at hl 2 rfl) ?_
          obtain ⟨hb4, H⟩ := gd_some H
          refine g_iald (v := tape (ix x3)) hx hb hK G.1 8 1 rfl rfl hb4 rfl dX9_name_46 ?_
          refine lv_i2l hx hb dX9_name_47 rfl ?_
          refine lv_lor hx hb dX9_name_48 ?_
          refine lv_topl (fun x1_5 ex1_5 => ?_)
          have H := nm_h H ex1_5
          refine lv_lstore_n (lv' := [(1, .long x1_5), (0, .ref (mAd 0)), (3, .int x3)]) hx hb dX9_name_49 rfl hl (by decide) rfl (fun ls hl => ?_)
          refine lv_iinc (v := x3 + 1) (lv' := [(3, .int (x3 + 1)), (1, .long x1_5), (0, .ref (mAd 0))]) hx hb dX9_name_50 hl (k := 2) rfl rfl (by decide) rfl (fun ls hl => ?_)
          refine lv_goto (tgt := 7) hx hb dX9_name_53 (by decide) ?_
          exact ih x1_5 (x3 + 1) z H kk _ _ _ G (lv_sub hl [2, 1, 0] rfl)
def f_X9_name (token start till fault : Int32) (tape : Nat → Int32) : Option Int64 := bd (f_X9_name_L7 token start till tape 2000 0 start) (fun z6 => if fault = 0 then (some z6) else (some 0))
set_option maxHeartbeats 4000000 in
set_option maxRecDepth 100000 in
theorem c_X9_name (l : Launch) (D : va_G) (cy : Nat → ClassId) (mAd : Nat → Nat) (thrown status acts taped latest leng cursor token start till fault faultAt gifts traced : Int32) (lane many item bay fresh thn was tape left gift isKept kept trace : Nat → Int32) (z : Int64) (hz : f_X9_name token start till fault tape = some z) : ML l yX9_name wsX9_name ({ frames := 0, cells := 0, slots := 0, locals := 0 } : Room) D cy [.ref (mAd 0)] (w_M cy mAd thrown status acts taped latest leng cursor token start till fault faultAt gifts traced lane many item bay fresh thn was tape left gift isKept kept trace) z (w_M cy mAd thrown status acts taped latest leng cursor token start till fault faultAt gifts traced lane many item bay fresh thn was tape left gift isKept kept trace) := by
  refine met_start (Qf := fun A => MQl D cy z (w_M cy mAd thrown status acts taped latest leng cursor token start till fault faultAt gifts traced lane many item bay fresh thn was tape left gift isKept kept trace) A) (cc := cX9_name) (nL := 4) (ret := (some .long)) RX9 rfl (by decide) rfl (Nat.le_of_ble_eq_true rfl) ?_
  intro p e s m below meth c A ls C G hl
  have hl : lv_has ls 4 [(0, .ref (mAd 0))] := hl
  have H := hz
  unfold f_X9_name at H
  obtain ⟨hx, hb, hr, hml, hown, hts, hlk, hK, hA, hE⟩ := id C
  have lk0 := hts (Cond.fieldLink RX9 93 "TideDebtsModel" "start" "I") (List.mem_of_getElem? (i := 1) rfl)
  have lk1 := hts (Cond.fieldLink RX9 108 "TideDebtsModel" "fault" "I") (List.mem_of_getElem? (i := 5) rfl)
  have hiX9 : ∀ w ∈ u_ws RX9 TX9 27, w ∈ wsX9_name := fun _ h => List.mem_cons_of_mem _ (List.mem_append_right _ h)
  refine lv_lconst (v := 0) hx hb dX9_name_0 (by decide) ?_
  refine lv_lstore_n (lv' := [(1, .long 0), (0, .ref (mAd 0))]) hx hb dX9_name_1 rfl hl (by decide) rfl (fun ls hl => ?_)
  refine lv_aload_n hx hb dX9_name_2 rfl (lv_at hl 1 rfl) ?_
  refine va_get (D := D) (ci := 9) (v := .int start) (C := RX9) (T := TX9) (N := 27) hx hb hts hiX9 hown hK G.1 0 rfl rfl 16 (by decide) lk0 (fun _ h9 => h9) rfl dX9_name_3 ?_
  refine lv_istore_n (lv' := [(3, .int start), (1, .long 0), (0, .ref (mAd 0))]) hx hb dX9_name_6 rfl hl (by decide) rfl (fun ls hl => ?_)
  obtain ⟨z6, hz6, H⟩ := bd_some H
  refine wl_X9_name_7 C mAd thrown status acts taped latest leng cursor token start till fault faultAt gifts traced lane many item bay fresh thn was tape left gift isKept kept trace _ 0 start z6 hz6 (fun U locs ls G hl => ?_) _ _ _ G (lv_sub hl [2, 1, 0] rfl)
  have G : Gd D A s (w_M cy mAd thrown status acts taped latest leng cursor token start till fault faultAt gifts traced lane many item bay fresh thn was tape left gift isKept kept trace) U locs := G
  have hl : lv_has ls 4 [(0, .ref (mAd 0)), (1, .long z6)] := hl
  refine lv_aload_n hx hb dX9_name_56 rfl (lv_at hl 0 rfl) ?_
  refine va_get (D := D) (ci := 9) (v := .int fault) (C := RX9) (T := TX9) (N := 27) hx hb hts hiX9 hown hK G.1 0 rfl rfl 18 (by decide) lk1 (fun _ h9 => h9) rfl dX9_name_57 ?_
  refine lv_if_ne (tgt := 67) hx hb dX9_name_60 (by decide) (fun c7 => ?_) (fun c7 => ?_)
  · have H := if_f H c7
    refine lv_lconst (v := 0) hx hb dX9_name_67 (by decide) ?_
    obtain rfl := Option.some.inj H
    exact ret_l C G rfl dX9_name_68
  · have H := if_t H c7
    refine lv_lload_n hx hb dX9_name_63 rfl (lv_at hl 1 rfl) ?_
    refine lv_goto (tgt := 68) hx hb dX9_name_64 (by decide) ?_
    obtain rfl := Option.some.inj H
    exact ret_l C G rfl dX9_name_68
def f_X9_figures_L7 (token till : Int32) (tape : Nat → Int32) : Nat → Int32 → Int32 → Option Int32
  | 0, _, _ => none
  | n + 1, x1, x2 => if till ≤ x2 then (some x1) else (if token = 3 then (gd (inb x2 400) (f_X9_figures_L7 token till tape n (((10 * x1) + (tape (ix x2))) - 48) (x2 + 1))) else (some x1))
theorem f_X9_figures_L7_z (token till : Int32) (tape : Nat → Int32) (x1 x2 : Int32) : f_X9_figures_L7 token till tape 0 x1 x2 = none := rfl
theorem f_X9_figures_L7_s (token till : Int32) (tape : Nat → Int32) (n : Nat) (x1 x2 : Int32) : f_X9_figures_L7 token till tape (n + 1) x1 x2 = if till ≤ x2 then (some x1) else (if token = 3 then (gd (inb x2 400) (f_X9_figures_L7 token till tape n (((10 * x1) + (tape (ix x2))) - 48) (x2 + 1))) else (some x1)) := rfl
set_option maxHeartbeats 4000000 in
set_option maxRecDepth 100000 in
theorem wl_X9_figures_7 {p : Program} {l : Launch} {e : Env} {s : State} {m : MethodId} {below : List Frame} {meth : Method} {c : Code} {D : va_G} {cy : Nat → ClassId} {A : Nat → Prop} {args : Array Value} {Q : State → Prop} (C : Cx D cy A p s m meth c cX9_figures 3 (some .int) wsX9_figures RX9 args) (mAd : Nat → Nat) (thrown status acts taped latest leng cursor token start till fault faultAt gifts traced : Int32) (lane many item bay fresh thn was tape left gift isKept kept trace : Nat → Int32) :
    ∀ (n : Nat) (x1 x2 : Int32) (z : Int32), f_X9_figures_L7 token till tape n x1 x2 = some z → (∀ (U : Heap) (locs : List Loc) (ls : Array Slot), Gd D A s (w_M cy mAd thrown status acts taped latest leng cursor token start till fault faultAt gifts traced lane many item bay fresh thn was tape left gift isKept kept trace) U locs → lv_has ls 3 [(1, .int z)] → W p l e ({ frames := 0, cells := 0, slots := 0, locals := 0 } : Room) s m args below meth c U locs 0 0 Q (F0 m 44 ls [])) → ∀ (U : Heap) (locs : List Loc) (ls : Array Slot), Gd D A s (w_M cy mAd thrown status acts taped latest leng cursor token start till fault faultAt gifts traced lane many item bay fresh thn was tape left gift isKept kept trace) U locs → lv_has ls 3 [(0, .ref (mAd 0)), (1, .int x1), (2, .int x2)] → W p l e ({ frames := 0, cells := 0, slots := 0, locals := 0 } : Room) s m args below meth c U locs 0 0 Q (F0 m 7 ls []) := by
  obtain ⟨hx, hb, hr, hml, hown, hts, hlk, hK, hA, hE⟩ := id C
  have lk0 := hts (Cond.fieldLink RX9 105 "TideDebtsModel" "till" "I") (List.mem_of_getElem? (i := 2) rfl)
  have lk1 := hts (Cond.fieldLink RX9 96 "TideDebtsModel" "token" "I") (List.mem_of_getElem? (i := 3) rfl)
  have lk2 := hts (Cond.fieldLink RX9 31 "TideDebtsModel" "tape" "[I") (List.mem_of_getElem? (i := 4) rfl)
  have hiX9 : ∀ w ∈ u_ws RX9 TX9 27, w ∈ wsX9_figures := fun _ h => List.mem_cons_of_mem _ (List.mem_append_right _ h)
  intro n
  induction n with
  | zero =>
    intro x1 x2 z H
    rw [f_X9_figures_L7_z] at H
    cases H
  | succ n ih =>
    intro x1 x2 z H kk U locs ls G hl
    rw [f_X9_figures_L7_s] at H
    refine lv_iload_n hx hb dX9_figures_7 rfl (lv_at hl 2 rfl) ?_
    refine lv_aload_n hx hb dX9_figures_8 rfl (lv_at hl 0 rfl) ?_
    refine va_get (D := D) (ci := 9) (v := .int till) (C := RX9) (T := TX9) (N := 27) hx hb hts hiX9 hown hK G.1 0 rfl rfl 17 (by decide) lk0 (fun _ h9 => h9) rfl dX9_figures_9 ?_
    refine lv_icmp_ge (tgt := 44) hx hb dX9_figures_12 (by decide) (fun c1 => ?_) (fun c1 => ?_)
    · have H := if_t H c1
      obtain rfl := Option.some.inj H
      exact kk _ _ _ G (lv_sub hl [1] rfl)
    · have H := if_f H c1
      refine lv_aload_n hx hb dX9_figures_15 rfl (lv_at hl 0 rfl) ?_
      refine va_get (D := D) (ci := 9) (v := .int token) (C := RX9) (T := TX9) (N := 27) hx hb hts hiX9 hown hK G.1 0 rfl rfl 15 (by decide) lk1 (fun _ h9 => h9) rfl dX9_figures_16 ?_
      refine lv_iconst (v := 3) hx hb dX9_figures_19 (by decide) ?_
      refine lv_icmp_ne (tgt := 44) hx hb dX9_figures_20 (by decide) (fun c2 => ?_) (fun c2 => ?_)
      · have H := if_f H c2
        obtain rfl := Option.some.inj H
        exact kk _ _ _ G (lv_sub hl [1] rfl)
      · have H := if_t H c2
        refine lv_bipush (v := 10) hx hb dX9_figures_23 (by decide) ?_
        refine lv_iload_n hx hb dX9_figures_25 rfl (lv_at hl 1 rfl) ?_
        refine lv_imul hx hb dX9_figures_26 ?_
        refine lv_aload_n hx hb dX9_figures_27 rfl (lv_at hl 0 rfl) ?_
        refine va_get (D := D) (ci := 9) (v := .ref (mAd 8)) (C := RX9) (T := TX9) (N := 27) hx hb hts hiX9 hown hK G.1 0 rfl rfl 10 (by decide) lk2 (fun _ h9 => h9) rfl dX9_figures_28 ?_
        refine lv_iload_n hx hb dX9_figures_31 rfl (lv_at hl 2 rfl) ?_
        obtain ⟨hb3, H⟩ := gd_some H
        refine g_iald (v := tape (ix x2)) hx hb hK G.1 8 1 rfl rfl hb3 rfl dX9_figures_32 ?_
        refine lv_iadd hx hb dX9_figures_33 ?_
        refine lv_bipush (v := 48) hx hb dX9_figures_34 (by decide) ?_
        refine lv_isub hx hb dX9_figures_36 ?_
        refine lv_istore_n (lv' := [(1, .int (((10 * x1) + (tape (ix x2))) - 48)), (0, .ref (mAd 0)), (2, .int x2)]) hx hb dX9_figures_37 rfl hl (by decide) rfl (fun ls hl => ?_)
        refine lv_iinc (v := x2 + 1) (lv' := [(2, .int (x2 + 1)), (1, .int (((10 * x1) + (tape (ix x2))) - 48)), (0, .ref (mAd 0))]) hx hb dX9_figures_38 hl (k := 2) rfl rfl (by decide) rfl (fun ls hl => ?_)
        refine lv_goto (tgt := 7) hx hb dX9_figures_41 (by decide) ?_
        exact ih (((10 * x1) + (tape (ix x2))) - 48) (x2 + 1) z H kk _ _ _ G (lv_sub hl [2, 1, 0] rfl)
def f_X9_figures (token start till : Int32) (tape : Nat → Int32) : Option Int32 := bd (f_X9_figures_L7 token till tape 2000 0 start) (fun z4 => some z4)
set_option maxHeartbeats 4000000 in
set_option maxRecDepth 100000 in
theorem c_X9_figures (l : Launch) (D : va_G) (cy : Nat → ClassId) (mAd : Nat → Nat) (thrown status acts taped latest leng cursor token start till fault faultAt gifts traced : Int32) (lane many item bay fresh thn was tape left gift isKept kept trace : Nat → Int32) (z : Int32) (hz : f_X9_figures token start till tape = some z) : MI l yX9_figures wsX9_figures ({ frames := 0, cells := 0, slots := 0, locals := 0 } : Room) D cy [.ref (mAd 0)] (w_M cy mAd thrown status acts taped latest leng cursor token start till fault faultAt gifts traced lane many item bay fresh thn was tape left gift isKept kept trace) z (w_M cy mAd thrown status acts taped latest leng cursor token start till fault faultAt gifts traced lane many item bay fresh thn was tape left gift isKept kept trace) := by
  refine met_start (Qf := fun A => MQi D cy z (w_M cy mAd thrown status acts taped latest leng cursor token start till fault faultAt gifts traced lane many item bay fresh thn was tape left gift isKept kept trace) A) (cc := cX9_figures) (nL := 3) (ret := (some .int)) RX9 rfl (by decide) rfl (Nat.le_of_ble_eq_true rfl) ?_
  intro p e s m below meth c A ls C G hl
  have hl : lv_has ls 3 [(0, .ref (mAd 0))] := hl
  have H := hz
  unfold f_X9_figures at H
  obtain ⟨hx, hb, hr, hml, hown, hts, hlk, hK, hA, hE⟩ := id C
  have lk0 := hts (Cond.fieldLink RX9 93 "TideDebtsModel" "start" "I") (List.mem_of_getElem? (i := 1) rfl)
  have hiX9 : ∀ w ∈ u_ws RX9 TX9 27, w ∈ wsX9_figures := fun _ h => List.mem_cons_of_mem _ (List.mem_append_right _ h)
  refine lv_iconst (v := 0) hx hb dX9_figures_0 (by decide) ?_
  refine lv_istore_n (lv' := [(1, .int 0), (0, .ref (mAd 0))]) hx hb dX9_figures_1 rfl hl (by decide) rfl (fun ls hl => ?_)
  refine lv_aload_n hx hb dX9_figures_2 rfl (lv_at hl 1 rfl) ?_
  refine va_get (D := D) (ci := 9) (v := .int start) (C := RX9) (T := TX9) (N := 27) hx hb hts hiX9 hown hK G.1 0 rfl rfl 16 (by decide) lk0 (fun _ h9 => h9) rfl dX9_figures_3 ?_
  refine lv_istore_n (lv' := [(2, .int start), (1, .int 0), (0, .ref (mAd 0))]) hx hb dX9_figures_6 rfl hl (by decide) rfl (fun ls hl => ?_)
  obtain ⟨z4, hz4, H⟩ := bd_some H
  refine wl_X9_figures_7 C mAd thrown status acts taped latest leng cursor token start till fault faultAt gifts traced lane many item bay fresh thn was tape left gift isKept kept trace _ 0 start z4 hz4 (fun U locs ls G hl => ?_) _ _ _ G (lv_sub hl [2, 1, 0] rfl)
  have G : Gd D A s (w_M cy mAd thrown status acts taped latest leng cursor token start till fault faultAt gifts traced lane many item bay fresh thn was tape left gift isKept kept trace) U locs := G
  have hl : lv_has ls 3 [(1, .int z4)] := hl
  refine lv_iload_n hx hb dX9_figures_44 rfl (lv_at hl 0 rfl) ?_
  obtain rfl := Option.some.inj H
  exact ret_i C G rfl dX9_figures_45
def f_X9_number (leng cursor token start till fault faultAt : Int32) (tape : Nat → Int32) (p1 p2 : Int32) : Option (Int32 × Int32 × Int32 × Int32 × Int32 × Int32 × Int32) := if fault ≤ 0 then (bd (f_X9_figures token start till tape) (fun z2 => if token = 3 then (bd (f_X9_in z2.toInt64 p1.toInt64 p2.toInt64) (fun z7 => if z7 = 0 then (bd (f_X9_bad start fault faultAt 2) (fun z12 => if token = 3 then (bd (f_X9_must leng cursor token start till z12.1 z12.2 tape 1) (fun z15 => some (z2, z15.1, z15.2.1, z15.2.2.1, z15.2.2.2.1, z15.2.2.2.2.1, z15.2.2.2.2.2))) else (bd (f_X9_must leng cursor token start till z12.1 z12.2 tape 0) (fun z14 => some (z2, z14.1, z14.2.1, z14.2.2.1, z14.2.2.2.1, z14.2.2.2.2.1, z14.2.2.2.2.2))))) else (if token = 3 then (bd (f_X9_must leng cursor token start till fault faultAt tape 1) (fun z11 => some (z2, z11.1, z11.2.1, z11.2.2.1, z11.2.2.2.1, z11.2.2.2.2.1, z11.2.2.2.2.2))) else (bd (f_X9_must leng cursor token start till fault faultAt tape 0) (fun z10 => some (z2, z10.1, z10.2.1, z10.2.2.1, z10.2.2.2.1, z10.2.2.2.2.1, z10.2.2.2.2.2)))))) else (if token = 3 then (bd (f_X9_must leng cursor token start till fault faultAt tape 1) (fun z6 => some (z2, z6.1, z6.2.1, z6.2.2.1, z6.2.2.2.1, z6.2.2.2.2.1, z6.2.2.2.2.2))) else (bd (f_X9_must leng cursor token start till fault faultAt tape 0) (fun z5 => some (z2, z5.1, z5.2.1, z5.2.2.1, z5.2.2.2.1, z5.2.2.2.2.1, z5.2.2.2.2.2)))))) else (some (0, cursor, token, start, till, fault, faultAt))
set_option maxHeartbeats 4000000 in
set_option maxRecDepth 100000 in
theorem c_X9_number (l : Launch) (D : va_G) (cy : Nat → ClassId) (mAd : Nat → Nat) (thrown status acts taped latest leng cursor token start till fault faultAt gifts traced : Int32) (lane many item bay fresh thn was tape left gift isKept kept trace : Nat → Int32) (p1 p2 : Int32) (z : (Int32 × Int32 × Int32 × Int32 × Int32 × Int32 × Int32)) (hz : f_X9_number leng cursor token start till fault faultAt tape p1 p2 = some z) : MI l yX9_number wsX9_number ({ frames := 3, cells := 0, slots := 0, locals := 63 } : Room) D cy [.ref (mAd 0), .int p1, .int p2] (w_M cy mAd thrown status acts taped latest leng cursor token start till fault faultAt gifts traced lane many item bay fresh thn was tape left gift isKept kept trace) z.1 (w_M cy mAd thrown status acts taped latest leng z.2.1 z.2.2.1 z.2.2.2.1 z.2.2.2.2.1 z.2.2.2.2.2.1 z.2.2.2.2.2.2 gifts traced lane many item bay fresh thn was tape left gift isKept kept trace) := by
  refine met_start (Qf := fun A => MQi D cy z.1 (w_M cy mAd thrown status acts taped latest leng z.2.1 z.2.2.1 z.2.2.2.1 z.2.2.2.2.1 z.2.2.2.2.2.1 z.2.2.2.2.2.2 gifts traced lane many item bay fresh thn was tape left gift isKept kept trace) A) (cc := cX9_number) (nL := 4) (ret := (some .int)) RX9 rfl (by decide) rfl (Nat.le_of_ble_eq_true rfl) ?_
  intro p e s m below meth c A ls C G hl
  have hl : lv_has ls 4 [(0, .ref (mAd 0)), (1, .int p1), (2, .int p2)] := hl
  have H := hz
  unfold f_X9_number at H
  obtain ⟨hx, hb, hr, hml, hown, hts, hlk, hK, hA, hE⟩ := id C
  have lk0 := hts (Cond.fieldLink RX9 108 "TideDebtsModel" "fault" "I") (List.mem_of_getElem? (i := 1) rfl)
  have lk1 := hts (Cond.fieldLink RX9 96 "TideDebtsModel" "token" "I") (List.mem_of_getElem? (i := 2) rfl)
  have hiX9 : ∀ w ∈ u_ws RX9 TX9 27, w ∈ wsX9_number := fun _ h => List.mem_cons_of_mem _ (List.mem_append_right _ h)
  refine lv_aload_n hx hb dX9_number_0 rfl (lv_at hl 0 rfl) ?_
  refine va_get (D := D) (ci := 9) (v := .int fault) (C := RX9) (T := TX9) (N := 27) hx hb hts hiX9 hown hK G.1 0 rfl rfl 18 (by decide) lk0 (fun _ h9 => h9) rfl dX9_number_1 ?_
  refine lv_if_le (tgt := 9) hx hb dX9_number_4 (by decide) (fun c1 => ?_) (fun c1 => ?_)
  · have H := if_t H c1
    refine lv_aload_n hx hb dX9_number_9 rfl (lv_at hl 0 rfl) ?_
    obtain ⟨z2, hz2, H⟩ := bd_some H
    refine MI.callVw z2 [] [] C G (c_X9_figures l D cy mAd thrown status acts taped latest leng cursor token start till fault faultAt gifts traced lane many item bay fresh thn was tape left gift isKept kept trace z2 hz2) gX9_number_X9_figures rfl rfl rfl (n := 0) (by decide +kernel) ⟨Nat.le_of_ble_eq_true rfl, Nat.le_of_ble_eq_true rfl⟩ (q0 := 0) (ci := 9) rfl rfl rfl rfl hl.1 rfl (Nat.le_of_ble_eq_true rfl) dX9_number_10 ⟨Nat.zero_le _, Nat.zero_le _⟩ (fun U locs G => ?_)
    have G : Gd D A s (w_M cy mAd thrown status acts taped latest leng cursor token start till fault faultAt gifts traced lane many item bay fresh thn was tape left gift isKept kept trace) U locs := G
    refine lv_istore_n (lv' := [(3, .int z2), (0, .ref (mAd 0)), (1, .int p1), (2, .int p2)]) hx hb dX9_number_13 rfl hl (by decide) rfl (fun ls hl => ?_)
    refine lv_aload_n hx hb dX9_number_14 rfl (lv_at hl 1 rfl) ?_
    refine va_get (D := D) (ci := 9) (v := .int token) (C := RX9) (T := TX9) (N := 27) hx hb hts hiX9 hown hK G.1 0 rfl rfl 15 (by decide) lk1 (fun _ h9 => h9) rfl dX9_number_15 ?_
    refine lv_iconst (v := 3) hx hb dX9_number_18 (by decide) ?_
    refine lv_icmp_ne (tgt := 39) hx hb dX9_number_19 (by decide) (fun c3 => ?_) (fun c3 => ?_)
    · have H := if_f H c3
      refine lv_aload_n hx hb dX9_number_39 rfl (lv_at hl 1 rfl) ?_
      refine lv_aload_n hx hb dX9_number_40 rfl (lv_at hl 1 rfl) ?_
      refine va_get (D := D) (ci := 9) (v := .int token) (C := RX9) (T := TX9) (N := 27) hx hb hts hiX9 hown hK G.1 0 rfl rfl 15 (by decide) lk1 (fun _ h9 => h9) rfl dX9_number_41 ?_
      refine lv_iconst (v := 3) hx hb dX9_number_44 (by decide) ?_
      refine lv_icmp_ne (tgt := 52) hx hb dX9_number_45 (by decide) (fun c4 => ?_) (fun c4 => ?_)
      · have H := if_f H c4
        refine lv_iconst (v := 0) hx hb dX9_number_52 (by decide) ?_
        obtain ⟨z5, hz5, H⟩ := bd_some H
        refine MV.callVw [.int 0] [] C G (c_X9_must l D cy mAd thrown status acts taped latest leng cursor token start till fault faultAt gifts traced lane many item bay fresh thn was tape left gift isKept kept trace 0 z5 hz5) gX9_number_X9_must rfl rfl rfl (n := 1) (by decide +kernel) ⟨Nat.le_of_ble_eq_true rfl, Nat.le_of_ble_eq_true rfl⟩ (q0 := 0) (ci := 9) rfl rfl rfl rfl hl.1 rfl (Nat.le_of_ble_eq_true rfl) dX9_number_53 ⟨Nat.zero_le _, Nat.zero_le _⟩ (fun U locs G => ?_)
        have G : Gd D A s (w_M cy mAd thrown status acts taped latest leng z5.1 z5.2.1 z5.2.2.1 z5.2.2.2.1 z5.2.2.2.2.1 z5.2.2.2.2.2 gifts traced lane many item bay fresh thn was tape left gift isKept kept trace) U locs := G
        refine lv_iload_n hx hb dX9_number_56 rfl (lv_at hl 0 rfl) ?_
        obtain rfl := Option.some.inj H
        exact ret_i C G rfl dX9_number_57
      · have H := if_t H c4
        refine lv_iconst (v := 1) hx hb dX9_number_48 (by decide) ?_
        refine lv_goto (tgt := 53) hx hb dX9_number_49 (by decide) ?_
        obtain ⟨z6, hz6, H⟩ := bd_some H
        refine MV.callVw [.int 1] [] C G (c_X9_must l D cy mAd thrown status acts taped latest leng cursor token start till fault faultAt gifts traced lane many item bay fresh thn was tape left gift isKept kept trace 1 z6 hz6) gX9_number_X9_must rfl rfl rfl (n := 1) (by decide +kernel) ⟨Nat.le_of_ble_eq_true rfl, Nat.le_of_ble_eq_true rfl⟩ (q0 := 0) (ci := 9) rfl rfl rfl rfl hl.1 rfl (Nat.le_of_ble_eq_true rfl) dX9_number_53 ⟨Nat.zero_le _, Nat.zero_le _⟩ (fun U locs G => ?_)
        have G : Gd D A s (w_M cy mAd thrown status acts taped latest leng z6.1 z6.2.1 z6.2.2.1 z6.2.2.2.1 z6.2.2.2.2.1 z6.2.2.2.2.2 gifts traced lane many item bay fresh thn was tape left gift isKept kept trace) U locs := G
        refine lv_iload_n hx hb dX9_number_56 rfl (lv_at hl 0 rfl) ?_
        obtain rfl := Option.some.inj H
        exact ret_i C G rfl dX9_number_57
    · have H := if_t H c3
      refine lv_iload_n hx hb dX9_number_22 rfl (lv_at hl 0 rfl) ?_
      refine lv_i2l hx hb dX9_number_23 rfl ?_
      refine lv_iload_n hx hb dX9_number_24 rfl (lv_at hl 2 rfl) ?_
      refine lv_i2l hx hb dX9_number_25 rfl ?_
      refine lv_iload_n hx hb dX9_number_26 rfl (lv_at hl 3 rfl) ?_
      refine lv_i2l hx hb dX9_number_27 rfl ?_
      obtain ⟨z7, hz7, H⟩ := bd_some H
      refine MI.callS z7 [.long z2.toInt64, .long p1.toInt64, .long p2.toInt64] [] [] C G (c_X9_in l D cy z2.toInt64 p1.toInt64 p2.toInt64 z7 hz7) gX9_number_X9_in rfl rfl rfl (n := 3) (by decide +kernel) ⟨Nat.le_of_ble_eq_true rfl, Nat.le_of_ble_eq_true rfl⟩ rfl rfl rfl rfl hl.1 rfl (Nat.le_of_ble_eq_true rfl) dX9_number_28 ⟨Nat.zero_le _, Nat.zero_le _⟩ (fun U locs G => ?_)
      have G : Gd D A s (w_M cy mAd thrown status acts taped latest leng cursor token start till fault faultAt gifts traced lane many item bay fresh thn was tape left gift isKept kept trace) U locs := G
      refine lv_if_ne (tgt := 39) hx hb dX9_number_31 (by decide) (fun c8 => ?_) (fun c8 => ?_)
      · have H := if_f H c8
        refine lv_aload_n hx hb dX9_number_39 rfl (lv_at hl 1 rfl) ?_
        refine lv_aload_n hx hb dX9_number_40 rfl (lv_at hl 1 rfl) ?_
        refine va_get (D := D) (ci := 9) (v := .int token) (C := RX9) (T := TX9) (N := 27) hx hb hts hiX9 hown hK G.1 0 rfl rfl 15 (by decide) lk1 (fun _ h9 => h9) rfl dX9_number_41 ?_
        refine lv_iconst (v := 3) hx hb dX9_number_44 (by decide) ?_
        refine lv_icmp_ne (tgt := 52) hx hb dX9_number_45 (by decide) (fun c9 => ?_) (fun c9 => ?_)
        · have H := if_f H c9
          refine lv_iconst (v := 0) hx hb dX9_number_52 (by decide) ?_
          obtain ⟨z10, hz10, H⟩ := bd_some H
          refine MV.callVw [.int 0] [] C G (c_X9_must l D cy mAd thrown status acts taped latest leng cursor token start till fault faultAt gifts traced lane many item bay fresh thn was tape left gift isKept kept trace 0 z10 hz10) gX9_number_X9_must rfl rfl rfl (n := 1) (by decide +kernel) ⟨Nat.le_of_ble_eq_true rfl, Nat.le_of_ble_eq_true rfl⟩ (q0 := 0) (ci := 9) rfl rfl rfl rfl hl.1 rfl (Nat.le_of_ble_eq_true rfl) dX9_number_53 ⟨Nat.zero_le _, Nat.zero_le _⟩ (fun U locs G => ?_)
          have G : Gd D A s (w_M cy mAd thrown status acts taped latest leng z10.1 z10.2.1 z10.2.2.1 z10.2.2.2.1 z10.2.2.2.2.1 z10.2.2.2.2.2 gifts traced lane many item bay fresh thn was tape left gift isKept kept trace) U locs := G
          refine lv_iload_n hx hb dX9_number_56 rfl (lv_at hl 0 rfl) ?_
          obtain rfl := Option.some.inj H
          exact ret_i C G rfl dX9_number_57
        · have H := if_t H c9
          refine lv_iconst (v := 1) hx hb dX9_number_48 (by decide) ?_
          refine lv_goto (tgt := 53) hx hb dX9_number_49 (by decide) ?_
          obtain ⟨z11, hz11, H⟩ := bd_some H
          refine MV.callVw [.int 1] [] C G (c_X9_must l D cy mAd thrown status acts taped latest leng cursor token start till fault faultAt gifts traced lane many item bay fresh thn was tape left gift isKept kept trace 1 z11 hz11) gX9_number_X9_must rfl rfl rfl (n := 1) (by decide +kernel) ⟨Nat.le_of_ble_eq_true rfl, Nat.le_of_ble_eq_true rfl⟩ (q0 := 0) (ci := 9) rfl rfl rfl rfl hl.1 rfl (Nat.le_of_ble_eq_true rfl) dX9_number_53 ⟨Nat.zero_le _, Nat.zero_le _⟩ (fun U locs G => ?_)
          have G : Gd D A s (w_M cy mAd thrown status acts taped latest leng z11.1 z11.2.1 z11.2.2.1 z11.2.2.2.1 z11.2.2.2.2.1 z11.2.2.2.2.2 gifts traced lane many item bay fresh thn was tape left gift isKept kept trace) U locs := G
          refine lv_iload_n hx hb dX9_number_56 rfl (lv_at hl 0 rfl) ?_
          obtain rfl := Option.some.inj H
          exact ret_i C G rfl dX9_number_57
      · have H := if_t H c8
        refine lv_aload_n hx hb dX9_number_34 rfl (lv_at hl 1 rfl) ?_
        refine lv_iconst (v := 2) hx hb dX9_number_35 (by decide) ?_
        obtain ⟨z12, hz12, H⟩ := bd_some H
        refine MV.callVw [.int 2] [] C G (c_X9_bad l D cy mAd thrown status acts taped latest leng cursor token start till fault faultAt gifts traced lane many item bay fresh thn was tape left gift isKept kept trace 2 z12 hz12) gX9_number_X9_bad rfl rfl rfl (n := 1) (by decide +kernel) ⟨Nat.le_of_ble_eq_true rfl, Nat.le_of_ble_eq_true rfl⟩ (q0 := 0) (ci := 9) rfl rfl rfl rfl hl.1 rfl (Nat.le_of_ble_eq_true rfl) dX9_number_36 ⟨Nat.zero_le _, Nat.zero_le _⟩ (fun U locs G => ?_)
        have G : Gd D A s (w_M cy mAd thrown status acts taped latest leng cursor token start till z12.1 z12.2 gifts traced lane many item bay fresh thn was tape left gift isKept kept trace) U locs := G
        refine lv_aload_n hx hb dX9_number_39 rfl (lv_at hl 1 rfl) ?_
        refine lv_aload_n hx hb dX9_number_40 rfl (lv_at hl 1 rfl) ?_
        refine va_get (D := D) (ci := 9) (v := .int token) (C := RX9) (T := TX9) (N := 27) hx hb hts hiX9 hown hK G.1 0 rfl rfl 15 (by decide) lk1 (fun _ h9 => h9) rfl dX9_number_41 ?_
        refine lv_iconst (v := 3) hx hb dX9_number_44 (by decide) ?_
        refine lv_icmp_ne (tgt := 52) hx hb dX9_number_45 (by decide) (fun c13 => ?_) (fun c13 => ?_)
        · have H := if_f H c13
          refine lv_iconst (v := 0) hx hb dX9_number_52 (by decide) ?_
          obtain ⟨z14, hz14, H⟩ := bd_some H
          refine MV.callVw [.int 0] [] C G (c_X9_must l D cy mAd thrown status acts taped latest leng cursor token start till z12.1 z12.2 gifts traced lane many item bay fresh thn was tape left gift isKept kept trace 0 z14 hz14) gX9_number_X9_must rfl rfl rfl (n := 1) (by decide +kernel) ⟨Nat.le_of_ble_eq_true rfl, Nat.le_of_ble_eq_true rfl⟩ (q0 := 0) (ci := 9) rfl rfl rfl rfl hl.1 rfl (Nat.le_of_ble_eq_true rfl) dX9_number_53 ⟨Nat.zero_le _, Nat.zero_le _⟩ (fun U locs G => ?_)
          have G : Gd D A s (w_M cy mAd thrown status acts taped latest leng z14.1 z14.2.1 z14.2.2.1 z14.2.2.2.1 z14.2.2.2.2.1 z14.2.2.2.2.2 gifts traced lane many item bay fresh thn was tape left gift isKept kept trace) U locs := G
          refine lv_iload_n hx hb dX9_number_56 rfl (lv_at hl 0 rfl) ?_
          obtain rfl := Option.some.inj H
          exact ret_i C G rfl dX9_number_57
        · have H := if_t H c13
          refine lv_iconst (v := 1) hx hb dX9_number_48 (by decide) ?_
          refine lv_goto (tgt := 53) hx hb dX9_number_49 (by decide) ?_
          obtain ⟨z15, hz15, H⟩ := bd_some H
          refine MV.callVw [.int 1] [] C G (c_X9_must l D cy mAd thrown status acts taped latest leng cursor token start till z12.1 z12.2 gifts traced lane many item bay fresh thn was tape left gift isKept kept trace 1 z15 hz15) gX9_number_X9_must rfl rfl rfl (n := 1) (by decide +kernel) ⟨Nat.le_of_ble_eq_true rfl, Nat.le_of_ble_eq_true rfl⟩ (q0 := 0) (ci := 9) rfl rfl rfl rfl hl.1 rfl (Nat.le_of_ble_eq_true rfl) dX9_number_53 ⟨Nat.zero_le _, Nat.zero_le _⟩ (fun U locs G => ?_)
          have G : Gd D A s (w_M cy mAd thrown status acts taped latest leng z15.1 z15.2.1 z15.2.2.1 z15.2.2.2.1 z15.2.2.2.2.1 z15.2.2.2.2.2 gifts traced lane many item bay fresh thn was tape left gift isKept kept trace) U locs := G
          refine lv_iload_n hx hb dX9_number_56 rfl (lv_at hl 0 rfl) ?_
          obtain rfl := Option.some.inj H
          exact ret_i C G rfl dX9_number_57
  · have H := if_f H c1
    refine lv_iconst (v := 0) hx hb dX9_number_7 (by decide) ?_
    obtain rfl := Option.some.inj H
    exact ret_i C G rfl dX9_number_8
def f_X9_kindBy (p0 : Int64) : Option Int32 := if (lg_cmp p0 1668249189) = 0 then (some 1) else (if (lg_cmp p0 1886351212) = 0 then (some 3) else (if (lg_cmp p0 119165602983790) = 0 then (some 2) else (if (lg_cmp p0 2003135596) = 0 then (some 5) else (if (lg_cmp p0 1685678949) = 0 then (some 4) else (some (-1000000))))))
set_option maxHeartbeats 4000000 in
set_option maxRecDepth 100000 in
theorem c_X9_kindBy (l : Launch) (D : va_G) (cy : Nat → ClassId) (p0 : Int64) (z : Int32) (hz : f_X9_kindBy p0 = some z) : MI l yX9_kindBy wsX9_kindBy ({ frames := 0, cells := 0, slots := 0, locals := 0 } : Room) D cy [.long p0] [] z [] := by
  refine met_start (Qf := fun A => MQi D cy z [] A) (cc := cX9_kindBy) (nL := 2) (ret := (some .int)) RX9 rfl (by decide) rfl (Nat.le_of_ble_eq_true rfl) ?_
  intro p e s m below meth c A ls C G hl
  have hl : lv_has ls 2 [(0, .long p0)] := hl
  have H := hz
  unfold f_X9_kindBy at H
  obtain ⟨hx, hb, hr, hml, hown, hts, hlk, hK, hA, hE⟩ := id C
  have lk0 := hts (Cond.constantLong RX9 129 (1668249189)) (List.mem_of_getElem? (i := 1) rfl)
  have lk1 := hts (Cond.constantLong RX9 131 (1886351212)) (List.mem_of_getElem? (i := 2) rfl)
  have lk2 := hts (Cond.constantLong RX9 133 (119165602983790)) (List.mem_of_getElem? (i := 3) rfl)
  have lk3 := hts (Cond.constantLong RX9 135 (2003135596)) (List.mem_of_getElem? (i := 4) rfl)
  have lk4 := hts (Cond.constantLong RX9 137 (1685678949)) (List.mem_of_getElem? (i := 5) rfl)
  have lk5 := hts (Cond.constant RX9 86 (-1000000)) (List.mem_of_getElem? (i := 6) rfl)
  refine lv_lload_n hx hb dX9_kindBy_0 rfl (lv_at hl 0 rfl) ?_
  refine lv_ldc2 hx hb hown lk0 dX9_kindBy_1 ?_
  refine W.lcmp hx hb dX9_kindBy_4 ?_
  refine lv_if_ne (tgt := 12) hx hb dX9_kindBy_5 (by decide) (fun c1 => ?_) (fun c1 => ?_)
  · have H := if_f H c1
    refine lv_lload_n hx hb dX9_kindBy_12 rfl (lv_at hl 0 rfl) ?_
    refine lv_ldc2 hx hb hown lk1 dX9_kindBy_13 ?_
    refine W.lcmp hx hb dX9_kindBy_16 ?_
    refine lv_if_ne (tgt := 24) hx hb dX9_kindBy_17 (by decide) (fun c2 => ?_) (fun c2 => ?_)
    · have H := if_f H c2
      refine lv_lload_n hx hb dX9_kindBy_24 rfl (lv_at hl 0 rfl) ?_
      refine lv_ldc2 hx hb hown lk2 dX9_kindBy_25 ?_
      refine W.lcmp hx hb dX9_kindBy_28 ?_
      refine lv_if_ne (tgt := 36) hx hb dX9_kindBy_29 (by decide) (fun c3 => ?_) (fun c3 => ?_)
      · have H := if_f H c3
        refine lv_lload_n hx hb dX9_kindBy_36 rfl (lv_at hl 0 rfl) ?_
        refine lv_ldc2 hx hb hown lk3 dX9_kindBy_37 ?_
        refine W.lcmp hx hb dX9_kindBy_40 ?_
        refine lv_if_ne (tgt := 48) hx hb dX9_kindBy_41 (by decide) (fun c4 => ?_) (fun c4 => ?_)
        · have H := if_f H c4
          refine lv_lload_n hx hb dX9_kindBy_48 rfl (lv_at hl 0 rfl) ?_
          refine lv_ldc2 hx hb hown lk4 dX9_kindBy_49 ?_
          refine W.lcmp hx hb dX9_kindBy_52 ?_
          refine lv_if_ne (tgt := 60) hx hb dX9_kindBy_53 (by decide) (fun c5 => ?_) (fun c5 => ?_)
          · have H := if_f H c5
            refine lv_ldc hx hb hown lk5 dX9_kindBy_60 ?_
            obtain rfl := Option.some.inj H
            exact ret_i C G rfl dX9_kindBy_62
          · have H := if_t H c5
            refine lv_iconst (v := 4) hx hb dX9_kindBy_56 (by decide) ?_
            refine lv_goto (tgt := 62) hx hb dX9_kindBy_57 (by decide) ?_
            obtain rfl := Option.some.inj H
            exact ret_i C G rfl dX9_kindBy_62
        · have H := if_t H c4
          refine lv_iconst (v := 5) hx hb dX9_kindBy_44 (by decide) ?_
          refine lv_goto (tgt := 62) hx hb dX9_kindBy_45 (by decide) ?_
          obtain rfl := Option.some.inj H
          exact ret_i C G rfl dX9_kindBy_62
      · have H := if_t H c3
        refine lv_iconst (v := 2) hx hb dX9_kindBy_32 (by decide) ?_
        refine lv_goto (tgt := 62) hx hb dX9_kindBy_33 (by decide) ?_
        obtain rfl := Option.some.inj H
        exact ret_i C G rfl dX9_kindBy_62
    · have H := if_t H c2
      refine lv_iconst (v := 3) hx hb dX9_kindBy_20 (by decide) ?_
      refine lv_goto (tgt := 62) hx hb dX9_kindBy_21 (by decide) ?_
      obtain rfl := Option.some.inj H
      exact ret_i C G rfl dX9_kindBy_62
  · have H := if_t H c1
    refine lv_iconst (v := 1) hx hb dX9_kindBy_8 (by decide) ?_
    refine lv_goto (tgt := 62) hx hb dX9_kindBy_9 (by decide) ?_
    obtain rfl := Option.some.inj H
    exact ret_i C G rfl dX9_kindBy_62
def f_X9_mustEnd (leng cursor token start till fault faultAt : Int32) (tape : Nat → Int32) : Option (Int32 × Int32 × Int32 × Int32 × Int32 × Int32) := if fault = 0 then (if token = 4 then (bd (f_X9_must leng cursor token start till fault faultAt tape 1) (fun z4 => some (z4.1, z4.2.1, z4.2.2.1, z4.2.2.2.1, z4.2.2.2.2.1, z4.2.2.2.2.2))) else (bd (f_X9_must leng cursor token start till fault faultAt tape 0) (fun z3 => some (z3.1, z3.2.1, z3.2.2.1, z3.2.2.2.1, z3.2.2.2.2.1, z3.2.2.2.2.2)))) else (some (cursor, token, start, till, fault, faultAt))
set_option maxHeartbeats 4000000 in
set_option maxRecDepth 100000 in
theorem c_X9_mustEnd (l : Launch) (D : va_G) (cy : Nat → ClassId) (mAd : Nat → Nat) (thrown status acts taped latest leng cursor token start till fault faultAt gifts traced : Int32) (lane many item bay fresh thn was tape left gift isKept kept trace : Nat → Int32) (z : (Int32 × Int32 × Int32 × Int32 × Int32 × Int32)) (hz : f_X9_mustEnd leng cursor token start till fault faultAt tape = some z) : MV l yX9_mustEnd wsX9_mustEnd ({ frames := 3, cells := 0, slots := 0, locals := 63 } : Room) D cy [.ref (mAd 0)] (w_M cy mAd thrown status acts taped latest leng cursor token start till fault faultAt gifts traced lane many item bay fresh thn was tape left gift isKept kept trace) (w_M cy mAd thrown status acts taped latest leng z.1 z.2.1 z.2.2.1 z.2.2.2.1 z.2.2.2.2.1 z.2.2.2.2.2 gifts traced lane many item bay fresh thn was tape left gift isKept kept trace) := by
  refine met_start (Qf := fun A => MQv D cy (w_M cy mAd thrown status acts taped latest leng z.1 z.2.1 z.2.2.1 z.2.2.2.1 z.2.2.2.2.1 z.2.2.2.2.2 gifts traced lane many item bay fresh thn was tape left gift isKept kept trace) A) (cc := cX9_mustEnd) (nL := 1) (ret := none) RX9 rfl (by decide) rfl (Nat.le_of_ble_eq_true rfl) ?_
  intro p e s m below meth c A ls C G hl
  have hl : lv_has ls 1 [(0, .ref (mAd 0))] := hl
  have H := hz
  unfold f_X9_mustEnd at H
  obtain ⟨hx, hb, hr, hml, hown, hts, hlk, hK, hA, hE⟩ := id C
  have lk0 := hts (Cond.fieldLink RX9 108 "TideDebtsModel" "fault" "I") (List.mem_of_getElem? (i := 1) rfl)
  have lk1 := hts (Cond.fieldLink RX9 96 "TideDebtsModel" "token" "I") (List.mem_of_getElem? (i := 2) rfl)
  have hiX9 : ∀ w ∈ u_ws RX9 TX9 27, w ∈ wsX9_mustEnd := fun _ h => List.mem_cons_of_mem _ (List.mem_append_right _ h)
  refine lv_aload_n hx hb dX9_mustEnd_0 rfl (lv_at hl 0 rfl) ?_
  refine va_get (D := D) (ci := 9) (v := .int fault) (C := RX9) (T := TX9) (N := 27) hx hb hts hiX9 hown hK G.1 0 rfl rfl 18 (by decide) lk0 (fun _ h9 => h9) rfl dX9_mustEnd_1 ?_
  refine lv_if_ne (tgt := 24) hx hb dX9_mustEnd_4 (by decide) (fun c1 => ?_) (fun c1 => ?_)
  · have H := if_f H c1
    obtain rfl := Option.some.inj H
    exact ret_v C G dX9_mustEnd_24
  · have H := if_t H c1
    refine lv_aload_n hx hb dX9_mustEnd_7 rfl (lv_at hl 0 rfl) ?_
    refine lv_aload_n hx hb dX9_mustEnd_8 rfl (lv_at hl 0 rfl) ?_
    refine va_get (D := D) (ci := 9) (v := .int token) (C := RX9) (T := TX9) (N := 27) hx hb hts hiX9 hown hK G.1 0 rfl rfl 15 (by decide) lk1 (fun _ h9 => h9) rfl dX9_mustEnd_9 ?_
    refine lv_iconst (v := 4) hx hb dX9_mustEnd_12 (by decide) ?_
    refine lv_icmp_ne (tgt := 20) hx hb dX9_mustEnd_13 (by decide) (fun c2 => ?_) (fun c2 => ?_)
    · have H := if_f H c2
      refine lv_iconst (v := 0) hx hb dX9_mustEnd_20 (by decide) ?_
      obtain ⟨z3, hz3, H⟩ := bd_some H
      refine MV.callVw [.int 0] [] C G (c_X9_must l D cy mAd thrown status acts taped latest leng cursor token start till fault faultAt gifts traced lane many item bay fresh thn was tape left gift isKept kept trace 0 z3 hz3) gX9_mustEnd_X9_must rfl rfl rfl (n := 1) (by decide +kernel) ⟨Nat.le_of_ble_eq_true rfl, Nat.le_of_ble_eq_true rfl⟩ (q0 := 0) (ci := 9) rfl rfl rfl rfl hl.1 rfl (Nat.le_of_ble_eq_true rfl) dX9_mustEnd_21 ⟨Nat.zero_le _, Nat.zero_le _⟩ (fun U locs G => ?_)
      have G : Gd D A s (w_M cy mAd thrown status acts taped latest leng z3.1 z3.2.1 z3.2.2.1 z3.2.2.2.1 z3.2.2.2.2.1 z3.2.2.2.2.2 gifts traced lane many item bay fresh thn was tape left gift isKept kept trace) U locs := G
      obtain rfl := Option.some.inj H
      exact ret_v C G dX9_mustEnd_24
    · have H := if_t H c2
      refine lv_iconst (v := 1) hx hb dX9_mustEnd_16 (by decide) ?_
      refine lv_goto (tgt := 21) hx hb dX9_mustEnd_17 (by decide) ?_
      obtain ⟨z4, hz4, H⟩ := bd_some H
      refine MV.callVw [.int 1] [] C G (c_X9_must l D cy mAd thrown status acts taped latest leng cursor token start till fault faultAt gifts traced lane many item bay fresh thn was tape left gift isKept kept trace 1 z4 hz4) gX9_mustEnd_X9_must rfl rfl rfl (n := 1) (by decide +kernel) ⟨Nat.le_of_ble_eq_true rfl, Nat.le_of_ble_eq_true rfl⟩ (q0 := 0) (ci := 9) rfl rfl rfl rfl hl.1 rfl (Nat.le_of_ble_eq_true rfl) dX9_mustEnd_21 ⟨Nat.zero_le _, Nat.zero_le _⟩ (fun U locs G => ?_)
      have G : Gd D A s (w_M cy mAd thrown status acts taped latest leng z4.1 z4.2.1 z4.2.2.1 z4.2.2.2.1 z4.2.2.2.2.1 z4.2.2.2.2.2 gifts traced lane many item bay fresh thn was tape left gift isKept kept trace) U locs := G
      obtain rfl := Option.some.inj H
      exact ret_v C G dX9_mustEnd_24
def f_X9_readTide_L22 (leng : Int32) (tape : Nat → Int32) : Nat → Int32 → Int32 → Int32 → Int32 → Int32 → Int32 → (Nat → Int32) → Int32 → Option (Int32 × Int32 × Int32 × Int32 × Int32 × Int32 × (Nat → Int32))
  | 0, _, _, _, _, _, _, _, _ => none
  | n + 1, cursor, token, start, till, fault, faultAt, fresh, x1 => if 12 ≤ x1 then (some (cursor, token, start, till, fault, faultAt, fresh)) else (bd (f_X9_number leng cursor token start till fault faultAt tape 0 40) (fun z5 => gd (inb (3 + x1) 75) (f_X9_readTide_L22 leng tape n z5.2.1 z5.2.2.1 z5.2.2.2.1 z5.2.2.2.2.1 z5.2.2.2.2.2.1 z5.2.2.2.2.2.2 (upd fresh (ix (3 + x1)) z5.1) (x1 + 1))))
theorem f_X9_readTide_L22_z (leng : Int32) (tape : Nat → Int32) (cursor token start till fault faultAt : Int32) (fresh : Nat → Int32) (x1 : Int32) : f_X9_readTide_L22 leng tape 0 cursor token start till fault faultAt fresh x1 = none := rfl
theorem f_X9_readTide_L22_s (leng : Int32) (tape : Nat → Int32) (n : Nat) (cursor token start till fault faultAt : Int32) (fresh : Nat → Int32) (x1 : Int32) : f_X9_readTide_L22 leng tape (n + 1) cursor token start till fault faultAt fresh x1 = if 12 ≤ x1 then (some (cursor, token, start, till, fault, faultAt, fresh)) else (bd (f_X9_number leng cursor token start till fault faultAt tape 0 40) (fun z5 => gd (inb (3 + x1) 75) (f_X9_readTide_L22 leng tape n z5.2.1 z5.2.2.1 z5.2.2.2.1 z5.2.2.2.2.1 z5.2.2.2.2.2.1 z5.2.2.2.2.2.2 (upd fresh (ix (3 + x1)) z5.1) (x1 + 1)))) := rfl
set_option maxHeartbeats 4000000 in
set_option maxRecDepth 100000 in
theorem wl_X9_readTide_22 {p : Program} {l : Launch} {e : Env} {s : State} {m : MethodId} {below : List Frame} {meth : Method} {c : Code} {D : va_G} {cy : Nat → ClassId} {A : Nat → Prop} {args : Array Value} {Q : State → Prop} (C : Cx D cy A p s m meth c cX9_readTide 2 none wsX9_readTide RX9 args) (mAd : Nat → Nat) (thrown status acts taped latest leng gifts traced : Int32) (lane many item bay thn was tape left gift isKept kept trace : Nat → Int32) :
    ∀ (n : Nat) (cursor token start till fault faultAt : Int32) (fresh : Nat → Int32) (x1 : Int32) (z : (Int32 × Int32 × Int32 × Int32 × Int32 × Int32 × (Nat → Int32))), f_X9_readTide_L22 leng tape n cursor token start till fault faultAt fresh x1 = some z → (∀ (U : Heap) (locs : List Loc) (ls : Array Slot), Gd D A s (w_M cy mAd thrown status acts taped latest leng z.1 z.2.1 z.2.2.1 z.2.2.2.1 z.2.2.2.2.1 z.2.2.2.2.2.1 gifts traced lane many item bay z.2.2.2.2.2.2 thn was tape left gift isKept kept trace) U locs → lv_has ls 2 [(0, .ref (mAd 0))] → W p l e ({ frames := 4, cells := 0, slots := 0, locals := 86 } : Room) s m args below meth c U locs 0 0 Q (F0 m 49 ls [])) → ∀ (U : Heap) (locs : List Loc) (ls : Array Slot), Gd D A s (w_M cy mAd thrown status acts taped latest leng cursor token start till fault faultAt gifts traced lane many item bay fresh thn was tape left gift isKept kept trace) U locs → lv_has ls 2 [(0, .ref (mAd 0)), (1, .int x1)] → W p l e ({ frames := 4, cells := 0, slots := 0, locals := 86 } : Room) s m args below meth c U locs 0 0 Q (F0 m 22 ls []) := by
  obtain ⟨hx, hb, hr, hml, hown, hts, hlk, hK, hA, hE⟩ := id C
  have lk0 := hts (Cond.fieldLink RX9 22 "TideDebtsModel" "fresh" "[I") (List.mem_of_getElem? (i := 2) rfl)
  have hiX9 : ∀ w ∈ u_ws RX9 TX9 27, w ∈ wsX9_readTide := fun _ h => List.mem_cons_of_mem _ (List.mem_append_right _ h)
  intro n
  induction n with
  | zero =>
    intro cursor token start till fault faultAt fresh x1 z H
    rw [f_X9_readTide_L22_z] at H
    cases H
  | succ n ih =>
    intro cursor token start till fault faultAt fresh x1 z H kk U locs ls G hl
    rw [f_X9_readTide_L22_s] at H
    refine lv_iload_n hx hb dX9_readTide_22 rfl (lv_at hl 1 rfl) ?_
    refine lv_bipush (v := 12) hx hb dX9_readTide_23 (by decide) ?_
    refine lv_icmp_ge (tgt := 49) hx hb dX9_readTide_25 (by decide) (fun c4 => ?_) (fun c4 => ?_)
    · have H := if_t H c4
      obtain rfl := Option.some.inj H
      exact kk _ _ _ G (lv_sub hl [0] rfl)
    · have H := if_f H c4
      refine lv_aload_n hx hb dX9_readTide_28 rfl (lv_at hl 0 rfl) ?_
      refine va_get (D := D) (ci := 9) (v := .ref (mAd 5)) (C := RX9) (T := TX9) (N := 27) hx hb hts hiX9 hown hK G.1 0 rfl rfl 6 (by decide) lk0 (fun _ h9 => h9) rfl dX9_readTide_29 ?_
      refine lv_iconst (v := 3) hx hb dX9_readTide_32 (by decide) ?_
      refine lv_iload_n hx hb dX9_readTide_33 rfl (lv_at hl 1 rfl) ?_
      refine lv_iadd hx hb dX9_readTide_34 ?_
      refine lv_aload_n hx hb dX9_readTide_35 rfl (lv_at hl 0 rfl) ?_
      refine lv_iconst (v := 0) hx hb dX9_readTide_36 (by decide) ?_
      refine lv_bipush (v := 40) hx hb dX9_readTide_37 (by decide) ?_
      obtain ⟨z5, hz5, H⟩ := bd_some H
      refine MI.callVw z5.1 [.int 0, .int 40] [.int (3 + x1), .ref (mAd 5)] C G (c_X9_number l D cy mAd thrown status acts taped latest leng cursor token start till fault faultAt gifts traced lane many item bay fresh thn was tape left gift isKept kept trace 0 40 z5 hz5) gX9_readTide_X9_number rfl rfl rfl (n := 2) (by decide +kernel) ⟨Nat.le_of_ble_eq_true rfl, Nat.le_of_ble_eq_true rfl⟩ (q0 := 0) (ci := 9) rfl rfl rfl rfl hl.1 rfl (Nat.le_of_ble_eq_true rfl) dX9_readTide_39 ⟨Nat.zero_le _, Nat.zero_le _⟩ (fun U locs G => ?_)
      have G : Gd D A s (w_M cy mAd thrown status acts taped latest leng z5.2.1 z5.2.2.1 z5.2.2.2.1 z5.2.2.2.2.1 z5.2.2.2.2.2.1 z5.2.2.2.2.2.2 gifts traced lane many item bay fresh thn was tape left gift isKept kept trace) U locs := G
      obtain ⟨hb6, H⟩ := gd_some H
      refine va_iast hx hb hK G.1 G.2.1 G.2.2 5 1 rfl rfl (inb_in hb6) dX9_readTide_42 (fun U locs hP hD hS => ?_)
      have G : Gd D A s (w_M cy mAd thrown status acts taped latest leng z5.2.1 z5.2.2.1 z5.2.2.2.1 z5.2.2.2.2.1 z5.2.2.2.2.2.1 z5.2.2.2.2.2.2 gifts traced lane many item bay (upd fresh (ix (3 + x1)) z5.1) thn was tape left gift isKept kept trace) U locs := ⟨hP, hD, hS⟩
      refine lv_iinc (v := x1 + 1) (lv' := [(1, .int (x1 + 1)), (0, .ref (mAd 0))]) hx hb dX9_readTide_43 hl (k := 1) rfl rfl (by decide) rfl (fun ls hl => ?_)
      refine lv_goto (tgt := 22) hx hb dX9_readTide_46 (by decide) ?_
      exact ih z5.2.1 z5.2.2.1 z5.2.2.2.1 z5.2.2.2.2.1 z5.2.2.2.2.2.1 z5.2.2.2.2.2.2 (upd fresh (ix (3 + x1)) z5.1) (x1 + 1) z H kk _ _ _ G (lv_sub hl [1, 0] rfl)
def f_X9_readTide (leng cursor token start till fault faultAt : Int32) (fresh tape : Nat → Int32) : Option (Int32 × Int32 × Int32 × Int32 × Int32 × Int32 × (Nat → Int32)) := bd (f_X9_name token start till fault tape) (fun z1 => if (lg_cmp z1 1953064037) = 0 then (bd (f_X9_must leng cursor token start till fault faultAt tape 1) (fun z9 => bd (f_X9_readTide_L22 leng tape 2000 z9.1 z9.2.1 z9.2.2.1 z9.2.2.2.1 z9.2.2.2.2.1 z9.2.2.2.2.2 fresh 0) (fun z10 => bd (f_X9_mustEnd leng z10.1 z10.2.1 z10.2.2.1 z10.2.2.2.1 z10.2.2.2.2.1 z10.2.2.2.2.2.1 tape) (fun z11 => some (z11.1, z11.2.1, z11.2.2.1, z11.2.2.2.1, z11.2.2.2.2.1, z11.2.2.2.2.2, z10.2.2.2.2.2.2))))) else (bd (f_X9_must leng cursor token start till fault faultAt tape 0) (fun z3 => bd (f_X9_readTide_L22 leng tape 2000 z3.1 z3.2.1 z3.2.2.1 z3.2.2.2.1 z3.2.2.2.2.1 z3.2.2.2.2.2 fresh 0) (fun z7 => bd (f_X9_mustEnd leng z7.1 z7.2.1 z7.2.2.1 z7.2.2.2.1 z7.2.2.2.2.1 z7.2.2.2.2.2.1 tape) (fun z8 => some (z8.1, z8.2.1, z8.2.2.1, z8.2.2.2.1, z8.2.2.2.2.1, z8.2.2.2.2.2, z7.2.2.2.2.2.2))))))
set_option maxHeartbeats 4000000 in
set_option maxRecDepth 100000 in
theorem c_X9_readTide (l : Launch) (D : va_G) (cy : Nat → ClassId) (mAd : Nat → Nat) (thrown status acts taped latest leng cursor token start till fault faultAt gifts traced : Int32) (lane many item bay fresh thn was tape left gift isKept kept trace : Nat → Int32) (z : (Int32 × Int32 × Int32 × Int32 × Int32 × Int32 × (Nat → Int32))) (hz : f_X9_readTide leng cursor token start till fault faultAt fresh tape = some z) : MV l yX9_readTide wsX9_readTide ({ frames := 4, cells := 0, slots := 0, locals := 86 } : Room) D cy [.ref (mAd 0)] (w_M cy mAd thrown status acts taped latest leng cursor token start till fault faultAt gifts traced lane many item bay fresh thn was tape left gift isKept kept trace) (w_M cy mAd thrown status acts taped latest leng z.1 z.2.1 z.2.2.1 z.2.2.2.1 z.2.2.2.2.1 z.2.2.2.2.2.1 gifts traced lane many item bay z.2.2.2.2.2.2 thn was tape left gift isKept kept trace) := by
  refine met_start (Qf := fun A => MQv D cy (w_M cy mAd thrown status acts taped latest leng z.1 z.2.1 z.2.2.1 z.2.2.2.1 z.2.2.2.2.1 z.2.2.2.2.2.1 gifts traced lane many item bay z.2.2.2.2.2.2 thn was tape left gift isKept kept trace) A) (cc := cX9_readTide) (nL := 2) (ret := none) RX9 rfl (by decide) rfl (Nat.le_of_ble_eq_true rfl) ?_
  intro p e s m below meth c A ls C G hl
  have hl : lv_has ls 2 [(0, .ref (mAd 0))] := hl
  have H := hz
  unfold f_X9_readTide at H
  obtain ⟨hx, hb, hr, hml, hown, hts, hlk, hK, hA, hE⟩ := id C
  have lk0 := hts (Cond.constantLong RX9 143 (1953064037)) (List.mem_of_getElem? (i := 1) rfl)
  refine lv_aload_n hx hb dX9_readTide_0 rfl (lv_at hl 0 rfl) ?_
  refine lv_aload_n hx hb dX9_readTide_1 rfl (lv_at hl 0 rfl) ?_
  obtain ⟨z1, hz1, H⟩ := bd_some H
  refine ML.callVw z1 [] [.ref (mAd 0)] C G (c_X9_name l D cy mAd thrown status acts taped latest leng cursor token start till fault faultAt gifts traced lane many item bay fresh thn was tape left gift isKept kept trace z1 hz1) gX9_readTide_X9_name rfl rfl rfl (n := 0) (by decide +kernel) ⟨Nat.le_of_ble_eq_true rfl, Nat.le_of_ble_eq_true rfl⟩ (q0 := 0) (ci := 9) rfl rfl rfl rfl hl.1 rfl (Nat.le_of_ble_eq_true rfl) dX9_readTide_2 ⟨Nat.zero_le _, Nat.zero_le _⟩ (fun U locs G => ?_)
  have G : Gd D A s (w_M cy mAd thrown status acts taped latest leng cursor token start till fault faultAt gifts traced lane many item bay fresh thn was tape left gift isKept kept trace) U locs := G
  refine lv_ldc2 hx hb hown lk0 dX9_readTide_5 ?_
  refine W.lcmp hx hb dX9_readTide_8 ?_
  refine lv_if_ne (tgt := 16) hx hb dX9_readTide_9 (by decide) (fun c2 => ?_) (fun c2 => ?_)
  · have H := if_f H c2
    refine lv_iconst (v := 0) hx hb dX9_readTide_16 (by decide) ?_
    obtain ⟨z3, hz3, H⟩ := bd_some H
    refine MV.callVw [.int 0] [] C G (c_X9_must l D cy mAd thrown status acts taped latest leng cursor token start till fault faultAt gifts traced lane many item bay fresh thn was tape left gift isKept kept trace 0 z3 hz3) gX9_readTide_X9_must rfl rfl rfl (n := 1) (by decide +kernel) ⟨Nat.le_of_ble_eq_true rfl, Nat.le_of_ble_eq_true rfl⟩ (q0 := 0) (ci := 9) rfl rfl rfl rfl hl.1 rfl (Nat.le_of_ble_eq_true rfl) dX9_readTide_17 ⟨Nat.zero_le _, Nat.zero_le _⟩ (fun U locs G => ?_)
    have G : Gd D A s (w_M cy mAd thrown status acts taped latest leng z3.1 z3.2.1 z3.2.2.1 z3.2.2.2.1 z3.2.2.2.2.1 z3.2.2.2.2.2 gifts traced lane many item bay fresh thn was tape left gift isKept kept trace) U locs := G
    refine lv_iconst (v := 0) hx hb dX9_readTide_20 (by decide) ?_
    refine lv_istore_n (lv' := [(1, .int 0), (0, .ref (mAd 0))]) hx hb dX9_readTide_21 rfl hl (by decide) rfl (fun ls hl => ?_)
    obtain ⟨z7, hz7, H⟩ := bd_some H
    refine wl_X9_readTide_22 C mAd thrown status acts taped latest leng gifts traced lane many item bay thn was tape left gift isKept kept trace _ z3.1 z3.2.1 z3.2.2.1 z3.2.2.2.1 z3.2.2.2.2.1 z3.2.2.2.2.2 fresh 0 z7 hz7 (fun U locs ls G hl => ?_) _ _ _ G (lv_sub hl [1, 0] rfl)
    have G : Gd D A s (w_M cy mAd thrown status acts taped latest leng z7.1 z7.2.1 z7.2.2.1 z7.2.2.2.1 z7.2.2.2.2.1 z7.2.2.2.2.2.1 gifts traced lane many item bay z7.2.2.2.2.2.2 thn was tape left gift isKept kept trace) U locs := G
    have hl : lv_has ls 2 [(0, .ref (mAd 0))] := hl
    refine lv_aload_n hx hb dX9_readTide_49 rfl (lv_at hl 0 rfl) ?_
    obtain ⟨z8, hz8, H⟩ := bd_some H
    refine MV.callVw [] [] C G (c_X9_mustEnd l D cy mAd thrown status acts taped latest leng z7.1 z7.2.1 z7.2.2.1 z7.2.2.2.1 z7.2.2.2.2.1 z7.2.2.2.2.2.1 gifts traced lane many item bay z7.2.2.2.2.2.2 thn was tape left gift isKept kept trace z8 hz8) gX9_readTide_X9_mustEnd rfl rfl rfl (n := 0) (by decide +kernel) ⟨Nat.le_of_ble_eq_true rfl, Nat.le_of_ble_eq_true rfl⟩ (q0 := 0) (ci := 9) rfl rfl rfl rfl hl.1 rfl (Nat.le_of_ble_eq_true rfl) dX9_readTide_50 ⟨Nat.zero_le _, Nat.zero_le _⟩ (fun U locs G => ?_)
    have G : Gd D A s (w_M cy mAd thrown status acts taped latest leng z8.1 z8.2.1 z8.2.2.1 z8.2.2.2.1 z8.2.2.2.2.1 z8.2.2.2.2.2 gifts traced lane many item bay z7.2.2.2.2.2.2 thn was tape left gift isKept kept trace) U locs := G
    obtain rfl := Option.some.inj H
    exact ret_v C G dX9_readTide_53
  · have H := if_t H c2
    refine lv_iconst (v := 1) hx hb dX9_readTide_12 (by decide) ?_
    refine lv_goto (tgt := 17) hx hb dX9_readTide_13 (by decide) ?_
    obtain ⟨z9, hz9, H⟩ := bd_some H
    refine MV.callVw [.int 1] [] C G (c_X9_must l D cy mAd thrown status acts taped latest leng cursor token start till fault faultAt gifts traced lane many item bay fresh thn was tape left gift isKept kept trace 1 z9 hz9) gX9_readTide_X9_must rfl rfl rfl (n := 1) (by decide +kernel) ⟨Nat.le_of_ble_eq_true rfl, Nat.le_of_ble_eq_true rfl⟩ (q0 := 0) (ci := 9) rfl rfl rfl rfl hl.1 rfl (Nat.le_of_ble_eq_true rfl) dX9_readTide_17 ⟨Nat.zero_le _, Nat.zero_le _⟩ (fun U locs G => ?_)
    have G : Gd D A s (w_M cy mAd thrown status acts taped latest leng z9.1 z9.2.1 z9.2.2.1 z9.2.2.2.1 z9.2.2.2.2.1 z9.2.2.2.2.2 gifts traced lane many item bay fresh thn was tape left gift isKept kept trace) U locs := G
    refine lv_iconst (v := 0) hx hb dX9_readTide_20 (by decide) ?_
    refine lv_istore_n (lv' := [(1, .int 0), (0, .ref (mAd 0))]) hx hb dX9_readTide_21 rfl hl (by decide) rfl (fun ls hl => ?_)
    obtain ⟨z10, hz10, H⟩ := bd_some H
    refine wl_X9_readTide_22 C mAd thrown status acts taped latest leng gifts traced lane many item bay thn was tape left gift isKept kept trace _ z9.1 z9.2.1 z9.2.2.1 z9.2.2.2.1 z9.2.2.2.2.1 z9.2.2.2.2.2 fresh 0 z10 hz10 (fun U locs ls G hl => ?_) _ _ _ G (lv_sub hl [1, 0] rfl)
    have G : Gd D A s (w_M cy mAd thrown status acts taped latest leng z10.1 z10.2.1 z10.2.2.1 z10.2.2.2.1 z10.2.2.2.2.1 z10.2.2.2.2.2.1 gifts traced lane many item bay z10.2.2.2.2.2.2 thn was tape left gift isKept kept trace) U locs := G
    have hl : lv_has ls 2 [(0, .ref (mAd 0))] := hl
    refine lv_aload_n hx hb dX9_readTide_49 rfl (lv_at hl 0 rfl) ?_
    obtain ⟨z11, hz11, H⟩ := bd_some H
    refine MV.callVw [] [] C G (c_X9_mustEnd l D cy mAd thrown status acts taped latest leng z10.1 z10.2.1 z10.2.2.1 z10.2.2.2.1 z10.2.2.2.2.1 z10.2.2.2.2.2.1 gifts traced lane many item bay z10.2.2.2.2.2.2 thn was tape left gift isKept kept trace z11 hz11) gX9_readTide_X9_mustEnd rfl rfl rfl (n := 0) (by decide +kernel) ⟨Nat.le_of_ble_eq_true rfl, Nat.le_of_ble_eq_true rfl⟩ (q0 := 0) (ci := 9) rfl rfl rfl rfl hl.1 rfl (Nat.le_of_ble_eq_true rfl) dX9_readTide_50 ⟨Nat.zero_le _, Nat.zero_le _⟩ (fun U locs G => ?_)
    have G : Gd D A s (w_M cy mAd thrown status acts taped latest leng z11.1 z11.2.1 z11.2.2.1 z11.2.2.2.1 z11.2.2.2.2.1 z11.2.2.2.2.2 gifts traced lane many item bay z10.2.2.2.2.2.2 thn was tape left gift isKept kept trace) U locs := G
    obtain rfl := Option.some.inj H
    exact ret_v C G dX9_readTide_53
