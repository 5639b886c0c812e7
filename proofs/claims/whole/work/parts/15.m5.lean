def f_X9_layGifts_L7 (bay : Nat → Int32) : Nat → (Nat → Int32) → Int32 → Option (Nat → Int32)
  | 0, _, _ => none
  | n + 1, left, x1 => if (bay 1) ≤ x1 then (some left) else (bd (f_X9_balanceOf bay x1) (fun z2 => gd (inb x1 6) (f_X9_layGifts_L7 bay n (upd left (ix x1) z2) (x1 + 1))))
theorem f_X9_layGifts_L7_z (bay : Nat → Int32) (left : Nat → Int32) (x1 : Int32) : f_X9_layGifts_L7 bay 0 left x1 = none := rfl
theorem f_X9_layGifts_L7_s (bay : Nat → Int32) (n : Nat) (left : Nat → Int32) (x1 : Int32) : f_X9_layGifts_L7 bay (n + 1) left x1 = if (bay 1) ≤ x1 then (some left) else (bd (f_X9_balanceOf bay x1) (fun z2 => gd (inb x1 6) (f_X9_layGifts_L7 bay n (upd left (ix x1) z2) (x1 + 1)))) := rfl
set_option maxHeartbeats 4000000 in
set_option maxRecDepth 100000 in
theorem wl_X9_layGifts_7 {p : Program} {l : Launch} {e : Env} {s : State} {m : MethodId} {below : List Frame} {meth : Method} {c : Code} {D : va_G} {cy : Nat → ClassId} {A : Nat → Prop} {args : Array Value} {Q : State → Prop} (C : Cx D cy A p s m meth c cX9_layGifts 4 none wsX9_layGifts RX9 args) (mAd : Nat → Nat) (thrown status acts taped latest leng cursor token start till fault faultAt gifts traced : Int32) (lane many item bay fresh thn was tape gift isKept kept trace : Nat → Int32) :
    ∀ (n : Nat) (left : Nat → Int32) (x1 : Int32) (z : (Nat → Int32)), f_X9_layGifts_L7 bay n left x1 = some z → (∀ (U : Heap) (locs : List Loc) (ls : Array Slot), Gd D A s (w_M cy mAd thrown status acts taped latest leng cursor token start till fault faultAt gifts traced lane many item bay fresh thn was tape z gift isKept kept trace) U locs → lv_has ls 4 [(0, .ref (mAd 0))] → W p l e ({ frames := 2, cells := 0, slots := 0, locals := 44 } : Room) s m args below meth c U locs 0 0 Q (F0 m 34 ls [])) → ∀ (U : Heap) (locs : List Loc) (ls : Array Slot), Gd D A s (w_M cy mAd thrown status acts taped latest leng cursor token start till fault faultAt gifts traced lane many item bay fresh thn was tape left gift isKept kept trace) U locs → lv_has ls 4 [(0, .ref (mAd 0)), (1, .int x1)] → W p l e ({ frames := 2, cells := 0, slots := 0, locals := 44 } : Room) s m args below meth c U locs 0 0 Q (F0 m 7 ls []) := by
  obtain ⟨hx, hb, hr, hml, hown, hts, hlk, hK, hA, hE⟩ := id C
  have lk0 := hts (Cond.fieldLink RX9 19 "TideDebtsModel" "bay" "[I") (List.mem_of_getElem? (i := 2) rfl)
  have lk1 := hts (Cond.fieldLink RX9 34 "TideDebtsModel" "left" "[I") (List.mem_of_getElem? (i := 3) rfl)
  have hiX9 : ∀ w ∈ u_ws RX9 TX9 27, w ∈ wsX9_layGifts := fun _ h => List.mem_cons_of_mem _ (List.mem_append_right _ h)
  intro n
  induction n with
  | zero =>
    intro left x1 z H
    rw [f_X9_layGifts_L7_z] at H
    cases H
  | succ n ih =>
    intro left x1 z H kk U locs ls G hl
    rw [f_X9_layGifts_L7_s] at H
    refine lv_iload_n hx hb dX9_layGifts_7 rfl (lv_at hl 1 rfl) ?_
    refine lv_aload_n hx hb dX9_layGifts_8 rfl (lv_at hl 0 rfl) ?_
    refine va_get (D := D) (ci := 9) (v := .ref (mAd 4)) (C := RX9) (T := TX9) (N := 27) hx hb hts hiX9 hown hK G.1 0 rfl rfl 5 (by decide) lk0 (fun _ h9 => h9) rfl dX9_layGifts_9 ?_
    refine lv_iconst (v := 1) hx hb dX9_layGifts_12 (by decide) ?_
    refine g_iald (v := bay 1) hx hb hK G.1 4 1 rfl rfl (by decide) rfl dX9_layGifts_13 ?_
    refine lv_icmp_ge (tgt := 34) hx hb dX9_layGifts_14 (by decide) (fun c1 => ?_) (fun c1 => ?_)
    · have H := if_t H c1
      obtain rfl := Option.some.inj H
      exact kk _ _ _ G (lv_sub hl [0] rfl)
    · have H := if_f H c1
      refine lv_aload_n hx hb dX9_layGifts_17 rfl (lv_at hl 0 rfl) ?_
      refine va_get (D := D) (ci := 9) (v := .ref (mAd 9)) (C := RX9) (T := TX9) (N := 27) hx hb hts hiX9 hown hK G.1 0 rfl rfl 20 (by decide) lk1 (fun _ h9 => h9) rfl dX9_layGifts_18 ?_
      refine lv_iload_n hx hb dX9_layGifts_21 rfl (lv_at hl 1 rfl) ?_
      refine lv_aload_n hx hb dX9_layGifts_22 rfl (lv_at hl 0 rfl) ?_
      refine lv_iload_n hx hb dX9_layGifts_23 rfl (lv_at hl 1 rfl) ?_
      obtain ⟨z2, hz2, H⟩ := bd_some H
      refine MI.callVw z2 [.int x1] [.int x1, .ref (mAd 9)] C G (c_X9_balanceOf l D cy mAd thrown status acts taped latest leng cursor token start till fault faultAt gifts traced lane many item bay fresh thn was tape left gift isKept kept trace x1 z2 hz2) gX9_layGifts_X9_balanceOf rfl rfl rfl (n := 1) (by decide +kernel) ⟨Nat.le_of_ble_eq_true rfl, Nat.le_of_ble_eq_true rfl⟩ (q0 := 0) (ci := 9) rfl rfl rfl rfl hl.1 rfl (Nat.le_of_ble_eq_true rfl) dX9_layGifts_24 ⟨Nat.zero_le _, Nat.zero_le _⟩ (fun U locs G => ?_)
      have G : Gd D A s (w_M cy mAd thrown status acts taped latest leng cursor token start till fault faultAt gifts traced lane many item bay fresh thn was tape left gift isKept kept trace) U locs := G
      obtain ⟨hb3, H⟩ := gd_some H
      refine va_iast hx hb hK G.1 G.2.1 G.2.2 9 1 rfl rfl (inb_in hb3) dX9_layGifts_27 (fun U locs hP hD hS => ?_)
      have G : Gd D A s (w_M cy mAd thrown status acts taped latest leng cursor token start till fault faultAt gifts traced lane many item bay fresh thn was tape (upd left (ix x1) z2) gift isKept kept trace) U locs := ⟨hP, hD, hS⟩
      refine lv_iinc (v := x1 + 1) (lv' := [(1, .int (x1 + 1)), (0, .ref (mAd 0))]) hx hb dX9_layGifts_28 hl (k := 1) rfl rfl (by decide) rfl (fun ls hl => ?_)
      refine lv_goto (tgt := 7) hx hb dX9_layGifts_31 (by decide) ?_
      exact ih (upd left (ix x1) z2) (x1 + 1) z H kk _ _ _ G (lv_sub hl [1, 0] rfl)
def f_X9_layGifts_L40 (bay : Nat → Int32) : Nat → Int32 → (Nat → Int32) → (Nat → Int32) → Int32 → Option (Int32 × (Nat → Int32) × (Nat → Int32))
  | 0, _, _, _, _ => none
  | n + 1, gifts, left, gift, x1 => if x1 = (-1000000) then (some (gifts, left, gift)) else (bd (f_X9_firstWith bay left (-1)) (fun z7 => gd (inb x1 6) (gd (inb z7 6) (if (-(left (ix z7))) ≤ (left (ix x1)) then (gd (inb (3 * gifts) 36) (gd (inb ((3 * gifts) + 1) 36) (gd (inb ((3 * gifts) + 2) 36) (bd (f_X9_firstWith bay (upd (upd left (ix x1) ((left (ix x1)) - (-(left (ix z7))))) (ix z7) (((upd left (ix x1) ((left (ix x1)) - (-(left (ix z7))))) (ix z7)) + (-(left (ix z7))))) 1) (fun z14 => f_X9_layGifts_L40 bay n (gifts + 1) (upd (upd left (ix x1) ((left (ix x1)) - (-(left (ix z7))))) (ix z7) (((upd left (ix x1) ((left (ix x1)) - (-(left (ix z7))))) (ix z7)) + (-(left (ix z7))))) (upd (upd (upd gift (ix (3 * gifts)) x1) (ix ((3 * gifts) + 1)) z7) (ix ((3 * gifts) + 2)) (-(left (ix z7)))) z14))))) else (gd (inb (3 * gifts) 36) (gd (inb ((3 * gifts) + 1) 36) (gd (inb ((3 * gifts) + 2) 36) (bd (f_X9_firstWith bay (upd (upd left (ix x1) ((left (ix x1)) - (left (ix x1)))) (ix z7) (((upd left (ix x1) ((left (ix x1)) - (left (ix x1)))) (ix z7)) + (left (ix x1)))) 1) (fun z18 => f_X9_layGifts_L40 bay n (gifts + 1) (upd (upd left (ix x1) ((left (ix x1)) - (left (ix x1)))) (ix z7) (((upd left (ix x1) ((left (ix x1)) - (left (ix x1)))) (ix z7)) + (left (ix x1)))) (upd (upd (upd gift (ix (3 * gifts)) x1) (ix ((3 * gifts) + 1)) z7) (ix ((3 * gifts) + 2)) (left (ix x1))) z18)))))))))
theorem f_X9_layGifts_L40_z (bay : Nat → Int32) (gifts : Int32) (left gift : Nat → Int32) (x1 : Int32) : f_X9_layGifts_L40 bay 0 gifts left gift x1 = none := rfl
theorem f_X9_layGifts_L40_s (bay : Nat → Int32) (n : Nat) (gifts : Int32) (left gift : Nat → Int32) (x1 : Int32) : f_X9_layGifts_L40 bay (n + 1) gifts left gift x1 = if x1 = (-1000000) then (some (gifts, left, gift)) else (bd (f_X9_firstWith bay left (-1)) (fun z7 => gd (inb x1 6) (gd (inb z7 6) (if (-(left (ix z7))) ≤ (left (ix x1)) then (gd (inb (3 * gifts) 36) (gd (inb ((3 * gifts) + 1) 36) (gd (inb ((3 * gifts) + 2) 36) (bd (f_X9_firstWith bay (upd (upd left (ix x1) ((left (ix x1)) - (-(left (ix z7))))) (ix z7) (((upd left (ix x1) ((left (ix x1)) - (-(left (ix z7))))) (ix z7)) + (-(left (ix z7))))) 1) (fun z14 => f_X9_layGifts_L40 bay n (gifts + 1) (upd (upd left (ix x1) ((left (ix x1)) - (-(left (ix z7))))) (ix z7) (((upd left (ix x1) ((left (ix x1)) - (-(left (ix z7))))) (ix z7)) + (-(left (ix z7))))) (upd (upd (upd gift (ix (3 * gifts)) x1) (ix ((3 * gifts) + 1)) z7) (ix ((3 * gifts) + 2)) (-(left (ix z7)))) z14))))) else (gd (inb (3 * gifts) 36) (gd (inb ((3 * gifts) + 1) 36) (gd (inb ((3 * gifts) + 2) 36) (bd (f_X9_firstWith bay (upd (upd left (ix x1) ((left (ix x1)) - (left (ix x1)))) (ix z7) (((upd left (ix x1) ((left (ix x1)) - (left (ix x1)))) (ix z7)) + (left (ix x1)))) 1) (fun z18 => f_X9_layGifts_L40 bay n (gifts + 1) (upd (upd left (ix x1) ((left (ix x1)) - (left (ix x1)))) (ix z7) (((upd left (ix x1) ((left (ix x1)) - (left (ix x1)))) (ix z7)) + (left (ix x1)))) (upd (upd (upd gift (ix (3 * gifts)) x1) (ix ((3 * gifts) + 1)) z7) (ix ((3 * gifts) + 2)) (left (ix x1))) z18))))))))) := rfl
set_option maxHeartbeats 4000000 in
set_option maxRecDepth 100000 in
theorem wl_X9_layGifts_40 {p : Program} {l : Launch} {e : Env} {s : State} {m : MethodId} {below : List Frame} {meth : Method} {c : Code} {D : va_G} {cy : Nat → ClassId} {A : Nat → Prop} {args : Array Value} {Q : State → Prop} (C : Cx D cy A p s m meth c cX9_layGifts 4 none wsX9_layGifts RX9 args) (mAd : Nat → Nat) (thrown status acts taped latest leng cursor token start till fault faultAt traced : Int32) (lane many item bay fresh thn was tape isKept kept trace : Nat → Int32) :
    ∀ (n : Nat) (gifts : Int32) (left gift : Nat → Int32) (x1 : Int32) (z : (Int32 × (Nat → Int32) × (Nat → Int32))), f_X9_layGifts_L40 bay n gifts left gift x1 = some z → (∀ (U : Heap) (locs : List Loc) (ls : Array Slot), Gd D A s (w_M cy mAd thrown status acts taped latest leng cursor token start till fault faultAt z.1 traced lane many item bay fresh thn was tape z.2.1 z.2.2 isKept kept trace) U locs → lv_has ls 4 [] → W p l e ({ frames := 2, cells := 0, slots := 0, locals := 44 } : Room) s m args below meth c U locs 0 0 Q (F0 m 164 ls [])) → ∀ (U : Heap) (locs : List Loc) (ls : Array Slot), Gd D A s (w_M cy mAd thrown status acts taped latest leng cursor token start till fault faultAt gifts traced lane many item bay fresh thn was tape left gift isKept kept trace) U locs → lv_has ls 4 [(0, .ref (mAd 0)), (1, .int x1)] → W p l e ({ frames := 2, cells := 0, slots := 0, locals := 44 } : Room) s m args below meth c U locs 0 0 Q (F0 m 40 ls []) := by
  obtain ⟨hx, hb, hr, hml, hown, hts, hlk, hK, hA, hE⟩ := id C
  have lk0 := hts (Cond.constant RX9 86 (-1000000)) (List.mem_of_getElem? (i := 4) rfl)
  have lk1 := hts (Cond.fieldLink RX9 34 "TideDebtsModel" "left" "[I") (List.mem_of_getElem? (i := 3) rfl)
  have lk2 := hts (Cond.fieldLink RX9 37 "TideDebtsModel" "gift" "[I") (List.mem_of_getElem? (i := 5) rfl)
  have lk3 := hts (Cond.fieldLink RX9 230 "TideDebtsModel" "gifts" "I") (List.mem_of_getElem? (i := 1) rfl)
  have hiX9 : ∀ w ∈ u_ws RX9 TX9 27, w ∈ wsX9_layGifts := fun _ h => List.mem_cons_of_mem _ (List.mem_append_right _ h)
  intro n
  induction n with
  | zero =>
    intro gifts left gift x1 z H
    rw [f_X9_layGifts_L40_z] at H
    cases H
  | succ n ih =>
    intro gifts left gift x1 z H kk U locs ls G hl
    rw [f_X9_layGifts_L40_s] at H
    refine lv_iload_n hx hb dX9_layGifts_40 rfl (lv_at hl 1 rfl) ?_
    refine lv_ldc hx hb hown lk0 dX9_layGifts_41 ?_
    refine lv_icmp_eq (tgt := 164) hx hb dX9_layGifts_43 (by decide) (fun c6 => ?_) (fun c6 => ?_)
    · have H := if_t H c6
      obtain rfl := Option.some.inj H
      exact kk _ _ _ G (lv_sub hl [] rfl)
    · have H := if_f H c6
      refine lv_aload_n hx hb dX9_layGifts_46 rfl (lv_at hl 0 rfl) ?_
      refine lv_iconst (v := (-1)) hx hb dX9_layGifts_47 (by decide) ?_
      obtain ⟨z7, hz7, H⟩ := bd_some H
      refine MI.callVw z7 [.int (-1)] [] C G (c_X9_firstWith l D cy mAd thrown status acts taped latest leng cursor token start till fault faultAt gifts traced lane many item bay fresh thn was tape left gift isKept kept trace (-1) z7 hz7) gX9_layGifts_X9_firstWith rfl rfl rfl (n := 1) (by decide +kernel) ⟨Nat.le_of_ble_eq_true rfl, Nat.le_of_ble_eq_true rfl⟩ (q0 := 0) (ci := 9) rfl rfl rfl rfl hl.1 rfl (Nat.le_of_ble_eq_true rfl) dX9_layGifts_48 ⟨Nat.zero_le _, Nat.zero_le _⟩ (fun U locs G => ?_)
      have G : Gd D A s (w_M cy mAd thrown status acts taped latest leng cursor token start till fault faultAt gifts traced lane many item bay fresh thn was tape left gift isKept kept trace) U locs := G
      refine lv_istore_n (lv' := [(2, .int z7), (0, .ref (mAd 0)), (1, .int x1)]) hx hb dX9_layGifts_51 rfl hl (by decide) rfl (fun ls hl => ?_)
      refine lv_aload_n hx hb dX9_layGifts_52 rfl (lv_at hl 1 rfl) ?_
      refine va_get (D := D) (ci := 9) (v := .ref (mAd 9)) (C := RX9) (T := TX9) (N := 27) hx hb hts hiX9 hown hK G.1 0 rfl rfl 20 (by decide) lk1 (fun _ h9 => h9) rfl dX9_layGifts_53 ?_
      refine lv_iload_n hx hb dX9_layGifts_56 rfl (lv_at hl 2 rfl) ?_
      obtain ⟨hb8, H⟩ := gd_some H
      refine g_iald (v := left (ix x1)) hx hb hK G.1 9 1 rfl rfl hb8 rfl dX9_layGifts_57 ?_
      refine lv_aload_n hx hb dX9_layGifts_58 rfl (lv_at hl 1 rfl) ?_
      refine va_get (D := D) (ci := 9) (v := .ref (mAd 9)) (C := RX9) (T := TX9) (N := 27) hx hb hts hiX9 hown hK G.1 0 rfl rfl 20 (by decide) lk1 (fun _ h9 => h9) rfl dX9_layGifts_59 ?_
      refine lv_iload_n hx hb dX9_layGifts_62 rfl (lv_at hl 0 rfl) ?_
      obtain ⟨hb9, H⟩ := gd_some H
      refine g_iald (v := left (ix z7)) hx hb hK G.1 9 1 rfl rfl hb9 rfl dX9_layGifts_63 ?_
      refine lv_ineg hx hb dX9_layGifts_64 ?_
      refine lv_icmp_ge (tgt := 77) hx hb dX9_layGifts_65 (by decide) (fun c10 => ?_) (fun c10 => ?_)
      · have H := if_t H c10
        refine lv_aload_n hx hb dX9_layGifts_77 rfl (lv_at hl 1 rfl) ?_
        refine va_get (D := D) (ci := 9) (v := .ref (mAd 9)) (C := RX9) (T := TX9) (N := 27) hx hb hts hiX9 hown hK G.1 0 rfl rfl 20 (by decide) lk1 (fun _ h9 => h9) rfl dX9_layGifts_78 ?_
        refine lv_iload_n hx hb dX9_layGifts_81 rfl (lv_at hl 0 rfl) ?_
        refine g_iald (v := left (ix z7)) hx hb hK G.1 9 1 rfl rfl hb9 rfl dX9_layGifts_82 ?_
        refine lv_ineg hx hb dX9_layGifts_83 ?_
        refine lv_istore_n (lv' := [(3, .int (-(left (ix z7)))), (2, .int z7), (0, .ref (mAd 0)), (1, .int x1)]) hx hb dX9_layGifts_84 rfl hl (by decide) rfl (fun ls hl => ?_)
        refine lv_aload_n hx hb dX9_layGifts_85 rfl (lv_at hl 2 rfl) ?_
        refine va_get (D := D) (ci := 9) (v := .ref (mAd 10)) (C := RX9) (T := TX9) (N := 27) hx hb hts hiX9 hown hK G.1 0 rfl rfl 21 (by decide) lk2 (fun _ h9 => h9) rfl dX9_layGifts_86 ?_
        refine lv_iconst (v := 3) hx hb dX9_layGifts_89 (by decide) ?_
        refine lv_aload_n hx hb dX9_layGifts_90 rfl (lv_at hl 2 rfl) ?_
        refine va_get (D := D) (ci := 9) (v := .int gifts) (C := RX9) (T := TX9) (N := 27) hx hb hts hiX9 hown hK G.1 0 rfl rfl 22 (by decide) lk3 (fun _ h9 => h9) rfl dX9_layGifts_91 ?_
        refine lv_imul hx hb dX9_layGifts_94 ?_
        refine lv_iload_n hx hb dX9_layGifts_95 rfl (lv_at hl 3 rfl) ?_
        obtain ⟨hb11, H⟩ := gd_some H
        refine va_iast hx hb hK G.1 G.2.1 G.2.2 10 1 rfl rfl (inb_in hb11) dX9_layGifts_96 (fun U locs hP hD hS => ?_)
        have G : Gd D A s (w_M cy mAd thrown status acts taped latest leng cursor token start till fault faultAt gifts traced lane many item bay fresh thn was tape left (upd gift (ix (3 * gifts)) x1) isKept kept trace) U locs := ⟨hP, hD, hS⟩
        refine lv_aload_n hx hb dX9_layGifts_97 rfl (lv_at hl 2 rfl) ?_
        refine va_get (D := D) (ci := 9) (v := .ref (mAd 10)) (C := RX9) (T := TX9) (N := 27) hx hb hts hiX9 hown hK G.1 0 rfl rfl 21 (by decide) lk2 (fun _ h9 => h9) rfl dX9_layGifts_98 ?_
        refine lv_iconst (v := 3) hx hb dX9_layGifts_101 (by decide) ?_
        refine lv_aload_n hx hb dX9_layGifts_102 rfl (lv_at hl 2 rfl) ?_
        refine va_get (D := D) (ci := 9) (v := .int gifts) (C := RX9) (T := TX9) (N := 27) hx hb hts hiX9 hown hK G.1 0 rfl rfl 22 (by decide) lk3 (fun _ h9 => h9) rfl dX9_layGifts_103 ?_
        refine lv_imul hx hb dX9_layGifts_106 ?_
        refine lv_iconst (v := 1) hx hb dX9_layGifts_107 (by decide) ?_
        refine lv_iadd hx hb dX9_layGifts_108 ?_
        refine lv_iload_n hx hb dX9_layGifts_109 rfl (lv_at hl 1 rfl) ?_
        obtain ⟨hb12, H⟩ := gd_some H
        refine va_iast hx hb hK G.1 G.2.1 G.2.2 10 1 rfl rfl (inb_in hb12) dX9_layGifts_110 (fun U locs hP hD hS => ?_)
        have G : Gd D A s (w_M cy mAd thrown status acts taped latest leng cursor token start till fault faultAt gifts traced lane many item bay fresh thn was tape left (upd (upd gift (ix (3 * gifts)) x1) (ix ((3 * gifts) + 1)) z7) isKept kept trace) U locs := ⟨hP, hD, hS⟩
        refine lv_aload_n hx hb dX9_layGifts_111 rfl (lv_at hl 2 rfl) ?_
        refine va_get (D := D) (ci := 9) (v := .ref (mAd 10)) (C := RX9) (T := TX9) (N := 27) hx hb hts hiX9 hown hK G.1 0 rfl rfl 21 (by decide) lk2 (fun _ h9 => h9) rfl dX9_layGifts_112 ?_
        refine lv_iconst (v := 3) hx hb dX9_layGifts_115 (by decide) ?_
        refine lv_aload_n hx hb dX9_layGifts_116 rfl (lv_at hl 2 rfl) ?_
        refine va_get (D := D) (ci := 9) (v := .int gifts) (C := RX9) (T := TX9) (N := 27) hx hb hts hiX9 hown hK G.1 0 rfl rfl 22 (by decide) lk3 (fun _ h9 => h9) rfl dX9_layGifts_117 ?_
        refine lv_imul hx hb dX9_layGifts_120 ?_
        refine lv_iconst (v := 2) hx hb dX9_layGifts_121 (by decide) ?_
        refine lv_iadd hx hb dX9_layGifts_122 ?_
        refine lv_iload_n hx hb dX9_layGifts_123 rfl (lv_at hl 0 rfl) ?_
        obtain ⟨hb13, H⟩ := gd_some H
        refine va_iast hx hb hK G.1 G.2.1 G.2.2 10 1 rfl rfl (inb_in hb13) dX9_layGifts_124 (fun U locs hP hD hS => ?_)
        have G : Gd D A s (w_M cy mAd thrown status acts taped latest leng cursor token start till fault faultAt gifts traced lane many item bay fresh thn was tape left (upd (upd (upd gift (ix (3 * gifts)) x1) (ix ((3 * gifts) + 1)) z7) (ix ((3 * gifts) + 2)) (-(left (ix z7)))) isKept kept trace) U locs := ⟨hP, hD, hS⟩
        refine lv_aload_n hx hb dX9_layGifts_125 rfl (lv_at hl 2 rfl) ?_
        refine lv_dup hx hb dX9_layGifts_126 rfl ?_
        refine va_get (D := D) (ci := 9) (v := .int gifts) (C := RX9) (T := TX9) (N := 27) hx hb hts hiX9 hown hK G.1 0 rfl rfl 22 (by decide) lk3 (fun _ h9 => h9) rfl dX9_layGifts_127 ?_
        refine lv_iconst (v := 1) hx hb dX9_layGifts_130 (by decide) ?_
        refine lv_iadd hx hb dX9_layGifts_131 ?_
        refine va_put (D := D) (ci := 9) (v := .int (gifts + 1)) (ty := .int) (C := RX9) (T := TX9) (N := 27) hx hb hts hiX9 tyX9 tyX9_ok nmX9 hown hK G.1 G.2.1 G.2.2 0 rfl rfl 22 (by decide) lk3 (fun _ h9 => h9) rfl (tyX9_ok 22 (by decide)) rfl rfl (Nat.le_of_ble_eq_true rfl) dX9_layGifts_132 (fun U locs hP hD hS => ?_)
        have G : Gd D A s (w_M cy mAd thrown status acts taped latest leng cursor token start till fault faultAt (gifts + 1) traced lane many item bay fresh thn was tape left (upd (upd (upd gift (ix (3 * gifts)) x1) (ix ((3 * gifts) + 1)) z7) (ix ((3 * gifts) + 2)) (-(left (ix z7)))) isKept kept trace) U locs := ⟨hP, hD, hS⟩
        refine lv_aload_n hx hb dX9_layGifts_135 rfl (lv_at hl 2 rfl) ?_
        refine va_get (D := D) (ci := 9) (v := .ref (mAd 9)) (C := RX9) (T := TX9) (N := 27) hx hb hts hiX9 hown hK G.1 0 rfl rfl 20 (by decide) lk1 (fun _ h9 => h9) rfl dX9_layGifts_136 ?_
        refine lv_iload_n hx hb dX9_layGifts_139 rfl (lv_at hl 3 rfl) ?_
        refine lv_dup2_11 hx hb dX9_layGifts_140 rfl rfl ?_
        refine g_iald (v := left (ix x1)) hx hb hK G.1 9 1 rfl rfl hb8 rfl dX9_layGifts_141 ?_
        refine lv_iload_n hx hb dX9_layGifts_142 rfl (lv_at hl 0 rfl) ?_
        refine lv_isub hx hb dX9_layGifts_143 ?_
        refine va_iast hx hb hK G.1 G.2.1 G.2.2 9 1 rfl rfl (inb_in hb8) dX9_layGifts_144 (fun U locs hP hD hS => ?_)
        have G : Gd D A s (w_M cy mAd thrown status acts taped latest leng cursor token start till fault faultAt (gifts + 1) traced lane many item bay fresh thn was tape (upd left (ix x1) ((left (ix x1)) - (-(left (ix z7))))) (upd (upd (upd gift (ix (3 * gifts)) x1) (ix ((3 * gifts) + 1)) z7) (ix ((3 * gifts) + 2)) (-(left (ix z7)))) isKept kept trace) U locs := ⟨hP, hD, hS⟩
        refine lv_aload_n hx hb dX9_layGifts_145 rfl (lv_at hl 2 rfl) ?_
        refine va_get (D := D) (ci := 9) (v := .ref (mAd 9)) (C := RX9) (T := TX9) (N := 27) hx hb hts hiX9 hown hK G.1 0 rfl rfl 20 (by decide) lk1 (fun _ h9 => h9) rfl dX9_layGifts_146 ?_
        refine lv_iload_n hx hb dX9_layGifts_149 rfl (lv_at hl 1 rfl) ?_
        refine lv_dup2_11 hx hb dX9_layGifts_150 rfl rfl ?_
        refine g_iald (v := (upd left (ix x1) ((left (ix x1)) - (-(left (ix z7))))) (ix z7)) hx hb hK G.1 9 1 rfl rfl hb9 rfl dX9_layGifts_151 ?_
        refine lv_iload_n hx hb dX9_layGifts_152 rfl (lv_at hl 0 rfl) ?_
        refine lv_iadd hx hb dX9_layGifts_153 ?_
        refine va_iast hx hb hK G.1 G.2.1 G.2.2 9 1 rfl rfl (inb_in hb9) dX9_layGifts_154 (fun U locs hP hD hS => ?_)
        have G : Gd D A s (w_M cy mAd thrown status acts taped latest leng cursor token start till fault faultAt (gifts + 1) traced lane many item bay fresh thn was tape (upd (upd left (ix x1) ((left (ix x1)) - (-(left (ix z7))))) (ix z7) (((upd left (ix x1) ((left (ix x1)) - (-(left (ix z7))))) (ix z7)) + (-(left (ix z7))))) (upd (upd (upd gift (ix (3 * gifts)) x1) (ix ((3 * gifts) + 1)) z7) (ix ((3 * gifts) + 2)) (-(left (ix z7)))) isKept kept trace) U locs := ⟨hP, hD, hS⟩
        refine lv_aload_n hx hb dX9_layGifts_155 rfl (lv_at hl 2 rfl) ?_
        refine lv_iconst (v := 1) hx hb dX9_layGifts_156 (by decide) ?_
        obtain ⟨z14, hz14, H⟩ := bd_some H
        refine MI.callVw z14 [.int 1] [] C G (c_X9_firstWith l D cy mAd thrown status acts taped latest leng cursor token start till fault faultAt (gifts + 1) traced lane many item bay fresh thn was tape (upd (upd left (ix x1) ((left (ix x1)) - (-(left (ix z7))))) (ix z7) (((upd left (ix x1) ((left (ix x1)) - (-(left (ix z7))))) (ix z7)) + (-(left (ix z7))))) (upd (upd (upd gift (ix (3 * gifts)) x1) (ix ((3 * gifts) + 1)) z7) (ix ((3 * gifts) + 2)) (-(left (ix z7)))) isKept kept trace 1 z14 hz14) gX9_layGifts_X9_firstWith rfl rfl rfl (n := 1) (by decide +kernel) ⟨Nat.le_of_ble_eq_true rfl, Nat.le_of_ble_eq_true rfl⟩ (q0 := 0) (ci := 9) rfl rfl rfl rfl hl.1 rfl (Nat.le_of_ble_eq_true rfl) dX9_layGifts_157 ⟨Nat.zero_le _, Nat.zero_le _⟩ (fun U locs G => ?_)
        have G : Gd D A s (w_M cy mAd thrown status acts taped latest leng cursor token start till fault faultAt (gifts + 1) traced lane many item bay fresh thn was tape (upd (upd left (ix x1) ((left (ix x1)) - (-(left (ix z7))))) (ix z7) (((upd left (ix x1) ((left (ix x1)) - (-(left (ix z7))))) (ix z7)) + (-(left (ix z7))))) (upd (upd (upd gift (ix (3 * gifts)) x1) (ix ((3 * gifts) + 1)) z7) (ix ((3 * gifts) + 2)) (-(left (ix z7)))) isKept kept trace) U locs := G
        refine lv_istore_n (lv' := [(1, .int z14), (3, .int (-(left (ix z7)))), (2, .int z7), (0, .ref (mAd 0))]) hx hb dX9_layGifts_160 rfl hl (by decide) rfl (fun ls hl => ?_)
        refine lv_goto (tgt := 40) hx hb dX9_layGifts_161 (by decide) ?_
        exact ih (gifts + 1) (upd (upd left (ix x1) ((left (ix x1)) - (-(left (ix z7))))) (ix z7) (((upd left (ix x1) ((left (ix x1)) - (-(left (ix z7))))) (ix z7)) + (-(left (ix z7))))) (upd (upd (upd gift (ix (3 * gifts)) x1) (ix ((3 * gifts) + 1)) z7) (ix ((3 * gifts) + 2)) (-(left (ix z7)))) z14 z H kk _ _ _ G (lv_sub hl [3, 0] rfl)
      · have H := if_f H c10
        refine lv_aload_n hx hb dX9_layGifts_68 rfl (lv_at hl 1 rfl) ?_
        refine va_get (D := D) (ci := 9) (v := .ref (mAd 9)) (C := RX9) (T := TX9) (N := 27) hx hb hts hiX9 hown hK G.1 0 rfl rfl 20 (by decide) lk1 (fun _ h9 => h9) rfl dX9_layGifts_69 ?_
        refine lv_iload_n hx hb dX9_layGifts_72 rfl (lv_at hl 2 rfl) ?_
        refine g_iald (v := left (ix x1)) hx hb hK G.1 9 1 rfl rfl hb8 rfl dX9_layGifts_73 ?_
        refine lv_goto (tgt := 84) hx hb dX9_layGifts_74 (by decide) ?_
        refine lv_istore_n (lv' := [(3, .int (left (ix x1))), (2, .int z7), (0, .ref (mAd 0)), (1, .int x1)]) hx hb dX9_layGifts_84 rfl hl (by decide) rfl (fun ls hl => ?_)
        refine lv_aload_n hx hb dX9_layGifts_85 rfl (lv_at hl 2 rfl) ?_
        refine va_get (D := D) (ci := 9) (v := .ref (mAd 10)) (C := RX9) (T := TX9) (N := 27) hx hb hts hiX9 hown hK G.1 0 rfl rfl 21 (by decide) lk2 (fun _ h9 => h9) rfl dX9_layGifts_86 ?_
        refine lv_iconst (v := 3) hx hb dX9_layGifts_89 (by decide) ?_
        refine lv_aload_n hx hb dX9_layGifts_90 rfl (lv_at hl 2 rfl) ?_
        refine va_get (D := D) (ci := 9) (v := .int gifts) (C := RX9) (T := TX9) (N := 27) hx hb hts hiX9 hown hK G.1 0 rfl rfl 22 (by decide) lk3 (fun _ h9 => h9) rfl dX9_layGifts_91 ?_
        refine lv_imul hx hb dX9_layGifts_94 ?_
        refine lv_iload_n hx hb dX9_layGifts_95 rfl (lv_at hl 3 rfl) ?_
        obtain ⟨hb15, H⟩ := gd_some H
        refine va_iast hx hb hK G.1 G.2.1 G.2.2 10 1 rfl rfl (inb_in hb15) dX9_layGifts_96 (fun U locs hP hD hS => ?_)
        have G : Gd D A s (w_M cy mAd thrown status acts taped latest leng cursor token start till fault faultAt gifts traced lane many item bay fresh thn was tape left (upd gift (ix (3 * gifts)) x1) isKept kept trace) U locs := ⟨hP, hD, hS⟩
        refine lv_aload_n hx hb dX9_layGifts_97 rfl (lv_at hl 2 rfl) ?_
        refine va_get (D := D) (ci := 9) (v := .ref (mAd 10)) (C := RX9) (T := TX9) (N := 27) hx hb hts hiX9 hown hK G.1 0 rfl rfl 21 (by decide) lk2 (fun _ h9 => h9) rfl dX9_layGifts_98 ?_
        refine lv_iconst (v := 3) hx hb dX9_layGifts_101 (by decide) ?_
        refine lv_aload_n hx hb dX9_layGifts_102 rfl (lv_at hl 2 rfl) ?_
        refine va_get (D := D) (ci := 9) (v := .int gifts) (C := RX9) (T := TX9) (N := 27) hx hb hts hiX9 hown hK G.1 0 rfl rfl 22 (by decide) lk3 (fun _ h9 => h9) rfl dX9_layGifts_103 ?_
        refine lv_imul hx hb dX9_layGifts_106 ?_
        refine lv_iconst (v := 1) hx hb dX9_layGifts_107 (by decide) ?_
        refine lv_iadd hx hb dX9_layGifts_108 ?_
        refine lv_iload_n hx hb dX9_layGifts_109 rfl (lv_at hl 1 rfl) ?_
        obtain ⟨hb16, H⟩ := gd_some H
        refine va_iast hx hb hK G.1 G.2.1 G.2.2 10 1 rfl rfl (inb_in hb16) dX9_layGifts_110 (fun U locs hP hD hS => ?_)
        have G : Gd D A s (w_M cy mAd thrown status acts taped latest leng cursor token start till fault faultAt gifts traced lane many item bay fresh thn was tape left (upd (upd gift (ix (3 * gifts)) x1) (ix ((3 * gifts) + 1)) z7) isKept kept trace) U locs := ⟨hP, hD, hS⟩
        refine lv_aload_n hx hb dX9_layGifts_111 rfl (lv_at hl 2 rfl) ?_
        refine va_get (D := D) (ci := 9) (v := .ref (mAd 10)) (C := RX9) (T := TX9) (N := 27) hx hb hts hiX9 hown hK G.1 0 rfl rfl 21 (by decide) lk2 (fun _ h9 => h9) rfl dX9_layGifts_112 ?_
        refine lv_iconst (v := 3) hx hb dX9_layGifts_115 (by decide) ?_
        refine lv_aload_n hx hb dX9_layGifts_116 rfl (lv_at hl 2 rfl) ?_
        refine va_get (D := D) (ci := 9) (v := .int gifts) (C := RX9) (T := TX9) (N := 27) hx hb hts hiX9 hown hK G.1 0 rfl rfl 22 (by decide) lk3 (fun _ h9 => h9) rfl dX9_layGifts_117 ?_
        refine lv_imul hx hb dX9_layGifts_120 ?_
        refine lv_iconst (v := 2) hx hb dX9_layGifts_121 (by decide) ?_
        refine lv_iadd hx hb dX9_layGifts_122 ?_
        refine lv_iload_n hx hb dX9_layGifts_123 rfl (lv_at hl 0 rfl) ?_
        obtain ⟨hb17, H⟩ := gd_some H
        refine va_iast hx hb hK G.1 G.2.1 G.2.2 10 1 rfl rfl (inb_in hb17) dX9_layGifts_124 (fun U locs hP hD hS => ?_)
        have G : Gd D A s (w_M cy mAd thrown status acts taped latest leng cursor token start till fault faultAt gifts traced lane many item bay fresh thn was tape left (upd (upd (upd gift (ix (3 * gifts)) x1) (ix ((3 * gifts) + 1)) z7) (ix ((3 * gifts) + 2)) (left (ix x1))) isKept kept trace) U locs := ⟨hP, hD, hS⟩
        refine lv_aload_n hx hb dX9_layGifts_125 rfl (lv_at hl 2 rfl) ?_
        refine lv_dup hx hb dX9_layGifts_126 rfl ?_
        refine va_get (D := D) (ci := 9) (v := .int gifts) (C := RX9) (T := TX9) (N := 27) hx hb hts hiX9 hown hK G.1 0 rfl rfl 22 (by decide) lk3 (fun _ h9 => h9) rfl dX9_layGifts_127 ?_
        refine lv_iconst (v := 1) hx hb dX9_layGifts_130 (by decide) ?_
        refine lv_iadd hx hb dX9_layGifts_131 ?_
        refine va_put (D := D) (ci := 9) (v := .int (gifts + 1)) (ty := .int) (C := RX9) (T := TX9) (N := 27) hx hb hts hiX9 tyX9 tyX9_ok nmX9 hown hK G.1 G.2.1 G.2.2 0 rfl rfl 22 (by decide) lk3 (fun _ h9 => h9) rfl (tyX9_ok 22 (by decide)) rfl rfl (Nat.le_of_ble_eq_true rfl) dX9_layGifts_132 (fun U locs hP hD hS => ?_)
        have G : Gd D A s (w_M cy mAd thrown status acts taped latest leng cursor token start till fault faultAt (gifts + 1) traced lane many item bay fresh thn was tape left (upd (upd (upd gift (ix (3 * gifts)) x1) (ix ((3 * gifts) + 1)) z7) (ix ((3 * gifts) + 2)) (left (ix x1))) isKept kept trace) U locs := ⟨hP, hD, hS⟩
        refine lv_aload_n hx hb dX9_layGifts_135 rfl (lv_at hl 2 rfl) ?_
        refine va_get (D := D) (ci := 9) (v := .ref (mAd 9)) (C := RX9) (T := TX9) (N := 27) hx hb hts hiX9 hown hK G.1 0 rfl rfl 20 (by decide) lk1 (fun _ h9 => h9) rfl dX9_layGifts_136 ?_
        refine lv_iload_n hx hb dX9_layGifts_139 rfl (lv_at hl 3 rfl) ?_
        refine lv_dup2_11 hx hb dX9_layGifts_140 rfl rfl ?_
        refine g_iald (v := left (ix x1)) hx hb hK G.1 9 1 rfl rfl hb8 rfl dX9_layGifts_141 ?_
        refine lv_iload_n hx hb dX9_layGifts_142 rfl (lv_at hl 0 rfl) ?_
        refine lv_isub hx hb dX9_layGifts_143 ?_
        refine va_iast hx hb hK G.1 G.2.1 G.2.2 9 1 rfl rfl (inb_in hb8) dX9_layGifts_144 (fun U locs hP hD hS => ?_)
        have G : Gd D A s (w_M cy mAd thrown status acts taped latest leng cursor token start till fault faultAt (gifts + 1) traced lane many item bay fresh thn was tape (upd left (ix x1) ((left (ix x1)) - (left (ix x1)))) (upd (upd (upd gift (ix (3 * gifts)) x1) (ix ((3 * gifts) + 1)) z7) (ix ((3 * gifts) + 2)) (left (ix x1))) isKept kept trace) U locs := ⟨hP, hD, hS⟩
        refine lv_aload_n hx hb dX9_layGifts_145 rfl (lv_at hl 2 rfl) ?_
        refine va_get (D := D) (ci := 9) (v := .ref (mAd 9)) (C := RX9) (T := TX9) (N := 27) hx hb hts hiX9 hown hK G.1 0 rfl rfl 20 (by decide) lk1 (fun _ h9 => h9) rfl dX9_layGifts_146 ?_
        refine lv_iload_n hx hb dX9_layGifts_149 rfl (lv_at hl 1 rfl) ?_
        refine lv_dup2_11 hx hb dX9_layGifts_150 rfl rfl ?_
        refine g_iald (v := (upd left (ix x1) ((left (ix x1)) - (left (ix x1)))) (ix z7)) hx hb hK G.1 9 1 rfl rfl hb9 rfl dX9_layGifts_151 ?_
        refine lv_iload_n hx hb dX9_layGifts_152 rfl (lv_at hl 0 rfl) ?_
        refine lv_iadd hx hb dX9_layGifts_153 ?_
        refine va_iast hx hb hK G.1 G.2.1 G.2.2 9 1 rfl rfl (inb_in hb9) dX9_layGifts_154 (fun U locs hP hD hS => ?_)
        have G : Gd D A s (w_M cy mAd thrown status acts taped latest leng cursor token start till fault faultAt (gifts + 1) traced lane many item bay fresh thn was tape (upd (upd left (ix x1) ((left (ix x1)) - (left (ix x1)))) (ix z7) (((upd left (ix x1) ((left (ix x1)) - (left (ix x1)))) (ix z7)) + (left (ix x1)))) (upd (upd (upd gift (ix (3 * gifts)) x1) (ix ((3 * gifts) + 1)) z7) (ix ((3 * gifts) + 2)) (left (ix x1))) isKept kept trace) U locs := ⟨hP, hD, hS⟩
        refine lv_aload_n hx hb dX9_layGifts_155 rfl (lv_at hl 2 rfl) ?_
        refine lv_iconst (v := 1) hx hb dX9_layGifts_156 (by decide) ?_
        obtain ⟨z18, hz18, H⟩ := bd_some H
        refine MI.callVw z18 [.int 1] [] C G (c_X9_firstWith l D cy mAd thrown status acts taped latest leng cursor token start till fault faultAt (gifts + 1) traced lane many item bay fresh thn was tape (upd (upd left (ix x1) ((left (ix x1)) - (left (ix x1)))) (ix z7) (((upd left (ix x1) ((left (ix x1)) - (left (ix x1)))) (ix z7)) + (left (ix x1)))) (upd (upd (upd gift (ix (3 * gifts)) x1) (ix ((3 * gifts) + 1)) z7) (ix ((3 * gifts) + 2)) (left (ix x1))) isKept kept trace 1 z18 hz18) gX9_layGifts_X9_firstWith rfl rfl rfl (n := 1) (by decide +kernel) ⟨Nat.le_of_ble_eq_true rfl, Nat.le_of_ble_eq_true rfl⟩ (q0 := 0) (ci := 9) rfl rfl rfl rfl hl.1 rfl (Nat.le_of_ble_eq_true rfl) dX9_layGifts_157 ⟨Nat.zero_le _, Nat.zero_le _⟩ (fun U locs G => ?_)
        have G : Gd D A s (w_M cy mAd thrown status acts taped latest leng cursor token start till fault faultAt (gifts + 1) traced lane many item bay fresh thn was tape (upd (upd left (ix x1) ((left (ix x1)) - (left (ix x1)))) (ix z7) (((upd left (ix x1) ((left (ix x1)) - (left (ix x1)))) (ix z7)) + (left (ix x1)))) (upd (upd (upd gift (ix (3 * gifts)) x1) (ix ((3 * gifts) + 1)) z7) (ix ((3 * gifts) + 2)) (left (ix x1))) isKept kept trace) U locs := G
        refine lv_istore_n (lv' := [(1, .int z18), (3, .int (left (ix x1))), (2, .int z7), (0, .ref (mAd 0))]) hx hb dX9_layGifts_160 rfl hl (by decide) rfl (fun ls hl => ?_)
        refine lv_goto (tgt := 40) hx hb dX9_layGifts_161 (by decide) ?_
        exact ih (gifts + 1) (upd (upd left (ix x1) ((left (ix x1)) - (left (ix x1)))) (ix z7) (((upd left (ix x1) ((left (ix x1)) - (left (ix x1)))) (ix z7)) + (left (ix x1)))) (upd (upd (upd gift (ix (3 * gifts)) x1) (ix ((3 * gifts) + 1)) z7) (ix ((3 * gifts) + 2)) (left (ix x1))) z18 z H kk _ _ _ G (lv_sub hl [3, 0] rfl)
def f_X9_layGifts (gifts : Int32) (bay left gift : Nat → Int32) : Option (Int32 × (Nat → Int32) × (Nat → Int32)) := bd (f_X9_layGifts_L7 bay 2000 left 0) (fun z4 => bd (f_X9_firstWith bay z4 1) (fun z5 => bd (f_X9_layGifts_L40 bay 2000 0 z4 gift z5) (fun z19 => some (z19.1, z19.2.1, z19.2.2))))
set_option maxHeartbeats 4000000 in
set_option maxRecDepth 100000 in
theorem c_X9_layGifts (l : Launch) (D : va_G) (cy : Nat → ClassId) (mAd : Nat → Nat) (thrown status acts taped latest leng cursor token start till fault faultAt gifts traced : Int32) (lane many item bay fresh thn was tape left gift isKept kept trace : Nat → Int32) (z : (Int32 × (Nat → Int32) × (Nat → Int32))) (hz : f_X9_layGifts gifts bay left gift = some z) : MV l yX9_layGifts wsX9_layGifts ({ frames := 2, cells := 0, slots := 0, locals := 44 } : Room) D cy [.ref (mAd 0)] (w_M cy mAd thrown status acts taped latest leng cursor token start till fault faultAt gifts traced lane many item bay fresh thn was tape left gift isKept kept trace) (w_M cy mAd thrown status acts taped latest leng cursor token start till fault faultAt z.1 traced lane many item bay fresh thn was tape z.2.1 z.2.2 isKept kept trace) := by
  refine met_start (Qf := fun A => MQv D cy (w_M cy mAd thrown status acts taped latest leng cursor token start till fault faultAt z.1 traced lane many item bay fresh thn was tape z.2.1 z.2.2 isKept kept trace) A) (cc := cX9_layGifts) (nL := 4) (ret := none) RX9 rfl (by decide) rfl (Nat.le_of_ble_eq_true rfl) ?_
  intro p e s m below meth c A ls C G hl
  have hl : lv_has ls 4 [(0, .ref (mAd 0))] := hl
  have H := hz
  unfold f_X9_layGifts at H
  obtain ⟨hx, hb, hr, hml, hown, hts, hlk, hK, hA, hE⟩ := id C
  have lk0 := hts (Cond.fieldLink RX9 230 "TideDebtsModel" "gifts" "I") (List.mem_of_getElem? (i := 1) rfl)
  have hiX9 : ∀ w ∈ u_ws RX9 TX9 27, w ∈ wsX9_layGifts := fun _ h => List.mem_cons_of_mem _ (List.mem_append_right _ h)
  refine lv_aload_n hx hb dX9_layGifts_0 rfl (lv_at hl 0 rfl) ?_
  refine lv_iconst (v := 0) hx hb dX9_layGifts_1 (by decide) ?_
  refine va_put (D := D) (ci := 9) (v := .int 0) (ty := .int) (C := RX9) (T := TX9) (N := 27) hx hb hts hiX9 tyX9 tyX9_ok nmX9 hown hK G.1 G.2.1 G.2.2 0 rfl rfl 22 (by decide) lk0 (fun _ h9 => h9) rfl (tyX9_ok 22 (by decide)) rfl rfl (Nat.le_of_ble_eq_true rfl) dX9_layGifts_2 (fun U locs hP hD hS => ?_)
  have G : Gd D A s (w_M cy mAd thrown status acts taped latest leng cursor token start till fault faultAt 0 traced lane many item bay fresh thn was tape left gift isKept kept trace) U locs := ⟨hP, hD, hS⟩
  refine lv_iconst (v := 0) hx hb dX9_layGifts_5 (by decide) ?_
  refine lv_istore_n (lv' := [(1, .int 0), (0, .ref (mAd 0))]) hx hb dX9_layGifts_6 rfl hl (by decide) rfl (fun ls hl => ?_)
  obtain ⟨z4, hz4, H⟩ := bd_some H
  refine wl_X9_layGifts_7 C mAd thrown status acts taped latest leng cursor token start till fault faultAt 0 traced lane many item bay fresh thn was tape gift isKept kept trace _ left 0 z4 hz4 (fun U locs ls G hl => ?_) _ _ _ G (lv_sub hl [1, 0] rfl)
  have G : Gd D A s (w_M cy mAd thrown status acts taped latest leng cursor token start till fault faultAt 0 traced lane many item bay fresh thn was tape z4 gift isKept kept trace) U locs := G
  have hl : lv_has ls 4 [(0, .ref (mAd 0))] := hl
  refine lv_aload_n hx hb dX9_layGifts_34 rfl (lv_at hl 0 rfl) ?_
  refine lv_iconst (v := 1) hx hb dX9_layGifts_35 (by decide) ?_
  obtain ⟨z5, hz5, H⟩ := bd_some H
  refine MI.callVw z5 [.int 1] [] C G (c_X9_firstWith l D cy mAd thrown status acts taped latest leng cursor token start till fault faultAt 0 traced lane many item bay fresh thn was tape z4 gift isKept kept trace 1 z5 hz5) gX9_layGifts_X9_firstWith rfl rfl rfl (n := 1) (by decide +kernel) ⟨Nat.le_of_ble_eq_true rfl, Nat.le_of_ble_eq_true rfl⟩ (q0 := 0) (ci := 9) rfl rfl rfl rfl hl.1 rfl (Nat.le_of_ble_eq_true rfl) dX9_layGifts_36 ⟨Nat.zero_le _, Nat.zero_le _⟩ (fun U locs G => ?_)
  have G : Gd D A s (w_M cy mAd thrown status acts taped latest leng cursor token start till fault faultAt 0 traced lane many item bay fresh thn was tape z4 gift isKept kept trace) U locs := G
  refine lv_istore_n (lv' := [(1, .int z5), (0, .ref (mAd 0))]) hx hb dX9_layGifts_39 rfl hl (by decide) rfl (fun ls hl => ?_)
  obtain ⟨z19, hz19, H⟩ := bd_some H
  refine wl_X9_layGifts_40 C mAd thrown status acts taped latest leng cursor token start till fault faultAt traced lane many item bay fresh thn was tape isKept kept trace _ 0 z4 gift z5 z19 hz19 (fun U locs ls G hl => ?_) _ _ _ G (lv_sub hl [1, 0] rfl)
  have G : Gd D A s (w_M cy mAd thrown status acts taped latest leng cursor token start till fault faultAt z19.1 traced lane many item bay fresh thn was tape z19.2.1 z19.2.2 isKept kept trace) U locs := G
  have hl : lv_has ls 4 [] := hl
  obtain rfl := Option.some.inj H
  exact ret_v C G dX9_layGifts_164
def f_X9_settle_L34 (gifts : Int32) (gift : Nat → Int32) : Nat → (Nat → Int32) → Int32 → Int32 → Option ((Nat → Int32) × Int32)
  | 0, _, _, _ => none
  | n + 1, bay, x1, x2 => if gifts ≤ x2 then (some (bay, x1)) else (gd (inb (3 * x2) 36) (bd (f_X9_at (gift (ix (3 * x2))) 1) (fun z9 => gd (inb z9 75) (gd (inb ((3 * x2) + 2) 36) (gd (inb ((3 * x2) + 1) 36) (bd (f_X9_at (gift (ix ((3 * x2) + 1))) 1) (fun z13 => gd (inb z13 75) (f_X9_settle_L34 gifts gift n (upd (upd bay (ix z9) ((bay (ix z9)) - (gift (ix ((3 * x2) + 2))))) (ix z13) (((upd bay (ix z9) ((bay (ix z9)) - (gift (ix ((3 * x2) + 2))))) (ix z13)) + (gift (ix ((3 * x2) + 2))))) (x1 + (gift (ix ((3 * x2) + 2)))) (x2 + 1)))))))))
theorem f_X9_settle_L34_z (gifts : Int32) (gift : Nat → Int32) (bay : Nat → Int32) (x1 x2 : Int32) : f_X9_settle_L34 gifts gift 0 bay x1 x2 = none := rfl
theorem f_X9_settle_L34_s (gifts : Int32) (gift : Nat → Int32) (n : Nat) (bay : Nat → Int32) (x1 x2 : Int32) : f_X9_settle_L34 gifts gift (n + 1) bay x1 x2 = if gifts ≤ x2 then (some (bay, x1)) else (gd (inb (3 * x2) 36) (bd (f_X9_at (gift (ix (3 * x2))) 1) (fun z9 => gd (inb z9 75) (gd (inb ((3 * x2) + 2) 36) (gd (inb ((3 * x2) + 1) 36) (bd (f_X9_at (gift (ix ((3 * x2) + 1))) 1) (fun z13 => gd (inb z13 75) (f_X9_settle_L34 gifts gift n (upd (upd bay (ix z9) ((bay (ix z9)) - (gift (ix ((3 * x2) + 2))))) (ix z13) (((upd bay (ix z9) ((bay (ix z9)) - (gift (ix ((3 * x2) + 2))))) (ix z13)) + (gift (ix ((3 * x2) + 2))))) (x1 + (gift (ix ((3 * x2) + 2)))) (x2 + 1))))))))) := rfl
set_option maxHeartbeats 4000000 in
set_option maxRecDepth 100000 in
theorem wl_X9_settle_34 {p : Program} {l : Launch} {e : Env} {s : State} {m : MethodId} {below : List Frame} {meth : Method} {c : Code} {D : va_G} {cy : Nat → ClassId} {A : Nat → Prop} {args : Array Value} {Q : State → Prop} (C : Cx D cy A p s m meth c cX9_settle 3 (some .int) wsX9_settle RX9 args) (mAd : Nat → Nat) (thrown status acts taped latest leng cursor token start till fault faultAt gifts traced : Int32) (lane many item fresh thn was tape left gift isKept kept trace : Nat → Int32) :
    ∀ (n : Nat) (bay : Nat → Int32) (x1 x2 : Int32) (z : ((Nat → Int32) × Int32)), f_X9_settle_L34 gifts gift n bay x1 x2 = some z → (∀ (U : Heap) (locs : List Loc) (ls : Array Slot), Gd D A s (w_M cy mAd thrown status acts taped latest leng cursor token start till fault faultAt gifts traced lane many item z.1 fresh thn was tape left gift isKept kept trace) U locs → lv_has ls 3 [(0, .ref (mAd 0)), (1, .int z.2)] → W p l e ({ frames := 3, cells := 0, slots := 0, locals := 67 } : Room) s m args below meth c U locs 0 0 Q (F0 m 123 ls [])) → ∀ (U : Heap) (locs : List Loc) (ls : Array Slot), Gd D A s (w_M cy mAd thrown status acts taped latest leng cursor token start till fault faultAt gifts traced lane many item bay fresh thn was tape left gift isKept kept trace) U locs → lv_has ls 3 [(0, .ref (mAd 0)), (1, .int x1), (2, .int x2)] → W p l e ({ frames := 3, cells := 0, slots := 0, locals := 67 } : Room) s m args below meth c U locs 0 0 Q (F0 m 34 ls []) := by
  obtain ⟨hx, hb, hr, hml, hown, hts, hlk, hK, hA, hE⟩ := id C
  have lk0 := hts (Cond.fieldLink RX9 230 "TideDebtsModel" "gifts" "I") (List.mem_of_getElem? (i := 3) rfl)
  have lk1 := hts (Cond.fieldLink RX9 19 "TideDebtsModel" "bay" "[I") (List.mem_of_getElem? (i := 4) rfl)
  have lk2 := hts (Cond.fieldLink RX9 37 "TideDebtsModel" "gift" "[I") (List.mem_of_getElem? (i := 5) rfl)
  have hiX9 : ∀ w ∈ u_ws RX9 TX9 27, w ∈ wsX9_settle := fun _ h => List.mem_cons_of_mem _ (List.mem_append_right _ h)
  intro n
  induction n with
  | zero =>
    intro bay x1 x2 z H
    rw [f_X9_settle_L34_z] at H
    cases H
  | succ n ih =>
    intro bay x1 x2 z H kk U locs ls G hl
    rw [f_X9_settle_L34_s] at H
    refine lv_iload_n hx hb dX9_settle_34 rfl (lv_at hl 2 rfl) ?_
    refine lv_aload_n hx hb dX9_settle_35 rfl (lv_at hl 0 rfl) ?_
    refine va_get (D := D) (ci := 9) (v := .int gifts) (C := RX9) (T := TX9) (N := 27) hx hb hts hiX9 hown hK G.1 0 rfl rfl 22 (by decide) lk0 (fun _ h9 => h9) rfl dX9_settle_36 ?_
    refine lv_icmp_ge (tgt := 123) hx hb dX9_settle_39 (by decide) (fun c7 => ?_) (fun c7 => ?_)
    · have H := if_t H c7
      obtain rfl := Option.some.inj H
      exact kk _ _ _ G (lv_sub hl [0, 1] rfl)
    · have H := if_f H c7
      refine lv_aload_n hx hb dX9_settle_42 rfl (lv_at hl 0 rfl) ?_
      refine va_get (D := D) (ci := 9) (v := .ref (mAd 4)) (C := RX9) (T := TX9) (N := 27) hx hb hts hiX9 hown hK G.1 0 rfl rfl 5 (by decide) lk1 (fun _ h9 => h9) rfl dX9_settle_43 ?_
      refine lv_aload_n hx hb dX9_settle_46 rfl (lv_at hl 0 rfl) ?_
      refine va_get (D := D) (ci := 9) (v := .ref (mAd 10)) (C := RX9) (T := TX9) (N := 27) hx hb hts hiX9 hown hK G.1 0 rfl rfl 21 (by decide) lk2 (fun _ h9 => h9) rfl dX9_settle_47 ?_
      refine lv_iconst (v := 3) hx hb dX9_settle_50 (by decide) ?_
      refine lv_iload_n hx hb dX9_settle_51 rfl (lv_at hl 2 rfl) ?_
      refine lv_imul hx hb dX9_settle_52 ?_
      obtain ⟨hb8, H⟩ := gd_some H
      refine g_iald (v := gift (ix (3 * x2))) hx hb hK G.1 10 1 rfl rfl hb8 rfl dX9_settle_53 ?_
      refine lv_iconst (v := 1) hx hb dX9_settle_54 (by decide) ?_
      obtain ⟨z9, hz9, H⟩ := bd_some H
      refine MI.callS z9 [.int (gift (ix (3 * x2))), .int 1] [.ref (mAd 4)] [] C G (c_X9_at l D cy (gift (ix (3 * x2))) 1 z9 hz9) gX9_settle_X9_at rfl rfl rfl (n := 2) (by decide +kernel) ⟨Nat.le_of_ble_eq_true rfl, Nat.le_of_ble_eq_true rfl⟩ rfl rfl rfl rfl hl.1 rfl (Nat.le_of_ble_eq_true rfl) dX9_settle_55 ⟨Nat.zero_le _, Nat.zero_le _⟩ (fun U locs G => ?_)
      have G : Gd D A s (w_M cy mAd thrown status acts taped latest leng cursor token start till fault faultAt gifts traced lane many item bay fresh thn was tape left gift isKept kept trace) U locs := G
      refine lv_dup2_11 hx hb dX9_settle_58 rfl rfl ?_
      obtain ⟨hb10, H⟩ := gd_some H
      refine g_iald (v := bay (ix z9)) hx hb hK G.1 4 1 rfl rfl hb10 rfl dX9_settle_59 ?_
      refine lv_aload_n hx hb dX9_settle_60 rfl (lv_at hl 0 rfl) ?_
      refine va_get (D := D) (ci := 9) (v := .ref (mAd 10)) (C := RX9) (T := TX9) (N := 27) hx hb hts hiX9 hown hK G.1 0 rfl rfl 21 (by decide) lk2 (fun _ h9 => h9) rfl dX9_settle_61 ?_
      refine lv_iconst (v := 3) hx hb dX9_settle_64 (by decide) ?_
      refine lv_iload_n hx hb dX9_settle_65 rfl (lv_at hl 2 rfl) ?_
      refine lv_imul hx hb dX9_settle_66 ?_
      refine lv_iconst (v := 2) hx hb dX9_settle_67 (by decide) ?_
      refine lv_iadd hx hb dX9_settle_68 ?_
      obtain ⟨hb11, H⟩ := gd_some H
      refine g_iald (v := gift (ix ((3 * x2) + 2))) hx hb hK G.1 10 1 rfl rfl hb11 rfl dX9_settle_69 ?_
      refine lv_isub hx hb dX9_settle_70 ?_
      refine va_iast hx hb hK G.1 G.2.1 G.2.2 4 1 rfl rfl (inb_in hb10) dX9_settle_71 (fun U locs hP hD hS => ?_)
      have G : Gd D A s (w_M cy mAd thrown status acts taped latest leng cursor token start till fault faultAt gifts traced lane many item (upd bay (ix z9) ((bay (ix z9)) - (gift (ix ((3 * x2) + 2))))) fresh thn was tape left gift isKept kept trace) U locs := ⟨hP, hD, hS⟩
      refine lv_aload_n hx hb dX9_settle_72 rfl (lv_at hl 0 rfl) ?_
      refine va_get (D := D) (ci := 9) (v := .ref (mAd 4)) (C := RX9) (T := TX9) (N := 27) hx hb hts hiX9 hown hK G.1 0 rfl rfl 5 (by decide) lk1 (fun _ h9 => h9) rfl dX9_settle_73 ?_
      refine lv_aload_n hx hb dX9_settle_76 rfl (lv_at hl 0 rfl) ?_
      refine va_get (D := D) (ci := 9) (v := .ref (mAd 10)) (C := RX9) (T := TX9) (N := 27) hx hb hts hiX9 hown hK G.1 0 rfl rfl 21 (by decide) lk2 (fun _ h9 => h9) rfl dX9_settle_77 ?_
      refine lv_iconst (v := 3) hx hb dX9_settle_80 (by decide) ?_
      refine lv_iload_n hx hb dX9_settle_81 rfl (lv_at hl 2 rfl) ?_
      refine lv_imul hx hb dX9_settle_82 ?_
      refine lv_iconst (v := 1) hx hb dX9_settle_83 (by decide) ?_
      refine lv_iadd hx hb dX9_settle_84 ?_
      obtain ⟨hb12, H⟩ := gd_some H
      refine g_iald (v := gift (ix ((3 * x2) + 1))) hx hb hK G.1 10 1 rfl rfl hb12 rfl dX9_settle_85 ?_
      refine lv_iconst (v := 1) hx hb dX9_settle_86 (by decide) ?_
      obtain ⟨z13, hz13, H⟩ := bd_some H
      refine MI.callS z13 [.int (gift (ix ((3 * x2) + 1))), .int 1] [.ref (mAd 4)] [] C G (c_X9_at l D cy (gift (ix ((3 * x2) + 1))) 1 z13 hz13) gX9_settle_X9_at rfl rfl rfl (n := 2) (by decide +kernel) ⟨Nat.le_of_ble_eq_true rfl, Nat.le_of_ble_eq_true rfl⟩ rfl rfl rfl rfl hl.1 rfl (Nat.le_of_ble_eq_true rfl) dX9_settle_87 ⟨Nat.zero_le _, Nat.zero_le _⟩ (fun U locs G => ?_)
      have G : Gd D A s (w_M cy mAd thrown status acts taped latest leng cursor token start till fault faultAt gifts traced lane many item (upd bay (ix z9) ((bay (ix z9)) - (gift (ix ((3 * x2) + 2))))) fresh thn was tape left gift isKept kept trace) U locs := G
      refine lv_dup2_11 hx hb dX9_settle_90 rfl rfl ?_
      obtain ⟨hb14, H⟩ := gd_some H
      refine g_iald (v := (upd bay (ix z9) ((bay (ix z9)) - (gift (ix ((3 * x2) + 2))))) (ix z13)) hx hb hK G.1 4 1 rfl rfl hb14 rfl dX9_settle_91 ?_
      refine lv_aload_n hx hb dX9_settle_92 rfl (lv_at hl 0 rfl) ?_
      refine va_get (D := D) (ci := 9) (v := .ref (mAd 10)) (C := RX9) (T := TX9) (N := 27) hx hb hts hiX9 hown hK G.1 0 rfl rfl 21 (by decide) lk2 (fun _ h9 => h9) rfl dX9_settle_93 ?_
      refine lv_iconst (v := 3) hx hb dX9_settle_96 (by decide) ?_
      refine lv_iload_n hx hb dX9_settle_97 rfl (lv_at hl 2 rfl) ?_
      refine lv_imul hx hb dX9_settle_98 ?_
      refine lv_iconst (v := 2) hx hb dX9_settle_99 (by decide) ?_
      refine lv_iadd hx hb dX9_settle_100 ?_
      refine g_iald (v := gift (ix ((3 * x2) + 2))) hx hb hK G.1 10 1 rfl rfl hb11 rfl dX9_settle_101 ?_
      refine lv_iadd hx hb dX9_settle_102 ?_
      refine va_iast hx hb hK G.1 G.2.1 G.2.2 4 1 rfl rfl (inb_in hb14) dX9_settle_103 (fun U locs hP hD hS => ?_)
      have G : Gd D A s (w_M cy mAd thrown status acts taped latest leng cursor token start till fault faultAt gifts traced lane many item (upd (upd bay (ix z9) ((bay (ix z9)) - (gift (ix ((3 * x2) + 2))))) (ix z13) (((upd bay (ix z9) ((bay (ix z9)) - (gift (ix ((3 * x2) + 2))))) (ix z13)) + (gift (ix ((3 * x2) + 2))))) fresh thn was tape left gift isKept kept trace) U locs := ⟨hP, hD, hS⟩
      refine lv_iload_n hx hb dX9_settle_104 rfl (lv_at hl 1 rfl) ?_
      refine lv_aload_n hx hb dX9_settle_105 rfl (lv_at hl 0 rfl) ?_
      refine va_get (D := D) (ci := 9) (v := .ref (mAd 10)) (C := RX9) (T := TX9) (N := 27) hx hb hts hiX9 hown hK G.1 0 rfl rfl 21 (by decide) lk2 (fun _ h9 => h9) rfl dX9_settle_106 ?_
      refine lv_iconst (v := 3) hx hb dX9_settle_109 (by decide) ?_
      refine lv_iload_n hx hb dX9_settle_110 rfl (lv_at hl 2 rfl) ?_
      refine lv_imul hx hb dX9_settle_111 ?_
      refine lv_iconst (v := 2) hx hb dX9_settle_112 (by decide) ?_
      refine lv_iadd hx hb dX9_settle_113 ?_
      refine g_iald (v := gift (ix ((3 * x2) + 2))) hx hb hK G.1 10 1 rfl rfl hb11 rfl dX9_settle_114 ?_
      refine lv_iadd hx hb dX9_settle_115 ?_
      refine lv_istore_n (lv' := [(1, .int (x1 + (gift (ix ((3 * x2) + 2))))), (0, .ref (mAd 0)), (2, .int x2)]) hx hb dX9_settle_116 rfl hl (by decide) rfl (fun ls hl => ?_)
      refine lv_iinc (v := x2 + 1) (lv' := [(2, .int (x2 + 1)), (1, .int (x1 + (gift (ix ((3 * x2) + 2))))), (0, .ref (mAd 0))]) hx hb dX9_settle_117 hl (k := 2) rfl rfl (by decide) rfl (fun ls hl => ?_)
      refine lv_goto (tgt := 34) hx hb dX9_settle_120 (by decide) ?_
      exact ih (upd (upd bay (ix z9) ((bay (ix z9)) - (gift (ix ((3 * x2) + 2))))) (ix z13) (((upd bay (ix z9) ((bay (ix z9)) - (gift (ix ((3 * x2) + 2))))) (ix z13)) + (gift (ix ((3 * x2) + 2))))) (x1 + (gift (ix ((3 * x2) + 2)))) (x2 + 1) z H kk _ _ _ G (lv_sub hl [2, 1, 0] rfl)
def f_X9_settle_L126  : Nat → (Nat → Int32) → Int32 → Option (Nat → Int32)
  | 0, _, _ => none
  | n + 1, bay, x2 => if 75 ≤ x2 then (some bay) else (gd (inb x2 75) (f_X9_settle_L126 n (upd bay (ix x2) 0) (x2 + 1)))
theorem f_X9_settle_L126_z  (bay : Nat → Int32) (x2 : Int32) : f_X9_settle_L126 0 bay x2 = none := rfl
theorem f_X9_settle_L126_s  (n : Nat) (bay : Nat → Int32) (x2 : Int32) : f_X9_settle_L126 (n + 1) bay x2 = if 75 ≤ x2 then (some bay) else (gd (inb x2 75) (f_X9_settle_L126 n (upd bay (ix x2) 0) (x2 + 1))) := rfl
set_option maxHeartbeats 4000000 in
set_option maxRecDepth 100000 in
theorem wl_X9_settle_126 {p : Program} {l : Launch} {e : Env} {s : State} {m : MethodId} {below : List Frame} {meth : Method} {c : Code} {D : va_G} {cy : Nat → ClassId} {A : Nat → Prop} {args : Array Value} {Q : State → Prop} (C : Cx D cy A p s m meth c cX9_settle 3 (some .int) wsX9_settle RX9 args) (mAd : Nat → Nat) (thrown status acts taped latest leng cursor token start till fault faultAt gifts traced : Int32) (lane many item fresh thn was tape left gift isKept kept trace : Nat → Int32) (x1 : Int32) :
    ∀ (n : Nat) (bay : Nat → Int32) (x2 : Int32) (z : (Nat → Int32)), f_X9_settle_L126 n bay x2 = some z → (∀ (U : Heap) (locs : List Loc) (ls : Array Slot), Gd D A s (w_M cy mAd thrown status acts taped latest leng cursor token start till fault faultAt gifts traced lane many item z fresh thn was tape left gift isKept kept trace) U locs → lv_has ls 3 [(1, .int x1)] → W p l e ({ frames := 3, cells := 0, slots := 0, locals := 67 } : Room) s m args below meth c U locs 0 0 Q (F0 m 145 ls [])) → ∀ (U : Heap) (locs : List Loc) (ls : Array Slot), Gd D A s (w_M cy mAd thrown status acts taped latest leng cursor token start till fault faultAt gifts traced lane many item bay fresh thn was tape left gift isKept kept trace) U locs → lv_has ls 3 [(0, .ref (mAd 0)), (1, .int x1), (2, .int x2)] → W p l e ({ frames := 3, cells := 0, slots := 0, locals := 67 } : Room) s m args below meth c U locs 0 0 Q (F0 m 126 ls []) := by
  obtain ⟨hx, hb, hr, hml, hown, hts, hlk, hK, hA, hE⟩ := id C
  have lk0 := hts (Cond.fieldLink RX9 19 "TideDebtsModel" "bay" "[I") (List.mem_of_getElem? (i := 4) rfl)
  have hiX9 : ∀ w ∈ u_ws RX9 TX9 27, w ∈ wsX9_settle := fun _ h => List.mem_cons_of_mem _ (List.mem_append_right _ h)
  intro n
  induction n with
  | zero =>
    intro bay x2 z H
    rw [f_X9_settle_L126_z] at H
    cases H
  | succ n ih =>
    intro bay x2 z H kk U locs ls G hl
    rw [f_X9_settle_L126_s] at H
    refine lv_iload_n hx hb dX9_settle_126 rfl (lv_at hl 2 rfl) ?_
    refine lv_bipush (v := 75) hx hb dX9_settle_127 (by decide) ?_
    refine lv_icmp_ge (tgt := 145) hx hb dX9_settle_129 (by decide) (fun c16 => ?_) (fun c16 => ?_)
    · have H := if_t H c16
      obtain rfl := Option.some.inj H
      exact kk _ _ _ G (lv_sub hl [1] rfl)
    · have H := if_f H c16
      refine lv_aload_n hx hb dX9_settle_132 rfl (lv_at hl 0 rfl) ?_
      refine va_get (D := D) (ci := 9) (v := .ref (mAd 4)) (C := RX9) (T := TX9) (N := 27) hx hb hts hiX9 hown hK G.1 0 rfl rfl 5 (by decide) lk0 (fun _ h9 => h9) rfl dX9_settle_133 ?_
      refine lv_iload_n hx hb dX9_settle_136 rfl (lv_at hl 2 rfl) ?_
      refine lv_iconst (v := 0) hx hb dX9_settle_137 (by decide) ?_
      obtain ⟨hb17, H⟩ := gd_some H
      refine va_iast hx hb hK G.1 G.2.1 G.2.2 4 1 rfl rfl (inb_in hb17) dX9_settle_138 (fun U locs hP hD hS => ?_)
      have G : Gd D A s (w_M cy mAd thrown status acts taped latest leng cursor token start till fault faultAt gifts traced lane many item (upd bay (ix x2) 0) fresh thn was tape left gift isKept kept trace) U locs := ⟨hP, hD, hS⟩
      refine lv_iinc (v := x2 + 1) (lv' := [(2, .int (x2 + 1)), (0, .ref (mAd 0)), (1, .int x1)]) hx hb dX9_settle_139 hl (k := 2) rfl rfl (by decide) rfl (fun ls hl => ?_)
      refine lv_goto (tgt := 126) hx hb dX9_settle_142 (by decide) ?_
      exact ih (upd bay (ix x2) 0) (x2 + 1) z H kk _ _ _ G (lv_sub hl [1, 2, 0] rfl)
def f_X9_settle (thrown acts gifts : Int32) (bay was left gift : Nat → Int32) : Option (Int32 × Int32 × Int32 × Int32 × (Nat → Int32) × (Nat → Int32) × (Nat → Int32) × (Nat → Int32)) := bd (f_X9_isThere bay) (fun z1 => if z1 = 0 then (some ((-1000002), 0, acts, gifts, bay, was, left, gift)) else (bd (f_X9_canNet bay) (fun z3 => if z3 = 0 then (some ((-1000002), 0, acts, gifts, bay, was, left, gift)) else (bd (f_X9_keep acts bay was) (fun z5 => bd (f_X9_layGifts gifts bay left gift) (fun z6 => bd (f_X9_settle_L34 z6.1 z6.2.2 2000 bay 0 0) (fun z15 => bd (f_X9_settle_L126 2000 z15.1 39) (fun z18 => some (z15.2, 0, z5.1, z6.1, z18, z5.2, z6.2.1, z6.2.2)))))))))
set_option maxHeartbeats 4000000 in
set_option maxRecDepth 100000 in
theorem c_X9_settle (l : Launch) (D : va_G) (cy : Nat → ClassId) (mAd : Nat → Nat) (thrown status acts taped latest leng cursor token start till fault faultAt gifts traced : Int32) (lane many item bay fresh thn was tape left gift isKept kept trace : Nat → Int32) (z : (Int32 × Int32 × Int32 × Int32 × (Nat → Int32) × (Nat → Int32) × (Nat → Int32) × (Nat → Int32))) (hz : f_X9_settle thrown acts gifts bay was left gift = some z) : MI l yX9_settle wsX9_settle ({ frames := 3, cells := 0, slots := 0, locals := 67 } : Room) D cy [.ref (mAd 0)] (w_M cy mAd thrown status acts taped latest leng cursor token start till fault faultAt gifts traced lane many item bay fresh thn was tape left gift isKept kept trace) z.1 (w_M cy mAd z.2.1 status z.2.2.1 taped latest leng cursor token start till fault faultAt z.2.2.2.1 traced lane many item z.2.2.2.2.1 fresh thn z.2.2.2.2.2.1 tape z.2.2.2.2.2.2.1 z.2.2.2.2.2.2.2 isKept kept trace) := by
  refine met_start (Qf := fun A => MQi D cy z.1 (w_M cy mAd z.2.1 status z.2.2.1 taped latest leng cursor token start till fault faultAt z.2.2.2.1 traced lane many item z.2.2.2.2.1 fresh thn z.2.2.2.2.2.1 tape z.2.2.2.2.2.2.1 z.2.2.2.2.2.2.2 isKept kept trace) A) (cc := cX9_settle) (nL := 3) (ret := (some .int)) RX9 rfl (by decide) rfl (Nat.le_of_ble_eq_true rfl) ?_
  intro p e s m below meth c A ls C G hl
  have hl : lv_has ls 3 [(0, .ref (mAd 0))] := hl
  have H := hz
  unfold f_X9_settle at H
  obtain ⟨hx, hb, hr, hml, hown, hts, hlk, hK, hA, hE⟩ := id C
  have lk0 := hts (Cond.fieldLink RX9 50 "TideDebtsModel" "thrown" "I") (List.mem_of_getElem? (i := 1) rfl)
  have lk1 := hts (Cond.constant RX9 196 (-1000002)) (List.mem_of_getElem? (i := 2) rfl)
  have hiX9 : ∀ w ∈ u_ws RX9 TX9 27, w ∈ wsX9_settle := fun _ h => List.mem_cons_of_mem _ (List.mem_append_right _ h)
  refine lv_aload_n hx hb dX9_settle_0 rfl (lv_at hl 0 rfl) ?_
  refine lv_iconst (v := 0) hx hb dX9_settle_1 (by decide) ?_
  refine va_put (D := D) (ci := 9) (v := .int 0) (ty := .int) (C := RX9) (T := TX9) (N := 27) hx hb hts hiX9 tyX9 tyX9_ok nmX9 hown hK G.1 G.2.1 G.2.2 0 rfl rfl 0 (by decide) lk0 (fun _ h9 => h9) rfl (tyX9_ok 0 (by decide)) rfl rfl (Nat.le_of_ble_eq_true rfl) dX9_settle_2 (fun U locs hP hD hS => ?_)
  have G : Gd D A s (w_M cy mAd 0 status acts taped latest leng cursor token start till fault faultAt gifts traced lane many item bay fresh thn was tape left gift isKept kept trace) U locs := ⟨hP, hD, hS⟩
  refine lv_aload_n hx hb dX9_settle_5 rfl (lv_at hl 0 rfl) ?_
  obtain ⟨z1, hz1, H⟩ := bd_some H
  refine MI.callVw z1 [] [] C G (c_X9_isThere l D cy mAd 0 status acts taped latest leng cursor token start till fault faultAt gifts traced lane many item bay fresh thn was tape left gift isKept kept trace z1 hz1) gX9_settle_X9_isThere rfl rfl rfl (n := 0) (by decide +kernel) ⟨Nat.le_of_ble_eq_true rfl, Nat.le_of_ble_eq_true rfl⟩ (q0 := 0) (ci := 9) rfl rfl rfl rfl hl.1 rfl (Nat.le_of_ble_eq_true rfl) dX9_settle_6 ⟨Nat.zero_le _, Nat.zero_le _⟩ (fun U locs G => ?_)
  have G : Gd D A s (w_M cy mAd 0 status acts taped latest leng cursor token start till fault faultAt gifts traced lane many item bay fresh thn was tape left gift isKept kept trace) U locs := G
  refine lv_if_eq (tgt := 19) hx hb dX9_settle_9 (by decide) (fun c2 => ?_) (fun c2 => ?_)
  · have H := if_t H c2
    refine lv_ldc hx hb hown lk1 dX9_settle_19 ?_
    obtain rfl := Option.some.inj H
    exact ret_i C G rfl dX9_settle_21
  · have H := if_f H c2
    refine lv_aload_n hx hb dX9_settle_12 rfl (lv_at hl 0 rfl) ?_
    obtain ⟨z3, hz3, H⟩ := bd_some H
    refine MI.callVw z3 [] [] C G (c_X9_canNet l D cy mAd 0 status acts taped latest leng cursor token start till fault faultAt gifts traced lane many item bay fresh thn was tape left gift isKept kept trace z3 hz3) gX9_settle_X9_canNet rfl rfl rfl (n := 0) (by decide +kernel) ⟨Nat.le_of_ble_eq_true rfl, Nat.le_of_ble_eq_true rfl⟩ (q0 := 0) (ci := 9) rfl rfl rfl rfl hl.1 rfl (Nat.le_of_ble_eq_true rfl) dX9_settle_13 ⟨Nat.zero_le _, Nat.zero_le _⟩ (fun U locs G => ?_)
    have G : Gd D A s (w_M cy mAd 0 status acts taped latest leng cursor token start till fault faultAt gifts traced lane many item bay fresh thn was tape left gift isKept kept trace) U locs := G
    refine lv_if_ne (tgt := 22) hx hb dX9_settle_16 (by decide) (fun c4 => ?_) (fun c4 => ?_)
    · have H := if_f H c4
      refine lv_aload_n hx hb dX9_settle_22 rfl (lv_at hl 0 rfl) ?_
      obtain ⟨z5, hz5, H⟩ := bd_some H
      refine MV.callVw [] [] C G (c_X9_keep l D cy mAd 0 status acts taped latest leng cursor token start till fault faultAt gifts traced lane many item bay fresh thn was tape left gift isKept kept trace z5 hz5) gX9_settle_X9_keep rfl rfl rfl (n := 0) (by decide +kernel) ⟨Nat.le_of_ble_eq_true rfl, Nat.le_of_ble_eq_true rfl⟩ (q0 := 0) (ci := 9) rfl rfl rfl rfl hl.1 rfl (Nat.le_of_ble_eq_true rfl) dX9_settle_23 ⟨Nat.zero_le _, Nat.zero_le _⟩ (fun U locs G => ?_)
      have G : Gd D A s (w_M cy mAd 0 status z5.1 taped latest leng cursor token start till fault faultAt gifts traced lane many item bay fresh thn z5.2 tape left gift isKept kept trace) U locs := G
      refine lv_aload_n hx hb dX9_settle_26 rfl (lv_at hl 0 rfl) ?_
      obtain ⟨z6, hz6, H⟩ := bd_some H
      refine MV.callVw [] [] C G (c_X9_layGifts l D cy mAd 0 status z5.1 taped latest leng cursor token start till fault faultAt gifts traced lane many item bay fresh thn z5.2 tape left gift isKept kept trace z6 hz6) gX9_settle_X9_layGifts rfl rfl rfl (n := 0) (by decide +kernel) ⟨Nat.le_of_ble_eq_true rfl, Nat.le_of_ble_eq_true rfl⟩ (q0 := 0) (ci := 9) rfl rfl rfl rfl hl.1 rfl (Nat.le_of_ble_eq_true rfl) dX9_settle_27 ⟨Nat.zero_le _, Nat.zero_le _⟩ (fun U locs G => ?_)
      have G : Gd D A s (w_M cy mAd 0 status z5.1 taped latest leng cursor token start till fault faultAt z6.1 traced lane many item bay fresh thn z5.2 tape z6.2.1 z6.2.2 isKept kept trace) U locs := G
      refine lv_iconst (v := 0) hx hb dX9_settle_30 (by decide) ?_
      refine lv_istore_n (lv' := [(1, .int 0), (0, .ref (mAd 0))]) hx hb dX9_settle_31 rfl hl (by decide) rfl (fun ls hl => ?_)
      refine lv_iconst (v := 0) hx hb dX9_settle_32 (by decide) ?_
      refine lv_istore_n (lv' := [(2, .int 0), (1, .int 0), (0, .ref (mAd 0))]) hx hb dX9_settle_33 rfl hl (by decide) rfl (fun ls hl => ?_)
      obtain ⟨z15, hz15, H⟩ := bd_some H
      refine wl_X9_settle_34 C mAd 0 status z5.1 taped latest leng cursor token start till fault faultAt z6.1 traced lane many item fresh thn z5.2 tape z6.2.1 z6.2.2 isKept kept trace _ bay 0 0 z15 hz15 (fun U locs ls G hl => ?_) _ _ _ G (lv_sub hl [2, 1, 0] rfl)
      have G : Gd D A s (w_M cy mAd 0 status z5.1 taped latest leng cursor token start till fault faultAt z6.1 traced lane many item z15.1 fresh thn z5.2 tape z6.2.1 z6.2.2 isKept kept trace) U locs := G
      have hl : lv_has ls 3 [(0, .ref (mAd 0)), (1, .int z15.2)] := hl
      refine lv_bipush (v := 39) hx hb dX9_settle_123 (by decide) ?_
      refine lv_istore_n (lv' := [(2, .int 39), (0, .ref (mAd 0)), (1, .int z15.2)]) hx hb dX9_settle_125 rfl hl (by decide) rfl (fun ls hl => ?_)
      obtain ⟨z18, hz18, H⟩ := bd_some H
      refine wl_X9_settle_126 C mAd 0 status z5.1 taped latest leng cursor token start till fault faultAt z6.1 traced lane many item fresh thn z5.2 tape z6.2.1 z6.2.2 isKept kept trace z15.2 _ z15.1 39 z18 hz18 (fun U locs ls G hl => ?_) _ _ _ G (lv_sub hl [1, 2, 0] rfl)
      have G : Gd D A s (w_M cy mAd 0 status z5.1 taped latest leng cursor token start till fault faultAt z6.1 traced lane many item z18 fresh thn z5.2 tape z6.2.1 z6.2.2 isKept kept trace) U locs := G
      have hl : lv_has ls 3 [(1, .int z15.2)] := hl
      refine lv_iload_n hx hb dX9_settle_145 rfl (lv_at hl 0 rfl) ?_
      obtain rfl := Option.some.inj H
      exact ret_i C G rfl dX9_settle_146
    · have H := if_t H c4
      refine lv_ldc hx hb hown lk1 dX9_settle_19 ?_
      obtain rfl := Option.some.inj H
      exact ret_i C G rfl dX9_settle_21
def f_X9_undo_L27 (acts : Int32) (was : Nat → Int32) : Nat → (Nat → Int32) → Int32 → Option (Nat → Int32)
  | 0, _, _ => none
  | n + 1, bay, x1 => if 75 ≤ x1 then (some bay) else (gd (inb ((75 * acts) + x1) 1800) (gd (inb x1 75) (f_X9_undo_L27 acts was n (upd bay (ix x1) (was (ix ((75 * acts) + x1)))) (x1 + 1))))
theorem f_X9_undo_L27_z (acts : Int32) (was : Nat → Int32) (bay : Nat → Int32) (x1 : Int32) : f_X9_undo_L27 acts was 0 bay x1 = none := rfl
theorem f_X9_undo_L27_s (acts : Int32) (was : Nat → Int32) (n : Nat) (bay : Nat → Int32) (x1 : Int32) : f_X9_undo_L27 acts was (n + 1) bay x1 = if 75 ≤ x1 then (some bay) else (gd (inb ((75 * acts) + x1) 1800) (gd (inb x1 75) (f_X9_undo_L27 acts was n (upd bay (ix x1) (was (ix ((75 * acts) + x1)))) (x1 + 1)))) := rfl
set_option maxHeartbeats 4000000 in
set_option maxRecDepth 100000 in
theorem wl_X9_undo_27 {p : Program} {l : Launch} {e : Env} {s : State} {m : MethodId} {below : List Frame} {meth : Method} {c : Code} {D : va_G} {cy : Nat → ClassId} {A : Nat → Prop} {args : Array Value} {Q : State → Prop} (C : Cx D cy A p s m meth c cX9_undo 2 (some .int) wsX9_undo RX9 args) (mAd : Nat → Nat) (thrown status acts taped latest leng cursor token start till fault faultAt gifts traced : Int32) (lane many item fresh thn was tape left gift isKept kept trace : Nat → Int32) :
    ∀ (n : Nat) (bay : Nat → Int32) (x1 : Int32) (z : (Nat → Int32)), f_X9_undo_L27 acts was n bay x1 = some z → (∀ (U : Heap) (locs : List Loc) (ls : Array Slot), Gd D A s (w_M cy mAd thrown status acts taped latest leng cursor token start till fault faultAt gifts traced lane many item z fresh thn was tape left gift isKept kept trace) U locs → lv_has ls 2 [(0, .ref (mAd 0))] → W p l e ({ frames := 0, cells := 0, slots := 0, locals := 0 } : Room) s m args below meth c U locs 0 0 Q (F0 m 59 ls [])) → ∀ (U : Heap) (locs : List Loc) (ls : Array Slot), Gd D A s (w_M cy mAd thrown status acts taped latest leng cursor token start till fault faultAt gifts traced lane many item bay fresh thn was tape left gift isKept kept trace) U locs → lv_has ls 2 [(0, .ref (mAd 0)), (1, .int x1)] → W p l e ({ frames := 0, cells := 0, slots := 0, locals := 0 } : Room) s m args below meth c U locs 0 0 Q (F0 m 27 ls []) := by
  obtain ⟨hx, hb, hr, hml, hown, hts, hlk, hK, hA, hE⟩ := id C
  have lk0 := hts (Cond.fieldLink RX9 19 "TideDebtsModel" "bay" "[I") (List.mem_of_getElem? (i := 4) rfl)
  have lk1 := hts (Cond.fieldLink RX9 28 "TideDebtsModel" "was" "[I") (List.mem_of_getElem? (i := 5) rfl)
  have lk2 := hts (Cond.fieldLink RX9 171 "TideDebtsModel" "acts" "I") (List.mem_of_getElem? (i := 2) rfl)
  have hiX9 : ∀ w ∈ u_ws RX9 TX9 27, w ∈ wsX9_undo := fun _ h => List.mem_cons_of_mem _ (List.mem_append_right _ h)
  intro n
  induction n with
  | zero =>
    intro bay x1 z H
    rw [f_X9_undo_L27_z] at H
    cases H
  | succ n ih =>
    intro bay x1 z H kk U locs ls G hl
    rw [f_X9_undo_L27_s] at H
    refine lv_iload_n hx hb dX9_undo_27 rfl (lv_at hl 1 rfl) ?_
    refine lv_bipush (v := 75) hx hb dX9_undo_28 (by decide) ?_
    refine lv_icmp_ge (tgt := 59) hx hb dX9_undo_30 (by decide) (fun c2 => ?_) (fun c2 => ?_)
    · have H := if_t H c2
      obtain rfl := Option.some.inj H
      exact kk _ _ _ G (lv_sub hl [0] rfl)
    · have H := if_f H c2
      refine lv_aload_n hx hb dX9_undo_33 rfl (lv_at hl 0 rfl) ?_
      refine va_get (D := D) (ci := 9) (v := .ref (mAd 4)) (C := RX9) (T := TX9) (N := 27) hx hb hts hiX9 hown hK G.1 0 rfl rfl 5 (by decide) lk0 (fun _ h9 => h9) rfl dX9_undo_34 ?_
      refine lv_iload_n hx hb dX9_undo_37 rfl (lv_at hl 1 rfl) ?_
      refine lv_aload_n hx hb dX9_undo_38 rfl (lv_at hl 0 rfl) ?_
      refine va_get (D := D) (ci := 9) (v := .ref (mAd 7)) (C := RX9) (T := TX9) (N := 27) hx hb hts hiX9 hown hK G.1 0 rfl rfl 8 (by decide) lk1 (fun _ h9 => h9) rfl dX9_undo_39 ?_
      refine lv_bipush (v := 75) hx hb dX9_undo_42 (by decide) ?_
      refine lv_aload_n hx hb dX9_undo_44 rfl (lv_at hl 0 rfl) ?_
      refine va_get (D := D) (ci := 9) (v := .int acts) (C := RX9) (T := TX9) (N := 27) hx hb hts hiX9 hown hK G.1 0 rfl rfl 9 (by decide) lk2 (fun _ h9 => h9) rfl dX9_undo_45 ?_
      refine lv_imul hx hb dX9_undo_48 ?_
      refine lv_iload_n hx hb dX9_undo_49 rfl (lv_at hl 1 rfl) ?_
      refine lv_iadd hx hb dX9_undo_50 ?_
      obtain ⟨hb3, H⟩ := gd_some H
      refine g_iald (v := was (ix ((75 * acts) + x1))) hx hb hK G.1 7 1 rfl rfl hb3 rfl dX9_undo_51 ?_
      obtain ⟨hb4, H⟩ := gd_some H
      refine va_iast hx hb hK G.1 G.2.1 G.2.2 4 1 rfl rfl (inb_in hb4) dX9_undo_52 (fun U locs hP hD hS => ?_)
      have G : Gd D A s (w_M cy mAd thrown status acts taped latest leng cursor token start till fault faultAt gifts traced lane many item (upd bay (ix x1) (was (ix ((75 * acts) + x1)))) fresh thn was tape left gift isKept kept trace) U locs := ⟨hP, hD, hS⟩
      refine lv_iinc (v := x1 + 1) (lv' := [(1, .int (x1 + 1)), (0, .ref (mAd 0))]) hx hb dX9_undo_53 hl (k := 1) rfl rfl (by decide) rfl (fun ls hl => ?_)
      refine lv_goto (tgt := 27) hx hb dX9_undo_56 (by decide) ?_
      exact ih (upd bay (ix x1) (was (ix ((75 * acts) + x1)))) (x1 + 1) z H kk _ _ _ G (lv_sub hl [1, 0] rfl)
def f_X9_undo (thrown acts : Int32) (bay was : Nat → Int32) : Option (Int32 × Int32 × Int32 × (Nat → Int32)) := if acts = 0 then (some ((-1000002), 0, acts, bay)) else (bd (f_X9_undo_L27 (acts - 1) was 2000 bay 0) (fun z5 => some (acts - 1, 0, acts - 1, z5)))
set_option maxHeartbeats 4000000 in
set_option maxRecDepth 100000 in
theorem c_X9_undo (l : Launch) (D : va_G) (cy : Nat → ClassId) (mAd : Nat → Nat) (thrown status acts taped latest leng cursor token start till fault faultAt gifts traced : Int32) (lane many item bay fresh thn was tape left gift isKept kept trace : Nat → Int32) (z : (Int32 × Int32 × Int32 × (Nat → Int32))) (hz : f_X9_undo thrown acts bay was = some z) : MI l yX9_undo wsX9_undo ({ frames := 0, cells := 0, slots := 0, locals := 0 } : Room) D cy [.ref (mAd 0)] (w_M cy mAd thrown status acts taped latest leng cursor token start till fault faultAt gifts traced lane many item bay fresh thn was tape left gift isKept kept trace) z.1 (w_M cy mAd z.2.1 status z.2.2.1 taped latest leng cursor token start till fault faultAt gifts traced lane many item z.2.2.2 fresh thn was tape left gift isKept kept trace) := by
  refine met_start (Qf := fun A => MQi D cy z.1 (w_M cy mAd z.2.1 status z.2.2.1 taped latest leng cursor token start till fault faultAt gifts traced lane many item z.2.2.2 fresh thn was tape left gift isKept kept trace) A) (cc := cX9_undo) (nL := 2) (ret := (some .int)) RX9 rfl (by decide) rfl (Nat.le_of_ble_eq_true rfl) ?_
  intro p e s m below meth c A ls C G hl
  have hl : lv_has ls 2 [(0, .ref (mAd 0))] := hl
  have H := hz
  unfold f_X9_undo at H
  obtain ⟨hx, hb, hr, hml, hown, hts, hlk, hK, hA, hE⟩ := id C
  have lk0 := hts (Cond.fieldLink RX9 50 "TideDebtsModel" "thrown" "I") (List.mem_of_getElem? (i := 1) rfl)
  have lk1 := hts (Cond.fieldLink RX9 171 "TideDebtsModel" "acts" "I") (List.mem_of_getElem? (i := 2) rfl)
  have lk2 := hts (Cond.constant RX9 196 (-1000002)) (List.mem_of_getElem? (i := 3) rfl)
  have hiX9 : ∀ w ∈ u_ws RX9 TX9 27, w ∈ wsX9_undo := fun _ h => List.mem_cons_of_mem _ (List.mem_append_right _ h)
  refine lv_aload_n hx hb dX9_undo_0 rfl (lv_at hl 0 rfl) ?_
  refine lv_iconst (v := 0) hx hb dX9_undo_1 (by decide) ?_
  refine va_put (D := D) (ci := 9) (v := .int 0) (ty := .int) (C := RX9) (T := TX9) (N := 27) hx hb hts hiX9 tyX9 tyX9_ok nmX9 hown hK G.1 G.2.1 G.2.2 0 rfl rfl 0 (by decide) lk0 (fun _ h9 => h9) rfl (tyX9_ok 0 (by decide)) rfl rfl (Nat.le_of_ble_eq_true rfl) dX9_undo_2 (fun U locs hP hD hS => ?_)
  have G : Gd D A s (w_M cy mAd 0 status acts taped latest leng cursor token start till fault faultAt gifts traced lane many item bay fresh thn was tape left gift isKept kept trace) U locs := ⟨hP, hD, hS⟩
  refine lv_aload_n hx hb dX9_undo_5 rfl (lv_at hl 0 rfl) ?_
  refine va_get (D := D) (ci := 9) (v := .int acts) (C := RX9) (T := TX9) (N := 27) hx hb hts hiX9 hown hK G.1 0 rfl rfl 9 (by decide) lk1 (fun _ h9 => h9) rfl dX9_undo_6 ?_
  refine lv_if_ne (tgt := 15) hx hb dX9_undo_9 (by decide) (fun c1 => ?_) (fun c1 => ?_)
  · have H := if_f H c1
    refine lv_aload_n hx hb dX9_undo_15 rfl (lv_at hl 0 rfl) ?_
    refine lv_dup hx hb dX9_undo_16 rfl ?_
    refine va_get (D := D) (ci := 9) (v := .int acts) (C := RX9) (T := TX9) (N := 27) hx hb hts hiX9 hown hK G.1 0 rfl rfl 9 (by decide) lk1 (fun _ h9 => h9) rfl dX9_undo_17 ?_
    refine lv_iconst (v := 1) hx hb dX9_undo_20 (by decide) ?_
    refine lv_isub hx hb dX9_undo_21 ?_
    refine va_put (D := D) (ci := 9) (v := .int (acts - 1)) (ty := .int) (C := RX9) (T := TX9) (N := 27) hx hb hts hiX9 tyX9 tyX9_ok nmX9 hown hK G.1 G.2.1 G.2.2 0 rfl rfl 9 (by decide) lk1 (fun _ h9 => h9) rfl (tyX9_ok 9 (by decide)) rfl rfl (Nat.le_of_ble_eq_true rfl) dX9_undo_22 (fun U locs hP hD hS => ?_)
    have G : Gd D A s (w_M cy mAd 0 status (acts - 1) taped latest leng cursor token start till fault faultAt gifts traced lane many item bay fresh thn was tape left gift isKept kept trace) U locs := ⟨hP, hD, hS⟩
    refine lv_iconst (v := 0) hx hb dX9_undo_25 (by decide) ?_
    refine lv_istore_n (lv' := [(1, .int 0), (0, .ref (mAd 0))]) hx hb dX9_undo_26 rfl hl (by decide) rfl (fun ls hl => ?_)
    obtain ⟨z5, hz5, H⟩ := bd_some H
    refine wl_X9_undo_27 C mAd 0 status (acts - 1) taped latest leng cursor token start till fault faultAt gifts traced lane many item fresh thn was tape left gift isKept kept trace _ bay 0 z5 hz5 (fun U locs ls G hl => ?_) _ _ _ G (lv_sub hl [1, 0] rfl)
    have G : Gd D A s (w_M cy mAd 0 status (acts - 1) taped latest leng cursor token start till fault faultAt gifts traced lane many item z5 fresh thn was tape left gift isKept kept trace) U locs := G
    have hl : lv_has ls 2 [(0, .ref (mAd 0))] := hl
    refine lv_aload_n hx hb dX9_undo_59 rfl (lv_at hl 0 rfl) ?_
    refine va_get (D := D) (ci := 9) (v := .int (acts - 1)) (C := RX9) (T := TX9) (N := 27) hx hb hts hiX9 hown hK G.1 0 rfl rfl 9 (by decide) lk1 (fun _ h9 => h9) rfl dX9_undo_60 ?_
    obtain rfl := Option.some.inj H
    exact ret_i C G rfl dX9_undo_63
  · have H := if_t H c1
    refine lv_ldc hx hb hown lk2 dX9_undo_12 ?_
    obtain rfl := Option.some.inj H
    exact ret_i C G rfl dX9_undo_14
def f_X9_water (thrown : Int32) (bay : Nat → Int32) (p1 p2 : Int32) : Option (Int32 × Int32) := bd (f_X9_isWater bay p1) (fun z1 => if z1 = 0 then (some ((-1000001), 0)) else (bd (f_X9_in p2.toInt64 0 3) (fun z3 => if z3 = 0 then (some ((-1000001), 0)) else (if p2 = 3 then (bd (f_X9_balanceOf bay p1) (fun z8 => some (z8, 0))) else (bd (f_X9_at p1 (1 + p2)) (fun z6 => gd (inb z6 75) (some (bay (ix z6), 0))))))))
set_option maxHeartbeats 4000000 in
set_option maxRecDepth 100000 in
theorem c_X9_water (l : Launch) (D : va_G) (cy : Nat → ClassId) (mAd : Nat → Nat) (thrown status acts taped latest leng cursor token start till fault faultAt gifts traced : Int32) (lane many item bay fresh thn was tape left gift isKept kept trace : Nat → Int32) (p1 p2 : Int32) (z : (Int32 × Int32)) (hz : f_X9_water thrown bay p1 p2 = some z) : MI l yX9_water wsX9_water ({ frames := 2, cells := 0, slots := 0, locals := 46 } : Room) D cy [.ref (mAd 0), .int p1, .int p2] (w_M cy mAd thrown status acts taped latest leng cursor token start till fault faultAt gifts traced lane many item bay fresh thn was tape left gift isKept kept trace) z.1 (w_M cy mAd z.2 status acts taped latest leng cursor token start till fault faultAt gifts traced lane many item bay fresh thn was tape left gift isKept kept trace) := by
  refine met_start (Qf := fun A => MQi D cy z.1 (w_M cy mAd z.2 status acts taped latest leng cursor token start till fault faultAt gifts traced lane many item bay fresh thn was tape left gift isKept kept trace) A) (cc := cX9_water) (nL := 3) (ret := (some .int)) RX9 rfl (by decide) rfl (Nat.le_of_ble_eq_true rfl) ?_
  intro p e s m below meth c A ls C G hl
  have hl : lv_has ls 3 [(0, .ref (mAd 0)), (1, .int p1), (2, .int p2)] := hl
  have H := hz
  unfold f_X9_water at H
  obtain ⟨hx, hb, hr, hml, hown, hts, hlk, hK, hA, hE⟩ := id C
  have lk0 := hts (Cond.fieldLink RX9 50 "TideDebtsModel" "thrown" "I") (List.mem_of_getElem? (i := 1) rfl)
  have lk1 := hts (Cond.constant RX9 70 (-1000001)) (List.mem_of_getElem? (i := 3) rfl)
  have lk2 := hts (Cond.constantLong RX9 242 (3)) (List.mem_of_getElem? (i := 2) rfl)
  have lk3 := hts (Cond.fieldLink RX9 19 "TideDebtsModel" "bay" "[I") (List.mem_of_getElem? (i := 4) rfl)
  have hiX9 : ∀ w ∈ u_ws RX9 TX9 27, w ∈ wsX9_water := fun _ h => List.mem_cons_of_mem _ (List.mem_append_right _ h)
  refine lv_aload_n hx hb dX9_water_0 rfl (lv_at hl 0 rfl) ?_
  refine lv_iconst (v := 0) hx hb dX9_water_1 (by decide) ?_
  refine va_put (D := D) (ci := 9) (v := .int 0) (ty := .int) (C := RX9) (T := TX9) (N := 27) hx hb hts hiX9 tyX9 tyX9_ok nmX9 hown hK G.1 G.2.1 G.2.2 0 rfl rfl 0 (by decide) lk0 (fun _ h9 => h9) rfl (tyX9_ok 0 (by decide)) rfl rfl (Nat.le_of_ble_eq_true rfl) dX9_water_2 (fun U locs hP hD hS => ?_)
  have G : Gd D A s (w_M cy mAd 0 status acts taped latest leng cursor token start till fault faultAt gifts traced lane many item bay fresh thn was tape left gift isKept kept trace) U locs := ⟨hP, hD, hS⟩
  refine lv_aload_n hx hb dX9_water_5 rfl (lv_at hl 0 rfl) ?_
  refine lv_iload_n hx hb dX9_water_6 rfl (lv_at hl 1 rfl) ?_
  obtain ⟨z1, hz1, H⟩ := bd_some H
  refine MI.callVw z1 [.int p1] [] C G (c_X9_isWater l D cy mAd 0 status acts taped latest leng cursor token start till fault faultAt gifts traced lane many item bay fresh thn was tape left gift isKept kept trace p1 z1 hz1) gX9_water_X9_isWater rfl rfl rfl (n := 1) (by decide +kernel) ⟨Nat.le_of_ble_eq_true rfl, Nat.le_of_ble_eq_true rfl⟩ (q0 := 0) (ci := 9) rfl rfl rfl rfl hl.1 rfl (Nat.le_of_ble_eq_true rfl) dX9_water_7 ⟨Nat.zero_le _, Nat.zero_le _⟩ (fun U locs G => ?_)
  have G : Gd D A s (w_M cy mAd 0 status acts taped latest leng cursor token start till fault faultAt gifts traced lane many item bay fresh thn was tape left gift isKept kept trace) U locs := G
  refine lv_if_eq (tgt := 25) hx hb dX9_water_10 (by decide) (fun c2 => ?_) (fun c2 => ?_)
  · have H := if_t H c2
    refine lv_ldc hx hb hown lk1 dX9_water_25 ?_
    obtain rfl := Option.some.inj H
    exact ret_i C G rfl dX9_water_27
  · have H := if_f H c2
    refine lv_iload_n hx hb dX9_water_13 rfl (lv_at hl 2 rfl) ?_
    refine lv_i2l hx hb dX9_water_14 rfl ?_
    refine lv_lconst (v := 0) hx hb dX9_water_15 (by decide) ?_
    refine lv_ldc2 hx hb hown lk2 dX9_water_16 ?_
    obtain ⟨z3, hz3, H⟩ := bd_some H
    refine MI.callS z3 [.long p2.toInt64, .long 0, .long 3] [] [] C G (c_X9_in l D cy p2.toInt64 0 3 z3 hz3) gX9_water_X9_in rfl rfl rfl (n := 3) (by decide +kernel) ⟨Nat.le_of_ble_eq_true rfl, Nat.le_of_ble_eq_true rfl⟩ rfl rfl rfl rfl hl.1 rfl (Nat.le_of_ble_eq_true rfl) dX9_water_19 ⟨Nat.zero_le _, Nat.zero_le _⟩ (fun U locs G => ?_)
    have G : Gd D A s (w_M cy mAd 0 status acts taped latest leng cursor token start till fault faultAt gifts traced lane many item bay fresh thn was tape left gift isKept kept trace) U locs := G
    refine lv_if_ne (tgt := 28) hx hb dX9_water_22 (by decide) (fun c4 => ?_) (fun c4 => ?_)
    · have H := if_f H c4
      refine lv_iload_n hx hb dX9_water_28 rfl (lv_at hl 2 rfl) ?_
      refine lv_iconst (v := 3) hx hb dX9_water_29 (by decide) ?_
      refine lv_icmp_ne (tgt := 41) hx hb dX9_water_30 (by decide) (fun c5 => ?_) (fun c5 => ?_)
      · have H := if_f H c5
        refine lv_aload_n hx hb dX9_water_41 rfl (lv_at hl 0 rfl) ?_
        refine va_get (D := D) (ci := 9) (v := .ref (mAd 4)) (C := RX9) (T := TX9) (N := 27) hx hb hts hiX9 hown hK G.1 0 rfl rfl 5 (by decide) lk3 (fun _ h9 => h9) rfl dX9_water_42 ?_
        refine lv_iload_n hx hb dX9_water_45 rfl (lv_at hl 1 rfl) ?_
        refine lv_iconst (v := 1) hx hb dX9_water_46 (by decide) ?_
        refine lv_iload_n hx hb dX9_water_47 rfl (lv_at hl 2 rfl) ?_
        refine lv_iadd hx hb dX9_water_48 ?_
        obtain ⟨z6, hz6, H⟩ := bd_some H
        refine MI.callS z6 [.int p1, .int (1 + p2)] [.ref (mAd 4)] [] C G (c_X9_at l D cy p1 (1 + p2) z6 hz6) gX9_water_X9_at rfl rfl rfl (n := 2) (by decide +kernel) ⟨Nat.le_of_ble_eq_true rfl, Nat.le_of_ble_eq_true rfl⟩ rfl rfl rfl rfl hl.1 rfl (Nat.le_of_ble_eq_true rfl) dX9_water_49 ⟨Nat.zero_le _, Nat.zero_le _⟩ (fun U locs G => ?_)
        have G : Gd D A s (w_M cy mAd 0 status acts taped latest leng cursor token start till fault faultAt gifts traced lane many item bay fresh thn was tape left gift isKept kept trace) U locs := G
        obtain ⟨hb7, H⟩ := gd_some H
        refine g_iald (v := bay (ix z6)) hx hb hK G.1 4 1 rfl rfl hb7 rfl dX9_water_52 ?_
        obtain rfl := Option.some.inj H
        exact ret_i C G rfl dX9_water_53
      · have H := if_t H c5
        refine lv_aload_n hx hb dX9_water_33 rfl (lv_at hl 0 rfl) ?_
        refine lv_iload_n hx hb dX9_water_34 rfl (lv_at hl 1 rfl) ?_
        obtain ⟨z8, hz8, H⟩ := bd_some H
        refine MI.callVw z8 [.int p1] [] C G (c_X9_balanceOf l D cy mAd 0 status acts taped latest leng cursor token start till fault faultAt gifts traced lane many item bay fresh thn was tape left gift isKept kept trace p1 z8 hz8) gX9_water_X9_balanceOf rfl rfl rfl (n := 1) (by decide +kernel) ⟨Nat.le_of_ble_eq_true rfl, Nat.le_of_ble_eq_true rfl⟩ (q0 := 0) (ci := 9) rfl rfl rfl rfl hl.1 rfl (Nat.le_of_ble_eq_true rfl) dX9_water_35 ⟨Nat.zero_le _, Nat.zero_le _⟩ (fun U locs G => ?_)
        have G : Gd D A s (w_M cy mAd 0 status acts taped latest leng cursor token start till fault faultAt gifts traced lane many item bay fresh thn was tape left gift isKept kept trace) U locs := G
        refine lv_goto (tgt := 53) hx hb dX9_water_38 (by decide) ?_
        obtain rfl := Option.some.inj H
        exact ret_i C G rfl dX9_water_53
    · have H := if_t H c4
      refine lv_ldc hx hb hown lk1 dX9_water_25 ?_
      obtain rfl := Option.some.inj H
      exact ret_i C G rfl dX9_water_27
def f_X9_owes (thrown : Int32) (bay : Nat → Int32) (p1 p2 : Int32) : Option (Int32 × Int32) := bd (f_X9_areTwo bay p1 p2) (fun z1 => if z1 = 0 then (some ((-1000001), 0)) else (bd (f_X9_debt p1 p2) (fun z3 => gd (inb z3 75) (some (bay (ix z3), 0)))))
set_option maxHeartbeats 4000000 in
set_option maxRecDepth 100000 in
theorem c_X9_owes (l : Launch) (D : va_G) (cy : Nat → ClassId) (mAd : Nat → Nat) (thrown status acts taped latest leng cursor token start till fault faultAt gifts traced : Int32) (lane many item bay fresh thn was tape left gift isKept kept trace : Nat → Int32) (p1 p2 : Int32) (z : (Int32 × Int32)) (hz : f_X9_owes thrown bay p1 p2 = some z) : MI l yX9_owes wsX9_owes ({ frames := 3, cells := 0, slots := 0, locals := 68 } : Room) D cy [.ref (mAd 0), .int p1, .int p2] (w_M cy mAd thrown status acts taped latest leng cursor token start till fault faultAt gifts traced lane many item bay fresh thn was tape left gift isKept kept trace) z.1 (w_M cy mAd z.2 status acts taped latest leng cursor token start till fault faultAt gifts traced lane many item bay fresh thn was tape left gift isKept kept trace) := by
  refine met_start (Qf := fun A => MQi D cy z.1 (w_M cy mAd z.2 status acts taped latest leng cursor token start till fault faultAt gifts traced lane many item bay fresh thn was tape left gift isKept kept trace) A) (cc := cX9_owes) (nL := 3) (ret := (some .int)) RX9 rfl (by decide) rfl (Nat.le_of_ble_eq_true rfl) ?_
  intro p e s m below meth c A ls C G hl
  have hl : lv_has ls 3 [(0, .ref (mAd 0)), (1, .int p1), (2, .int p2)] := hl
  have H := hz
  unfold f_X9_owes at H
  obtain ⟨hx, hb, hr, hml, hown, hts, hlk, hK, hA, hE⟩ := id C
  have lk0 := hts (Cond.fieldLink RX9 50 "TideDebtsModel" "thrown" "I") (List.mem_of_getElem? (i := 1) rfl)
  have lk1 := hts (Cond.constant RX9 70 (-1000001)) (List.mem_of_getElem? (i := 3) rfl)
  have lk2 := hts (Cond.fieldLink RX9 19 "TideDebtsModel" "bay" "[I") (List.mem_of_getElem? (i := 2) rfl)
  have hiX9 : ∀ w ∈ u_ws RX9 TX9 27, w ∈ wsX9_owes := fun _ h => List.mem_cons_of_mem _ (List.mem_append_right _ h)
  refine lv_aload_n hx hb dX9_owes_0 rfl (lv_at hl 0 rfl) ?_
  refine lv_iconst (v := 0) hx hb dX9_owes_1 (by decide) ?_
  refine va_put (D := D) (ci := 9) (v := .int 0) (ty := .int) (C := RX9) (T := TX9) (N := 27) hx hb hts hiX9 tyX9 tyX9_ok nmX9 hown hK G.1 G.2.1 G.2.2 0 rfl rfl 0 (by decide) lk0 (fun _ h9 => h9) rfl (tyX9_ok 0 (by decide)) rfl rfl (Nat.le_of_ble_eq_true rfl) dX9_owes_2 (fun U locs hP hD hS => ?_)
  have G : Gd D A s (w_M cy mAd 0 status acts taped latest leng cursor token start till fault faultAt gifts traced lane many item bay fresh thn was tape left gift isKept kept trace) U locs := ⟨hP, hD, hS⟩
  refine lv_aload_n hx hb dX9_owes_5 rfl (lv_at hl 0 rfl) ?_
  refine lv_iload_n hx hb dX9_owes_6 rfl (lv_at hl 1 rfl) ?_
  refine lv_iload_n hx hb dX9_owes_7 rfl (lv_at hl 2 rfl) ?_
  obtain ⟨z1, hz1, H⟩ := bd_some H
  refine MI.callVw z1 [.int p1, .int p2] [] C G (c_X9_areTwo l D cy mAd 0 status acts taped latest leng cursor token start till fault faultAt gifts traced lane many item bay fresh thn was tape left gift isKept kept trace p1 p2 z1 hz1) gX9_owes_X9_areTwo rfl rfl rfl (n := 2) (by decide +kernel) ⟨Nat.le_of_ble_eq_true rfl, Nat.le_of_ble_eq_true rfl⟩ (q0 := 0) (ci := 9) rfl rfl rfl rfl hl.1 rfl (Nat.le_of_ble_eq_true rfl) dX9_owes_8 ⟨Nat.zero_le _, Nat.zero_le _⟩ (fun U locs G => ?_)
  have G : Gd D A s (w_M cy mAd 0 status acts taped latest leng cursor token start till fault faultAt gifts traced lane many item bay fresh thn was tape left gift isKept kept trace) U locs := G
  refine lv_if_eq (tgt := 27) hx hb dX9_owes_11 (by decide) (fun c2 => ?_) (fun c2 => ?_)
  · have H := if_t H c2
    refine lv_ldc hx hb hown lk1 dX9_owes_27 ?_
    obtain rfl := Option.some.inj H
    exact ret_i C G rfl dX9_owes_29
  · have H := if_f H c2
    refine lv_aload_n hx hb dX9_owes_14 rfl (lv_at hl 0 rfl) ?_
    refine va_get (D := D) (ci := 9) (v := .ref (mAd 4)) (C := RX9) (T := TX9) (N := 27) hx hb hts hiX9 hown hK G.1 0 rfl rfl 5 (by decide) lk2 (fun _ h9 => h9) rfl dX9_owes_15 ?_
    refine lv_iload_n hx hb dX9_owes_18 rfl (lv_at hl 1 rfl) ?_
    refine lv_iload_n hx hb dX9_owes_19 rfl (lv_at hl 2 rfl) ?_
    obtain ⟨z3, hz3, H⟩ := bd_some H
    refine MI.callS z3 [.int p1, .int p2] [.ref (mAd 4)] [] C G (c_X9_debt l D cy p1 p2 z3 hz3) gX9_owes_X9_debt rfl rfl rfl (n := 2) (by decide +kernel) ⟨Nat.le_of_ble_eq_true rfl, Nat.le_of_ble_eq_true rfl⟩ rfl rfl rfl rfl hl.1 rfl (Nat.le_of_ble_eq_true rfl) dX9_owes_20 ⟨Nat.zero_le _, Nat.zero_le _⟩ (fun U locs G => ?_)
    have G : Gd D A s (w_M cy mAd 0 status acts taped latest leng cursor token start till fault faultAt gifts traced lane many item bay fresh thn was tape left gift isKept kept trace) U locs := G
    obtain ⟨hb4, H⟩ := gd_some H
    refine g_iald (v := bay (ix z3)) hx hb hK G.1 4 1 rfl rfl hb4 rfl dX9_owes_23 ?_
    refine lv_goto (tgt := 29) hx hb dX9_owes_24 (by decide) ?_
    obtain rfl := Option.some.inj H
    exact ret_i C G rfl dX9_owes_29
def f_X9_ahead_L47 (bay : Nat → Int32) (x2 : Int32) : Nat → (Nat → Int32) → Int32 → Option (Nat → Int32)
  | 0, _, _ => none
  | n + 1, thn, x4 => if x2 ≤ x4 then (some thn) else (bd (f_X9_goHour bay thn) (fun z9 => f_X9_ahead_L47 bay x2 n z9 (x4 + 1)))
theorem f_X9_ahead_L47_z (bay : Nat → Int32) (x2 : Int32) (thn : Nat → Int32) (x4 : Int32) : f_X9_ahead_L47 bay x2 0 thn x4 = none := rfl
theorem f_X9_ahead_L47_s (bay : Nat → Int32) (x2 : Int32) (n : Nat) (thn : Nat → Int32) (x4 : Int32) : f_X9_ahead_L47 bay x2 (n + 1) thn x4 = if x2 ≤ x4 then (some thn) else (bd (f_X9_goHour bay thn) (fun z9 => f_X9_ahead_L47 bay x2 n z9 (x4 + 1))) := rfl
set_option maxHeartbeats 4000000 in
set_option maxRecDepth 100000 in
theorem wl_X9_ahead_47 {p : Program} {l : Launch} {e : Env} {s : State} {m : MethodId} {below : List Frame} {meth : Method} {c : Code} {D : va_G} {cy : Nat → ClassId} {A : Nat → Prop} {args : Array Value} {Q : State → Prop} (C : Cx D cy A p s m meth c cX9_ahead 6 (some .int) wsX9_ahead RX9 args) (mAd : Nat → Nat) (thrown status acts taped latest leng cursor token start till fault faultAt gifts traced : Int32) (lane many item bay fresh was tape left gift isKept kept trace : Nat → Int32) (x1 x2 x3 : Int32) :
    ∀ (n : Nat) (thn : Nat → Int32) (x4 : Int32) (z : (Nat → Int32)), f_X9_ahead_L47 bay x2 n thn x4 = some z → (∀ (U : Heap) (locs : List Loc) (ls : Array Slot), Gd D A s (w_M cy mAd thrown status acts taped latest leng cursor token start till fault faultAt gifts traced lane many item bay fresh z was tape left gift isKept kept trace) U locs → lv_has ls 6 [(0, .ref (mAd 0)), (1, .int x1), (3, .int x3)] → W p l e ({ frames := 3, cells := 0, slots := 0, locals := 69 } : Room) s m args below meth c U locs 0 0 Q (F0 m 63 ls [])) → ∀ (U : Heap) (locs : List Loc) (ls : Array Slot), Gd D A s (w_M cy mAd thrown status acts taped latest leng cursor token start till fault faultAt gifts traced lane many item bay fresh thn was tape left gift isKept kept trace) U locs → lv_has ls 6 [(0, .ref (mAd 0)), (1, .int x1), (2, .int x2), (3, .int x3), (4, .int x4)] → W p l e ({ frames := 3, cells := 0, slots := 0, locals := 69 } : Room) s m args below meth c U locs 0 0 Q (F0 m 47 ls []) := by
  obtain ⟨hx, hb, hr, hml, hown, hts, hlk, hK, hA, hE⟩ := id C
  intro n
  induction n with
  | zero =>
    intro thn x4 z H
    rw [f_X9_ahead_L47_z] at H
    cases H
  | succ n ih =>
    intro thn x4 z H kk U locs ls G hl
    rw [f_X9_ahead_L47_s] at H
    refine lv_iload hx hb dX9_ahead_47 (lv_at hl 4 rfl) ?_
    refine lv_iload_n hx hb dX9_ahead_49 rfl (lv_at hl 2 rfl) ?_
    refine lv_icmp_ge (tgt := 63) hx hb dX9_ahead_50 (by decide) (fun c8 => ?_) (fun c8 => ?_)
    · have H := if_t H c8
      obtain rfl := Option.some.inj H
      exact kk _ _ _ G (lv_sub hl [0, 1, 3] rfl)
    · have H := if_f H c8
      refine lv_aload_n hx hb dX9_ahead_53 rfl (lv_at hl 0 rfl) ?_
      obtain ⟨z9, hz9, H⟩ := bd_some H
      refine MV.callVw [] [] C G (c_X9_goHour l D cy mAd thrown status acts taped latest leng cursor token start till fault faultAt gifts traced lane many item bay fresh thn was tape left gift isKept kept trace z9 hz9) gX9_ahead_X9_goHour rfl rfl rfl (n := 0) (by decide +kernel) ⟨Nat.le_of_ble_eq_true rfl, Nat.le_of_ble_eq_true rfl⟩ (q0 := 0) (ci := 9) rfl rfl rfl rfl hl.1 rfl (Nat.le_of_ble_eq_true rfl) dX9_ahead_54 ⟨Nat.zero_le _, Nat.zero_le _⟩ (fun U locs G => ?_)
      have G : Gd D A s (w_M cy mAd thrown status acts taped latest leng cursor token start till fault faultAt gifts traced lane many item bay fresh z9 was tape left gift isKept kept trace) U locs := G
      refine lv_iinc (v := x4 + 1) (lv' := [(4, .int (x4 + 1)), (0, .ref (mAd 0)), (1, .int x1), (2, .int x2), (3, .int x3)]) hx hb dX9_ahead_57 hl (k := 4) rfl rfl (by decide) rfl (fun ls hl => ?_)
      refine lv_goto (tgt := 47) hx hb dX9_ahead_60 (by decide) ?_
      exact ih z9 (x4 + 1) z H kk _ _ _ G (lv_sub hl [1, 2, 3, 4, 0] rfl)
def f_X9_ahead_L69 (bay thn : Nat → Int32) (x1 : Int32) : Nat → Int32 → Int32 → Option Int32
  | 0, _, _ => none
  | n + 1, x4, x5 => if (bay 1) ≤ x5 then (some x4) else (bd (f_X9_debt x1 x5) (fun z12 => gd (inb z12 75) (f_X9_ahead_L69 bay thn x1 n (x4 + (thn (ix z12))) (x5 + 1))))
theorem f_X9_ahead_L69_z (bay thn : Nat → Int32) (x1 : Int32) (x4 x5 : Int32) : f_X9_ahead_L69 bay thn x1 0 x4 x5 = none := rfl
theorem f_X9_ahead_L69_s (bay thn : Nat → Int32) (x1 : Int32) (n : Nat) (x4 x5 : Int32) : f_X9_ahead_L69 bay thn x1 (n + 1) x4 x5 = if (bay 1) ≤ x5 then (some x4) else (bd (f_X9_debt x1 x5) (fun z12 => gd (inb z12 75) (f_X9_ahead_L69 bay thn x1 n (x4 + (thn (ix z12))) (x5 + 1)))) := rfl
set_option maxHeartbeats 4000000 in
set_option maxRecDepth 100000 in
theorem wl_X9_ahead_69 {p : Program} {l : Launch} {e : Env} {s : State} {m : MethodId} {below : List Frame} {meth : Method} {c : Code} {D : va_G} {cy : Nat → ClassId} {A : Nat → Prop} {args : Array Value} {Q : State → Prop} (C : Cx D cy A p s m meth c cX9_ahead 6 (some .int) wsX9_ahead RX9 args) (mAd : Nat → Nat) (thrown status acts taped latest leng cursor token start till fault faultAt gifts traced : Int32) (lane many item bay fresh thn was tape left gift isKept kept trace : Nat → Int32) (x1 x3 : Int32) :
    ∀ (n : Nat) (x4 x5 : Int32) (z : Int32), f_X9_ahead_L69 bay thn x1 n x4 x5 = some z → (∀ (U : Heap) (locs : List Loc) (ls : Array Slot), Gd D A s (w_M cy mAd thrown status acts taped latest leng cursor token start till fault faultAt gifts traced lane many item bay fresh thn was tape left gift isKept kept trace) U locs → lv_has ls 6 [(0, .ref (mAd 0)), (1, .int x1), (3, .int x3), (4, .int z)] → W p l e ({ frames := 3, cells := 0, slots := 0, locals := 69 } : Room) s m args below meth c U locs 0 0 Q (F0 m 102 ls [])) → ∀ (U : Heap) (locs : List Loc) (ls : Array Slot), Gd D A s (w_M cy mAd thrown status acts taped latest leng cursor token start till fault faultAt gifts traced lane many item bay fresh thn was tape left gift isKept kept trace) U locs → lv_has ls 6 [(0, .ref (mAd 0)), (1, .int x1), (3, .int x3), (4, .int x4), (5, .int x5)] → W p l e ({ frames := 3, cells := 0, slots := 0, locals := 69 } : Room) s m args below meth c U locs 0 0 Q (F0 m 69 ls []) := by
  obtain ⟨hx, hb, hr, hml, hown, hts, hlk, hK, hA, hE⟩ := id C
  have lk0 := hts (Cond.fieldLink RX9 19 "TideDebtsModel" "bay" "[I") (List.mem_of_getElem? (i := 5) rfl)
  have lk1 := hts (Cond.fieldLink RX9 25 "TideDebtsModel" "then" "[I") (List.mem_of_getElem? (i := 6) rfl)
  have hiX9 : ∀ w ∈ u_ws RX9 TX9 27, w ∈ wsX9_ahead := fun _ h => List.mem_cons_of_mem _ (List.mem_append_right _ h)
  intro n
  induction n with
  | zero =>
    intro x4 x5 z H
    rw [f_X9_ahead_L69_z] at H
    cases H
  | succ n ih =>
    intro x4 x5 z H kk U locs ls G hl
    rw [f_X9_ahead_L69_s] at H
    refine lv_iload hx hb dX9_ahead_69 (lv_at hl 4 rfl) ?_
    refine lv_aload_n hx hb dX9_ahead_71 rfl (lv_at hl 0 rfl) ?_
    refine va_get (D := D) (ci := 9) (v := .ref (mAd 4)) (C := RX9) (T := TX9) (N := 27) hx hb hts hiX9 hown hK G.1 0 rfl rfl 5 (by decide) lk0 (fun _ h9 => h9) rfl dX9_ahead_72 ?_
    refine lv_iconst (v := 1) hx hb dX9_ahead_75 (by decide) ?_
    refine g_iald (v := bay 1) hx hb hK G.1 4 1 rfl rfl (by decide) rfl dX9_ahead_76 ?_
    refine lv_icmp_ge (tgt := 102) hx hb dX9_ahead_77 (by decide) (fun c11 => ?_) (fun c11 => ?_)
    · have H := if_t H c11
      obtain rfl := Option.some.inj H
      exact kk _ _ _ G (lv_sub hl [0, 1, 2, 3] rfl)
    · have H := if_f H c11
      refine lv_iload hx hb dX9_ahead_80 (lv_at hl 3 rfl) ?_
      refine lv_aload_n hx hb dX9_ahead_82 rfl (lv_at hl 0 rfl) ?_
      refine va_get (D := D) (ci := 9) (v := .ref (mAd 6)) (C := RX9) (T := TX9) (N := 27) hx hb hts hiX9 hown hK G.1 0 rfl rfl 7 (by decide) lk1 (fun _ h9 => h9) rfl dX9_ahead_83 ?_
      refine lv_iload_n hx hb dX9_ahead_86 rfl (lv_at hl 1 rfl) ?_
      refine lv_iload hx hb dX9_ahead_87 (lv_at hl 4 rfl) ?_
      obtain ⟨z12, hz12, H⟩ := bd_some H
      refine MI.callS z12 [.int x1, .int x5] [.ref (mAd 6), .int x4] [] C G (c_X9_debt l D cy x1 x5 z12 hz12) gX9_ahead_X9_debt rfl rfl rfl (n := 2) (by decide +kernel) ⟨Nat.le_of_ble_eq_true rfl, Nat.le_of_ble_eq_true rfl⟩ rfl rfl rfl rfl hl.1 rfl (Nat.le_of_ble_eq_true rfl) dX9_ahead_89 ⟨Nat.zero_le _, Nat.zero_le _⟩ (fun U locs G => ?_)
      have G : Gd D A s (w_M cy mAd thrown status acts taped latest leng cursor token start till fault faultAt gifts traced lane many item bay fresh thn was tape left gift isKept kept trace) U locs := G
      obtain ⟨hb13, H⟩ := gd_some H
      refine g_iald (v := thn (ix z12)) hx hb hK G.1 6 1 rfl rfl hb13 rfl dX9_ahead_92 ?_
      refine lv_iadd hx hb dX9_ahead_93 ?_
      refine lv_istore (lv' := [(4, .int (x4 + (thn (ix z12)))), (0, .ref (mAd 0)), (1, .int x1), (3, .int x3), (5, .int x5)]) hx hb dX9_ahead_94 hl (by decide) rfl (fun ls hl => ?_)
      refine lv_iinc (v := x5 + 1) (lv' := [(5, .int (x5 + 1)), (4, .int (x4 + (thn (ix z12)))), (0, .ref (mAd 0)), (1, .int x1), (3, .int x3)]) hx hb dX9_ahead_96 hl (k := 4) rfl rfl (by decide) rfl (fun ls hl => ?_)
      refine lv_goto (tgt := 69) hx hb dX9_ahead_99 (by decide) ?_
      exact ih (x4 + (thn (ix z12))) (x5 + 1) z H kk _ _ _ G (lv_sub hl [2, 3, 4, 1, 0] rfl)
def f_X9_ahead (thrown : Int32) (bay thn : Nat → Int32) (p1 p2 p3 : Int32) : Option (Int32 × Int32 × (Nat → Int32)) := bd (f_X9_isWater bay p1) (fun z1 => if z1 = 0 then (some ((-1000001), 0, thn)) else (bd (f_X9_in p2.toInt64 0 48) (fun z3 => if z3 = 0 then (some ((-1000001), 0, thn)) else (bd (f_X9_in p3.toInt64 0 2) (fun z5 => if z5 = 0 then (some ((-1000001), 0, thn)) else (bd (f_X9_layNow bay thn) (fun z7 => bd (f_X9_ahead_L47 bay p2 2000 z7 0) (fun z10 => bd (f_X9_ahead_L69 bay z10 p1 2000 0 0) (fun z14 => if p3 = 2 then (some (z14, 0, z10)) else (bd (f_X9_at p1 (1 + p3)) (fun z16 => gd (inb z16 75) (some (z10 (ix z16), 0, z10)))))))))))))
set_option maxHeartbeats 4000000 in
set_option maxRecDepth 100000 in
theorem c_X9_ahead (l : Launch) (D : va_G) (cy : Nat → ClassId) (mAd : Nat → Nat) (thrown status acts taped latest leng cursor token start till fault faultAt gifts traced : Int32) (lane many item bay fresh thn was tape left gift isKept kept trace : Nat → Int32) (p1 p2 p3 : Int32) (z : (Int32 × Int32 × (Nat → Int32))) (hz : f_X9_ahead thrown bay thn p1 p2 p3 = some z) : MI l yX9_ahead wsX9_ahead ({ frames := 3, cells := 0, slots := 0, locals := 69 } : Room) D cy [.ref (mAd 0), .int p1, .int p2, .int p3] (w_M cy mAd thrown status acts taped latest leng cursor token start till fault faultAt gifts traced lane many item bay fresh thn was tape left gift isKept kept trace) z.1 (w_M cy mAd z.2.1 status acts taped latest leng cursor token start till fault faultAt gifts traced lane many item bay fresh z.2.2 was tape left gift isKept kept trace) := by
  refine met_start (Qf := fun A => MQi D cy z.1 (w_M cy mAd z.2.1 status acts taped latest leng cursor token start till fault faultAt gifts traced lane many item bay fresh z.2.2 was tape left gift isKept kept trace) A) (cc := cX9_ahead) (nL := 6) (ret := (some .int)) RX9 rfl (by decide) rfl (Nat.le_of_ble_eq_true rfl) ?_
  intro p e s m below meth c A ls C G hl
  have hl : lv_has ls 6 [(0, .ref (mAd 0)), (1, .int p1), (2, .int p2), (3, .int p3)] := hl
  have H := hz
  unfold f_X9_ahead at H
  obtain ⟨hx, hb, hr, hml, hown, hts, hlk, hK, hA, hE⟩ := id C
  have lk0 := hts (Cond.fieldLink RX9 50 "TideDebtsModel" "thrown" "I") (List.mem_of_getElem? (i := 1) rfl)
  have lk1 := hts (Cond.constant RX9 70 (-1000001)) (List.mem_of_getElem? (i := 4) rfl)
  have lk2 := hts (Cond.constantLong RX9 244 (48)) (List.mem_of_getElem? (i := 2) rfl)
  have lk3 := hts (Cond.constantLong RX9 68 (2)) (List.mem_of_getElem? (i := 3) rfl)
  have lk4 := hts (Cond.fieldLink RX9 25 "TideDebtsModel" "then" "[I") (List.mem_of_getElem? (i := 6) rfl)
  have hiX9 : ∀ w ∈ u_ws RX9 TX9 27, w ∈ wsX9_ahead := fun _ h => List.mem_cons_of_mem _ (List.mem_append_right _ h)
  refine lv_aload_n hx hb dX9_ahead_0 rfl (lv_at hl 0 rfl) ?_
  refine lv_iconst (v := 0) hx hb dX9_ahead_1 (by decide) ?_
  refine va_put (D := D) (ci := 9) (v := .int 0) (ty := .int) (C := RX9) (T := TX9) (N := 27) hx hb hts hiX9 tyX9 tyX9_ok nmX9 hown hK G.1 G.2.1 G.2.2 0 rfl rfl 0 (by decide) lk0 (fun _ h9 => h9) rfl (tyX9_ok 0 (by decide)) rfl rfl (Nat.le_of_ble_eq_true rfl) dX9_ahead_2 (fun U locs hP hD hS => ?_)
  have G : Gd D A s (w_M cy mAd 0 status acts taped latest leng cursor token start till fault faultAt gifts traced lane many item bay fresh thn was tape left gift isKept kept trace) U locs := ⟨hP, hD, hS⟩
  refine lv_aload_n hx hb dX9_ahead_5 rfl (lv_at hl 0 rfl) ?_
  refine lv_iload_n hx hb dX9_ahead_6 rfl (lv_at hl 1 rfl) ?_
  obtain ⟨z1, hz1, H⟩ := bd_some H
  refine MI.callVw z1 [.int p1] [] C G (c_X9_isWater l D cy mAd 0 status acts taped latest leng cursor token start till fault faultAt gifts traced lane many item bay fresh thn was tape left gift isKept kept trace p1 z1 hz1) gX9_ahead_X9_isWater rfl rfl rfl (n := 1) (by decide +kernel) ⟨Nat.le_of_ble_eq_true rfl, Nat.le_of_ble_eq_true rfl⟩ (q0 := 0) (ci := 9) rfl rfl rfl rfl hl.1 rfl (Nat.le_of_ble_eq_true rfl) dX9_ahead_7 ⟨Nat.zero_le _, Nat.zero_le _⟩ (fun U locs G => ?_)
  have G : Gd D A s (w_M cy mAd 0 status acts taped latest leng cursor token start till fault faultAt gifts traced lane many item bay fresh thn was tape left gift isKept kept trace) U locs := G
  refine lv_if_eq (tgt := 37) hx hb dX9_ahead_10 (by decide) (fun c2 => ?_) (fun c2 => ?_)
  · have H := if_t H c2
    refine lv_ldc hx hb hown lk1 dX9_ahead_37 ?_
    obtain rfl := Option.some.inj H
    exact ret_i C G rfl dX9_ahead_39
  · have H := if_f H c2
    refine lv_iload_n hx hb dX9_ahead_13 rfl (lv_at hl 2 rfl) ?_
    refine lv_i2l hx hb dX9_ahead_14 rfl ?_
    refine lv_lconst (v := 0) hx hb dX9_ahead_15 (by decide) ?_
    refine lv_ldc2 hx hb hown lk2 dX9_ahead_16 ?_
    obtain ⟨z3, hz3, H⟩ := bd_some H
    refine MI.callS z3 [.long p2.toInt64, .long 0, .long 48] [] [] C G (c_X9_in l D cy p2.toInt64 0 48 z3 hz3) gX9_ahead_X9_in rfl rfl rfl (n := 3) (by decide +kernel) ⟨Nat.le_of_ble_eq_true rfl, Nat.le_of_ble_eq_true rfl⟩ rfl rfl rfl rfl hl.1 rfl (Nat.le_of_ble_eq_true rfl) dX9_ahead_19 ⟨Nat.zero_le _, Nat.zero_le _⟩ (fun U locs G => ?_)
    have G : Gd D A s (w_M cy mAd 0 status acts taped latest leng cursor token start till fault faultAt gifts traced lane many item bay fresh thn was tape left gift isKept kept trace) U locs := G
    refine lv_if_eq (tgt := 37) hx hb dX9_ahead_22 (by decide) (fun c4 => ?_) (fun c4 => ?_)
    · have H := if_t H c4
      refine lv_ldc hx hb hown lk1 dX9_ahead_37 ?_
      obtain rfl := Option.some.inj H
      exact ret_i C G rfl dX9_ahead_39
    · have H := if_f H c4
      refine lv_iload_n hx hb dX9_ahead_25 rfl (lv_at hl 3 rfl) ?_
      refine lv_i2l hx hb dX9_ahead_26 rfl ?_
      refine lv_lconst (v := 0) hx hb dX9_ahead_27 (by decide) ?_
      refine lv_ldc2 hx hb hown lk3 dX9_ahead_28 ?_
      obtain ⟨z5, hz5, H⟩ := bd_some H
      refine MI.callS z5 [.long p3.toInt64, .long 0, .long 2] [] [] C G (c_X9_in l D cy p3.toInt64 0 2 z5 hz5) gX9_ahead_X9_in rfl rfl rfl (n := 3) (by decide +kernel) ⟨Nat.le_of_ble_eq_true rfl, Nat.le_of_ble_eq_true rfl⟩ rfl rfl rfl rfl hl.1 rfl (Nat.le_of_ble_eq_true rfl) dX9_ahead_31 ⟨Nat.zero_le _, Nat.zero_le _⟩ (fun U locs G => ?_)
      have G : Gd D A s (w_M cy mAd 0 status acts taped latest leng cursor token start till fault faultAt gifts traced lane many item bay fresh thn was tape left gift isKept kept trace) U locs := G
      refine lv_if_ne (tgt := 40) hx hb dX9_ahead_34 (by decide) (fun c6 => ?_) (fun c6 => ?_)
      · have H := if_f H c6
        refine lv_aload_n hx hb dX9_ahead_40 rfl (lv_at hl 0 rfl) ?_
        obtain ⟨z7, hz7, H⟩ := bd_some H
        refine MV.callVw [] [] C G (c_X9_layNow l D cy mAd 0 status acts taped latest leng cursor token start till fault faultAt gifts traced lane many item bay fresh thn was tape left gift isKept kept trace z7 hz7) gX9_ahead_X9_layNow rfl rfl rfl (n := 0) (by decide +kernel) ⟨Nat.le_of_ble_eq_true rfl, Nat.le_of_ble_eq_true rfl⟩ (q0 := 0) (ci := 9) rfl rfl rfl rfl hl.1 rfl (Nat.le_of_ble_eq_true rfl) dX9_ahead_41 ⟨Nat.zero_le _, Nat.zero_le _⟩ (fun U locs G => ?_)
        have G : Gd D A s (w_M cy mAd 0 status acts taped latest leng cursor token start till fault faultAt gifts traced lane many item bay fresh z7 was tape left gift isKept kept trace) U locs := G
        refine lv_iconst (v := 0) hx hb dX9_ahead_44 (by decide) ?_
        refine lv_istore (lv' := [(4, .int 0), (0, .ref (mAd 0)), (1, .int p1), (2, .int p2), (3, .int p3)]) hx hb dX9_ahead_45 hl (by decide) rfl (fun ls hl => ?_)
        obtain ⟨z10, hz10, H⟩ := bd_some H
        refine wl_X9_ahead_47 C mAd 0 status acts taped latest leng cursor token start till fault faultAt gifts traced lane many item bay fresh was tape left gift isKept kept trace p1 p2 p3 _ z7 0 z10 hz10 (fun U locs ls G hl => ?_) _ _ _ G (lv_sub hl [1, 2, 3, 4, 0] rfl)
        have G : Gd D A s (w_M cy mAd 0 status acts taped latest leng cursor token start till fault faultAt gifts traced lane many item bay fresh z10 was tape left gift isKept kept trace) U locs := G
        have hl : lv_has ls 6 [(0, .ref (mAd 0)), (1, .int p1), (3, .int p3)] := hl
        refine lv_iconst (v := 0) hx hb dX9_ahead_63 (by decide) ?_
        refine lv_istore (lv' := [(4, .int 0), (0, .ref (mAd 0)), (1, .int p1), (3, .int p3)]) hx hb dX9_ahead_64 hl (by decide) rfl (fun ls hl => ?_)
        refine lv_iconst (v := 0) hx hb dX9_ahead_66 (by decide) ?_
        refine lv_istore (lv' := [(5, .int 0), (4, .int 0), (0, .ref (mAd 0)), (1, .int p1), (3, .int p3)]) hx hb dX9_ahead_67 hl (by decide) rfl (fun ls hl => ?_)
        obtain ⟨z14, hz14, H⟩ := bd_some H
        refine wl_X9_ahead_69 C mAd 0 status acts taped latest leng cursor token start till fault faultAt gifts traced lane many item bay fresh z10 was tape left gift isKept kept trace p1 p3 _ 0 0 z14 hz14 (fun U locs ls G hl => ?_) _ _ _ G (lv_sub hl [2, 3, 4, 1, 0] rfl)
        have G : Gd D A s (w_M cy mAd 0 status acts taped latest leng cursor token start till fault faultAt gifts traced lane many item bay fresh z10 was tape left gift isKept kept trace) U locs := G
        have hl : lv_has ls 6 [(0, .ref (mAd 0)), (1, .int p1), (3, .int p3), (4, .int z14)] := hl
        refine lv_iload_n hx hb dX9_ahead_102 rfl (lv_at hl 2 rfl) ?_
        refine lv_iconst (v := 2) hx hb dX9_ahead_103 (by decide) ?_
        refine lv_icmp_ne (tgt := 112) hx hb dX9_ahead_104 (by decide) (fun c15 => ?_) (fun c15 => ?_)
        · have H := if_f H c15
          refine lv_aload_n hx hb dX9_ahead_112 rfl (lv_at hl 0 rfl) ?_
          refine va_get (D := D) (ci := 9) (v := .ref (mAd 6)) (C := RX9) (T := TX9) (N := 27) hx hb hts hiX9 hown hK G.1 0 rfl rfl 7 (by decide) lk4 (fun _ h9 => h9) rfl dX9_ahead_113 ?_
          refine lv_iload_n hx hb dX9_ahead_116 rfl (lv_at hl 1 rfl) ?_
          refine lv_iconst (v := 1) hx hb dX9_ahead_117 (by decide) ?_
          refine lv_iload_n hx hb dX9_ahead_118 rfl (lv_at hl 2 rfl) ?_
          refine lv_iadd hx hb dX9_ahead_119 ?_
          obtain ⟨z16, hz16, H⟩ := bd_some H
          refine MI.callS z16 [.int p1, .int (1 + p3)] [.ref (mAd 6)] [] C G (c_X9_at l D cy p1 (1 + p3) z16 hz16) gX9_ahead_X9_at rfl rfl rfl (n := 2) (by decide +kernel) ⟨Nat.le_of_ble_eq_true rfl, Nat.le_of_ble_eq_true rfl⟩ rfl rfl rfl rfl hl.1 rfl (Nat.le_of_ble_eq_true rfl) dX9_ahead_120 ⟨Nat.zero_le _, Nat.zero_le _⟩ (fun U locs G => ?_)
          have G : Gd D A s (w_M cy mAd 0 status acts taped latest leng cursor token start till fault faultAt gifts traced lane many item bay fresh z10 was tape left gift isKept kept trace) U locs := G
          obtain ⟨hb17, H⟩ := gd_some H
          refine g_iald (v := z10 (ix z16)) hx hb hK G.1 6 1 rfl rfl hb17 rfl dX9_ahead_123 ?_
          obtain rfl := Option.some.inj H
          exact ret_i C G rfl dX9_ahead_124
        · have H := if_t H c15
          refine lv_iload hx hb dX9_ahead_107 (lv_at hl 3 rfl) ?_
          refine lv_goto (tgt := 124) hx hb dX9_ahead_109 (by decide) ?_
          obtain rfl := Option.some.inj H
          exact ret_i C G rfl dX9_ahead_124
      · have H := if_t H c6
        refine lv_ldc hx hb hown lk1 dX9_ahead_37 ?_
        obtain rfl := Option.some.inj H
        exact ret_i C G rfl dX9_ahead_39
def f_X9_deepFrom_L7 (bay : Nat → Int32) (x1 x2 x3 x4 : Int32) : Nat → (Nat → Int32) → Int32 → Option (Int32 × (Nat → Int32))
  | 0, _, _ => none
  | n + 1, thn, x5 => if x4 < x5 then (some ((-1000000), thn)) else (if x5 < x3 then (bd (f_X9_goHour bay thn) (fun z4 => f_X9_deepFrom_L7 bay x1 x2 x3 x4 n z4 (x5 + 1))) else (bd (f_X9_at x1 1) (fun z5 => gd (inb z5 75) (if (thn (ix z5)) < x2 then (bd (f_X9_goHour bay thn) (fun z8 => f_X9_deepFrom_L7 bay x1 x2 x3 x4 n z8 (x5 + 1))) else (some (x5, thn))))))
theorem f_X9_deepFrom_L7_z (bay : Nat → Int32) (x1 x2 x3 x4 : Int32) (thn : Nat → Int32) (x5 : Int32) : f_X9_deepFrom_L7 bay x1 x2 x3 x4 0 thn x5 = none := rfl
theorem f_X9_deepFrom_L7_s (bay : Nat → Int32) (x1 x2 x3 x4 : Int32) (n : Nat) (thn : Nat → Int32) (x5 : Int32) : f_X9_deepFrom_L7 bay x1 x2 x3 x4 (n + 1) thn x5 = if x4 < x5 then (some ((-1000000), thn)) else (if x5 < x3 then (bd (f_X9_goHour bay thn) (fun z4 => f_X9_deepFrom_L7 bay x1 x2 x3 x4 n z4 (x5 + 1))) else (bd (f_X9_at x1 1) (fun z5 => gd (inb z5 75) (if (thn (ix z5)) < x2 then (bd (f_X9_goHour bay thn) (fun z8 => f_X9_deepFrom_L7 bay x1 x2 x3 x4 n z8 (x5 + 1))) else (some (x5, thn)))))) := rfl
set_option maxHeartbeats 4000000 in
set_option maxRecDepth 100000 in
theorem wl_X9_deepFrom_7 {p : Program} {l : Launch} {e : Env} {s : State} {m : MethodId} {below : List Frame} {meth : Method} {c : Code} {D : va_G} {cy : Nat → ClassId} {A : Nat → Prop} {args : Array Value} (C : Cx D cy A p s m meth c cX9_deepFrom 6 (some .int) wsX9_deepFrom RX9 args) (mAd : Nat → Nat) (thrown status acts taped latest leng cursor token start till fault faultAt gifts traced : Int32) (lane many item bay fresh was tape left gift isKept kept trace : Nat → Int32) (x1 x2 x3 x4 : Int32) :
    ∀ (n : Nat) (thn : Nat → Int32) (x5 : Int32) (z : (Int32 × (Nat → Int32))), f_X9_deepFrom_L7 bay x1 x2 x3 x4 n thn x5 = some z → ∀ (U : Heap) (locs : List Loc) (ls : Array Slot), Gd D A s (w_M cy mAd thrown status acts taped latest leng cursor token start till fault faultAt gifts traced lane many item bay fresh thn was tape left gift isKept kept trace) U locs → lv_has ls 6 [(0, .ref (mAd 0)), (1, .int x1), (2, .int x2), (3, .int x3), (4, .int x4), (5, .int x5)] → W p l e ({ frames := 3, cells := 0, slots := 0, locals := 69 } : Room) s m args below meth c U locs 0 0 (MQ below (MQi D cy z.1 (w_M cy mAd thrown status acts taped latest leng cursor token start till fault faultAt gifts traced lane many item bay fresh z.2 was tape left gift isKept kept trace) A) args s 0 0 A) (F0 m 7 ls []) := by
  obtain ⟨hx, hb, hr, hml, hown, hts, hlk, hK, hA, hE⟩ := id C
  have lk0 := hts (Cond.constant RX9 86 (-1000000)) (List.mem_of_getElem? (i := 2) rfl)
  have lk1 := hts (Cond.fieldLink RX9 25 "TideDebtsModel" "then" "[I") (List.mem_of_getElem? (i := 1) rfl)
  have hiX9 : ∀ w ∈ u_ws RX9 TX9 27, w ∈ wsX9_deepFrom := fun _ h => List.mem_cons_of_mem _ (List.mem_append_right _ h)
  intro n
  induction n with
  | zero =>
    intro thn x5 z H
    rw [f_X9_deepFrom_L7_z] at H
    cases H
  | succ n ih =>
    intro thn x5 z H U locs ls G hl
    rw [f_X9_deepFrom_L7_s] at H
    refine lv_iload hx hb dX9_deepFrom_7 (lv_at hl 5 rfl) ?_
    refine lv_iload hx hb dX9_deepFrom_9 (lv_at hl 4 rfl) ?_
    refine lv_icmp_gt (tgt := 47) hx hb dX9_deepFrom_11 (by decide) (fun c2 => ?_) (fun c2 => ?_)
    · have H := if_t H c2
      refine lv_ldc hx hb hown lk0 dX9_deepFrom_47 ?_
      obtain rfl := Option.some.inj H
      exact ret_i C G rfl dX9_deepFrom_49
    · have H := if_f H c2
      refine lv_iload hx hb dX9_deepFrom_14 (lv_at hl 5 rfl) ?_
      refine lv_iload_n hx hb dX9_deepFrom_16 rfl (lv_at hl 3 rfl) ?_
      refine lv_icmp_lt (tgt := 37) hx hb dX9_deepFrom_17 (by decide) (fun c3 => ?_) (fun c3 => ?_)
      · have H := if_t H c3
        refine lv_aload_n hx hb dX9_deepFrom_37 rfl (lv_at hl 0 rfl) ?_
        obtain ⟨z4, hz4, H⟩ := bd_some H
        refine MV.callVw [] [] C G (c_X9_goHour l D cy mAd thrown status acts taped latest leng cursor token start till fault faultAt gifts traced lane many item bay fresh thn was tape left gift isKept kept trace z4 hz4) gX9_deepFrom_X9_goHour rfl rfl rfl (n := 0) (by decide +kernel) ⟨Nat.le_of_ble_eq_true rfl, Nat.le_of_ble_eq_true rfl⟩ (q0 := 0) (ci := 9) rfl rfl rfl rfl hl.1 rfl (Nat.le_of_ble_eq_true rfl) dX9_deepFrom_38 ⟨Nat.zero_le _, Nat.zero_le _⟩ (fun U locs G => ?_)
        have G : Gd D A s (w_M cy mAd thrown status acts taped latest leng cursor token start till fault faultAt gifts traced lane many item bay fresh z4 was tape left gift isKept kept trace) U locs := G
        refine lv_iinc (v := x5 + 1) (lv' := [(5, .int (x5 + 1)), (0, .ref (mAd 0)), (1, .int x1), (2, .int x2), (3, .int x3), (4, .int x4)]) hx hb dX9_deepFrom_41 hl (k := 5) rfl rfl (by decide) rfl (fun ls hl => ?_)
        refine lv_goto (tgt := 7) hx hb dX9_deepFrom_44 (by decide) ?_
        exact ih z4 (x5 + 1) z H _ _ _ G (lv_sub hl [1, 2, 3, 4, 5, 0] rfl)
      · have H := if_f H c3
        refine lv_aload_n hx hb dX9_deepFrom_20 rfl (lv_at hl 0 rfl) ?_
        refine va_get (D := D) (ci := 9) (v := .ref (mAd 6)) (C := RX9) (T := TX9) (N := 27) hx hb hts hiX9 hown hK G.1 0 rfl rfl 7 (by decide) lk1 (fun _ h9 => h9) rfl dX9_deepFrom_21 ?_
        refine lv_iload_n hx hb dX9_deepFrom_24 rfl (lv_at hl 1 rfl) ?_
        refine lv_iconst (v := 1) hx hb dX9_deepFrom_25 (by decide) ?_
        obtain ⟨z5, hz5, H⟩ := bd_some H
        refine MI.callS z5 [.int x1, .int 1] [.ref (mAd 6)] [] C G (c_X9_at l D cy x1 1 z5 hz5) gX9_deepFrom_X9_at rfl rfl rfl (n := 2) (by decide +kernel) ⟨Nat.le_of_ble_eq_true rfl, Nat.le_of_ble_eq_true rfl⟩ rfl rfl rfl rfl hl.1 rfl (Nat.le_of_ble_eq_true rfl) dX9_deepFrom_26 ⟨Nat.zero_le _, Nat.zero_le _⟩ (fun U locs G => ?_)
        have G : Gd D A s (w_M cy mAd thrown status acts taped latest leng cursor token start till fault faultAt gifts traced lane many item bay fresh thn was tape left gift isKept kept trace) U locs := G
        obtain ⟨hb6, H⟩ := gd_some H
        refine g_iald (v := thn (ix z5)) hx hb hK G.1 6 1 rfl rfl hb6 rfl dX9_deepFrom_29 ?_
        refine lv_iload_n hx hb dX9_deepFrom_30 rfl (lv_at hl 2 rfl) ?_
        refine lv_icmp_lt (tgt := 37) hx hb dX9_deepFrom_31 (by decide) (fun c7 => ?_) (fun c7 => ?_)
        · have H := if_t H c7
          refine lv_aload_n hx hb dX9_deepFrom_37 rfl (lv_at hl 0 rfl) ?_
          obtain ⟨z8, hz8, H⟩ := bd_some H
          refine MV.callVw [] [] C G (c_X9_goHour l D cy mAd thrown status acts taped latest leng cursor token start till fault faultAt gifts traced lane many item bay fresh thn was tape left gift isKept kept trace z8 hz8) gX9_deepFrom_X9_goHour rfl rfl rfl (n := 0) (by decide +kernel) ⟨Nat.le_of_ble_eq_true rfl, Nat.le_of_ble_eq_true rfl⟩ (q0 := 0) (ci := 9) rfl rfl rfl rfl hl.1 rfl (Nat.le_of_ble_eq_true rfl) dX9_deepFrom_38 ⟨Nat.zero_le _, Nat.zero_le _⟩ (fun U locs G => ?_)
          have G : Gd D A s (w_M cy mAd thrown status acts taped latest leng cursor token start till fault faultAt gifts traced lane many item bay fresh z8 was tape left gift isKept kept trace) U locs := G
          refine lv_iinc (v := x5 + 1) (lv' := [(5, .int (x5 + 1)), (0, .ref (mAd 0)), (1, .int x1), (2, .int x2), (3, .int x3), (4, .int x4)]) hx hb dX9_deepFrom_41 hl (k := 5) rfl rfl (by decide) rfl (fun ls hl => ?_)
          refine lv_goto (tgt := 7) hx hb dX9_deepFrom_44 (by decide) ?_
          exact ih z8 (x5 + 1) z H _ _ _ G (lv_sub hl [1, 2, 3, 4, 5, 0] rfl)
        · have H := if_f H c7
          refine lv_iload hx hb dX9_deepFrom_34 (lv_at hl 5 rfl) ?_
          obtain rfl := Option.some.inj H
          exact ret_i C G rfl dX9_deepFrom_36
def f_X9_deepFrom (bay thn : Nat → Int32) (p1 p2 p3 p4 : Int32) : Option (Int32 × (Nat → Int32)) := bd (f_X9_layNow bay thn) (fun z1 => f_X9_deepFrom_L7 bay p1 p2 p3 p4 2000 z1 0)
set_option maxHeartbeats 4000000 in
set_option maxRecDepth 100000 in
theorem c_X9_deepFrom (l : Launch) (D : va_G) (cy : Nat → ClassId) (mAd : Nat → Nat) (thrown status acts taped latest leng cursor token start till fault faultAt gifts traced : Int32) (lane many item bay fresh thn was tape left gift isKept kept trace : Nat → Int32) (p1 p2 p3 p4 : Int32) (z : (Int32 × (Nat → Int32))) (hz : f_X9_deepFrom bay thn p1 p2 p3 p4 = some z) : MI l yX9_deepFrom wsX9_deepFrom ({ frames := 3, cells := 0, slots := 0, locals := 69 } : Room) D cy [.ref (mAd 0), .int p1, .int p2, .int p3, .int p4] (w_M cy mAd thrown status acts taped latest leng cursor token start till fault faultAt gifts traced lane many item bay fresh thn was tape left gift isKept kept trace) z.1 (w_M cy mAd thrown status acts taped latest leng cursor token start till fault faultAt gifts traced lane many item bay fresh z.2 was tape left gift isKept kept trace) := by
  refine met_start (Qf := fun A => MQi D cy z.1 (w_M cy mAd thrown status acts taped latest leng cursor token start till fault faultAt gifts traced lane many item bay fresh z.2 was tape left gift isKept kept trace) A) (cc := cX9_deepFrom) (nL := 6) (ret := (some .int)) RX9 rfl (by decide) rfl (Nat.le_of_ble_eq_true rfl) ?_
  intro p e s m below meth c A ls C G hl
  have hl : lv_has ls 6 [(0, .ref (mAd 0)), (1, .int p1), (2, .int p2), (3, .int p3), (4, .int p4)] := hl
  have H := hz
  unfold f_X9_deepFrom at H
  obtain ⟨hx, hb, hr, hml, hown, hts, hlk, hK, hA, hE⟩ := id C
  refine lv_aload_n hx hb dX9_deepFrom_0 rfl (lv_at hl 0 rfl) ?_
  obtain ⟨z1, hz1, H⟩ := bd_some H
  refine MV.callVw [] [] C G (c_X9_layNow l D cy mAd thrown status acts taped latest leng cursor token start till fault faultAt gifts traced lane many item bay fresh thn was tape left gift isKept kept trace z1 hz1) gX9_deepFrom_X9_layNow rfl rfl rfl (n := 0) (by decide +kernel) ⟨Nat.le_of_ble_eq_true rfl, Nat.le_of_ble_eq_true rfl⟩ (q0 := 0) (ci := 9) rfl rfl rfl rfl hl.1 rfl (Nat.le_of_ble_eq_true rfl) dX9_deepFrom_1 ⟨Nat.zero_le _, Nat.zero_le _⟩ (fun U locs G => ?_)
  have G : Gd D A s (w_M cy mAd thrown status acts taped latest leng cursor token start till fault faultAt gifts traced lane many item bay fresh z1 was tape left gift isKept kept trace) U locs := G
  refine lv_iconst (v := 0) hx hb dX9_deepFrom_4 (by decide) ?_
  refine lv_istore (lv' := [(5, .int 0), (0, .ref (mAd 0)), (1, .int p1), (2, .int p2), (3, .int p3), (4, .int p4)]) hx hb dX9_deepFrom_5 hl (by decide) rfl (fun ls hl => ?_)
  exact wl_X9_deepFrom_7 C mAd thrown status acts taped latest leng cursor token start till fault faultAt gifts traced lane many item bay fresh was tape left gift isKept kept trace p1 p2 p3 p4 _ z1 0 z H _ _ _ G (lv_sub hl [1, 2, 3, 4, 5, 0] rfl)
def f_X9_sail (thrown : Int32) (bay thn : Nat → Int32) (p1 p2 p3 p4 : Int32) : Option (Int32 × Int32 × (Nat → Int32)) := bd (f_X9_isWater bay p1) (fun z1 => if z1 = 0 then (some ((-1000001), 0, thn)) else (bd (f_X9_in p2.toInt64 0 999) (fun z3 => if z3 = 0 then (some ((-1000001), 0, thn)) else (bd (f_X9_in p3.toInt64 1 24) (fun z5 => if z5 = 0 then (some ((-1000001), 0, thn)) else (bd (f_X9_in p4.toInt64 0 1) (fun z7 => if z7 = 0 then (some ((-1000001), 0, thn)) else (bd (f_X9_deepFrom bay thn p1 p2 0 24) (fun z9 => if p4 = 0 then (some (z9.1, 0, z9.2)) else (if z9.1 = (-1000000) then (some (z9.1, 0, z9.2)) else (bd (f_X9_deepFrom bay z9.2 p1 p2 (z9.1 + p3) 48) (fun z12 => some (z12.1, 0, z12.2)))))))))))))
set_option maxHeartbeats 4000000 in
set_option maxRecDepth 100000 in
theorem c_X9_sail (l : Launch) (D : va_G) (cy : Nat → ClassId) (mAd : Nat → Nat) (thrown status acts taped latest leng cursor token start till fault faultAt gifts traced : Int32) (lane many item bay fresh thn was tape left gift isKept kept trace : Nat → Int32) (p1 p2 p3 p4 : Int32) (z : (Int32 × Int32 × (Nat → Int32))) (hz : f_X9_sail thrown bay thn p1 p2 p3 p4 = some z) : MI l yX9_sail wsX9_sail ({ frames := 4, cells := 0, slots := 0, locals := 94 } : Room) D cy [.ref (mAd 0), .int p1, .int p2, .int p3, .int p4] (w_M cy mAd thrown status acts taped latest leng cursor token start till fault faultAt gifts traced lane many item bay fresh thn was tape left gift isKept kept trace) z.1 (w_M cy mAd z.2.1 status acts taped latest leng cursor token start till fault faultAt gifts traced lane many item bay fresh z.2.2 was tape left gift isKept kept trace) := by
  refine met_start (Qf := fun A => MQi D cy z.1 (w_M cy mAd z.2.1 status acts taped latest leng cursor token start till fault faultAt gifts traced lane many item bay fresh z.2.2 was tape left gift isKept kept trace) A) (cc := cX9_sail) (nL := 6) (ret := (some .int)) RX9 rfl (by decide) rfl (Nat.le_of_ble_eq_true rfl) ?_
  intro p e s m below meth c A ls C G hl
  have hl : lv_has ls 6 [(0, .ref (mAd 0)), (1, .int p1), (2, .int p2), (3, .int p3), (4, .int p4)] := hl
  have H := hz
  unfold f_X9_sail at H
  obtain ⟨hx, hb, hr, hml, hown, hts, hlk, hK, hA, hE⟩ := id C
  have lk0 := hts (Cond.fieldLink RX9 50 "TideDebtsModel" "thrown" "I") (List.mem_of_getElem? (i := 1) rfl)
  have lk1 := hts (Cond.constant RX9 70 (-1000001)) (List.mem_of_getElem? (i := 4) rfl)
  have lk2 := hts (Cond.constantLong RX9 212 (999)) (List.mem_of_getElem? (i := 2) rfl)
  have lk3 := hts (Cond.constantLong RX9 197 (24)) (List.mem_of_getElem? (i := 3) rfl)
  have lk4 := hts (Cond.constant RX9 86 (-1000000)) (List.mem_of_getElem? (i := 5) rfl)
  have hiX9 : ∀ w ∈ u_ws RX9 TX9 27, w ∈ wsX9_sail := fun _ h => List.mem_cons_of_mem _ (List.mem_append_right _ h)
  refine lv_aload_n hx hb dX9_sail_0 rfl (lv_at hl 0 rfl) ?_
  refine lv_iconst (v := 0) hx hb dX9_sail_1 (by decide) ?_
  refine va_put (D := D) (ci := 9) (v := .int 0) (ty := .int) (C := RX9) (T := TX9) (N := 27) hx hb hts hiX9 tyX9 tyX9_ok nmX9 hown hK G.1 G.2.1 G.2.2 0 rfl rfl 0 (by decide) lk0 (fun _ h9 => h9) rfl (tyX9_ok 0 (by decide)) rfl rfl (Nat.le_of_ble_eq_true rfl) dX9_sail_2 (fun U locs hP hD hS => ?_)
  have G : Gd D A s (w_M cy mAd 0 status acts taped latest leng cursor token start till fault faultAt gifts traced lane many item bay fresh thn was tape left gift isKept kept trace) U locs := ⟨hP, hD, hS⟩
  refine lv_aload_n hx hb dX9_sail_5 rfl (lv_at hl 0 rfl) ?_
  refine lv_iload_n hx hb dX9_sail_6 rfl (lv_at hl 1 rfl) ?_
  obtain ⟨z1, hz1, H⟩ := bd_some H
  refine MI.callVw z1 [.int p1] [] C G (c_X9_isWater l D cy mAd 0 status acts taped latest leng cursor token start till fault faultAt gifts traced lane many item bay fresh thn was tape left gift isKept kept trace p1 z1 hz1) gX9_sail_X9_isWater rfl rfl rfl (n := 1) (by decide +kernel) ⟨Nat.le_of_ble_eq_true rfl, Nat.le_of_ble_eq_true rfl⟩ (q0 := 0) (ci := 9) rfl rfl rfl rfl hl.1 rfl (Nat.le_of_ble_eq_true rfl) dX9_sail_7 ⟨Nat.zero_le _, Nat.zero_le _⟩ (fun U locs G => ?_)
  have G : Gd D A s (w_M cy mAd 0 status acts taped latest leng cursor token start till fault faultAt gifts traced lane many item bay fresh thn was tape left gift isKept kept trace) U locs := G
  refine lv_if_eq (tgt := 48) hx hb dX9_sail_10 (by decide) (fun c2 => ?_) (fun c2 => ?_)
  · have H := if_t H c2
    refine lv_ldc hx hb hown lk1 dX9_sail_48 ?_
    obtain rfl := Option.some.inj H
    exact ret_i C G rfl dX9_sail_50
  · have H := if_f H c2
    refine lv_iload_n hx hb dX9_sail_13 rfl (lv_at hl 2 rfl) ?_
    refine lv_i2l hx hb dX9_sail_14 rfl ?_
    refine lv_lconst (v := 0) hx hb dX9_sail_15 (by decide) ?_
    refine lv_ldc2 hx hb hown lk2 dX9_sail_16 ?_
    obtain ⟨z3, hz3, H⟩ := bd_some H
    refine MI.callS z3 [.long p2.toInt64, .long 0, .long 999] [] [] C G (c_X9_in l D cy p2.toInt64 0 999 z3 hz3) gX9_sail_X9_in rfl rfl rfl (n := 3) (by decide +kernel) ⟨Nat.le_of_ble_eq_true rfl, Nat.le_of_ble_eq_true rfl⟩ rfl rfl rfl rfl hl.1 rfl (Nat.le_of_ble_eq_true rfl) dX9_sail_19 ⟨Nat.zero_le _, Nat.zero_le _⟩ (fun U locs G => ?_)
    have G : Gd D A s (w_M cy mAd 0 status acts taped latest leng cursor token start till fault faultAt gifts traced lane many item bay fresh thn was tape left gift isKept kept trace) U locs := G
    refine lv_if_eq (tgt := 48) hx hb dX9_sail_22 (by decide) (fun c4 => ?_) (fun c4 => ?_)
    · have H := if_t H c4
      refine lv_ldc hx hb hown lk1 dX9_sail_48 ?_
      obtain rfl := Option.some.inj H
      exact ret_i C G rfl dX9_sail_50
    · have H := if_f H c4
      refine lv_iload_n hx hb dX9_sail_25 rfl (lv_at hl 3 rfl) ?_
      refine lv_i2l hx hb dX9_sail_26 rfl ?_
      refine lv_lconst (v := 1) hx hb dX9_sail_27 (by decide) ?_
      refine lv_ldc2 hx hb hown lk3 dX9_sail_28 ?_
      obtain ⟨z5, hz5, H⟩ := bd_some H
      refine MI.callS z5 [.long p3.toInt64, .long 1, .long 24] [] [] C G (c_X9_in l D cy p3.toInt64 1 24 z5 hz5) gX9_sail_X9_in rfl rfl rfl (n := 3) (by decide +kernel) ⟨Nat.le_of_ble_eq_true rfl, Nat.le_of_ble_eq_true rfl⟩ rfl rfl rfl rfl hl.1 rfl (Nat.le_of_ble_eq_true rfl) dX9_sail_31 ⟨Nat.zero_le _, Nat.zero_le _⟩ (fun U locs G => ?_)
      have G : Gd D A s (w_M cy mAd 0 status acts taped latest leng cursor token start till fault faultAt gifts traced lane many item bay fresh thn was tape left gift isKept kept trace) U locs := G
      refine lv_if_eq (tgt := 48) hx hb dX9_sail_34 (by decide) (fun c6 => ?_) (fun c6 => ?_)
      · have H := if_t H c6
        refine lv_ldc hx hb hown lk1 dX9_sail_48 ?_
        obtain rfl := Option.some.inj H
        exact ret_i C G rfl dX9_sail_50
      · have H := if_f H c6
        refine lv_iload hx hb dX9_sail_37 (lv_at hl 4 rfl) ?_
        refine lv_i2l hx hb dX9_sail_39 rfl ?_
        refine lv_lconst (v := 0) hx hb dX9_sail_40 (by decide) ?_
        refine lv_lconst (v := 1) hx hb dX9_sail_41 (by decide) ?_
        obtain ⟨z7, hz7, H⟩ := bd_some H
        refine MI.callS z7 [.long p4.toInt64, .long 0, .long 1] [] [] C G (c_X9_in l D cy p4.toInt64 0 1 z7 hz7) gX9_sail_X9_in rfl rfl rfl (n := 3) (by decide +kernel) ⟨Nat.le_of_ble_eq_true rfl, Nat.le_of_ble_eq_true rfl⟩ rfl rfl rfl rfl hl.1 rfl (Nat.le_of_ble_eq_true rfl) dX9_sail_42 ⟨Nat.zero_le _, Nat.zero_le _⟩ (fun U locs G => ?_)
        have G : Gd D A s (w_M cy mAd 0 status acts taped latest leng cursor token start till fault faultAt gifts traced lane many item bay fresh thn was tape left gift isKept kept trace) U locs := G
        refine lv_if_ne (tgt := 51) hx hb dX9_sail_45 (by decide) (fun c8 => ?_) (fun c8 => ?_)
        · have H := if_f H c8
          refine lv_aload_n hx hb dX9_sail_51 rfl (lv_at hl 0 rfl) ?_
          refine lv_iload_n hx hb dX9_sail_52 rfl (lv_at hl 1 rfl) ?_
          refine lv_iload_n hx hb dX9_sail_53 rfl (lv_at hl 2 rfl) ?_
          refine lv_iconst (v := 0) hx hb dX9_sail_54 (by decide) ?_
          refine lv_bipush (v := 24) hx hb dX9_sail_55 (by decide) ?_
          obtain ⟨z9, hz9, H⟩ := bd_some H
          refine MI.callVw z9.1 [.int p1, .int p2, .int 0, .int 24] [] C G (c_X9_deepFrom l D cy mAd 0 status acts taped latest leng cursor token start till fault faultAt gifts traced lane many item bay fresh thn was tape left gift isKept kept trace p1 p2 0 24 z9 hz9) gX9_sail_X9_deepFrom rfl rfl rfl (n := 4) (by decide +kernel) ⟨Nat.le_of_ble_eq_true rfl, Nat.le_of_ble_eq_true rfl⟩ (q0 := 0) (ci := 9) rfl rfl rfl rfl hl.1 rfl (Nat.le_of_ble_eq_true rfl) dX9_sail_57 ⟨Nat.zero_le _, Nat.zero_le _⟩ (fun U locs G => ?_)
          have G : Gd D A s (w_M cy mAd 0 status acts taped latest leng cursor token start till fault faultAt gifts traced lane many item bay fresh z9.2 was tape left gift isKept kept trace) U locs := G
          refine lv_istore (lv' := [(5, .int z9.1), (0, .ref (mAd 0)), (1, .int p1), (2, .int p2), (3, .int p3), (4, .int p4)]) hx hb dX9_sail_60 hl (by decide) rfl (fun ls hl => ?_)
          refine lv_iload hx hb dX9_sail_62 (lv_at hl 5 rfl) ?_
          refine lv_if_eq (tgt := 74) hx hb dX9_sail_64 (by decide) (fun c10 => ?_) (fun c10 => ?_)
          · have H := if_t H c10
            refine lv_iload hx hb dX9_sail_74 (lv_at hl 0 rfl) ?_
            refine lv_goto (tgt := 91) hx hb dX9_sail_76 (by decide) ?_
            obtain rfl := Option.some.inj H
            exact ret_i C G rfl dX9_sail_91
          · have H := if_f H c10
            refine lv_iload hx hb dX9_sail_67 (lv_at hl 0 rfl) ?_
            refine lv_ldc hx hb hown lk4 dX9_sail_69 ?_
            refine lv_icmp_ne (tgt := 79) hx hb dX9_sail_71 (by decide) (fun c11 => ?_) (fun c11 => ?_)
            · have H := if_f H c11
              refine lv_aload_n hx hb dX9_sail_79 rfl (lv_at hl 1 rfl) ?_
              refine lv_iload_n hx hb dX9_sail_80 rfl (lv_at hl 2 rfl) ?_
              refine lv_iload_n hx hb dX9_sail_81 rfl (lv_at hl 3 rfl) ?_
              refine lv_iload hx hb dX9_sail_82 (lv_at hl 0 rfl) ?_
              refine lv_iload_n hx hb dX9_sail_84 rfl (lv_at hl 4 rfl) ?_
              refine lv_iadd hx hb dX9_sail_85 ?_
              refine lv_bipush (v := 48) hx hb dX9_sail_86 (by decide) ?_
              obtain ⟨z12, hz12, H⟩ := bd_some H
              refine MI.callVw z12.1 [.int p1, .int p2, .int (z9.1 + p3), .int 48] [] C G (c_X9_deepFrom l D cy mAd 0 status acts taped latest leng cursor token start till fault faultAt gifts traced lane many item bay fresh z9.2 was tape left gift isKept kept trace p1 p2 (z9.1 + p3) 48 z12 hz12) gX9_sail_X9_deepFrom rfl rfl rfl (n := 4) (by decide +kernel) ⟨Nat.le_of_ble_eq_true rfl, Nat.le_of_ble_eq_true rfl⟩ (q0 := 0) (ci := 9) rfl rfl rfl rfl hl.1 rfl (Nat.le_of_ble_eq_true rfl) dX9_sail_88 ⟨Nat.zero_le _, Nat.zero_le _⟩ (fun U locs G => ?_)
              have G : Gd D A s (w_M cy mAd 0 status acts taped latest leng cursor token start till fault faultAt gifts traced lane many item bay fresh z12.2 was tape left gift isKept kept trace) U locs := G
              obtain rfl := Option.some.inj H
              exact ret_i C G rfl dX9_sail_91
            · have H := if_t H c11
              refine lv_iload hx hb dX9_sail_74 (lv_at hl 0 rfl) ?_
              refine lv_goto (tgt := 91) hx hb dX9_sail_76 (by decide) ?_
              obtain rfl := Option.some.inj H
              exact ret_i C G rfl dX9_sail_91
        · have H := if_t H c8
          refine lv_ldc hx hb hown lk1 dX9_sail_48 ?_
          obtain rfl := Option.some.inj H
          exact ret_i C G rfl dX9_sail_50
def f_X9_net (thrown gifts : Int32) (bay left gift : Nat → Int32) (p1 p2 : Int32) : Option (Int32 × Int32 × Int32 × (Nat → Int32) × (Nat → Int32)) := bd (f_X9_isThere bay) (fun z1 => if z1 = 0 then (some ((-1000002), 0, gifts, left, gift)) else (if p1 < (-2) then (some ((-1000001), 0, gifts, left, gift)) else (bd (f_X9_in p2.toInt64 0 2) (fun z4 => if z4 = 0 then (some ((-1000001), 0, gifts, left, gift)) else (if p1 = (-2) then (bd (f_X9_canNet bay) (fun z11 => if z11 = 0 then (some (0, 0, gifts, left, gift)) else (some (1, 0, gifts, left, gift)))) else (bd (f_X9_layGifts gifts bay left gift) (fun z7 => if p1 = (-1) then (some (z7.1, 0, z7.1, z7.2.1, z7.2.2)) else (if z7.1 ≤ p1 then (some ((-1000000), 0, z7.1, z7.2.1, z7.2.2)) else (gd (inb ((3 * p1) + p2) 36) (some (z7.2.2 (ix ((3 * p1) + p2)), 0, z7.1, z7.2.1, z7.2.2)))))))))))
set_option maxHeartbeats 4000000 in
set_option maxRecDepth 100000 in
theorem c_X9_net (l : Launch) (D : va_G) (cy : Nat → ClassId) (mAd : Nat → Nat) (thrown status acts taped latest leng cursor token start till fault faultAt gifts traced : Int32) (lane many item bay fresh thn was tape left gift isKept kept trace : Nat → Int32) (p1 p2 : Int32) (z : (Int32 × Int32 × Int32 × (Nat → Int32) × (Nat → Int32))) (hz : f_X9_net thrown gifts bay left gift p1 p2 = some z) : MI l yX9_net wsX9_net ({ frames := 3, cells := 0, slots := 0, locals := 67 } : Room) D cy [.ref (mAd 0), .int p1, .int p2] (w_M cy mAd thrown status acts taped latest leng cursor token start till fault faultAt gifts traced lane many item bay fresh thn was tape left gift isKept kept trace) z.1 (w_M cy mAd z.2.1 status acts taped latest leng cursor token start till fault faultAt z.2.2.1 traced lane many item bay fresh thn was tape z.2.2.2.1 z.2.2.2.2 isKept kept trace) := by
  refine met_start (Qf := fun A => MQi D cy z.1 (w_M cy mAd z.2.1 status acts taped latest leng cursor token start till fault faultAt z.2.2.1 traced lane many item bay fresh thn was tape z.2.2.2.1 z.2.2.2.2 isKept kept trace) A) (cc := cX9_net) (nL := 3) (ret := (some .int)) RX9 rfl (by decide) rfl (Nat.le_of_ble_eq_true rfl) ?_
  intro p e s m below meth c A ls C G hl
  have hl : lv_has ls 3 [(0, .ref (mAd 0)), (1, .int p1), (2, .int p2)] := hl
  have H := hz
  unfold f_X9_net at H
  obtain ⟨hx, hb, hr, hml, hown, hts, hlk, hK, hA, hE⟩ := id C
  have lk0 := hts (Cond.fieldLink RX9 50 "TideDebtsModel" "thrown" "I") (List.mem_of_getElem? (i := 1) rfl)
  have lk1 := hts (Cond.constant RX9 70 (-1000001)) (List.mem_of_getElem? (i := 4) rfl)
  have lk2 := hts (Cond.constantLong RX9 68 (2)) (List.mem_of_getElem? (i := 3) rfl)
  have lk3 := hts (Cond.fieldLink RX9 230 "TideDebtsModel" "gifts" "I") (List.mem_of_getElem? (i := 5) rfl)
  have lk4 := hts (Cond.constant RX9 86 (-1000000)) (List.mem_of_getElem? (i := 7) rfl)
  have lk5 := hts (Cond.fieldLink RX9 37 "TideDebtsModel" "gift" "[I") (List.mem_of_getElem? (i := 6) rfl)
  have lk6 := hts (Cond.constant RX9 196 (-1000002)) (List.mem_of_getElem? (i := 2) rfl)
  have hiX9 : ∀ w ∈ u_ws RX9 TX9 27, w ∈ wsX9_net := fun _ h => List.mem_cons_of_mem _ (List.mem_append_right _ h)
  refine lv_aload_n hx hb dX9_net_0 rfl (lv_at hl 0 rfl) ?_
  refine lv_iconst (v := 0) hx hb dX9_net_1 (by decide) ?_
  refine va_put (D := D) (ci := 9) (v := .int 0) (ty := .int) (C := RX9) (T := TX9) (N := 27) hx hb hts hiX9 tyX9 tyX9_ok nmX9 hown hK G.1 G.2.1 G.2.2 0 rfl rfl 0 (by decide) lk0 (fun _ h9 => h9) rfl (tyX9_ok 0 (by decide)) rfl rfl (Nat.le_of_ble_eq_true rfl) dX9_net_2 (fun U locs hP hD hS => ?_)
  have G : Gd D A s (w_M cy mAd 0 status acts taped latest leng cursor token start till fault faultAt gifts traced lane many item bay fresh thn was tape left gift isKept kept trace) U locs := ⟨hP, hD, hS⟩
  refine lv_aload_n hx hb dX9_net_5 rfl (lv_at hl 0 rfl) ?_
  obtain ⟨z1, hz1, H⟩ := bd_some H
  refine MI.callVw z1 [] [] C G (c_X9_isThere l D cy mAd 0 status acts taped latest leng cursor token start till fault faultAt gifts traced lane many item bay fresh thn was tape left gift isKept kept trace z1 hz1) gX9_net_X9_isThere rfl rfl rfl (n := 0) (by decide +kernel) ⟨Nat.le_of_ble_eq_true rfl, Nat.le_of_ble_eq_true rfl⟩ (q0 := 0) (ci := 9) rfl rfl rfl rfl hl.1 rfl (Nat.le_of_ble_eq_true rfl) dX9_net_6 ⟨Nat.zero_le _, Nat.zero_le _⟩ (fun U locs G => ?_)
  have G : Gd D A s (w_M cy mAd 0 status acts taped latest leng cursor token start till fault faultAt gifts traced lane many item bay fresh thn was tape left gift isKept kept trace) U locs := G
  refine lv_if_ne (tgt := 15) hx hb dX9_net_9 (by decide) (fun c2 => ?_) (fun c2 => ?_)
  · have H := if_f H c2
    refine lv_iload_n hx hb dX9_net_15 rfl (lv_at hl 1 rfl) ?_
    refine lv_bipush (v := (-2)) hx hb dX9_net_16 (by decide) ?_
    refine lv_icmp_lt (tgt := 33) hx hb dX9_net_18 (by decide) (fun c3 => ?_) (fun c3 => ?_)
    · have H := if_t H c3
      refine lv_ldc hx hb hown lk1 dX9_net_33 ?_
      obtain rfl := Option.some.inj H
      exact ret_i C G rfl dX9_net_35
    · have H := if_f H c3
      refine lv_iload_n hx hb dX9_net_21 rfl (lv_at hl 2 rfl) ?_
      refine lv_i2l hx hb dX9_net_22 rfl ?_
      refine lv_lconst (v := 0) hx hb dX9_net_23 (by decide) ?_
      refine lv_ldc2 hx hb hown lk2 dX9_net_24 ?_
      obtain ⟨z4, hz4, H⟩ := bd_some H
      refine MI.callS z4 [.long p2.toInt64, .long 0, .long 2] [] [] C G (c_X9_in l D cy p2.toInt64 0 2 z4 hz4) gX9_net_X9_in rfl rfl rfl (n := 3) (by decide +kernel) ⟨Nat.le_of_ble_eq_true rfl, Nat.le_of_ble_eq_true rfl⟩ rfl rfl rfl rfl hl.1 rfl (Nat.le_of_ble_eq_true rfl) dX9_net_27 ⟨Nat.zero_le _, Nat.zero_le _⟩ (fun U locs G => ?_)
      have G : Gd D A s (w_M cy mAd 0 status acts taped latest leng cursor token start till fault faultAt gifts traced lane many item bay fresh thn was tape left gift isKept kept trace) U locs := G
      refine lv_if_ne (tgt := 36) hx hb dX9_net_30 (by decide) (fun c5 => ?_) (fun c5 => ?_)
      · have H := if_f H c5
        refine lv_iload_n hx hb dX9_net_36 rfl (lv_at hl 1 rfl) ?_
        refine lv_bipush (v := (-2)) hx hb dX9_net_37 (by decide) ?_
        refine lv_icmp_ne (tgt := 55) hx hb dX9_net_39 (by decide) (fun c6 => ?_) (fun c6 => ?_)
        · have H := if_f H c6
          refine lv_aload_n hx hb dX9_net_55 rfl (lv_at hl 0 rfl) ?_
          obtain ⟨z7, hz7, H⟩ := bd_some H
          refine MV.callVw [] [] C G (c_X9_layGifts l D cy mAd 0 status acts taped latest leng cursor token start till fault faultAt gifts traced lane many item bay fresh thn was tape left gift isKept kept trace z7 hz7) gX9_net_X9_layGifts rfl rfl rfl (n := 0) (by decide +kernel) ⟨Nat.le_of_ble_eq_true rfl, Nat.le_of_ble_eq_true rfl⟩ (q0 := 0) (ci := 9) rfl rfl rfl rfl hl.1 rfl (Nat.le_of_ble_eq_true rfl) dX9_net_56 ⟨Nat.zero_le _, Nat.zero_le _⟩ (fun U locs G => ?_)
          have G : Gd D A s (w_M cy mAd 0 status acts taped latest leng cursor token start till fault faultAt z7.1 traced lane many item bay fresh thn was tape z7.2.1 z7.2.2 isKept kept trace) U locs := G
          refine lv_iload_n hx hb dX9_net_59 rfl (lv_at hl 1 rfl) ?_
          refine lv_iconst (v := (-1)) hx hb dX9_net_60 (by decide) ?_
          refine lv_icmp_ne (tgt := 71) hx hb dX9_net_61 (by decide) (fun c8 => ?_) (fun c8 => ?_)
          · have H := if_f H c8
            refine lv_iload_n hx hb dX9_net_71 rfl (lv_at hl 1 rfl) ?_
            refine lv_aload_n hx hb dX9_net_72 rfl (lv_at hl 0 rfl) ?_
            refine va_get (D := D) (ci := 9) (v := .int z7.1) (C := RX9) (T := TX9) (N := 27) hx hb hts hiX9 hown hK G.1 0 rfl rfl 22 (by decide) lk3 (fun _ h9 => h9) rfl dX9_net_73 ?_
            refine lv_icmp_ge (tgt := 92) hx hb dX9_net_76 (by decide) (fun c9 => ?_) (fun c9 => ?_)
            · have H := if_t H c9
              refine lv_ldc hx hb hown lk4 dX9_net_92 ?_
              obtain rfl := Option.some.inj H
              exact ret_i C G rfl dX9_net_94
            · have H := if_f H c9
              refine lv_aload_n hx hb dX9_net_79 rfl (lv_at hl 0 rfl) ?_
              refine va_get (D := D) (ci := 9) (v := .ref (mAd 10)) (C := RX9) (T := TX9) (N := 27) hx hb hts hiX9 hown hK G.1 0 rfl rfl 21 (by decide) lk5 (fun _ h9 => h9) rfl dX9_net_80 ?_
              refine lv_iconst (v := 3) hx hb dX9_net_83 (by decide) ?_
              refine lv_iload_n hx hb dX9_net_84 rfl (lv_at hl 1 rfl) ?_
              refine lv_imul hx hb dX9_net_85 ?_
              refine lv_iload_n hx hb dX9_net_86 rfl (lv_at hl 2 rfl) ?_
              refine lv_iadd hx hb dX9_net_87 ?_
              obtain ⟨hb10, H⟩ := gd_some H
              refine g_iald (v := z7.2.2 (ix ((3 * p1) + p2))) hx hb hK G.1 10 1 rfl rfl hb10 rfl dX9_net_88 ?_
              refine lv_goto (tgt := 94) hx hb dX9_net_89 (by decide) ?_
              obtain rfl := Option.some.inj H
              exact ret_i C G rfl dX9_net_94
          · have H := if_t H c8
            refine lv_aload_n hx hb dX9_net_64 rfl (lv_at hl 0 rfl) ?_
            refine va_get (D := D) (ci := 9) (v := .int z7.1) (C := RX9) (T := TX9) (N := 27) hx hb hts hiX9 hown hK G.1 0 rfl rfl 22 (by decide) lk3 (fun _ h9 => h9) rfl dX9_net_65 ?_
            refine lv_goto (tgt := 94) hx hb dX9_net_68 (by decide) ?_
            obtain rfl := Option.some.inj H
            exact ret_i C G rfl dX9_net_94
        · have H := if_t H c6
          refine lv_aload_n hx hb dX9_net_42 rfl (lv_at hl 0 rfl) ?_
          obtain ⟨z11, hz11, H⟩ := bd_some H
          refine MI.callVw z11 [] [] C G (c_X9_canNet l D cy mAd 0 status acts taped latest leng cursor token start till fault faultAt gifts traced lane many item bay fresh thn was tape left gift isKept kept trace z11 hz11) gX9_net_X9_canNet rfl rfl rfl (n := 0) (by decide +kernel) ⟨Nat.le_of_ble_eq_true rfl, Nat.le_of_ble_eq_true rfl⟩ (q0 := 0) (ci := 9) rfl rfl rfl rfl hl.1 rfl (Nat.le_of_ble_eq_true rfl) dX9_net_43 ⟨Nat.zero_le _, Nat.zero_le _⟩ (fun U locs G => ?_)
          have G : Gd D A s (w_M cy mAd 0 status acts taped latest leng cursor token start till fault faultAt gifts traced lane many item bay fresh thn was tape left gift isKept kept trace) U locs := G
          refine lv_if_eq (tgt := 53) hx hb dX9_net_46 (by decide) (fun c12 => ?_) (fun c12 => ?_)
          · have H := if_t H c12
            refine lv_iconst (v := 0) hx hb dX9_net_53 (by decide) ?_
            obtain rfl := Option.some.inj H
            exact ret_i C G rfl dX9_net_54
          · have H := if_f H c12
            refine lv_iconst (v := 1) hx hb dX9_net_49 (by decide) ?_
            refine lv_goto (tgt := 54) hx hb dX9_net_50 (by decide) ?_
            obtain rfl := Option.some.inj H
            exact ret_i C G rfl dX9_net_54
      · have H := if_t H c5
        refine lv_ldc hx hb hown lk1 dX9_net_33 ?_
        obtain rfl := Option.some.inj H
        exact ret_i C G rfl dX9_net_35
  · have H := if_t H c2
    refine lv_ldc hx hb hown lk6 dX9_net_12 ?_
    obtain rfl := Option.some.inj H
    exact ret_i C G rfl dX9_net_14
def f_X9_least_L82 (bay : Nat → Int32) (x1 x4 : Int32) : Nat → (Nat → Int32) → Int32 → Option (Nat → Int32)
  | 0, _, _ => none
  | n + 1, thn, x6 => if x4 ≤ x6 then (some thn) else (bd (f_X9_flowOf bay x1 ((bay 2) + x6)) (fun z14 => bd (f_X9_flows thn x1 z14) (fun z15 => f_X9_least_L82 bay x1 x4 n z15 (x6 + 1))))
theorem f_X9_least_L82_z (bay : Nat → Int32) (x1 x4 : Int32) (thn : Nat → Int32) (x6 : Int32) : f_X9_least_L82 bay x1 x4 0 thn x6 = none := rfl
theorem f_X9_least_L82_s (bay : Nat → Int32) (x1 x4 : Int32) (n : Nat) (thn : Nat → Int32) (x6 : Int32) : f_X9_least_L82 bay x1 x4 (n + 1) thn x6 = if x4 ≤ x6 then (some thn) else (bd (f_X9_flowOf bay x1 ((bay 2) + x6)) (fun z14 => bd (f_X9_flows thn x1 z14) (fun z15 => f_X9_least_L82 bay x1 x4 n z15 (x6 + 1)))) := rfl
set_option maxHeartbeats 4000000 in
set_option maxRecDepth 100000 in
theorem wl_X9_least_82 {p : Program} {l : Launch} {e : Env} {s : State} {m : MethodId} {below : List Frame} {meth : Method} {c : Code} {D : va_G} {cy : Nat → ClassId} {A : Nat → Prop} {args : Array Value} {Q : State → Prop} (C : Cx D cy A p s m meth c cX9_least 7 (some .int) wsX9_least RX9 args) (mAd : Nat → Nat) (thrown status acts taped latest leng cursor token start till fault faultAt gifts traced : Int32) (lane many item bay fresh was tape left gift isKept kept trace : Nat → Int32) (x1 x2 x3 x4 x5 : Int32) :
    ∀ (n : Nat) (thn : Nat → Int32) (x6 : Int32) (z : (Nat → Int32)), f_X9_least_L82 bay x1 x4 n thn x6 = some z → (∀ (U : Heap) (locs : List Loc) (ls : Array Slot), Gd D A s (w_M cy mAd thrown status acts taped latest leng cursor token start till fault faultAt gifts traced lane many item bay fresh z was tape left gift isKept kept trace) U locs → lv_has ls 7 [(0, .ref (mAd 0)), (1, .int x1), (2, .int x2), (3, .int x3), (4, .int x4), (5, .int x5)] → W p l e ({ frames := 3, cells := 0, slots := 0, locals := 68 } : Room) s m args below meth c U locs 0 0 Q (F0 m 114 ls [])) → ∀ (U : Heap) (locs : List Loc) (ls : Array Slot), Gd D A s (w_M cy mAd thrown status acts taped latest leng cursor token start till fault faultAt gifts traced lane many item bay fresh thn was tape left gift isKept kept trace) U locs → lv_has ls 7 [(0, .ref (mAd 0)), (1, .int x1), (2, .int x2), (3, .int x3), (4, .int x4), (5, .int x5), (6, .int x6)] → W p l e ({ frames := 3, cells := 0, slots := 0, locals := 68 } : Room) s m args below meth c U locs 0 0 Q (F0 m 82 ls []) := by
  obtain ⟨hx, hb, hr, hml, hown, hts, hlk, hK, hA, hE⟩ := id C
  have lk0 := hts (Cond.fieldLink RX9 19 "TideDebtsModel" "bay" "[I") (List.mem_of_getElem? (i := 5) rfl)
  have hiX9 : ∀ w ∈ u_ws RX9 TX9 27, w ∈ wsX9_least := fun _ h => List.mem_cons_of_mem _ (List.mem_append_right _ h)
  intro n
  induction n with
  | zero =>
    intro thn x6 z H
    rw [f_X9_least_L82_z] at H
    cases H
  | succ n ih =>
    intro thn x6 z H kk U locs ls G hl
    rw [f_X9_least_L82_s] at H
    refine lv_iload hx hb dX9_least_82 (lv_at hl 6 rfl) ?_
    refine lv_iload hx hb dX9_least_84 (lv_at hl 4 rfl) ?_
    refine lv_icmp_ge (tgt := 114) hx hb dX9_least_86 (by decide) (fun c13 => ?_) (fun c13 => ?_)
    · have H := if_t H c13
      obtain rfl := Option.some.inj H
      exact kk _ _ _ G (lv_sub hl [0, 1, 2, 3, 4, 5] rfl)
    · have H := if_f H c13
      refine lv_aload_n hx hb dX9_least_89 rfl (lv_at hl 0 rfl) ?_
      refine lv_iload_n hx hb dX9_least_90 rfl (lv_at hl 1 rfl) ?_
      refine lv_aload_n hx hb dX9_least_91 rfl (lv_at hl 0 rfl) ?_
      refine lv_iload_n hx hb dX9_least_92 rfl (lv_at hl 1 rfl) ?_
      refine lv_aload_n hx hb dX9_least_93 rfl (lv_at hl 0 rfl) ?_
      refine va_get (D := D) (ci := 9) (v := .ref (mAd 4)) (C := RX9) (T := TX9) (N := 27) hx hb hts hiX9 hown hK G.1 0 rfl rfl 5 (by decide) lk0 (fun _ h9 => h9) rfl dX9_least_94 ?_
      refine lv_iconst (v := 2) hx hb dX9_least_97 (by decide) ?_
      refine g_iald (v := bay 2) hx hb hK G.1 4 1 rfl rfl (by decide) rfl dX9_least_98 ?_
      refine lv_iload hx hb dX9_least_99 (lv_at hl 6 rfl) ?_
      refine lv_iadd hx hb dX9_least_101 ?_
      obtain ⟨z14, hz14, H⟩ := bd_some H
      refine MI.callVw z14 [.int x1, .int ((bay 2) + x6)] [.int x1, .ref (mAd 0)] C G (c_X9_flowOf l D cy mAd thrown status acts taped latest leng cursor token start till fault faultAt gifts traced lane many item bay fresh thn was tape left gift isKept kept trace x1 ((bay 2) + x6) z14 hz14) gX9_least_X9_flowOf rfl rfl rfl (n := 2) (by decide +kernel) ⟨Nat.le_of_ble_eq_true rfl, Nat.le_of_ble_eq_true rfl⟩ (q0 := 0) (ci := 9) rfl rfl rfl rfl hl.1 rfl (Nat.le_of_ble_eq_true rfl) dX9_least_102 ⟨Nat.zero_le _, Nat.zero_le _⟩ (fun U locs G => ?_)
      have G : Gd D A s (w_M cy mAd thrown status acts taped latest leng cursor token start till fault faultAt gifts traced lane many item bay fresh thn was tape left gift isKept kept trace) U locs := G
      obtain ⟨z15, hz15, H⟩ := bd_some H
      refine MV.callVw [.int x1, .int z14] [] C G (c_X9_flows l D cy mAd thrown status acts taped latest leng cursor token start till fault faultAt gifts traced lane many item bay fresh thn was tape left gift isKept kept trace x1 z14 z15 hz15) gX9_least_X9_flows rfl rfl rfl (n := 2) (by decide +kernel) ⟨Nat.le_of_ble_eq_true rfl, Nat.le_of_ble_eq_true rfl⟩ (q0 := 0) (ci := 9) rfl rfl rfl rfl hl.1 rfl (Nat.le_of_ble_eq_true rfl) dX9_least_105 ⟨Nat.zero_le _, Nat.zero_le _⟩ (fun U locs G => ?_)
      have G : Gd D A s (w_M cy mAd thrown status acts taped latest leng cursor token start till fault faultAt gifts traced lane many item bay fresh z15 was tape left gift isKept kept trace) U locs := G
      refine lv_iinc (v := x6 + 1) (lv' := [(6, .int (x6 + 1)), (0, .ref (mAd 0)), (1, .int x1), (2, .int x2), (3, .int x3), (4, .int x4), (5, .int x5)]) hx hb dX9_least_108 hl (k := 6) rfl rfl (by decide) rfl (fun ls hl => ?_)
      refine lv_goto (tgt := 82) hx hb dX9_least_111 (by decide) ?_
      exact ih z15 (x6 + 1) z H kk _ _ _ G (lv_sub hl [1, 2, 3, 4, 5, 6, 0] rfl)
def f_X9_least_L45 (thrown : Int32) (bay : Nat → Int32) (x1 x2 x3 x4 : Int32) : Nat → (Nat → Int32) → Int32 → Option (Int32 × Int32 × (Nat → Int32))
  | 0, _, _ => none
  | n + 1, thn, x5 => bd (f_X9_at x2 1) (fun z7 => gd (inb z7 75) (if (bay (ix z7)) < x5 then (some ((-1000000), thrown, thn)) else (bd (f_X9_layNow bay thn) (fun z10 => bd (f_X9_at x1 1) (fun z11 => gd (inb z11 75) (bd (f_X9_least_L82 bay x1 x4 200000000 (upd z10 (ix z11) ((z10 (ix z11)) + x5)) 0) (fun z16 => bd (f_X9_at x1 1) (fun z17 => gd (inb z17 75) (if (z16 (ix z17)) < x3 then (f_X9_least_L45 thrown bay x1 x2 x3 x4 n z16 (x5 + 1)) else (some (x5, thrown, z16)))))))))))
theorem f_X9_least_L45_z (thrown : Int32) (bay : Nat → Int32) (x1 x2 x3 x4 : Int32) (thn : Nat → Int32) (x5 : Int32) : f_X9_least_L45 thrown bay x1 x2 x3 x4 0 thn x5 = none := rfl
theorem f_X9_least_L45_s (thrown : Int32) (bay : Nat → Int32) (x1 x2 x3 x4 : Int32) (n : Nat) (thn : Nat → Int32) (x5 : Int32) : f_X9_least_L45 thrown bay x1 x2 x3 x4 (n + 1) thn x5 = bd (f_X9_at x2 1) (fun z7 => gd (inb z7 75) (if (bay (ix z7)) < x5 then (some ((-1000000), thrown, thn)) else (bd (f_X9_layNow bay thn) (fun z10 => bd (f_X9_at x1 1) (fun z11 => gd (inb z11 75) (bd (f_X9_least_L82 bay x1 x4 200000000 (upd z10 (ix z11) ((z10 (ix z11)) + x5)) 0) (fun z16 => bd (f_X9_at x1 1) (fun z17 => gd (inb z17 75) (if (z16 (ix z17)) < x3 then (f_X9_least_L45 thrown bay x1 x2 x3 x4 n z16 (x5 + 1)) else (some (x5, thrown, z16))))))))))) := rfl
set_option maxHeartbeats 4000000 in
set_option maxRecDepth 100000 in
theorem wl_X9_least_45 {p : Program} {l : Launch} {e : Env} {s : State} {m : MethodId} {below : List Frame} {meth : Method} {c : Code} {D : va_G} {cy : Nat → ClassId} {A : Nat → Prop} {args : Array Value} (C : Cx D cy A p s m meth c cX9_least 7 (some .int) wsX9_least RX9 args) (mAd : Nat → Nat) (thrown status acts taped latest leng cursor token start till fault faultAt gifts traced : Int32) (lane many item bay fresh was tape left gift isKept kept trace : Nat → Int32) (x1 x2 x3 x4 : Int32) :
    ∀ (n : Nat) (thn : Nat → Int32) (x5 : Int32) (z : (Int32 × Int32 × (Nat → Int32))), f_X9_least_L45 thrown bay x1 x2 x3 x4 n thn x5 = some z → ∀ (U : Heap) (locs : List Loc) (ls : Array Slot), Gd D A s (w_M cy mAd thrown status acts taped latest leng cursor token start till fault faultAt gifts traced lane many item bay fresh thn was tape left gift isKept kept trace) U locs → lv_has ls 7 [(0, .ref (mAd 0)), (1, .int x1), (2, .int x2), (3, .int x3), (4, .int x4), (5, .int x5)] → W p l e ({ frames := 3, cells := 0, slots := 0, locals := 68 } : Room) s m args below meth c U locs 0 0 (MQ below (MQi D cy z.1 (w_M cy mAd z.2.1 status acts taped latest leng cursor token start till fault faultAt gifts traced lane many item bay fresh z.2.2 was tape left gift isKept kept trace) A) args s 0 0 A) (F0 m 45 ls []) := by
  obtain ⟨hx, hb, hr, hml, hown, hts, hlk, hK, hA, hE⟩ := id C
  have lk0 := hts (Cond.fieldLink RX9 19 "TideDebtsModel" "bay" "[I") (List.mem_of_getElem? (i := 5) rfl)
  have lk1 := hts (Cond.constant RX9 86 (-1000000)) (List.mem_of_getElem? (i := 7) rfl)
  have lk2 := hts (Cond.fieldLink RX9 25 "TideDebtsModel" "then" "[I") (List.mem_of_getElem? (i := 6) rfl)
  have hiX9 : ∀ w ∈ u_ws RX9 TX9 27, w ∈ wsX9_least := fun _ h => List.mem_cons_of_mem _ (List.mem_append_right _ h)
  intro n
  induction n with
  | zero =>
    intro thn x5 z H
    rw [f_X9_least_L45_z] at H
    cases H
  | succ n ih =>
    intro thn x5 z H U locs ls G hl
    rw [f_X9_least_L45_s] at H
    refine lv_iload hx hb dX9_least_45 (lv_at hl 5 rfl) ?_
    refine lv_aload_n hx hb dX9_least_47 rfl (lv_at hl 0 rfl) ?_
    refine va_get (D := D) (ci := 9) (v := .ref (mAd 4)) (C := RX9) (T := TX9) (N := 27) hx hb hts hiX9 hown hK G.1 0 rfl rfl 5 (by decide) lk0 (fun _ h9 => h9) rfl dX9_least_48 ?_
    refine lv_iload_n hx hb dX9_least_51 rfl (lv_at hl 2 rfl) ?_
    refine lv_iconst (v := 1) hx hb dX9_least_52 (by decide) ?_
    obtain ⟨z7, hz7, H⟩ := bd_some H
    refine MI.callS z7 [.int x2, .int 1] [.ref (mAd 4), .int x5] [] C G (c_X9_at l D cy x2 1 z7 hz7) gX9_least_X9_at rfl rfl rfl (n := 2) (by decide +kernel) ⟨Nat.le_of_ble_eq_true rfl, Nat.le_of_ble_eq_true rfl⟩ rfl rfl rfl rfl hl.1 rfl (Nat.le_of_ble_eq_true rfl) dX9_least_53 ⟨Nat.zero_le _, Nat.zero_le _⟩ (fun U locs G => ?_)
    have G : Gd D A s (w_M cy mAd thrown status acts taped latest leng cursor token start till fault faultAt gifts traced lane many item bay fresh thn was tape left gift isKept kept trace) U locs := G
    obtain ⟨hb8, H⟩ := gd_some H
    refine g_iald (v := bay (ix z7)) hx hb hK G.1 4 1 rfl rfl hb8 rfl dX9_least_56 ?_
    refine lv_icmp_gt (tgt := 137) hx hb dX9_least_57 (by decide) (fun c9 => ?_) (fun c9 => ?_)
    · have H := if_t H c9
      refine lv_ldc hx hb hown lk1 dX9_least_137 ?_
      obtain rfl := Option.some.inj H
      exact ret_i C G rfl dX9_least_139
    · have H := if_f H c9
      refine lv_aload_n hx hb dX9_least_60 rfl (lv_at hl 0 rfl) ?_
      obtain ⟨z10, hz10, H⟩ := bd_some H
      refine MV.callVw [] [] C G (c_X9_layNow l D cy mAd thrown status acts taped latest leng cursor token start till fault faultAt gifts traced lane many item bay fresh thn was tape left gift isKept kept trace z10 hz10) gX9_least_X9_layNow rfl rfl rfl (n := 0) (by decide +kernel) ⟨Nat.le_of_ble_eq_true rfl, Nat.le_of_ble_eq_true rfl⟩ (q0 := 0) (ci := 9) rfl rfl rfl rfl hl.1 rfl (Nat.le_of_ble_eq_true rfl) dX9_least_61 ⟨Nat.zero_le _, Nat.zero_le _⟩ (fun U locs G => ?_)
      have G : Gd D A s (w_M cy mAd thrown status acts taped latest leng cursor token start till fault faultAt gifts traced lane many item bay fresh z10 was tape left gift isKept kept trace) U locs := G
      refine lv_aload_n hx hb dX9_least_64 rfl (lv_at hl 0 rfl) ?_
      refine va_get (D := D) (ci := 9) (v := .ref (mAd 6)) (C := RX9) (T := TX9) (N := 27) hx hb hts hiX9 hown hK G.1 0 rfl rfl 7 (by decide) lk2 (fun _ h9 => h9) rfl dX9_least_65 ?_
      refine lv_iload_n hx hb dX9_least_68 rfl (lv_at hl 1 rfl) ?_
      refine lv_iconst (v := 1) hx hb dX9_least_69 (by decide) ?_
      obtain ⟨z11, hz11, H⟩ := bd_some H
      refine MI.callS z11 [.int x1, .int 1] [.ref (mAd 6)] [] C G (c_X9_at l D cy x1 1 z11 hz11) gX9_least_X9_at rfl rfl rfl (n := 2) (by decide +kernel) ⟨Nat.le_of_ble_eq_true rfl, Nat.le_of_ble_eq_true rfl⟩ rfl rfl rfl rfl hl.1 rfl (Nat.le_of_ble_eq_true rfl) dX9_least_70 ⟨Nat.zero_le _, Nat.zero_le _⟩ (fun U locs G => ?_)
      have G : Gd D A s (w_M cy mAd thrown status acts taped latest leng cursor token start till fault faultAt gifts traced lane many item bay fresh z10 was tape left gift isKept kept trace) U locs := G
      refine lv_dup2_11 hx hb dX9_least_73 rfl rfl ?_
      obtain ⟨hb12, H⟩ := gd_some H
      refine g_iald (v := z10 (ix z11)) hx hb hK G.1 6 1 rfl rfl hb12 rfl dX9_least_74 ?_
      refine lv_iload hx hb dX9_least_75 (lv_at hl 5 rfl) ?_
      refine lv_iadd hx hb dX9_least_77 ?_
      refine va_iast hx hb hK G.1 G.2.1 G.2.2 6 1 rfl rfl (inb_in hb12) dX9_least_78 (fun U locs hP hD hS => ?_)
      have G : Gd D A s (w_M cy mAd thrown status acts taped latest leng cursor token start till fault faultAt gifts traced lane many item bay fresh (upd z10 (ix z11) ((z10 (ix z11)) + x5)) was tape left gift isKept kept trace) U locs := ⟨hP, hD, hS⟩
      refine lv_iconst (v := 0) hx hb dX9_least_79 (by decide) ?_
      refine lv_istore (lv' := [(6, .int 0), (0, .ref (mAd 0)), (1, .int x1), (2, .int x2), (3, .int x3), (4, .int x4), (5, .int x5)]) hx hb dX9_least_80 hl (by decide) rfl (fun ls hl => ?_)
      obtain ⟨z16, hz16, H⟩ := bd_some H
      refine wl_X9_least_82 C mAd thrown status acts taped latest leng cursor token start till fault faultAt gifts traced lane many item bay fresh was tape left gift isKept kept trace x1 x2 x3 x4 x5 _ (upd z10 (ix z11) ((z10 (ix z11)) + x5)) 0 z16 hz16 (fun U locs ls G hl => ?_) _ _ _ G (lv_sub hl [1, 2, 3, 4, 5, 6, 0] rfl)
      have G : Gd D A s (w_M cy mAd thrown status acts taped latest leng cursor token start till fault faultAt gifts traced lane many item bay fresh z16 was tape left gift isKept kept trace) U locs := G
      have hl : lv_has ls 7 [(0, .ref (mAd 0)), (1, .int x1), (2, .int x2), (3, .int x3), (4, .int x4), (5, .int x5)] := hl
      refine lv_aload_n hx hb dX9_least_114 rfl (lv_at hl 0 rfl) ?_
      refine va_get (D := D) (ci := 9) (v := .ref (mAd 6)) (C := RX9) (T := TX9) (N := 27) hx hb hts hiX9 hown hK G.1 0 rfl rfl 7 (by decide) lk2 (fun _ h9 => h9) rfl dX9_least_115 ?_
      refine lv_iload_n hx hb dX9_least_118 rfl (lv_at hl 1 rfl) ?_
      refine lv_iconst (v := 1) hx hb dX9_least_119 (by decide) ?_
      obtain ⟨z17, hz17, H⟩ := bd_some H
      refine MI.callS z17 [.int x1, .int 1] [.ref (mAd 6)] [] C G (c_X9_at l D cy x1 1 z17 hz17) gX9_least_X9_at rfl rfl rfl (n := 2) (by decide +kernel) ⟨Nat.le_of_ble_eq_true rfl, Nat.le_of_ble_eq_true rfl⟩ rfl rfl rfl rfl hl.1 rfl (Nat.le_of_ble_eq_true rfl) dX9_least_120 ⟨Nat.zero_le _, Nat.zero_le _⟩ (fun U locs G => ?_)
      have G : Gd D A s (w_M cy mAd thrown status acts taped latest leng cursor token start till fault faultAt gifts traced lane many item bay fresh z16 was tape left gift isKept kept trace) U locs := G
      obtain ⟨hb18, H⟩ := gd_some H
      refine g_iald (v := z16 (ix z17)) hx hb hK G.1 6 1 rfl rfl hb18 rfl dX9_least_123 ?_
      refine lv_iload_n hx hb dX9_least_124 rfl (lv_at hl 3 rfl) ?_
      refine lv_icmp_lt (tgt := 131) hx hb dX9_least_125 (by decide) (fun c19 => ?_) (fun c19 => ?_)
      · have H := if_t H c19
        refine lv_iinc (v := x5 + 1) (lv' := [(5, .int (x5 + 1)), (0, .ref (mAd 0)), (1, .int x1), (2, .int x2), (3, .int x3), (4, .int x4)]) hx hb dX9_least_131 hl (k := 5) rfl rfl (by decide) rfl (fun ls hl => ?_)
        refine lv_goto (tgt := 45) hx hb dX9_least_134 (by decide) ?_
        exact ih z16 (x5 + 1) z H _ _ _ G (lv_sub hl [1, 2, 3, 4, 5, 0] rfl)
      · have H := if_f H c19
        refine lv_iload hx hb dX9_least_128 (lv_at hl 5 rfl) ?_
        obtain rfl := Option.some.inj H
        exact ret_i C G rfl dX9_least_130
def f_X9_least (thrown : Int32) (bay thn : Nat → Int32) (p1 p2 p3 p4 : Int32) : Option (Int32 × Int32 × (Nat → Int32)) := bd (f_X9_areTwo bay p1 p2) (fun z1 => if z1 = 0 then (some ((-1000001), 0, thn)) else (bd (f_X9_in p3.toInt64 0 999) (fun z3 => if z3 = 0 then (some ((-1000001), 0, thn)) else (bd (f_X9_in p4.toInt64 0 24) (fun z5 => if z5 = 0 then (some ((-1000001), 0, thn)) else (f_X9_least_L45 0 bay p1 p2 p3 p4 200000000 thn 0))))))
set_option maxHeartbeats 4000000 in
set_option maxRecDepth 100000 in
theorem c_X9_least (l : Launch) (D : va_G) (cy : Nat → ClassId) (mAd : Nat → Nat) (thrown status acts taped latest leng cursor token start till fault faultAt gifts traced : Int32) (lane many item bay fresh thn was tape left gift isKept kept trace : Nat → Int32) (p1 p2 p3 p4 : Int32) (z : (Int32 × Int32 × (Nat → Int32))) (hz : f_X9_least thrown bay thn p1 p2 p3 p4 = some z) : MI l yX9_least wsX9_least ({ frames := 3, cells := 0, slots := 0, locals := 68 } : Room) D cy [.ref (mAd 0), .int p1, .int p2, .int p3, .int p4] (w_M cy mAd thrown status acts taped latest leng cursor token start till fault faultAt gifts traced lane many item bay fresh thn was tape left gift isKept kept trace) z.1 (w_M cy mAd z.2.1 status acts taped latest leng cursor token start till fault faultAt gifts traced lane many item bay fresh z.2.2 was tape left gift isKept kept trace) := by
  refine met_start (Qf := fun A => MQi D cy z.1 (w_M cy mAd z.2.1 status acts taped latest leng cursor token start till fault faultAt gifts traced lane many item bay fresh z.2.2 was tape left gift isKept kept trace) A) (cc := cX9_least) (nL := 7) (ret := (some .int)) RX9 rfl (by decide) rfl (Nat.le_of_ble_eq_true rfl) ?_
  intro p e s m below meth c A ls C G hl
  have hl : lv_has ls 7 [(0, .ref (mAd 0)), (1, .int p1), (2, .int p2), (3, .int p3), (4, .int p4)] := hl
  have H := hz
  unfold f_X9_least at H
  obtain ⟨hx, hb, hr, hml, hown, hts, hlk, hK, hA, hE⟩ := id C
  have lk0 := hts (Cond.fieldLink RX9 50 "TideDebtsModel" "thrown" "I") (List.mem_of_getElem? (i := 1) rfl)
  have lk1 := hts (Cond.constant RX9 70 (-1000001)) (List.mem_of_getElem? (i := 4) rfl)
  have lk2 := hts (Cond.constantLong RX9 212 (999)) (List.mem_of_getElem? (i := 2) rfl)
  have lk3 := hts (Cond.constantLong RX9 197 (24)) (List.mem_of_getElem? (i := 3) rfl)
  have hiX9 : ∀ w ∈ u_ws RX9 TX9 27, w ∈ wsX9_least := fun _ h => List.mem_cons_of_mem _ (List.mem_append_right _ h)
  refine lv_aload_n hx hb dX9_least_0 rfl (lv_at hl 0 rfl) ?_
  refine lv_iconst (v := 0) hx hb dX9_least_1 (by decide) ?_
  refine va_put (D := D) (ci := 9) (v := .int 0) (ty := .int) (C := RX9) (T := TX9) (N := 27) hx hb hts hiX9 tyX9 tyX9_ok nmX9 hown hK G.1 G.2.1 G.2.2 0 rfl rfl 0 (by decide) lk0 (fun _ h9 => h9) rfl (tyX9_ok 0 (by decide)) rfl rfl (Nat.le_of_ble_eq_true rfl) dX9_least_2 (fun U locs hP hD hS => ?_)
  have G : Gd D A s (w_M cy mAd 0 status acts taped latest leng cursor token start till fault faultAt gifts traced lane many item bay fresh thn was tape left gift isKept kept trace) U locs := ⟨hP, hD, hS⟩
  refine lv_aload_n hx hb dX9_least_5 rfl (lv_at hl 0 rfl) ?_
  refine lv_iload_n hx hb dX9_least_6 rfl (lv_at hl 1 rfl) ?_
  refine lv_iload_n hx hb dX9_least_7 rfl (lv_at hl 2 rfl) ?_
  obtain ⟨z1, hz1, H⟩ := bd_some H
  refine MI.callVw z1 [.int p1, .int p2] [] C G (c_X9_areTwo l D cy mAd 0 status acts taped latest leng cursor token start till fault faultAt gifts traced lane many item bay fresh thn was tape left gift isKept kept trace p1 p2 z1 hz1) gX9_least_X9_areTwo rfl rfl rfl (n := 2) (by decide +kernel) ⟨Nat.le_of_ble_eq_true rfl, Nat.le_of_ble_eq_true rfl⟩ (q0 := 0) (ci := 9) rfl rfl rfl rfl hl.1 rfl (Nat.le_of_ble_eq_true rfl) dX9_least_8 ⟨Nat.zero_le _, Nat.zero_le _⟩ (fun U locs G => ?_)
  have G : Gd D A s (w_M cy mAd 0 status acts taped latest leng cursor token start till fault faultAt gifts traced lane many item bay fresh thn was tape left gift isKept kept trace) U locs := G
  refine lv_if_eq (tgt := 39) hx hb dX9_least_11 (by decide) (fun c2 => ?_) (fun c2 => ?_)
  · have H := if_t H c2
    refine lv_ldc hx hb hown lk1 dX9_least_39 ?_
    obtain rfl := Option.some.inj H
    exact ret_i C G rfl dX9_least_41
  · have H := if_f H c2
    refine lv_iload_n hx hb dX9_least_14 rfl (lv_at hl 3 rfl) ?_
    refine lv_i2l hx hb dX9_least_15 rfl ?_
    refine lv_lconst (v := 0) hx hb dX9_least_16 (by decide) ?_
    refine lv_ldc2 hx hb hown lk2 dX9_least_17 ?_
    obtain ⟨z3, hz3, H⟩ := bd_some H
    refine MI.callS z3 [.long p3.toInt64, .long 0, .long 999] [] [] C G (c_X9_in l D cy p3.toInt64 0 999 z3 hz3) gX9_least_X9_in rfl rfl rfl (n := 3) (by decide +kernel) ⟨Nat.le_of_ble_eq_true rfl, Nat.le_of_ble_eq_true rfl⟩ rfl rfl rfl rfl hl.1 rfl (Nat.le_of_ble_eq_true rfl) dX9_least_20 ⟨Nat.zero_le _, Nat.zero_le _⟩ (fun U locs G => ?_)
    have G : Gd D A s (w_M cy mAd 0 status acts taped latest leng cursor token start till fault faultAt gifts traced lane many item bay fresh thn was tape left gift isKept kept trace) U locs := G
    refine lv_if_eq (tgt := 39) hx hb dX9_least_23 (by decide) (fun c4 => ?_) (fun c4 => ?_)
    · have H := if_t H c4
      refine lv_ldc hx hb hown lk1 dX9_least_39 ?_
      obtain rfl := Option.some.inj H
      exact ret_i C G rfl dX9_least_41
    · have H := if_f H c4
      refine lv_iload hx hb dX9_least_26 (lv_at hl 4 rfl) ?_
      refine lv_i2l hx hb dX9_least_28 rfl ?_
      refine lv_lconst (v := 0) hx hb dX9_least_29 (by decide) ?_
      refine lv_ldc2 hx hb hown lk3 dX9_least_30 ?_
      obtain ⟨z5, hz5, H⟩ := bd_some H
      refine MI.callS z5 [.long p4.toInt64, .long 0, .long 24] [] [] C G (c_X9_in l D cy p4.toInt64 0 24 z5 hz5) gX9_least_X9_in rfl rfl rfl (n := 3) (by decide +kernel) ⟨Nat.le_of_ble_eq_true rfl, Nat.le_of_ble_eq_true rfl⟩ rfl rfl rfl rfl hl.1 rfl (Nat.le_of_ble_eq_true rfl) dX9_least_33 ⟨Nat.zero_le _, Nat.zero_le _⟩ (fun U locs G => ?_)
      have G : Gd D A s (w_M cy mAd 0 status acts taped latest leng cursor token start till fault faultAt gifts traced lane many item bay fresh thn was tape left gift isKept kept trace) U locs := G
      refine lv_if_ne (tgt := 42) hx hb dX9_least_36 (by decide) (fun c6 => ?_) (fun c6 => ?_)
      · have H := if_f H c6
        refine lv_iconst (v := 0) hx hb dX9_least_42 (by decide) ?_
        refine lv_istore (lv' := [(5, .int 0), (0, .ref (mAd 0)), (1, .int p1), (2, .int p2), (3, .int p3), (4, .int p4)]) hx hb dX9_least_43 hl (by decide) rfl (fun ls hl => ?_)
        exact wl_X9_least_45 C mAd 0 status acts taped latest leng cursor token start till fault faultAt gifts traced lane many item bay fresh was tape left gift isKept kept trace p1 p2 p3 p4 _ thn 0 z H _ _ _ G (lv_sub hl [1, 2, 3, 4, 5, 0] rfl)
      · have H := if_t H c6
        refine lv_ldc hx hb hown lk1 dX9_least_39 ?_
        obtain rfl := Option.some.inj H
        exact ret_i C G rfl dX9_least_41
