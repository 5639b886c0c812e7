def f_X9_run_L35 (bay : Nat → Int32) (x2 : Int32) : Nat → (Nat → Int32) → Int32 → Int32 → Option ((Nat → Int32) × Int32)
  | 0, _, _, _ => none
  | n + 1, thn, x1, x3 => if (bay 1) ≤ x3 then (some (thn, x1)) else (bd (f_X9_debt x2 x3) (fun z6 => gd (inb z6 75) (bd (f_X9_at x2 1) (fun z8 => gd (inb z8 75) (if (thn (ix z8)) ≤ (bay (ix z6)) then (bd (f_X9_at x2 1) (fun z11 => gd (inb z11 75) (bd (f_X9_at x2 1) (fun z13 => gd (inb z13 75) (bd (f_X9_at x3 1) (fun z15 => gd (inb z15 75) (if (bay (ix z6)) ≤ (thn (ix z11)) then (f_X9_run_L35 bay x2 n (upd (upd thn (ix z13) ((thn (ix z13)) - (thn (ix z11)))) (ix z15) (((upd thn (ix z13) ((thn (ix z13)) - (thn (ix z11)))) (ix z15)) + (thn (ix z11)))) (x1 ||| 0) (x3 + 1)) else (f_X9_run_L35 bay x2 n (upd (upd thn (ix z13) ((thn (ix z13)) - (thn (ix z11)))) (ix z15) (((upd thn (ix z13) ((thn (ix z13)) - (thn (ix z11)))) (ix z15)) + (thn (ix z11)))) (x1 ||| (1 <<< (x2 &&& 31))) (x3 + 1))))))))) else (bd (f_X9_at x2 1) (fun z18 => gd (inb z18 75) (bd (f_X9_at x3 1) (fun z20 => gd (inb z20 75) (if (bay (ix z6)) ≤ (bay (ix z6)) then (f_X9_run_L35 bay x2 n (upd (upd thn (ix z18) ((thn (ix z18)) - (bay (ix z6)))) (ix z20) (((upd thn (ix z18) ((thn (ix z18)) - (bay (ix z6)))) (ix z20)) + (bay (ix z6)))) (x1 ||| 0) (x3 + 1)) else (f_X9_run_L35 bay x2 n (upd (upd thn (ix z18) ((thn (ix z18)) - (bay (ix z6)))) (ix z20) (((upd thn (ix z18) ((thn (ix z18)) - (bay (ix z6)))) (ix z20)) + (bay (ix z6)))) (x1 ||| (1 <<< (x2 &&& 31))) (x3 + 1))))))))))))
theorem f_X9_run_L35_z (bay : Nat → Int32) (x2 : Int32) (thn : Nat → Int32) (x1 x3 : Int32) : f_X9_run_L35 bay x2 0 thn x1 x3 = none := rfl
theorem f_X9_run_L35_s (bay : Nat → Int32) (x2 : Int32) (n : Nat) (thn : Nat → Int32) (x1 x3 : Int32) : f_X9_run_L35 bay x2 (n + 1) thn x1 x3 = if (bay 1) ≤ x3 then (some (thn, x1)) else (bd (f_X9_debt x2 x3) (fun z6 => gd (inb z6 75) (bd (f_X9_at x2 1) (fun z8 => gd (inb z8 75) (if (thn (ix z8)) ≤ (bay (ix z6)) then (bd (f_X9_at x2 1) (fun z11 => gd (inb z11 75) (bd (f_X9_at x2 1) (fun z13 => gd (inb z13 75) (bd (f_X9_at x3 1) (fun z15 => gd (inb z15 75) (if (bay (ix z6)) ≤ (thn (ix z11)) then (f_X9_run_L35 bay x2 n (upd (upd thn (ix z13) ((thn (ix z13)) - (thn (ix z11)))) (ix z15) (((upd thn (ix z13) ((thn (ix z13)) - (thn (ix z11)))) (ix z15)) + (thn (ix z11)))) (x1 ||| 0) (x3 + 1)) else (f_X9_run_L35 bay x2 n (upd (upd thn (ix z13) ((thn (ix z13)) - (thn (ix z11)))) (ix z15) (((upd thn (ix z13) ((thn (ix z13)) - (thn (ix z11)))) (ix z15)) + (thn (ix z11)))) (x1 ||| (1 <<< (x2 &&& 31))) (x3 + 1))))))))) else (bd (f_X9_at x2 1) (fun z18 => gd (inb z18 75) (bd (f_X9_at x3 1) (fun z20 => gd (inb z20 75) (if (bay (ix z6)) ≤ (bay (ix z6)) then (f_X9_run_L35 bay x2 n (upd (upd thn (ix z18) ((thn (ix z18)) - (bay (ix z6)))) (ix z20) (((upd thn (ix z18) ((thn (ix z18)) - (bay (ix z6)))) (ix z20)) + (bay (ix z6)))) (x1 ||| 0) (x3 + 1)) else (f_X9_run_L35 bay x2 n (upd (upd thn (ix z18) ((thn (ix z18)) - (bay (ix z6)))) (ix z20) (((upd thn (ix z18) ((thn (ix z18)) - (bay (ix z6)))) (ix z20)) + (bay (ix z6)))) (x1 ||| (1 <<< (x2 &&& 31))) (x3 + 1)))))))))))) := rfl
set_option maxHeartbeats 4000000 in
set_option maxRecDepth 100000 in
theorem wl_X9_run_35 {p : Program} {l : Launch} {e : Env} {s : State} {m : MethodId} {below : List Frame} {meth : Method} {c : Code} {D : va_G} {cy : Nat → ClassId} {A : Nat → Prop} {args : Array Value} {Q : State → Prop} (C : Cx D cy A p s m meth c cX9_run 6 (some .int) wsX9_run RX9 args) (mAd : Nat → Nat) (thrown status acts taped latest leng cursor token start till fault faultAt gifts traced : Int32) (lane many item bay fresh was tape left gift isKept kept trace : Nat → Int32) (x2 : Int32) :
    ∀ (n : Nat) (thn : Nat → Int32) (x1 x3 : Int32) (z : ((Nat → Int32) × Int32)), f_X9_run_L35 bay x2 n thn x1 x3 = some z → (∀ (U : Heap) (locs : List Loc) (ls : Array Slot), Gd D A s (w_M cy mAd thrown status acts taped latest leng cursor token start till fault faultAt gifts traced lane many item bay fresh z.1 was tape left gift isKept kept trace) U locs → lv_has ls 6 [(0, .ref (mAd 0)), (1, .int z.2), (2, .int x2)] → W p l e ({ frames := 1, cells := 0, slots := 0, locals := 21 } : Room) s m args below meth c U locs 0 0 Q (F0 m 142 ls [])) → ∀ (U : Heap) (locs : List Loc) (ls : Array Slot), Gd D A s (w_M cy mAd thrown status acts taped latest leng cursor token start till fault faultAt gifts traced lane many item bay fresh thn was tape left gift isKept kept trace) U locs → lv_has ls 6 [(0, .ref (mAd 0)), (1, .int x1), (2, .int x2), (3, .int x3)] → W p l e ({ frames := 1, cells := 0, slots := 0, locals := 21 } : Room) s m args below meth c U locs 0 0 Q (F0 m 35 ls []) := by
  obtain ⟨hx, hb, hr, hml, hown, hts, hlk, hK, hA, hE⟩ := id C
  have lk0 := hts (Cond.fieldLink RX9 19 "TideDebtsModel" "bay" "[I") (List.mem_of_getElem? (i := 3) rfl)
  have lk1 := hts (Cond.fieldLink RX9 25 "TideDebtsModel" "then" "[I") (List.mem_of_getElem? (i := 4) rfl)
  have hiX9 : ∀ w ∈ u_ws RX9 TX9 27, w ∈ wsX9_run := fun _ h => List.mem_cons_of_mem _ (List.mem_append_right _ h)
  intro n
  induction n with
  | zero =>
    intro thn x1 x3 z H
    rw [f_X9_run_L35_z] at H
    cases H
  | succ n ih =>
    intro thn x1 x3 z H kk U locs ls G hl
    rw [f_X9_run_L35_s] at H
    refine lv_iload_n hx hb dX9_run_35 rfl (lv_at hl 3 rfl) ?_
    refine lv_aload_n hx hb dX9_run_36 rfl (lv_at hl 0 rfl) ?_
    refine va_get (D := D) (ci := 9) (v := .ref (mAd 4)) (C := RX9) (T := TX9) (N := 27) hx hb hts hiX9 hown hK G.1 0 rfl rfl 5 (by decide) lk0 (fun _ h9 => h9) rfl dX9_run_37 ?_
    refine lv_iconst (v := 1) hx hb dX9_run_40 (by decide) ?_
    refine g_iald (v := bay 1) hx hb hK G.1 4 1 rfl rfl (by decide) rfl dX9_run_41 ?_
    refine lv_icmp_ge (tgt := 142) hx hb dX9_run_42 (by decide) (fun c5 => ?_) (fun c5 => ?_)
    · have H := if_t H c5
      obtain rfl := Option.some.inj H
      exact kk _ _ _ G (lv_sub hl [0, 1, 2] rfl)
    · have H := if_f H c5
      refine lv_aload_n hx hb dX9_run_45 rfl (lv_at hl 0 rfl) ?_
      refine va_get (D := D) (ci := 9) (v := .ref (mAd 4)) (C := RX9) (T := TX9) (N := 27) hx hb hts hiX9 hown hK G.1 0 rfl rfl 5 (by decide) lk0 (fun _ h9 => h9) rfl dX9_run_46 ?_
      refine lv_iload_n hx hb dX9_run_49 rfl (lv_at hl 2 rfl) ?_
      refine lv_iload_n hx hb dX9_run_50 rfl (lv_at hl 3 rfl) ?_
      obtain ⟨z6, hz6, H⟩ := bd_some H
      refine MI.callS z6 [.int x2, .int x3] [.ref (mAd 4)] [] C G (c_X9_debt l D cy x2 x3 z6 hz6) gX9_run_X9_debt rfl rfl rfl (n := 2) (by decide +kernel) ⟨Nat.le_of_ble_eq_true rfl, Nat.le_of_ble_eq_true rfl⟩ rfl rfl rfl rfl hl.1 rfl (Nat.le_of_ble_eq_true rfl) dX9_run_51 ⟨Nat.zero_le _, Nat.zero_le _⟩ (fun U locs G => ?_)
      have G : Gd D A s (w_M cy mAd thrown status acts taped latest leng cursor token start till fault faultAt gifts traced lane many item bay fresh thn was tape left gift isKept kept trace) U locs := G
      obtain ⟨hb7, H⟩ := gd_some H
      refine g_iald (v := bay (ix z6)) hx hb hK G.1 4 1 rfl rfl hb7 rfl dX9_run_54 ?_
      refine lv_istore (lv' := [(4, .int (bay (ix z6))), (0, .ref (mAd 0)), (1, .int x1), (2, .int x2), (3, .int x3)]) hx hb dX9_run_55 hl (by decide) rfl (fun ls hl => ?_)
      refine lv_iload hx hb dX9_run_57 (lv_at hl 0 rfl) ?_
      refine lv_aload_n hx hb dX9_run_59 rfl (lv_at hl 1 rfl) ?_
      refine va_get (D := D) (ci := 9) (v := .ref (mAd 6)) (C := RX9) (T := TX9) (N := 27) hx hb hts hiX9 hown hK G.1 0 rfl rfl 7 (by decide) lk1 (fun _ h9 => h9) rfl dX9_run_60 ?_
      refine lv_iload_n hx hb dX9_run_63 rfl (lv_at hl 3 rfl) ?_
      refine lv_iconst (v := 1) hx hb dX9_run_64 (by decide) ?_
      obtain ⟨z8, hz8, H⟩ := bd_some H
      refine MI.callS z8 [.int x2, .int 1] [.ref (mAd 6), .int (bay (ix z6))] [] C G (c_X9_at l D cy x2 1 z8 hz8) gX9_run_X9_at rfl rfl rfl (n := 2) (by decide +kernel) ⟨Nat.le_of_ble_eq_true rfl, Nat.le_of_ble_eq_true rfl⟩ rfl rfl rfl rfl hl.1 rfl (Nat.le_of_ble_eq_true rfl) dX9_run_65 ⟨Nat.zero_le _, Nat.zero_le _⟩ (fun U locs G => ?_)
      have G : Gd D A s (w_M cy mAd thrown status acts taped latest leng cursor token start till fault faultAt gifts traced lane many item bay fresh thn was tape left gift isKept kept trace) U locs := G
      obtain ⟨hb9, H⟩ := gd_some H
      refine g_iald (v := thn (ix z8)) hx hb hK G.1 6 1 rfl rfl hb9 rfl dX9_run_68 ?_
      refine lv_icmp_ge (tgt := 77) hx hb dX9_run_69 (by decide) (fun c10 => ?_) (fun c10 => ?_)
      · have H := if_t H c10
        refine lv_aload_n hx hb dX9_run_77 rfl (lv_at hl 1 rfl) ?_
        refine va_get (D := D) (ci := 9) (v := .ref (mAd 6)) (C := RX9) (T := TX9) (N := 27) hx hb hts hiX9 hown hK G.1 0 rfl rfl 7 (by decide) lk1 (fun _ h9 => h9) rfl dX9_run_78 ?_
        refine lv_iload_n hx hb dX9_run_81 rfl (lv_at hl 3 rfl) ?_
        refine lv_iconst (v := 1) hx hb dX9_run_82 (by decide) ?_
        obtain ⟨z11, hz11, H⟩ := bd_some H
        refine MI.callS z11 [.int x2, .int 1] [.ref (mAd 6)] [] C G (c_X9_at l D cy x2 1 z11 hz11) gX9_run_X9_at rfl rfl rfl (n := 2) (by decide +kernel) ⟨Nat.le_of_ble_eq_true rfl, Nat.le_of_ble_eq_true rfl⟩ rfl rfl rfl rfl hl.1 rfl (Nat.le_of_ble_eq_true rfl) dX9_run_83 ⟨Nat.zero_le _, Nat.zero_le _⟩ (fun U locs G => ?_)
        have G : Gd D A s (w_M cy mAd thrown status acts taped latest leng cursor token start till fault faultAt gifts traced lane many item bay fresh thn was tape left gift isKept kept trace) U locs := G
        obtain ⟨hb12, H⟩ := gd_some H
        refine g_iald (v := thn (ix z11)) hx hb hK G.1 6 1 rfl rfl hb12 rfl dX9_run_86 ?_
        refine lv_istore (lv' := [(5, .int (thn (ix z11))), (4, .int (bay (ix z6))), (0, .ref (mAd 0)), (1, .int x1), (2, .int x2), (3, .int x3)]) hx hb dX9_run_87 hl (by decide) rfl (fun ls hl => ?_)
        refine lv_aload_n hx hb dX9_run_89 rfl (lv_at hl 2 rfl) ?_
        refine va_get (D := D) (ci := 9) (v := .ref (mAd 6)) (C := RX9) (T := TX9) (N := 27) hx hb hts hiX9 hown hK G.1 0 rfl rfl 7 (by decide) lk1 (fun _ h9 => h9) rfl dX9_run_90 ?_
        refine lv_iload_n hx hb dX9_run_93 rfl (lv_at hl 4 rfl) ?_
        refine lv_iconst (v := 1) hx hb dX9_run_94 (by decide) ?_
        obtain ⟨z13, hz13, H⟩ := bd_some H
        refine MI.callS z13 [.int x2, .int 1] [.ref (mAd 6)] [] C G (c_X9_at l D cy x2 1 z13 hz13) gX9_run_X9_at rfl rfl rfl (n := 2) (by decide +kernel) ⟨Nat.le_of_ble_eq_true rfl, Nat.le_of_ble_eq_true rfl⟩ rfl rfl rfl rfl hl.1 rfl (Nat.le_of_ble_eq_true rfl) dX9_run_95 ⟨Nat.zero_le _, Nat.zero_le _⟩ (fun U locs G => ?_)
        have G : Gd D A s (w_M cy mAd thrown status acts taped latest leng cursor token start till fault faultAt gifts traced lane many item bay fresh thn was tape left gift isKept kept trace) U locs := G
        refine lv_dup2_11 hx hb dX9_run_98 rfl rfl ?_
        obtain ⟨hb14, H⟩ := gd_some H
        refine g_iald (v := thn (ix z13)) hx hb hK G.1 6 1 rfl rfl hb14 rfl dX9_run_99 ?_
        refine lv_iload hx hb dX9_run_100 (lv_at hl 0 rfl) ?_
        refine lv_isub hx hb dX9_run_102 ?_
        refine va_iast hx hb hK G.1 G.2.1 G.2.2 6 1 rfl rfl (inb_in hb14) dX9_run_103 (fun U locs hP hD hS => ?_)
        have G : Gd D A s (w_M cy mAd thrown status acts taped latest leng cursor token start till fault faultAt gifts traced lane many item bay fresh (upd thn (ix z13) ((thn (ix z13)) - (thn (ix z11)))) was tape left gift isKept kept trace) U locs := ⟨hP, hD, hS⟩
        refine lv_aload_n hx hb dX9_run_104 rfl (lv_at hl 2 rfl) ?_
        refine va_get (D := D) (ci := 9) (v := .ref (mAd 6)) (C := RX9) (T := TX9) (N := 27) hx hb hts hiX9 hown hK G.1 0 rfl rfl 7 (by decide) lk1 (fun _ h9 => h9) rfl dX9_run_105 ?_
        refine lv_iload_n hx hb dX9_run_108 rfl (lv_at hl 5 rfl) ?_
        refine lv_iconst (v := 1) hx hb dX9_run_109 (by decide) ?_
        obtain ⟨z15, hz15, H⟩ := bd_some H
        refine MI.callS z15 [.int x3, .int 1] [.ref (mAd 6)] [] C G (c_X9_at l D cy x3 1 z15 hz15) gX9_run_X9_at rfl rfl rfl (n := 2) (by decide +kernel) ⟨Nat.le_of_ble_eq_true rfl, Nat.le_of_ble_eq_true rfl⟩ rfl rfl rfl rfl hl.1 rfl (Nat.le_of_ble_eq_true rfl) dX9_run_110 ⟨Nat.zero_le _, Nat.zero_le _⟩ (fun U locs G => ?_)
        have G : Gd D A s (w_M cy mAd thrown status acts taped latest leng cursor token start till fault faultAt gifts traced lane many item bay fresh (upd thn (ix z13) ((thn (ix z13)) - (thn (ix z11)))) was tape left gift isKept kept trace) U locs := G
        refine lv_dup2_11 hx hb dX9_run_113 rfl rfl ?_
        obtain ⟨hb16, H⟩ := gd_some H
        refine g_iald (v := (upd thn (ix z13) ((thn (ix z13)) - (thn (ix z11)))) (ix z15)) hx hb hK G.1 6 1 rfl rfl hb16 rfl dX9_run_114 ?_
        refine lv_iload hx hb dX9_run_115 (lv_at hl 0 rfl) ?_
        refine lv_iadd hx hb dX9_run_117 ?_
        refine va_iast hx hb hK G.1 G.2.1 G.2.2 6 1 rfl rfl (inb_in hb16) dX9_run_118 (fun U locs hP hD hS => ?_)
        have G : Gd D A s (w_M cy mAd thrown status acts taped latest leng cursor token start till fault faultAt gifts traced lane many item bay fresh (upd (upd thn (ix z13) ((thn (ix z13)) - (thn (ix z11)))) (ix z15) (((upd thn (ix z13) ((thn (ix z13)) - (thn (ix z11)))) (ix z15)) + (thn (ix z11)))) was tape left gift isKept kept trace) U locs := ⟨hP, hD, hS⟩
        refine lv_iload_n hx hb dX9_run_119 rfl (lv_at hl 3 rfl) ?_
        refine lv_iload hx hb dX9_run_120 (lv_at hl 0 rfl) ?_
        refine lv_iload hx hb dX9_run_122 (lv_at hl 1 rfl) ?_
        refine lv_icmp_ge (tgt := 133) hx hb dX9_run_124 (by decide) (fun c17 => ?_) (fun c17 => ?_)
        · have H := if_t H c17
          refine lv_iconst (v := 0) hx hb dX9_run_133 (by decide) ?_
          refine lv_ior hx hb dX9_run_134 ?_
          refine lv_istore_n (lv' := [(1, .int (x1 ||| 0)), (5, .int (thn (ix z11))), (4, .int (bay (ix z6))), (0, .ref (mAd 0)), (2, .int x2), (3, .int x3)]) hx hb dX9_run_135 rfl hl (by decide) rfl (fun ls hl => ?_)
          refine lv_iinc (v := x3 + 1) (lv' := [(3, .int (x3 + 1)), (1, .int (x1 ||| 0)), (5, .int (thn (ix z11))), (4, .int (bay (ix z6))), (0, .ref (mAd 0)), (2, .int x2)]) hx hb dX9_run_136 hl (k := 5) rfl rfl (by decide) rfl (fun ls hl => ?_)
          refine lv_goto (tgt := 35) hx hb dX9_run_139 (by decide) ?_
          exact ih (upd (upd thn (ix z13) ((thn (ix z13)) - (thn (ix z11)))) (ix z15) (((upd thn (ix z13) ((thn (ix z13)) - (thn (ix z11)))) (ix z15)) + (thn (ix z11)))) (x1 ||| 0) (x3 + 1) z H kk _ _ _ G (lv_sub hl [4, 1, 5, 0] rfl)
        · have H := if_f H c17
          refine lv_iconst (v := 1) hx hb dX9_run_127 (by decide) ?_
          refine lv_iload_n hx hb dX9_run_128 rfl (lv_at hl 4 rfl) ?_
          refine lv_ishl hx hb dX9_run_129 ?_
          refine lv_goto (tgt := 134) hx hb dX9_run_130 (by decide) ?_
          refine lv_ior hx hb dX9_run_134 ?_
          refine lv_istore_n (lv' := [(1, .int (x1 ||| (1 <<< (x2 &&& 31)))), (5, .int (thn (ix z11))), (4, .int (bay (ix z6))), (0, .ref (mAd 0)), (2, .int x2), (3, .int x3)]) hx hb dX9_run_135 rfl hl (by decide) rfl (fun ls hl => ?_)
          refine lv_iinc (v := x3 + 1) (lv' := [(3, .int (x3 + 1)), (1, .int (x1 ||| (1 <<< (x2 &&& 31)))), (5, .int (thn (ix z11))), (4, .int (bay (ix z6))), (0, .ref (mAd 0)), (2, .int x2)]) hx hb dX9_run_136 hl (k := 5) rfl rfl (by decide) rfl (fun ls hl => ?_)
          refine lv_goto (tgt := 35) hx hb dX9_run_139 (by decide) ?_
          exact ih (upd (upd thn (ix z13) ((thn (ix z13)) - (thn (ix z11)))) (ix z15) (((upd thn (ix z13) ((thn (ix z13)) - (thn (ix z11)))) (ix z15)) + (thn (ix z11)))) (x1 ||| (1 <<< (x2 &&& 31))) (x3 + 1) z H kk _ _ _ G (lv_sub hl [4, 1, 5, 0] rfl)
      · have H := if_f H c10
        refine lv_iload hx hb dX9_run_72 (lv_at hl 0 rfl) ?_
        refine lv_goto (tgt := 87) hx hb dX9_run_74 (by decide) ?_
        refine lv_istore (lv' := [(5, .int (bay (ix z6))), (4, .int (bay (ix z6))), (0, .ref (mAd 0)), (1, .int x1), (2, .int x2), (3, .int x3)]) hx hb dX9_run_87 hl (by decide) rfl (fun ls hl => ?_)
        refine lv_aload_n hx hb dX9_run_89 rfl (lv_at hl 2 rfl) ?_
        refine va_get (D := D) (ci := 9) (v := .ref (mAd 6)) (C := RX9) (T := TX9) (N := 27) hx hb hts hiX9 hown hK G.1 0 rfl rfl 7 (by decide) lk1 (fun _ h9 => h9) rfl dX9_run_90 ?_
        refine lv_iload_n hx hb dX9_run_93 rfl (lv_at hl 4 rfl) ?_
        refine lv_iconst (v := 1) hx hb dX9_run_94 (by decide) ?_
        obtain ⟨z18, hz18, H⟩ := bd_some H
        refine MI.callS z18 [.int x2, .int 1] [.ref (mAd 6)] [] C G (c_X9_at l D cy x2 1 z18 hz18) gX9_run_X9_at rfl rfl rfl (n := 2) (by decide +kernel) ⟨Nat.le_of_ble_eq_true rfl, Nat.le_of_ble_eq_true rfl⟩ rfl rfl rfl rfl hl.1 rfl (Nat.le_of_ble_eq_true rfl) dX9_run_95 ⟨Nat.zero_le _, Nat.zero_le _⟩ (fun U locs G => ?_)
        have G : Gd D A s (w_M cy mAd thrown status acts taped latest leng cursor token start till fault faultAt gifts traced lane many item bay fresh thn was tape left gift isKept kept trace) U locs := G
        refine lv_dup2_11 hx hb dX9_run_98 rfl rfl ?_
        obtain ⟨hb19, H⟩ := gd_some H
        refine g_iald (v := thn (ix z18)) hx hb hK G.1 6 1 rfl rfl hb19 rfl dX9_run_99 ?_
        refine lv_iload hx hb dX9_run_100 (lv_at hl 0 rfl) ?_
        refine lv_isub hx hb dX9_run_102 ?_
        refine va_iast hx hb hK G.1 G.2.1 G.2.2 6 1 rfl rfl (inb_in hb19) dX9_run_103 (fun U locs hP hD hS => ?_)
        have G : Gd D A s (w_M cy mAd thrown status acts taped latest leng cursor token start till fault faultAt gifts traced lane many item bay fresh (upd thn (ix z18) ((thn (ix z18)) - (bay (ix z6)))) was tape left gift isKept kept trace) U locs := ⟨hP, hD, hS⟩
        refine lv_aload_n hx hb dX9_run_104 rfl (lv_at hl 2 rfl) ?_
        refine va_get (D := D) (ci := 9) (v := .ref (mAd 6)) (C := RX9) (T := TX9) (N := 27) hx hb hts hiX9 hown hK G.1 0 rfl rfl 7 (by decide) lk1 (fun _ h9 => h9) rfl dX9_run_105 ?_
        refine lv_iload_n hx hb dX9_run_108 rfl (lv_at hl 5 rfl) ?_
        refine lv_iconst (v := 1) hx hb dX9_run_109 (by decide) ?_
        obtain ⟨z20, hz20, H⟩ := bd_some H
        refine MI.callS z20 [.int x3, .int 1] [.ref (mAd 6)] [] C G (c_X9_at l D cy x3 1 z20 hz20) gX9_run_X9_at rfl rfl rfl (n := 2) (by decide +kernel) ⟨Nat.le_of_ble_eq_true rfl, Nat.le_of_ble_eq_true rfl⟩ rfl rfl rfl rfl hl.1 rfl (Nat.le_of_ble_eq_true rfl) dX9_run_110 ⟨Nat.zero_le _, Nat.zero_le _⟩ (fun U locs G => ?_)
        have G : Gd D A s (w_M cy mAd thrown status acts taped latest leng cursor token start till fault faultAt gifts traced lane many item bay fresh (upd thn (ix z18) ((thn (ix z18)) - (bay (ix z6)))) was tape left gift isKept kept trace) U locs := G
        refine lv_dup2_11 hx hb dX9_run_113 rfl rfl ?_
        obtain ⟨hb21, H⟩ := gd_some H
        refine g_iald (v := (upd thn (ix z18) ((thn (ix z18)) - (bay (ix z6)))) (ix z20)) hx hb hK G.1 6 1 rfl rfl hb21 rfl dX9_run_114 ?_
        refine lv_iload hx hb dX9_run_115 (lv_at hl 0 rfl) ?_
        refine lv_iadd hx hb dX9_run_117 ?_
        refine va_iast hx hb hK G.1 G.2.1 G.2.2 6 1 rfl rfl (inb_in hb21) dX9_run_118 (fun U locs hP hD hS => ?_)
        have G : Gd D A s (w_M cy mAd thrown status acts taped latest leng cursor token start till fault faultAt gifts traced lane many item bay fresh (upd (upd thn (ix z18) ((thn (ix z18)) - (bay (ix z6)))) (ix z20) (((upd thn (ix z18) ((thn (ix z18)) - (bay (ix z6)))) (ix z20)) + (bay (ix z6)))) was tape left gift isKept kept trace) U locs := ⟨hP, hD, hS⟩
        refine lv_iload_n hx hb dX9_run_119 rfl (lv_at hl 3 rfl) ?_
        refine lv_iload hx hb dX9_run_120 (lv_at hl 0 rfl) ?_
        refine lv_iload hx hb dX9_run_122 (lv_at hl 1 rfl) ?_
        refine lv_icmp_ge (tgt := 133) hx hb dX9_run_124 (by decide) (fun c22 => ?_) (fun c22 => ?_)
        · have H := if_t H c22
          refine lv_iconst (v := 0) hx hb dX9_run_133 (by decide) ?_
          refine lv_ior hx hb dX9_run_134 ?_
          refine lv_istore_n (lv' := [(1, .int (x1 ||| 0)), (5, .int (bay (ix z6))), (4, .int (bay (ix z6))), (0, .ref (mAd 0)), (2, .int x2), (3, .int x3)]) hx hb dX9_run_135 rfl hl (by decide) rfl (fun ls hl => ?_)
          refine lv_iinc (v := x3 + 1) (lv' := [(3, .int (x3 + 1)), (1, .int (x1 ||| 0)), (5, .int (bay (ix z6))), (4, .int (bay (ix z6))), (0, .ref (mAd 0)), (2, .int x2)]) hx hb dX9_run_136 hl (k := 5) rfl rfl (by decide) rfl (fun ls hl => ?_)
          refine lv_goto (tgt := 35) hx hb dX9_run_139 (by decide) ?_
          exact ih (upd (upd thn (ix z18) ((thn (ix z18)) - (bay (ix z6)))) (ix z20) (((upd thn (ix z18) ((thn (ix z18)) - (bay (ix z6)))) (ix z20)) + (bay (ix z6)))) (x1 ||| 0) (x3 + 1) z H kk _ _ _ G (lv_sub hl [4, 1, 5, 0] rfl)
        · have H := if_f H c22
          refine lv_iconst (v := 1) hx hb dX9_run_127 (by decide) ?_
          refine lv_iload_n hx hb dX9_run_128 rfl (lv_at hl 4 rfl) ?_
          refine lv_ishl hx hb dX9_run_129 ?_
          refine lv_goto (tgt := 134) hx hb dX9_run_130 (by decide) ?_
          refine lv_ior hx hb dX9_run_134 ?_
          refine lv_istore_n (lv' := [(1, .int (x1 ||| (1 <<< (x2 &&& 31)))), (5, .int (bay (ix z6))), (4, .int (bay (ix z6))), (0, .ref (mAd 0)), (2, .int x2), (3, .int x3)]) hx hb dX9_run_135 rfl hl (by decide) rfl (fun ls hl => ?_)
          refine lv_iinc (v := x3 + 1) (lv' := [(3, .int (x3 + 1)), (1, .int (x1 ||| (1 <<< (x2 &&& 31)))), (5, .int (bay (ix z6))), (4, .int (bay (ix z6))), (0, .ref (mAd 0)), (2, .int x2)]) hx hb dX9_run_136 hl (k := 5) rfl rfl (by decide) rfl (fun ls hl => ?_)
          refine lv_goto (tgt := 35) hx hb dX9_run_139 (by decide) ?_
          exact ih (upd (upd thn (ix z18) ((thn (ix z18)) - (bay (ix z6)))) (ix z20) (((upd thn (ix z18) ((thn (ix z18)) - (bay (ix z6)))) (ix z20)) + (bay (ix z6)))) (x1 ||| (1 <<< (x2 &&& 31))) (x3 + 1) z H kk _ _ _ G (lv_sub hl [4, 1, 5, 0] rfl)
def f_X9_run_L23 (bay : Nat → Int32) : Nat → (Nat → Int32) → Int32 → Int32 → Option ((Nat → Int32) × Int32)
  | 0, _, _, _ => none
  | n + 1, thn, x1, x2 => if (bay 1) ≤ x2 then (some (thn, x1)) else (bd (f_X9_run_L35 bay x2 2000 thn x1 0) (fun z23 => f_X9_run_L23 bay n z23.1 z23.2 (x2 + 1)))
theorem f_X9_run_L23_z (bay : Nat → Int32) (thn : Nat → Int32) (x1 x2 : Int32) : f_X9_run_L23 bay 0 thn x1 x2 = none := rfl
theorem f_X9_run_L23_s (bay : Nat → Int32) (n : Nat) (thn : Nat → Int32) (x1 x2 : Int32) : f_X9_run_L23 bay (n + 1) thn x1 x2 = if (bay 1) ≤ x2 then (some (thn, x1)) else (bd (f_X9_run_L35 bay x2 2000 thn x1 0) (fun z23 => f_X9_run_L23 bay n z23.1 z23.2 (x2 + 1))) := rfl
set_option maxHeartbeats 4000000 in
set_option maxRecDepth 100000 in
theorem wl_X9_run_23 {p : Program} {l : Launch} {e : Env} {s : State} {m : MethodId} {below : List Frame} {meth : Method} {c : Code} {D : va_G} {cy : Nat → ClassId} {A : Nat → Prop} {args : Array Value} {Q : State → Prop} (C : Cx D cy A p s m meth c cX9_run 6 (some .int) wsX9_run RX9 args) (mAd : Nat → Nat) (thrown status acts taped latest leng cursor token start till fault faultAt gifts traced : Int32) (lane many item bay fresh was tape left gift isKept kept trace : Nat → Int32) :
    ∀ (n : Nat) (thn : Nat → Int32) (x1 x2 : Int32) (z : ((Nat → Int32) × Int32)), f_X9_run_L23 bay n thn x1 x2 = some z → (∀ (U : Heap) (locs : List Loc) (ls : Array Slot), Gd D A s (w_M cy mAd thrown status acts taped latest leng cursor token start till fault faultAt gifts traced lane many item bay fresh z.1 was tape left gift isKept kept trace) U locs → lv_has ls 6 [(1, .int z.2)] → W p l e ({ frames := 1, cells := 0, slots := 0, locals := 21 } : Room) s m args below meth c U locs 0 0 Q (F0 m 148 ls [])) → ∀ (U : Heap) (locs : List Loc) (ls : Array Slot), Gd D A s (w_M cy mAd thrown status acts taped latest leng cursor token start till fault faultAt gifts traced lane many item bay fresh thn was tape left gift isKept kept trace) U locs → lv_has ls 6 [(0, .ref (mAd 0)), (1, .int x1), (2, .int x2)] → W p l e ({ frames := 1, cells := 0, slots := 0, locals := 21 } : Room) s m args below meth c U locs 0 0 Q (F0 m 23 ls []) := by
  obtain ⟨hx, hb, hr, hml, hown, hts, hlk, hK, hA, hE⟩ := id C
  have lk0 := hts (Cond.fieldLink RX9 19 "TideDebtsModel" "bay" "[I") (List.mem_of_getElem? (i := 3) rfl)
  have hiX9 : ∀ w ∈ u_ws RX9 TX9 27, w ∈ wsX9_run := fun _ h => List.mem_cons_of_mem _ (List.mem_append_right _ h)
  intro n
  induction n with
  | zero =>
    intro thn x1 x2 z H
    rw [f_X9_run_L23_z] at H
    cases H
  | succ n ih =>
    intro thn x1 x2 z H kk U locs ls G hl
    rw [f_X9_run_L23_s] at H
    refine lv_iload_n hx hb dX9_run_23 rfl (lv_at hl 2 rfl) ?_
    refine lv_aload_n hx hb dX9_run_24 rfl (lv_at hl 0 rfl) ?_
    refine va_get (D := D) (ci := 9) (v := .ref (mAd 4)) (C := RX9) (T := TX9) (N := 27) hx hb hts hiX9 hown hK G.1 0 rfl rfl 5 (by decide) lk0 (fun _ h9 => h9) rfl dX9_run_25 ?_
    refine lv_iconst (v := 1) hx hb dX9_run_28 (by decide) ?_
    refine g_iald (v := bay 1) hx hb hK G.1 4 1 rfl rfl (by decide) rfl dX9_run_29 ?_
    refine lv_icmp_ge (tgt := 148) hx hb dX9_run_30 (by decide) (fun c4 => ?_) (fun c4 => ?_)
    · have H := if_t H c4
      obtain rfl := Option.some.inj H
      exact kk _ _ _ G (lv_sub hl [1] rfl)
    · have H := if_f H c4
      refine lv_iconst (v := 0) hx hb dX9_run_33 (by decide) ?_
      refine lv_istore_n (lv' := [(3, .int 0), (0, .ref (mAd 0)), (1, .int x1), (2, .int x2)]) hx hb dX9_run_34 rfl hl (by decide) rfl (fun ls hl => ?_)
      obtain ⟨z23, hz23, H⟩ := bd_some H
      refine wl_X9_run_35 C mAd thrown status acts taped latest leng cursor token start till fault faultAt gifts traced lane many item bay fresh was tape left gift isKept kept trace x2 _ thn x1 0 z23 hz23 (fun U locs ls G hl => ?_) _ _ _ G (lv_sub hl [1, 2, 3, 0] rfl)
      have G : Gd D A s (w_M cy mAd thrown status acts taped latest leng cursor token start till fault faultAt gifts traced lane many item bay fresh z23.1 was tape left gift isKept kept trace) U locs := G
      have hl : lv_has ls 6 [(0, .ref (mAd 0)), (1, .int z23.2), (2, .int x2)] := hl
      refine lv_iinc (v := x2 + 1) (lv' := [(2, .int (x2 + 1)), (0, .ref (mAd 0)), (1, .int z23.2)]) hx hb dX9_run_142 hl (k := 2) rfl rfl (by decide) rfl (fun ls hl => ?_)
      refine lv_goto (tgt := 23) hx hb dX9_run_145 (by decide) ?_
      exact ih z23.1 z23.2 (x2 + 1) z H kk _ _ _ G (lv_sub hl [1, 2, 0] rfl)
def f_X9_run (thrown : Int32) (bay thn : Nat → Int32) : Option (Int32 × Int32 × (Nat → Int32)) := bd (f_X9_isThere bay) (fun z1 => if z1 = 0 then (some ((-1000002), 0, thn)) else (bd (f_X9_layNow bay thn) (fun z3 => bd (f_X9_run_L23 bay 2000 z3 0 0) (fun z24 => some (z24.2, 0, z24.1)))))
set_option maxHeartbeats 4000000 in
set_option maxRecDepth 100000 in
theorem c_X9_run (l : Launch) (D : va_G) (cy : Nat → ClassId) (mAd : Nat → Nat) (thrown status acts taped latest leng cursor token start till fault faultAt gifts traced : Int32) (lane many item bay fresh thn was tape left gift isKept kept trace : Nat → Int32) (z : (Int32 × Int32 × (Nat → Int32))) (hz : f_X9_run thrown bay thn = some z) : MI l yX9_run wsX9_run ({ frames := 1, cells := 0, slots := 0, locals := 21 } : Room) D cy [.ref (mAd 0)] (w_M cy mAd thrown status acts taped latest leng cursor token start till fault faultAt gifts traced lane many item bay fresh thn was tape left gift isKept kept trace) z.1 (w_M cy mAd z.2.1 status acts taped latest leng cursor token start till fault faultAt gifts traced lane many item bay fresh z.2.2 was tape left gift isKept kept trace) := by
  refine met_start (Qf := fun A => MQi D cy z.1 (w_M cy mAd z.2.1 status acts taped latest leng cursor token start till fault faultAt gifts traced lane many item bay fresh z.2.2 was tape left gift isKept kept trace) A) (cc := cX9_run) (nL := 6) (ret := (some .int)) RX9 rfl (by decide) rfl (Nat.le_of_ble_eq_true rfl) ?_
  intro p e s m below meth c A ls C G hl
  have hl : lv_has ls 6 [(0, .ref (mAd 0))] := hl
  have H := hz
  unfold f_X9_run at H
  obtain ⟨hx, hb, hr, hml, hown, hts, hlk, hK, hA, hE⟩ := id C
  have lk0 := hts (Cond.fieldLink RX9 50 "TideDebtsModel" "thrown" "I") (List.mem_of_getElem? (i := 1) rfl)
  have lk1 := hts (Cond.constant RX9 196 (-1000002)) (List.mem_of_getElem? (i := 2) rfl)
  have hiX9 : ∀ w ∈ u_ws RX9 TX9 27, w ∈ wsX9_run := fun _ h => List.mem_cons_of_mem _ (List.mem_append_right _ h)
  refine lv_aload_n hx hb dX9_run_0 rfl (lv_at hl 0 rfl) ?_
  refine lv_iconst (v := 0) hx hb dX9_run_1 (by decide) ?_
  refine va_put (D := D) (ci := 9) (v := .int 0) (ty := .int) (C := RX9) (T := TX9) (N := 27) hx hb hts hiX9 tyX9 tyX9_ok nmX9 hown hK G.1 G.2.1 G.2.2 0 rfl rfl 0 (by decide) lk0 (fun _ h9 => h9) rfl (tyX9_ok 0 (by decide)) rfl rfl (Nat.le_of_ble_eq_true rfl) dX9_run_2 (fun U locs hP hD hS => ?_)
  have G : Gd D A s (w_M cy mAd 0 status acts taped latest leng cursor token start till fault faultAt gifts traced lane many item bay fresh thn was tape left gift isKept kept trace) U locs := ⟨hP, hD, hS⟩
  refine lv_aload_n hx hb dX9_run_5 rfl (lv_at hl 0 rfl) ?_
  obtain ⟨z1, hz1, H⟩ := bd_some H
  refine MI.callVw z1 [] [] C G (c_X9_isThere l D cy mAd 0 status acts taped latest leng cursor token start till fault faultAt gifts traced lane many item bay fresh thn was tape left gift isKept kept trace z1 hz1) gX9_run_X9_isThere rfl rfl rfl (n := 0) (by decide +kernel) ⟨Nat.le_of_ble_eq_true rfl, Nat.le_of_ble_eq_true rfl⟩ (q0 := 0) (ci := 9) rfl rfl rfl rfl hl.1 rfl (Nat.le_of_ble_eq_true rfl) dX9_run_6 ⟨Nat.zero_le _, Nat.zero_le _⟩ (fun U locs G => ?_)
  have G : Gd D A s (w_M cy mAd 0 status acts taped latest leng cursor token start till fault faultAt gifts traced lane many item bay fresh thn was tape left gift isKept kept trace) U locs := G
  refine lv_if_ne (tgt := 15) hx hb dX9_run_9 (by decide) (fun c2 => ?_) (fun c2 => ?_)
  · have H := if_f H c2
    refine lv_aload_n hx hb dX9_run_15 rfl (lv_at hl 0 rfl) ?_
    obtain ⟨z3, hz3, H⟩ := bd_some H
    refine MV.callVw [] [] C G (c_X9_layNow l D cy mAd 0 status acts taped latest leng cursor token start till fault faultAt gifts traced lane many item bay fresh thn was tape left gift isKept kept trace z3 hz3) gX9_run_X9_layNow rfl rfl rfl (n := 0) (by decide +kernel) ⟨Nat.le_of_ble_eq_true rfl, Nat.le_of_ble_eq_true rfl⟩ (q0 := 0) (ci := 9) rfl rfl rfl rfl hl.1 rfl (Nat.le_of_ble_eq_true rfl) dX9_run_16 ⟨Nat.zero_le _, Nat.zero_le _⟩ (fun U locs G => ?_)
    have G : Gd D A s (w_M cy mAd 0 status acts taped latest leng cursor token start till fault faultAt gifts traced lane many item bay fresh z3 was tape left gift isKept kept trace) U locs := G
    refine lv_iconst (v := 0) hx hb dX9_run_19 (by decide) ?_
    refine lv_istore_n (lv' := [(1, .int 0), (0, .ref (mAd 0))]) hx hb dX9_run_20 rfl hl (by decide) rfl (fun ls hl => ?_)
    refine lv_iconst (v := 0) hx hb dX9_run_21 (by decide) ?_
    refine lv_istore_n (lv' := [(2, .int 0), (1, .int 0), (0, .ref (mAd 0))]) hx hb dX9_run_22 rfl hl (by decide) rfl (fun ls hl => ?_)
    obtain ⟨z24, hz24, H⟩ := bd_some H
    refine wl_X9_run_23 C mAd 0 status acts taped latest leng cursor token start till fault faultAt gifts traced lane many item bay fresh was tape left gift isKept kept trace _ z3 0 0 z24 hz24 (fun U locs ls G hl => ?_) _ _ _ G (lv_sub hl [2, 1, 0] rfl)
    have G : Gd D A s (w_M cy mAd 0 status acts taped latest leng cursor token start till fault faultAt gifts traced lane many item bay fresh z24.1 was tape left gift isKept kept trace) U locs := G
    have hl : lv_has ls 6 [(1, .int z24.2)] := hl
    refine lv_iload_n hx hb dX9_run_148 rfl (lv_at hl 0 rfl) ?_
    obtain rfl := Option.some.inj H
    exact ret_i C G rfl dX9_run_149
  · have H := if_t H c2
    refine lv_ldc hx hb hown lk1 dX9_run_12 ?_
    obtain rfl := Option.some.inj H
    exact ret_i C G rfl dX9_run_14
def f_X9_frauds_L126 (item bay thn : Nat → Int32) (x1 x2 : Int32) : Nat → Int32 → Int32 → Option Int32
  | 0, _, _ => none
  | n + 1, x3, x4 => if (bay 1) ≤ x4 then (some x3) else (bd (f_X9_at x4 1) (fun z14 => gd (inb z14 75) (gd (inb (((40 * x1) + x2) + x4) 320) (if (thn (ix z14)) = (item (ix (((40 * x1) + x2) + x4))) then (f_X9_frauds_L126 item bay thn x1 x2 n (x3 ||| 0) (x4 + 1)) else (f_X9_frauds_L126 item bay thn x1 x2 n (x3 ||| (1 <<< (x4 &&& 31))) (x4 + 1))))))
theorem f_X9_frauds_L126_z (item bay thn : Nat → Int32) (x1 x2 : Int32) (x3 x4 : Int32) : f_X9_frauds_L126 item bay thn x1 x2 0 x3 x4 = none := rfl
theorem f_X9_frauds_L126_s (item bay thn : Nat → Int32) (x1 x2 : Int32) (n : Nat) (x3 x4 : Int32) : f_X9_frauds_L126 item bay thn x1 x2 (n + 1) x3 x4 = if (bay 1) ≤ x4 then (some x3) else (bd (f_X9_at x4 1) (fun z14 => gd (inb z14 75) (gd (inb (((40 * x1) + x2) + x4) 320) (if (thn (ix z14)) = (item (ix (((40 * x1) + x2) + x4))) then (f_X9_frauds_L126 item bay thn x1 x2 n (x3 ||| 0) (x4 + 1)) else (f_X9_frauds_L126 item bay thn x1 x2 n (x3 ||| (1 <<< (x4 &&& 31))) (x4 + 1)))))) := rfl
set_option maxHeartbeats 4000000 in
set_option maxRecDepth 100000 in
theorem wl_X9_frauds_126 {p : Program} {l : Launch} {e : Env} {s : State} {m : MethodId} {below : List Frame} {meth : Method} {c : Code} {D : va_G} {cy : Nat → ClassId} {A : Nat → Prop} {args : Array Value} {Q : State → Prop} (C : Cx D cy A p s m meth c cX9_frauds 5 (some .int) wsX9_frauds RX9 args) (mAd : Nat → Nat) (thrown status acts taped latest leng cursor token start till fault faultAt gifts traced : Int32) (lane many item bay fresh thn was tape left gift isKept kept trace : Nat → Int32) (x1 x2 : Int32) :
    ∀ (n : Nat) (x3 x4 : Int32) (z : Int32), f_X9_frauds_L126 item bay thn x1 x2 n x3 x4 = some z → (∀ (U : Heap) (locs : List Loc) (ls : Array Slot), Gd D A s (w_M cy mAd thrown status acts taped latest leng cursor token start till fault faultAt gifts traced lane many item bay fresh thn was tape left gift isKept kept trace) U locs → lv_has ls 5 [(3, .int z)] → W p l e ({ frames := 3, cells := 0, slots := 0, locals := 69 } : Room) s m args below meth c U locs 0 0 Q (F0 m 182 ls [])) → ∀ (U : Heap) (locs : List Loc) (ls : Array Slot), Gd D A s (w_M cy mAd thrown status acts taped latest leng cursor token start till fault faultAt gifts traced lane many item bay fresh thn was tape left gift isKept kept trace) U locs → lv_has ls 5 [(0, .ref (mAd 0)), (1, .int x1), (2, .int x2), (3, .int x3), (4, .int x4)] → W p l e ({ frames := 3, cells := 0, slots := 0, locals := 69 } : Room) s m args below meth c U locs 0 0 Q (F0 m 126 ls []) := by
  obtain ⟨hx, hb, hr, hml, hown, hts, hlk, hK, hA, hE⟩ := id C
  have lk0 := hts (Cond.fieldLink RX9 19 "TideDebtsModel" "bay" "[I") (List.mem_of_getElem? (i := 5) rfl)
  have lk1 := hts (Cond.fieldLink RX9 25 "TideDebtsModel" "then" "[I") (List.mem_of_getElem? (i := 9) rfl)
  have lk2 := hts (Cond.fieldLink RX9 16 "TideDebtsModel" "item" "[I") (List.mem_of_getElem? (i := 7) rfl)
  have hiX9 : ∀ w ∈ u_ws RX9 TX9 27, w ∈ wsX9_frauds := fun _ h => List.mem_cons_of_mem _ (List.mem_append_right _ h)
  intro n
  induction n with
  | zero =>
    intro x3 x4 z H
    rw [f_X9_frauds_L126_z] at H
    cases H
  | succ n ih =>
    intro x3 x4 z H kk U locs ls G hl
    rw [f_X9_frauds_L126_s] at H
    refine lv_iload hx hb dX9_frauds_126 (lv_at hl 4 rfl) ?_
    refine lv_aload_n hx hb dX9_frauds_128 rfl (lv_at hl 0 rfl) ?_
    refine va_get (D := D) (ci := 9) (v := .ref (mAd 4)) (C := RX9) (T := TX9) (N := 27) hx hb hts hiX9 hown hK G.1 0 rfl rfl 5 (by decide) lk0 (fun _ h9 => h9) rfl dX9_frauds_129 ?_
    refine lv_iconst (v := 1) hx hb dX9_frauds_132 (by decide) ?_
    refine g_iald (v := bay 1) hx hb hK G.1 4 1 rfl rfl (by decide) rfl dX9_frauds_133 ?_
    refine lv_icmp_ge (tgt := 182) hx hb dX9_frauds_134 (by decide) (fun c13 => ?_) (fun c13 => ?_)
    · have H := if_t H c13
      obtain rfl := Option.some.inj H
      exact kk _ _ _ G (lv_sub hl [3] rfl)
    · have H := if_f H c13
      refine lv_iload_n hx hb dX9_frauds_137 rfl (lv_at hl 3 rfl) ?_
      refine lv_aload_n hx hb dX9_frauds_138 rfl (lv_at hl 0 rfl) ?_
      refine va_get (D := D) (ci := 9) (v := .ref (mAd 6)) (C := RX9) (T := TX9) (N := 27) hx hb hts hiX9 hown hK G.1 0 rfl rfl 7 (by decide) lk1 (fun _ h9 => h9) rfl dX9_frauds_139 ?_
      refine lv_iload hx hb dX9_frauds_142 (lv_at hl 4 rfl) ?_
      refine lv_iconst (v := 1) hx hb dX9_frauds_144 (by decide) ?_
      obtain ⟨z14, hz14, H⟩ := bd_some H
      refine MI.callS z14 [.int x4, .int 1] [.ref (mAd 6), .int x3] [] C G (c_X9_at l D cy x4 1 z14 hz14) gX9_frauds_X9_at rfl rfl rfl (n := 2) (by decide +kernel) ⟨Nat.le_of_ble_eq_true rfl, Nat.le_of_ble_eq_true rfl⟩ rfl rfl rfl rfl hl.1 rfl (Nat.le_of_ble_eq_true rfl) dX9_frauds_145 ⟨Nat.zero_le _, Nat.zero_le _⟩ (fun U locs G => ?_)
      have G : Gd D A s (w_M cy mAd thrown status acts taped latest leng cursor token start till fault faultAt gifts traced lane many item bay fresh thn was tape left gift isKept kept trace) U locs := G
      obtain ⟨hb15, H⟩ := gd_some H
      refine g_iald (v := thn (ix z14)) hx hb hK G.1 6 1 rfl rfl hb15 rfl dX9_frauds_148 ?_
      refine lv_aload_n hx hb dX9_frauds_149 rfl (lv_at hl 0 rfl) ?_
      refine va_get (D := D) (ci := 9) (v := .ref (mAd 3)) (C := RX9) (T := TX9) (N := 27) hx hb hts hiX9 hown hK G.1 0 rfl rfl 4 (by decide) lk2 (fun _ h9 => h9) rfl dX9_frauds_150 ?_
      refine lv_bipush (v := 40) hx hb dX9_frauds_153 (by decide) ?_
      refine lv_iload_n hx hb dX9_frauds_155 rfl (lv_at hl 1 rfl) ?_
      refine lv_imul hx hb dX9_frauds_156 ?_
      refine lv_iload_n hx hb dX9_frauds_157 rfl (lv_at hl 2 rfl) ?_
      refine lv_iadd hx hb dX9_frauds_158 ?_
      refine lv_iload hx hb dX9_frauds_159 (lv_at hl 4 rfl) ?_
      refine lv_iadd hx hb dX9_frauds_161 ?_
      obtain ⟨hb16, H⟩ := gd_some H
      refine g_iald (v := item (ix (((40 * x1) + x2) + x4))) hx hb hK G.1 3 1 rfl rfl hb16 rfl dX9_frauds_162 ?_
      refine lv_icmp_eq (tgt := 173) hx hb dX9_frauds_163 (by decide) (fun c17 => ?_) (fun c17 => ?_)
      · have H := if_t H c17
        refine lv_iconst (v := 0) hx hb dX9_frauds_173 (by decide) ?_
        refine lv_ior hx hb dX9_frauds_174 ?_
        refine lv_istore_n (lv' := [(3, .int (x3 ||| 0)), (0, .ref (mAd 0)), (1, .int x1), (2, .int x2), (4, .int x4)]) hx hb dX9_frauds_175 rfl hl (by decide) rfl (fun ls hl => ?_)
        refine lv_iinc (v := x4 + 1) (lv' := [(4, .int (x4 + 1)), (3, .int (x3 ||| 0)), (0, .ref (mAd 0)), (1, .int x1), (2, .int x2)]) hx hb dX9_frauds_176 hl (k := 4) rfl rfl (by decide) rfl (fun ls hl => ?_)
        refine lv_goto (tgt := 126) hx hb dX9_frauds_179 (by decide) ?_
        exact ih (x3 ||| 0) (x4 + 1) z H kk _ _ _ G (lv_sub hl [2, 3, 4, 1, 0] rfl)
      · have H := if_f H c17
        refine lv_iconst (v := 1) hx hb dX9_frauds_166 (by decide) ?_
        refine lv_iload hx hb dX9_frauds_167 (lv_at hl 4 rfl) ?_
        refine lv_ishl hx hb dX9_frauds_169 ?_
        refine lv_goto (tgt := 174) hx hb dX9_frauds_170 (by decide) ?_
        refine lv_ior hx hb dX9_frauds_174 ?_
        refine lv_istore_n (lv' := [(3, .int (x3 ||| (1 <<< (x4 &&& 31)))), (0, .ref (mAd 0)), (1, .int x1), (2, .int x2), (4, .int x4)]) hx hb dX9_frauds_175 rfl hl (by decide) rfl (fun ls hl => ?_)
        refine lv_iinc (v := x4 + 1) (lv' := [(4, .int (x4 + 1)), (3, .int (x3 ||| (1 <<< (x4 &&& 31)))), (0, .ref (mAd 0)), (1, .int x1), (2, .int x2)]) hx hb dX9_frauds_176 hl (k := 4) rfl rfl (by decide) rfl (fun ls hl => ?_)
        refine lv_goto (tgt := 126) hx hb dX9_frauds_179 (by decide) ?_
        exact ih (x3 ||| (1 <<< (x4 &&& 31))) (x4 + 1) z H kk _ _ _ G (lv_sub hl [2, 3, 4, 1, 0] rfl)
def f_X9_frauds_L73 (thrown status : Int32) (item bay thn : Nat → Int32) (x1 x2 : Int32) : Nat → Int32 → Option (Int32 × Int32 × Int32 × (Nat → Int32))
  | 0, _ => none
  | n + 1, x3 => if (bay 1) ≤ x3 then (bd (f_X9_layNow bay thn) (fun z11 => bd (f_X9_goHour bay z11) (fun z12 => bd (f_X9_frauds_L126 item bay z12 x1 x2 2000 0 0) (fun z18 => some (z18, thrown, 0, z12))))) else (gd (inb (((40 * x1) + x2) + x3) 320) (if 0 ≤ (item (ix (((40 * x1) + x2) + x3))) then (f_X9_frauds_L73 thrown status item bay thn x1 x2 n (x3 + 1)) else (some ((-1000001), thrown, status, thn))))
theorem f_X9_frauds_L73_z (thrown status : Int32) (item bay thn : Nat → Int32) (x1 x2 : Int32) (x3 : Int32) : f_X9_frauds_L73 thrown status item bay thn x1 x2 0 x3 = none := rfl
theorem f_X9_frauds_L73_s (thrown status : Int32) (item bay thn : Nat → Int32) (x1 x2 : Int32) (n : Nat) (x3 : Int32) : f_X9_frauds_L73 thrown status item bay thn x1 x2 (n + 1) x3 = if (bay 1) ≤ x3 then (bd (f_X9_layNow bay thn) (fun z11 => bd (f_X9_goHour bay z11) (fun z12 => bd (f_X9_frauds_L126 item bay z12 x1 x2 2000 0 0) (fun z18 => some (z18, thrown, 0, z12))))) else (gd (inb (((40 * x1) + x2) + x3) 320) (if 0 ≤ (item (ix (((40 * x1) + x2) + x3))) then (f_X9_frauds_L73 thrown status item bay thn x1 x2 n (x3 + 1)) else (some ((-1000001), thrown, status, thn)))) := rfl
set_option maxHeartbeats 4000000 in
set_option maxRecDepth 100000 in
theorem wl_X9_frauds_73 {p : Program} {l : Launch} {e : Env} {s : State} {m : MethodId} {below : List Frame} {meth : Method} {c : Code} {D : va_G} {cy : Nat → ClassId} {A : Nat → Prop} {args : Array Value} (C : Cx D cy A p s m meth c cX9_frauds 5 (some .int) wsX9_frauds RX9 args) (mAd : Nat → Nat) (thrown status acts taped latest leng cursor token start till fault faultAt gifts traced : Int32) (lane many item bay fresh thn was tape left gift isKept kept trace : Nat → Int32) (x1 x2 : Int32) :
    ∀ (n : Nat) (x3 : Int32) (z : (Int32 × Int32 × Int32 × (Nat → Int32))), f_X9_frauds_L73 thrown status item bay thn x1 x2 n x3 = some z → ∀ (U : Heap) (locs : List Loc) (ls : Array Slot), Gd D A s (w_M cy mAd thrown status acts taped latest leng cursor token start till fault faultAt gifts traced lane many item bay fresh thn was tape left gift isKept kept trace) U locs → lv_has ls 5 [(0, .ref (mAd 0)), (1, .int x1), (2, .int x2), (3, .int x3)] → W p l e ({ frames := 3, cells := 0, slots := 0, locals := 69 } : Room) s m args below meth c U locs 0 0 (MQ below (MQi D cy z.1 (w_M cy mAd z.2.1 z.2.2.1 acts taped latest leng cursor token start till fault faultAt gifts traced lane many item bay fresh z.2.2.2 was tape left gift isKept kept trace) A) args s 0 0 A) (F0 m 73 ls []) := by
  obtain ⟨hx, hb, hr, hml, hown, hts, hlk, hK, hA, hE⟩ := id C
  have lk0 := hts (Cond.fieldLink RX9 19 "TideDebtsModel" "bay" "[I") (List.mem_of_getElem? (i := 5) rfl)
  have lk1 := hts (Cond.fieldLink RX9 54 "TideDebtsModel" "status" "I") (List.mem_of_getElem? (i := 8) rfl)
  have lk2 := hts (Cond.fieldLink RX9 16 "TideDebtsModel" "item" "[I") (List.mem_of_getElem? (i := 7) rfl)
  have lk3 := hts (Cond.constant RX9 70 (-1000001)) (List.mem_of_getElem? (i := 3) rfl)
  have hiX9 : ∀ w ∈ u_ws RX9 TX9 27, w ∈ wsX9_frauds := fun _ h => List.mem_cons_of_mem _ (List.mem_append_right _ h)
  intro n
  induction n with
  | zero =>
    intro x3 z H
    rw [f_X9_frauds_L73_z] at H
    cases H
  | succ n ih =>
    intro x3 z H U locs ls G hl
    rw [f_X9_frauds_L73_s] at H
    refine lv_iload_n hx hb dX9_frauds_73 rfl (lv_at hl 3 rfl) ?_
    refine lv_aload_n hx hb dX9_frauds_74 rfl (lv_at hl 0 rfl) ?_
    refine va_get (D := D) (ci := 9) (v := .ref (mAd 4)) (C := RX9) (T := TX9) (N := 27) hx hb hts hiX9 hown hK G.1 0 rfl rfl 5 (by decide) lk0 (fun _ h9 => h9) rfl dX9_frauds_75 ?_
    refine lv_iconst (v := 1) hx hb dX9_frauds_78 (by decide) ?_
    refine g_iald (v := bay 1) hx hb hK G.1 4 1 rfl rfl (by decide) rfl dX9_frauds_79 ?_
    refine lv_icmp_ge (tgt := 108) hx hb dX9_frauds_80 (by decide) (fun c10 => ?_) (fun c10 => ?_)
    · have H := if_t H c10
      refine lv_aload_n hx hb dX9_frauds_108 rfl (lv_at hl 0 rfl) ?_
      refine lv_iconst (v := 0) hx hb dX9_frauds_109 (by decide) ?_
      refine va_put (D := D) (ci := 9) (v := .int 0) (ty := .int) (C := RX9) (T := TX9) (N := 27) hx hb hts hiX9 tyX9 tyX9_ok nmX9 hown hK G.1 G.2.1 G.2.2 0 rfl rfl 1 (by decide) lk1 (fun _ h9 => h9) rfl (tyX9_ok 1 (by decide)) rfl rfl (Nat.le_of_ble_eq_true rfl) dX9_frauds_110 (fun U locs hP hD hS => ?_)
      have G : Gd D A s (w_M cy mAd thrown 0 acts taped latest leng cursor token start till fault faultAt gifts traced lane many item bay fresh thn was tape left gift isKept kept trace) U locs := ⟨hP, hD, hS⟩
      refine lv_aload_n hx hb dX9_frauds_113 rfl (lv_at hl 0 rfl) ?_
      obtain ⟨z11, hz11, H⟩ := bd_some H
      refine MV.callVw [] [] C G (c_X9_layNow l D cy mAd thrown 0 acts taped latest leng cursor token start till fault faultAt gifts traced lane many item bay fresh thn was tape left gift isKept kept trace z11 hz11) gX9_frauds_X9_layNow rfl rfl rfl (n := 0) (by decide +kernel) ⟨Nat.le_of_ble_eq_true rfl, Nat.le_of_ble_eq_true rfl⟩ (q0 := 0) (ci := 9) rfl rfl rfl rfl hl.1 rfl (Nat.le_of_ble_eq_true rfl) dX9_frauds_114 ⟨Nat.zero_le _, Nat.zero_le _⟩ (fun U locs G => ?_)
      have G : Gd D A s (w_M cy mAd thrown 0 acts taped latest leng cursor token start till fault faultAt gifts traced lane many item bay fresh z11 was tape left gift isKept kept trace) U locs := G
      refine lv_aload_n hx hb dX9_frauds_117 rfl (lv_at hl 0 rfl) ?_
      obtain ⟨z12, hz12, H⟩ := bd_some H
      refine MV.callVw [] [] C G (c_X9_goHour l D cy mAd thrown 0 acts taped latest leng cursor token start till fault faultAt gifts traced lane many item bay fresh z11 was tape left gift isKept kept trace z12 hz12) gX9_frauds_X9_goHour rfl rfl rfl (n := 0) (by decide +kernel) ⟨Nat.le_of_ble_eq_true rfl, Nat.le_of_ble_eq_true rfl⟩ (q0 := 0) (ci := 9) rfl rfl rfl rfl hl.1 rfl (Nat.le_of_ble_eq_true rfl) dX9_frauds_118 ⟨Nat.zero_le _, Nat.zero_le _⟩ (fun U locs G => ?_)
      have G : Gd D A s (w_M cy mAd thrown 0 acts taped latest leng cursor token start till fault faultAt gifts traced lane many item bay fresh z12 was tape left gift isKept kept trace) U locs := G
      refine lv_iconst (v := 0) hx hb dX9_frauds_121 (by decide) ?_
      refine lv_istore_n (lv' := [(3, .int 0), (0, .ref (mAd 0)), (1, .int x1), (2, .int x2)]) hx hb dX9_frauds_122 rfl hl (by decide) rfl (fun ls hl => ?_)
      refine lv_iconst (v := 0) hx hb dX9_frauds_123 (by decide) ?_
      refine lv_istore (lv' := [(4, .int 0), (3, .int 0), (0, .ref (mAd 0)), (1, .int x1), (2, .int x2)]) hx hb dX9_frauds_124 hl (by decide) rfl (fun ls hl => ?_)
      obtain ⟨z18, hz18, H⟩ := bd_some H
      refine wl_X9_frauds_126 C mAd thrown 0 acts taped latest leng cursor token start till fault faultAt gifts traced lane many item bay fresh z12 was tape left gift isKept kept trace x1 x2 _ 0 0 z18 hz18 (fun U locs ls G hl => ?_) _ _ _ G (lv_sub hl [2, 3, 4, 1, 0] rfl)
      have G : Gd D A s (w_M cy mAd thrown 0 acts taped latest leng cursor token start till fault faultAt gifts traced lane many item bay fresh z12 was tape left gift isKept kept trace) U locs := G
      have hl : lv_has ls 5 [(3, .int z18)] := hl
      refine lv_iload_n hx hb dX9_frauds_182 rfl (lv_at hl 0 rfl) ?_
      obtain rfl := Option.some.inj H
      exact ret_i C G rfl dX9_frauds_183
    · have H := if_f H c10
      refine lv_aload_n hx hb dX9_frauds_83 rfl (lv_at hl 0 rfl) ?_
      refine va_get (D := D) (ci := 9) (v := .ref (mAd 3)) (C := RX9) (T := TX9) (N := 27) hx hb hts hiX9 hown hK G.1 0 rfl rfl 4 (by decide) lk2 (fun _ h9 => h9) rfl dX9_frauds_84 ?_
      refine lv_bipush (v := 40) hx hb dX9_frauds_87 (by decide) ?_
      refine lv_iload_n hx hb dX9_frauds_89 rfl (lv_at hl 1 rfl) ?_
      refine lv_imul hx hb dX9_frauds_90 ?_
      refine lv_iload_n hx hb dX9_frauds_91 rfl (lv_at hl 2 rfl) ?_
      refine lv_iadd hx hb dX9_frauds_92 ?_
      refine lv_iload_n hx hb dX9_frauds_93 rfl (lv_at hl 3 rfl) ?_
      refine lv_iadd hx hb dX9_frauds_94 ?_
      obtain ⟨hb19, H⟩ := gd_some H
      refine g_iald (v := item (ix (((40 * x1) + x2) + x3))) hx hb hK G.1 3 1 rfl rfl hb19 rfl dX9_frauds_95 ?_
      refine lv_if_ge (tgt := 102) hx hb dX9_frauds_96 (by decide) (fun c20 => ?_) (fun c20 => ?_)
      · have H := if_t H c20
        refine lv_iinc (v := x3 + 1) (lv' := [(3, .int (x3 + 1)), (0, .ref (mAd 0)), (1, .int x1), (2, .int x2)]) hx hb dX9_frauds_102 hl (k := 3) rfl rfl (by decide) rfl (fun ls hl => ?_)
        refine lv_goto (tgt := 73) hx hb dX9_frauds_105 (by decide) ?_
        exact ih (x3 + 1) z H _ _ _ G (lv_sub hl [1, 2, 3, 0] rfl)
      · have H := if_f H c20
        refine lv_ldc hx hb hown lk3 dX9_frauds_99 ?_
        obtain rfl := Option.some.inj H
        exact ret_i C G rfl dX9_frauds_101
def f_X9_frauds (thrown status : Int32) (lane many item bay thn : Nat → Int32) (p1 p2 : Int32) : Option (Int32 × Int32 × Int32 × (Nat → Int32)) := bd (f_X9_isThere bay) (fun z1 => if z1 = 0 then (some ((-1000002), 0, status, thn)) else (bd (f_X9_isRow p1) (fun z3 => if z3 = 0 then (some ((-1000001), 0, status, thn)) else (gd (inb p1 8) (if 0 ≤ (lane (ix p1)) then (if p2 < 0 then (bd (f_X9_finding status 2) (fun z8 => some (z8.1, 0, z8.2, thn))) else (if (lg_cmp (p2.toInt64 + ((bay 1 : Int32).toInt64)) ((many (ix p1) : Int32).toInt64)) ≤ 0 then (f_X9_frauds_L73 0 status item bay thn p1 p2 2000 0) else (bd (f_X9_finding status 2) (fun z21 => some (z21.1, 0, z21.2, thn))))) else (bd (f_X9_finding status 1) (fun z22 => some (z22.1, 0, z22.2, thn))))))))
set_option maxHeartbeats 4000000 in
set_option maxRecDepth 100000 in
theorem c_X9_frauds (l : Launch) (D : va_G) (cy : Nat → ClassId) (mAd : Nat → Nat) (thrown status acts taped latest leng cursor token start till fault faultAt gifts traced : Int32) (lane many item bay fresh thn was tape left gift isKept kept trace : Nat → Int32) (p1 p2 : Int32) (z : (Int32 × Int32 × Int32 × (Nat → Int32))) (hz : f_X9_frauds thrown status lane many item bay thn p1 p2 = some z) : MI l yX9_frauds wsX9_frauds ({ frames := 3, cells := 0, slots := 0, locals := 69 } : Room) D cy [.ref (mAd 0), .int p1, .int p2] (w_M cy mAd thrown status acts taped latest leng cursor token start till fault faultAt gifts traced lane many item bay fresh thn was tape left gift isKept kept trace) z.1 (w_M cy mAd z.2.1 z.2.2.1 acts taped latest leng cursor token start till fault faultAt gifts traced lane many item bay fresh z.2.2.2 was tape left gift isKept kept trace) := by
  refine met_start (Qf := fun A => MQi D cy z.1 (w_M cy mAd z.2.1 z.2.2.1 acts taped latest leng cursor token start till fault faultAt gifts traced lane many item bay fresh z.2.2.2 was tape left gift isKept kept trace) A) (cc := cX9_frauds) (nL := 5) (ret := (some .int)) RX9 rfl (by decide) rfl (Nat.le_of_ble_eq_true rfl) ?_
  intro p e s m below meth c A ls C G hl
  have hl : lv_has ls 5 [(0, .ref (mAd 0)), (1, .int p1), (2, .int p2)] := hl
  have H := hz
  unfold f_X9_frauds at H
  obtain ⟨hx, hb, hr, hml, hown, hts, hlk, hK, hA, hE⟩ := id C
  have lk0 := hts (Cond.fieldLink RX9 50 "TideDebtsModel" "thrown" "I") (List.mem_of_getElem? (i := 1) rfl)
  have lk1 := hts (Cond.fieldLink RX9 7 "TideDebtsModel" "lane" "[I") (List.mem_of_getElem? (i := 4) rfl)
  have lk2 := hts (Cond.fieldLink RX9 19 "TideDebtsModel" "bay" "[I") (List.mem_of_getElem? (i := 5) rfl)
  have lk3 := hts (Cond.fieldLink RX9 13 "TideDebtsModel" "many" "[I") (List.mem_of_getElem? (i := 6) rfl)
  have lk4 := hts (Cond.constant RX9 70 (-1000001)) (List.mem_of_getElem? (i := 3) rfl)
  have lk5 := hts (Cond.constant RX9 196 (-1000002)) (List.mem_of_getElem? (i := 2) rfl)
  have hiX9 : ∀ w ∈ u_ws RX9 TX9 27, w ∈ wsX9_frauds := fun _ h => List.mem_cons_of_mem _ (List.mem_append_right _ h)
  refine lv_aload_n hx hb dX9_frauds_0 rfl (lv_at hl 0 rfl) ?_
  refine lv_iconst (v := 0) hx hb dX9_frauds_1 (by decide) ?_
  refine va_put (D := D) (ci := 9) (v := .int 0) (ty := .int) (C := RX9) (T := TX9) (N := 27) hx hb hts hiX9 tyX9 tyX9_ok nmX9 hown hK G.1 G.2.1 G.2.2 0 rfl rfl 0 (by decide) lk0 (fun _ h9 => h9) rfl (tyX9_ok 0 (by decide)) rfl rfl (Nat.le_of_ble_eq_true rfl) dX9_frauds_2 (fun U locs hP hD hS => ?_)
  have G : Gd D A s (w_M cy mAd 0 status acts taped latest leng cursor token start till fault faultAt gifts traced lane many item bay fresh thn was tape left gift isKept kept trace) U locs := ⟨hP, hD, hS⟩
  refine lv_aload_n hx hb dX9_frauds_5 rfl (lv_at hl 0 rfl) ?_
  obtain ⟨z1, hz1, H⟩ := bd_some H
  refine MI.callVw z1 [] [] C G (c_X9_isThere l D cy mAd 0 status acts taped latest leng cursor token start till fault faultAt gifts traced lane many item bay fresh thn was tape left gift isKept kept trace z1 hz1) gX9_frauds_X9_isThere rfl rfl rfl (n := 0) (by decide +kernel) ⟨Nat.le_of_ble_eq_true rfl, Nat.le_of_ble_eq_true rfl⟩ (q0 := 0) (ci := 9) rfl rfl rfl rfl hl.1 rfl (Nat.le_of_ble_eq_true rfl) dX9_frauds_6 ⟨Nat.zero_le _, Nat.zero_le _⟩ (fun U locs G => ?_)
  have G : Gd D A s (w_M cy mAd 0 status acts taped latest leng cursor token start till fault faultAt gifts traced lane many item bay fresh thn was tape left gift isKept kept trace) U locs := G
  refine lv_if_ne (tgt := 15) hx hb dX9_frauds_9 (by decide) (fun c2 => ?_) (fun c2 => ?_)
  · have H := if_f H c2
    refine lv_iload_n hx hb dX9_frauds_15 rfl (lv_at hl 1 rfl) ?_
    obtain ⟨z3, hz3, H⟩ := bd_some H
    refine MI.callS z3 [.int p1] [] [] C G (c_X9_isRow l D cy p1 z3 hz3) gX9_frauds_X9_isRow rfl rfl rfl (n := 1) (by decide +kernel) ⟨Nat.le_of_ble_eq_true rfl, Nat.le_of_ble_eq_true rfl⟩ rfl rfl rfl rfl hl.1 rfl (Nat.le_of_ble_eq_true rfl) dX9_frauds_16 ⟨Nat.zero_le _, Nat.zero_le _⟩ (fun U locs G => ?_)
    have G : Gd D A s (w_M cy mAd 0 status acts taped latest leng cursor token start till fault faultAt gifts traced lane many item bay fresh thn was tape left gift isKept kept trace) U locs := G
    refine lv_if_ne (tgt := 25) hx hb dX9_frauds_19 (by decide) (fun c4 => ?_) (fun c4 => ?_)
    · have H := if_f H c4
      refine lv_aload_n hx hb dX9_frauds_25 rfl (lv_at hl 0 rfl) ?_
      refine va_get (D := D) (ci := 9) (v := .ref (mAd 1)) (C := RX9) (T := TX9) (N := 27) hx hb hts hiX9 hown hK G.1 0 rfl rfl 2 (by decide) lk1 (fun _ h9 => h9) rfl dX9_frauds_26 ?_
      refine lv_iload_n hx hb dX9_frauds_29 rfl (lv_at hl 1 rfl) ?_
      obtain ⟨hb5, H⟩ := gd_some H
      refine g_iald (v := lane (ix p1)) hx hb hK G.1 1 1 rfl rfl hb5 rfl dX9_frauds_30 ?_
      refine lv_if_ge (tgt := 40) hx hb dX9_frauds_31 (by decide) (fun c6 => ?_) (fun c6 => ?_)
      · have H := if_t H c6
        refine lv_iload_n hx hb dX9_frauds_40 rfl (lv_at hl 2 rfl) ?_
        refine lv_if_lt (tgt := 65) hx hb dX9_frauds_41 (by decide) (fun c7 => ?_) (fun c7 => ?_)
        · have H := if_t H c7
          refine lv_aload_n hx hb dX9_frauds_65 rfl (lv_at hl 0 rfl) ?_
          refine lv_iconst (v := 2) hx hb dX9_frauds_66 (by decide) ?_
          obtain ⟨z8, hz8, H⟩ := bd_some H
          refine MI.callVw z8.1 [.int 2] [] C G (c_X9_finding l D cy mAd 0 status acts taped latest leng cursor token start till fault faultAt gifts traced lane many item bay fresh thn was tape left gift isKept kept trace 2 z8 hz8) gX9_frauds_X9_finding rfl rfl rfl (n := 1) (by decide +kernel) ⟨Nat.le_of_ble_eq_true rfl, Nat.le_of_ble_eq_true rfl⟩ (q0 := 0) (ci := 9) rfl rfl rfl rfl hl.1 rfl (Nat.le_of_ble_eq_true rfl) dX9_frauds_67 ⟨Nat.zero_le _, Nat.zero_le _⟩ (fun U locs G => ?_)
          have G : Gd D A s (w_M cy mAd 0 z8.2 acts taped latest leng cursor token start till fault faultAt gifts traced lane many item bay fresh thn was tape left gift isKept kept trace) U locs := G
          obtain rfl := Option.some.inj H
          exact ret_i C G rfl dX9_frauds_70
        · have H := if_f H c7
          refine lv_iload_n hx hb dX9_frauds_44 rfl (lv_at hl 2 rfl) ?_
          refine lv_i2l hx hb dX9_frauds_45 rfl ?_
          refine lv_aload_n hx hb dX9_frauds_46 rfl (lv_at hl 0 rfl) ?_
          refine va_get (D := D) (ci := 9) (v := .ref (mAd 4)) (C := RX9) (T := TX9) (N := 27) hx hb hts hiX9 hown hK G.1 0 rfl rfl 5 (by decide) lk2 (fun _ h9 => h9) rfl dX9_frauds_47 ?_
          refine lv_iconst (v := 1) hx hb dX9_frauds_50 (by decide) ?_
          refine g_iald (v := bay 1) hx hb hK G.1 4 1 rfl rfl (by decide) rfl dX9_frauds_51 ?_
          refine lv_i2l hx hb dX9_frauds_52 rfl ?_
          refine lv_ladd hx hb dX9_frauds_53 ?_
          refine lv_aload_n hx hb dX9_frauds_54 rfl (lv_at hl 0 rfl) ?_
          refine va_get (D := D) (ci := 9) (v := .ref (mAd 2)) (C := RX9) (T := TX9) (N := 27) hx hb hts hiX9 hown hK G.1 0 rfl rfl 3 (by decide) lk3 (fun _ h9 => h9) rfl dX9_frauds_55 ?_
          refine lv_iload_n hx hb dX9_frauds_58 rfl (lv_at hl 1 rfl) ?_
          refine g_iald (v := many (ix p1)) hx hb hK G.1 2 1 rfl rfl hb5 rfl dX9_frauds_59 ?_
          refine lv_i2l hx hb dX9_frauds_60 rfl ?_
          refine W.lcmp hx hb dX9_frauds_61 ?_
          refine lv_if_le (tgt := 71) hx hb dX9_frauds_62 (by decide) (fun c9 => ?_) (fun c9 => ?_)
          · have H := if_t H c9
            refine lv_iconst (v := 0) hx hb dX9_frauds_71 (by decide) ?_
            refine lv_istore_n (lv' := [(3, .int 0), (0, .ref (mAd 0)), (1, .int p1), (2, .int p2)]) hx hb dX9_frauds_72 rfl hl (by decide) rfl (fun ls hl => ?_)
            exact wl_X9_frauds_73 C mAd 0 status acts taped latest leng cursor token start till fault faultAt gifts traced lane many item bay fresh thn was tape left gift isKept kept trace p1 p2 _ 0 z H _ _ _ G (lv_sub hl [1, 2, 3, 0] rfl)
          · have H := if_f H c9
            refine lv_aload_n hx hb dX9_frauds_65 rfl (lv_at hl 0 rfl) ?_
            refine lv_iconst (v := 2) hx hb dX9_frauds_66 (by decide) ?_
            obtain ⟨z21, hz21, H⟩ := bd_some H
            refine MI.callVw z21.1 [.int 2] [] C G (c_X9_finding l D cy mAd 0 status acts taped latest leng cursor token start till fault faultAt gifts traced lane many item bay fresh thn was tape left gift isKept kept trace 2 z21 hz21) gX9_frauds_X9_finding rfl rfl rfl (n := 1) (by decide +kernel) ⟨Nat.le_of_ble_eq_true rfl, Nat.le_of_ble_eq_true rfl⟩ (q0 := 0) (ci := 9) rfl rfl rfl rfl hl.1 rfl (Nat.le_of_ble_eq_true rfl) dX9_frauds_67 ⟨Nat.zero_le _, Nat.zero_le _⟩ (fun U locs G => ?_)
            have G : Gd D A s (w_M cy mAd 0 z21.2 acts taped latest leng cursor token start till fault faultAt gifts traced lane many item bay fresh thn was tape left gift isKept kept trace) U locs := G
            obtain rfl := Option.some.inj H
            exact ret_i C G rfl dX9_frauds_70
      · have H := if_f H c6
        refine lv_aload_n hx hb dX9_frauds_34 rfl (lv_at hl 0 rfl) ?_
        refine lv_iconst (v := 1) hx hb dX9_frauds_35 (by decide) ?_
        obtain ⟨z22, hz22, H⟩ := bd_some H
        refine MI.callVw z22.1 [.int 1] [] C G (c_X9_finding l D cy mAd 0 status acts taped latest leng cursor token start till fault faultAt gifts traced lane many item bay fresh thn was tape left gift isKept kept trace 1 z22 hz22) gX9_frauds_X9_finding rfl rfl rfl (n := 1) (by decide +kernel) ⟨Nat.le_of_ble_eq_true rfl, Nat.le_of_ble_eq_true rfl⟩ (q0 := 0) (ci := 9) rfl rfl rfl rfl hl.1 rfl (Nat.le_of_ble_eq_true rfl) dX9_frauds_36 ⟨Nat.zero_le _, Nat.zero_le _⟩ (fun U locs G => ?_)
        have G : Gd D A s (w_M cy mAd 0 z22.2 acts taped latest leng cursor token start till fault faultAt gifts traced lane many item bay fresh thn was tape left gift isKept kept trace) U locs := G
        obtain rfl := Option.some.inj H
        exact ret_i C G rfl dX9_frauds_39
    · have H := if_t H c4
      refine lv_ldc hx hb hown lk4 dX9_frauds_22 ?_
      obtain rfl := Option.some.inj H
      exact ret_i C G rfl dX9_frauds_24
  · have H := if_t H c2
    refine lv_ldc hx hb hown lk5 dX9_frauds_12 ?_
    obtain rfl := Option.some.inj H
    exact ret_i C G rfl dX9_frauds_14
def f_X9_image_L30 (bay : Nat → Int32) (x1 : Int32) : Nat → (Nat → Int32) → Int32 → Option (Nat → Int32)
  | 0, _, _ => none
  | n + 1, kept, x2 => if 75 ≤ x2 then (some kept) else (gd (inb x2 75) (gd (inb ((75 * x1) + x2) 150) (f_X9_image_L30 bay x1 n (upd kept (ix ((75 * x1) + x2)) (bay (ix x2))) (x2 + 1))))
theorem f_X9_image_L30_z (bay : Nat → Int32) (x1 : Int32) (kept : Nat → Int32) (x2 : Int32) : f_X9_image_L30 bay x1 0 kept x2 = none := rfl
theorem f_X9_image_L30_s (bay : Nat → Int32) (x1 : Int32) (n : Nat) (kept : Nat → Int32) (x2 : Int32) : f_X9_image_L30 bay x1 (n + 1) kept x2 = if 75 ≤ x2 then (some kept) else (gd (inb x2 75) (gd (inb ((75 * x1) + x2) 150) (f_X9_image_L30 bay x1 n (upd kept (ix ((75 * x1) + x2)) (bay (ix x2))) (x2 + 1)))) := rfl
set_option maxHeartbeats 4000000 in
set_option maxRecDepth 100000 in
theorem wl_X9_image_30 {p : Program} {l : Launch} {e : Env} {s : State} {m : MethodId} {below : List Frame} {meth : Method} {c : Code} {D : va_G} {cy : Nat → ClassId} {A : Nat → Prop} {args : Array Value} {Q : State → Prop} (C : Cx D cy A p s m meth c cX9_image 3 (some .int) wsX9_image RX9 args) (mAd : Nat → Nat) (thrown status acts taped latest leng cursor token start till fault faultAt gifts traced : Int32) (lane many item bay fresh thn was tape left gift isKept trace : Nat → Int32) (x1 : Int32) :
    ∀ (n : Nat) (kept : Nat → Int32) (x2 : Int32) (z : (Nat → Int32)), f_X9_image_L30 bay x1 n kept x2 = some z → (∀ (U : Heap) (locs : List Loc) (ls : Array Slot), Gd D A s (w_M cy mAd thrown status acts taped latest leng cursor token start till fault faultAt gifts traced lane many item bay fresh thn was tape left gift isKept z trace) U locs → lv_has ls 3 [(0, .ref (mAd 0)), (1, .int x1)] → W p l e ({ frames := 1, cells := 0, slots := 0, locals := 25 } : Room) s m args below meth c U locs 0 0 Q (F0 m 59 ls [])) → ∀ (U : Heap) (locs : List Loc) (ls : Array Slot), Gd D A s (w_M cy mAd thrown status acts taped latest leng cursor token start till fault faultAt gifts traced lane many item bay fresh thn was tape left gift isKept kept trace) U locs → lv_has ls 3 [(0, .ref (mAd 0)), (1, .int x1), (2, .int x2)] → W p l e ({ frames := 1, cells := 0, slots := 0, locals := 25 } : Room) s m args below meth c U locs 0 0 Q (F0 m 30 ls []) := by
  obtain ⟨hx, hb, hr, hml, hown, hts, hlk, hK, hA, hE⟩ := id C
  have lk0 := hts (Cond.fieldLink RX9 44 "TideDebtsModel" "kept" "[I") (List.mem_of_getElem? (i := 4) rfl)
  have lk1 := hts (Cond.fieldLink RX9 19 "TideDebtsModel" "bay" "[I") (List.mem_of_getElem? (i := 5) rfl)
  have hiX9 : ∀ w ∈ u_ws RX9 TX9 27, w ∈ wsX9_image := fun _ h => List.mem_cons_of_mem _ (List.mem_append_right _ h)
  intro n
  induction n with
  | zero =>
    intro kept x2 z H
    rw [f_X9_image_L30_z] at H
    cases H
  | succ n ih =>
    intro kept x2 z H kk U locs ls G hl
    rw [f_X9_image_L30_s] at H
    refine lv_iload_n hx hb dX9_image_30 rfl (lv_at hl 2 rfl) ?_
    refine lv_bipush (v := 75) hx hb dX9_image_31 (by decide) ?_
    refine lv_icmp_ge (tgt := 59) hx hb dX9_image_33 (by decide) (fun c5 => ?_) (fun c5 => ?_)
    · have H := if_t H c5
      obtain rfl := Option.some.inj H
      exact kk _ _ _ G (lv_sub hl [0, 1] rfl)
    · have H := if_f H c5
      refine lv_aload_n hx hb dX9_image_36 rfl (lv_at hl 0 rfl) ?_
      refine va_get (D := D) (ci := 9) (v := .ref (mAd 12)) (C := RX9) (T := TX9) (N := 27) hx hb hts hiX9 hown hK G.1 0 rfl rfl 24 (by decide) lk0 (fun _ h9 => h9) rfl dX9_image_37 ?_
      refine lv_bipush (v := 75) hx hb dX9_image_40 (by decide) ?_
      refine lv_iload_n hx hb dX9_image_42 rfl (lv_at hl 1 rfl) ?_
      refine lv_imul hx hb dX9_image_43 ?_
      refine lv_iload_n hx hb dX9_image_44 rfl (lv_at hl 2 rfl) ?_
      refine lv_iadd hx hb dX9_image_45 ?_
      refine lv_aload_n hx hb dX9_image_46 rfl (lv_at hl 0 rfl) ?_
      refine va_get (D := D) (ci := 9) (v := .ref (mAd 4)) (C := RX9) (T := TX9) (N := 27) hx hb hts hiX9 hown hK G.1 0 rfl rfl 5 (by decide) lk1 (fun _ h9 => h9) rfl dX9_image_47 ?_
      refine lv_iload_n hx hb dX9_image_50 rfl (lv_at hl 2 rfl) ?_
      obtain ⟨hb6, H⟩ := gd_some H
      refine g_iald (v := bay (ix x2)) hx hb hK G.1 4 1 rfl rfl hb6 rfl dX9_image_51 ?_
      obtain ⟨hb7, H⟩ := gd_some H
      refine va_iast hx hb hK G.1 G.2.1 G.2.2 12 1 rfl rfl (inb_in hb7) dX9_image_52 (fun U locs hP hD hS => ?_)
      have G : Gd D A s (w_M cy mAd thrown status acts taped latest leng cursor token start till fault faultAt gifts traced lane many item bay fresh thn was tape left gift isKept (upd kept (ix ((75 * x1) + x2)) (bay (ix x2))) trace) U locs := ⟨hP, hD, hS⟩
      refine lv_iinc (v := x2 + 1) (lv' := [(2, .int (x2 + 1)), (0, .ref (mAd 0)), (1, .int x1)]) hx hb dX9_image_53 hl (k := 2) rfl rfl (by decide) rfl (fun ls hl => ?_)
      refine lv_goto (tgt := 30) hx hb dX9_image_56 (by decide) ?_
      exact ih (upd kept (ix ((75 * x1) + x2)) (bay (ix x2))) (x2 + 1) z H kk _ _ _ G (lv_sub hl [1, 2, 0] rfl)
def f_X9_image (thrown : Int32) (bay isKept kept : Nat → Int32) (p1 : Int32) : Option (Int32 × Int32 × (Nat → Int32) × (Nat → Int32)) := bd (f_X9_in p1.toInt64 0 1) (fun z1 => if z1 = 0 then (some ((-1000001), 0, isKept, kept)) else (bd (f_X9_isThere bay) (fun z3 => if z3 = 0 then (some ((-1000002), 0, isKept, kept)) else (bd (f_X9_image_L30 bay p1 2000 kept 0) (fun z8 => gd (inb p1 2) (some (1, 0, upd isKept (ix p1) (vp_nar .boolean 1), z8)))))))
set_option maxHeartbeats 4000000 in
set_option maxRecDepth 100000 in
theorem c_X9_image (l : Launch) (D : va_G) (cy : Nat → ClassId) (mAd : Nat → Nat) (thrown status acts taped latest leng cursor token start till fault faultAt gifts traced : Int32) (lane many item bay fresh thn was tape left gift isKept kept trace : Nat → Int32) (p1 : Int32) (z : (Int32 × Int32 × (Nat → Int32) × (Nat → Int32))) (hz : f_X9_image thrown bay isKept kept p1 = some z) : MI l yX9_image wsX9_image ({ frames := 1, cells := 0, slots := 0, locals := 25 } : Room) D cy [.ref (mAd 0), .int p1] (w_M cy mAd thrown status acts taped latest leng cursor token start till fault faultAt gifts traced lane many item bay fresh thn was tape left gift isKept kept trace) z.1 (w_M cy mAd z.2.1 status acts taped latest leng cursor token start till fault faultAt gifts traced lane many item bay fresh thn was tape left gift z.2.2.1 z.2.2.2 trace) := by
  refine met_start (Qf := fun A => MQi D cy z.1 (w_M cy mAd z.2.1 status acts taped latest leng cursor token start till fault faultAt gifts traced lane many item bay fresh thn was tape left gift z.2.2.1 z.2.2.2 trace) A) (cc := cX9_image) (nL := 3) (ret := (some .int)) RX9 rfl (by decide) rfl (Nat.le_of_ble_eq_true rfl) ?_
  intro p e s m below meth c A ls C G hl
  have hl : lv_has ls 3 [(0, .ref (mAd 0)), (1, .int p1)] := hl
  have H := hz
  unfold f_X9_image at H
  obtain ⟨hx, hb, hr, hml, hown, hts, hlk, hK, hA, hE⟩ := id C
  have lk0 := hts (Cond.fieldLink RX9 50 "TideDebtsModel" "thrown" "I") (List.mem_of_getElem? (i := 1) rfl)
  have lk1 := hts (Cond.fieldLink RX9 40 "TideDebtsModel" "isKept" "[Z") (List.mem_of_getElem? (i := 6) rfl)
  have lk2 := hts (Cond.constant RX9 196 (-1000002)) (List.mem_of_getElem? (i := 3) rfl)
  have lk3 := hts (Cond.constant RX9 70 (-1000001)) (List.mem_of_getElem? (i := 2) rfl)
  have hiX9 : ∀ w ∈ u_ws RX9 TX9 27, w ∈ wsX9_image := fun _ h => List.mem_cons_of_mem _ (List.mem_append_right _ h)
  refine lv_aload_n hx hb dX9_image_0 rfl (lv_at hl 0 rfl) ?_
  refine lv_iconst (v := 0) hx hb dX9_image_1 (by decide) ?_
  refine va_put (D := D) (ci := 9) (v := .int 0) (ty := .int) (C := RX9) (T := TX9) (N := 27) hx hb hts hiX9 tyX9 tyX9_ok nmX9 hown hK G.1 G.2.1 G.2.2 0 rfl rfl 0 (by decide) lk0 (fun _ h9 => h9) rfl (tyX9_ok 0 (by decide)) rfl rfl (Nat.le_of_ble_eq_true rfl) dX9_image_2 (fun U locs hP hD hS => ?_)
  have G : Gd D A s (w_M cy mAd 0 status acts taped latest leng cursor token start till fault faultAt gifts traced lane many item bay fresh thn was tape left gift isKept kept trace) U locs := ⟨hP, hD, hS⟩
  refine lv_iload_n hx hb dX9_image_5 rfl (lv_at hl 1 rfl) ?_
  refine lv_i2l hx hb dX9_image_6 rfl ?_
  refine lv_lconst (v := 0) hx hb dX9_image_7 (by decide) ?_
  refine lv_lconst (v := 1) hx hb dX9_image_8 (by decide) ?_
  obtain ⟨z1, hz1, H⟩ := bd_some H
  refine MI.callS z1 [.long p1.toInt64, .long 0, .long 1] [] [] C G (c_X9_in l D cy p1.toInt64 0 1 z1 hz1) gX9_image_X9_in rfl rfl rfl (n := 3) (by decide +kernel) ⟨Nat.le_of_ble_eq_true rfl, Nat.le_of_ble_eq_true rfl⟩ rfl rfl rfl rfl hl.1 rfl (Nat.le_of_ble_eq_true rfl) dX9_image_9 ⟨Nat.zero_le _, Nat.zero_le _⟩ (fun U locs G => ?_)
  have G : Gd D A s (w_M cy mAd 0 status acts taped latest leng cursor token start till fault faultAt gifts traced lane many item bay fresh thn was tape left gift isKept kept trace) U locs := G
  refine lv_if_ne (tgt := 18) hx hb dX9_image_12 (by decide) (fun c2 => ?_) (fun c2 => ?_)
  · have H := if_f H c2
    refine lv_aload_n hx hb dX9_image_18 rfl (lv_at hl 0 rfl) ?_
    obtain ⟨z3, hz3, H⟩ := bd_some H
    refine MI.callVw z3 [] [] C G (c_X9_isThere l D cy mAd 0 status acts taped latest leng cursor token start till fault faultAt gifts traced lane many item bay fresh thn was tape left gift isKept kept trace z3 hz3) gX9_image_X9_isThere rfl rfl rfl (n := 0) (by decide +kernel) ⟨Nat.le_of_ble_eq_true rfl, Nat.le_of_ble_eq_true rfl⟩ (q0 := 0) (ci := 9) rfl rfl rfl rfl hl.1 rfl (Nat.le_of_ble_eq_true rfl) dX9_image_19 ⟨Nat.zero_le _, Nat.zero_le _⟩ (fun U locs G => ?_)
    have G : Gd D A s (w_M cy mAd 0 status acts taped latest leng cursor token start till fault faultAt gifts traced lane many item bay fresh thn was tape left gift isKept kept trace) U locs := G
    refine lv_if_ne (tgt := 28) hx hb dX9_image_22 (by decide) (fun c4 => ?_) (fun c4 => ?_)
    · have H := if_f H c4
      refine lv_iconst (v := 0) hx hb dX9_image_28 (by decide) ?_
      refine lv_istore_n (lv' := [(2, .int 0), (0, .ref (mAd 0)), (1, .int p1)]) hx hb dX9_image_29 rfl hl (by decide) rfl (fun ls hl => ?_)
      obtain ⟨z8, hz8, H⟩ := bd_some H
      refine wl_X9_image_30 C mAd 0 status acts taped latest leng cursor token start till fault faultAt gifts traced lane many item bay fresh thn was tape left gift isKept trace p1 _ kept 0 z8 hz8 (fun U locs ls G hl => ?_) _ _ _ G (lv_sub hl [1, 2, 0] rfl)
      have G : Gd D A s (w_M cy mAd 0 status acts taped latest leng cursor token start till fault faultAt gifts traced lane many item bay fresh thn was tape left gift isKept z8 trace) U locs := G
      have hl : lv_has ls 3 [(0, .ref (mAd 0)), (1, .int p1)] := hl
      refine lv_aload_n hx hb dX9_image_59 rfl (lv_at hl 0 rfl) ?_
      refine va_get (D := D) (ci := 9) (v := .ref (mAd 11)) (C := RX9) (T := TX9) (N := 27) hx hb hts hiX9 hown hK G.1 0 rfl rfl 23 (by decide) lk1 (fun _ h9 => h9) rfl dX9_image_60 ?_
      refine lv_iload_n hx hb dX9_image_63 rfl (lv_at hl 1 rfl) ?_
      refine lv_iconst (v := 1) hx hb dX9_image_64 (by decide) ?_
      obtain ⟨hb9, H⟩ := gd_some H
      refine va_zast hx hb hK G.1 G.2.1 G.2.2 11 2 rfl rfl (inb_in hb9) dX9_image_65 (fun U locs hP hD hS => ?_)
      have G : Gd D A s (w_M cy mAd 0 status acts taped latest leng cursor token start till fault faultAt gifts traced lane many item bay fresh thn was tape left gift (upd isKept (ix p1) (vp_nar .boolean 1)) z8 trace) U locs := ⟨hP, hD, hS⟩
      refine lv_iconst (v := 1) hx hb dX9_image_66 (by decide) ?_
      obtain rfl := Option.some.inj H
      exact ret_i C G rfl dX9_image_67
    · have H := if_t H c4
      refine lv_ldc hx hb hown lk2 dX9_image_25 ?_
      obtain rfl := Option.some.inj H
      exact ret_i C G rfl dX9_image_27
  · have H := if_t H c2
    refine lv_ldc hx hb hown lk3 dX9_image_15 ?_
    obtain rfl := Option.some.inj H
    exact ret_i C G rfl dX9_image_17
def f_X9_restore_L32 (kept : Nat → Int32) (x1 : Int32) : Nat → (Nat → Int32) → Int32 → Option (Nat → Int32)
  | 0, _, _ => none
  | n + 1, bay, x2 => if 75 ≤ x2 then (some bay) else (gd (inb ((75 * x1) + x2) 150) (gd (inb x2 75) (f_X9_restore_L32 kept x1 n (upd bay (ix x2) (kept (ix ((75 * x1) + x2)))) (x2 + 1))))
theorem f_X9_restore_L32_z (kept : Nat → Int32) (x1 : Int32) (bay : Nat → Int32) (x2 : Int32) : f_X9_restore_L32 kept x1 0 bay x2 = none := rfl
theorem f_X9_restore_L32_s (kept : Nat → Int32) (x1 : Int32) (n : Nat) (bay : Nat → Int32) (x2 : Int32) : f_X9_restore_L32 kept x1 (n + 1) bay x2 = if 75 ≤ x2 then (some bay) else (gd (inb ((75 * x1) + x2) 150) (gd (inb x2 75) (f_X9_restore_L32 kept x1 n (upd bay (ix x2) (kept (ix ((75 * x1) + x2)))) (x2 + 1)))) := rfl
set_option maxHeartbeats 4000000 in
set_option maxRecDepth 100000 in
theorem wl_X9_restore_32 {p : Program} {l : Launch} {e : Env} {s : State} {m : MethodId} {below : List Frame} {meth : Method} {c : Code} {D : va_G} {cy : Nat → ClassId} {A : Nat → Prop} {args : Array Value} {Q : State → Prop} (C : Cx D cy A p s m meth c cX9_restore 3 (some .int) wsX9_restore RX9 args) (mAd : Nat → Nat) (thrown status acts taped latest leng cursor token start till fault faultAt gifts traced : Int32) (lane many item fresh thn was tape left gift isKept kept trace : Nat → Int32) (x1 : Int32) :
    ∀ (n : Nat) (bay : Nat → Int32) (x2 : Int32) (z : (Nat → Int32)), f_X9_restore_L32 kept x1 n bay x2 = some z → (∀ (U : Heap) (locs : List Loc) (ls : Array Slot), Gd D A s (w_M cy mAd thrown status acts taped latest leng cursor token start till fault faultAt gifts traced lane many item z fresh thn was tape left gift isKept kept trace) U locs → lv_has ls 3 [(0, .ref (mAd 0))] → W p l e ({ frames := 1, cells := 0, slots := 0, locals := 25 } : Room) s m args below meth c U locs 0 0 Q (F0 m 61 ls [])) → ∀ (U : Heap) (locs : List Loc) (ls : Array Slot), Gd D A s (w_M cy mAd thrown status acts taped latest leng cursor token start till fault faultAt gifts traced lane many item bay fresh thn was tape left gift isKept kept trace) U locs → lv_has ls 3 [(0, .ref (mAd 0)), (1, .int x1), (2, .int x2)] → W p l e ({ frames := 1, cells := 0, slots := 0, locals := 25 } : Room) s m args below meth c U locs 0 0 Q (F0 m 32 ls []) := by
  obtain ⟨hx, hb, hr, hml, hown, hts, hlk, hK, hA, hE⟩ := id C
  have lk0 := hts (Cond.fieldLink RX9 19 "TideDebtsModel" "bay" "[I") (List.mem_of_getElem? (i := 5) rfl)
  have lk1 := hts (Cond.fieldLink RX9 44 "TideDebtsModel" "kept" "[I") (List.mem_of_getElem? (i := 6) rfl)
  have hiX9 : ∀ w ∈ u_ws RX9 TX9 27, w ∈ wsX9_restore := fun _ h => List.mem_cons_of_mem _ (List.mem_append_right _ h)
  intro n
  induction n with
  | zero =>
    intro bay x2 z H
    rw [f_X9_restore_L32_z] at H
    cases H
  | succ n ih =>
    intro bay x2 z H kk U locs ls G hl
    rw [f_X9_restore_L32_s] at H
    refine lv_iload_n hx hb dX9_restore_32 rfl (lv_at hl 2 rfl) ?_
    refine lv_bipush (v := 75) hx hb dX9_restore_33 (by decide) ?_
    refine lv_icmp_ge (tgt := 61) hx hb dX9_restore_35 (by decide) (fun c5 => ?_) (fun c5 => ?_)
    · have H := if_t H c5
      obtain rfl := Option.some.inj H
      exact kk _ _ _ G (lv_sub hl [0] rfl)
    · have H := if_f H c5
      refine lv_aload_n hx hb dX9_restore_38 rfl (lv_at hl 0 rfl) ?_
      refine va_get (D := D) (ci := 9) (v := .ref (mAd 4)) (C := RX9) (T := TX9) (N := 27) hx hb hts hiX9 hown hK G.1 0 rfl rfl 5 (by decide) lk0 (fun _ h9 => h9) rfl dX9_restore_39 ?_
      refine lv_iload_n hx hb dX9_restore_42 rfl (lv_at hl 2 rfl) ?_
      refine lv_aload_n hx hb dX9_restore_43 rfl (lv_at hl 0 rfl) ?_
      refine va_get (D := D) (ci := 9) (v := .ref (mAd 12)) (C := RX9) (T := TX9) (N := 27) hx hb hts hiX9 hown hK G.1 0 rfl rfl 24 (by decide) lk1 (fun _ h9 => h9) rfl dX9_restore_44 ?_
      refine lv_bipush (v := 75) hx hb dX9_restore_47 (by decide) ?_
      refine lv_iload_n hx hb dX9_restore_49 rfl (lv_at hl 1 rfl) ?_
      refine lv_imul hx hb dX9_restore_50 ?_
      refine lv_iload_n hx hb dX9_restore_51 rfl (lv_at hl 2 rfl) ?_
      refine lv_iadd hx hb dX9_restore_52 ?_
      obtain ⟨hb6, H⟩ := gd_some H
      refine g_iald (v := kept (ix ((75 * x1) + x2))) hx hb hK G.1 12 1 rfl rfl hb6 rfl dX9_restore_53 ?_
      obtain ⟨hb7, H⟩ := gd_some H
      refine va_iast hx hb hK G.1 G.2.1 G.2.2 4 1 rfl rfl (inb_in hb7) dX9_restore_54 (fun U locs hP hD hS => ?_)
      have G : Gd D A s (w_M cy mAd thrown status acts taped latest leng cursor token start till fault faultAt gifts traced lane many item (upd bay (ix x2) (kept (ix ((75 * x1) + x2)))) fresh thn was tape left gift isKept kept trace) U locs := ⟨hP, hD, hS⟩
      refine lv_iinc (v := x2 + 1) (lv' := [(2, .int (x2 + 1)), (0, .ref (mAd 0)), (1, .int x1)]) hx hb dX9_restore_55 hl (k := 2) rfl rfl (by decide) rfl (fun ls hl => ?_)
      refine lv_goto (tgt := 32) hx hb dX9_restore_58 (by decide) ?_
      exact ih (upd bay (ix x2) (kept (ix ((75 * x1) + x2)))) (x2 + 1) z H kk _ _ _ G (lv_sub hl [1, 2, 0] rfl)
def f_X9_restore (thrown acts : Int32) (bay isKept kept : Nat → Int32) (p1 : Int32) : Option (Int32 × Int32 × Int32 × (Nat → Int32)) := bd (f_X9_in p1.toInt64 0 1) (fun z1 => if z1 = 0 then (some ((-1000001), 0, acts, bay)) else (gd (inb p1 2) (if (isKept (ix p1)) = 0 then (some ((-1000002), 0, acts, bay)) else (bd (f_X9_restore_L32 kept p1 2000 bay 0) (fun z8 => some (1, 0, 0, z8))))))
set_option maxHeartbeats 4000000 in
set_option maxRecDepth 100000 in
theorem c_X9_restore (l : Launch) (D : va_G) (cy : Nat → ClassId) (mAd : Nat → Nat) (thrown status acts taped latest leng cursor token start till fault faultAt gifts traced : Int32) (lane many item bay fresh thn was tape left gift isKept kept trace : Nat → Int32) (p1 : Int32) (z : (Int32 × Int32 × Int32 × (Nat → Int32))) (hz : f_X9_restore thrown acts bay isKept kept p1 = some z) : MI l yX9_restore wsX9_restore ({ frames := 1, cells := 0, slots := 0, locals := 25 } : Room) D cy [.ref (mAd 0), .int p1] (w_M cy mAd thrown status acts taped latest leng cursor token start till fault faultAt gifts traced lane many item bay fresh thn was tape left gift isKept kept trace) z.1 (w_M cy mAd z.2.1 status z.2.2.1 taped latest leng cursor token start till fault faultAt gifts traced lane many item z.2.2.2 fresh thn was tape left gift isKept kept trace) := by
  refine met_start (Qf := fun A => MQi D cy z.1 (w_M cy mAd z.2.1 status z.2.2.1 taped latest leng cursor token start till fault faultAt gifts traced lane many item z.2.2.2 fresh thn was tape left gift isKept kept trace) A) (cc := cX9_restore) (nL := 3) (ret := (some .int)) RX9 rfl (by decide) rfl (Nat.le_of_ble_eq_true rfl) ?_
  intro p e s m below meth c A ls C G hl
  have hl : lv_has ls 3 [(0, .ref (mAd 0)), (1, .int p1)] := hl
  have H := hz
  unfold f_X9_restore at H
  obtain ⟨hx, hb, hr, hml, hown, hts, hlk, hK, hA, hE⟩ := id C
  have lk0 := hts (Cond.fieldLink RX9 50 "TideDebtsModel" "thrown" "I") (List.mem_of_getElem? (i := 1) rfl)
  have lk1 := hts (Cond.fieldLink RX9 40 "TideDebtsModel" "isKept" "[Z") (List.mem_of_getElem? (i := 3) rfl)
  have lk2 := hts (Cond.fieldLink RX9 171 "TideDebtsModel" "acts" "I") (List.mem_of_getElem? (i := 7) rfl)
  have lk3 := hts (Cond.constant RX9 196 (-1000002)) (List.mem_of_getElem? (i := 4) rfl)
  have lk4 := hts (Cond.constant RX9 70 (-1000001)) (List.mem_of_getElem? (i := 2) rfl)
  have hiX9 : ∀ w ∈ u_ws RX9 TX9 27, w ∈ wsX9_restore := fun _ h => List.mem_cons_of_mem _ (List.mem_append_right _ h)
  refine lv_aload_n hx hb dX9_restore_0 rfl (lv_at hl 0 rfl) ?_
  refine lv_iconst (v := 0) hx hb dX9_restore_1 (by decide) ?_
  refine va_put (D := D) (ci := 9) (v := .int 0) (ty := .int) (C := RX9) (T := TX9) (N := 27) hx hb hts hiX9 tyX9 tyX9_ok nmX9 hown hK G.1 G.2.1 G.2.2 0 rfl rfl 0 (by decide) lk0 (fun _ h9 => h9) rfl (tyX9_ok 0 (by decide)) rfl rfl (Nat.le_of_ble_eq_true rfl) dX9_restore_2 (fun U locs hP hD hS => ?_)
  have G : Gd D A s (w_M cy mAd 0 status acts taped latest leng cursor token start till fault faultAt gifts traced lane many item bay fresh thn was tape left gift isKept kept trace) U locs := ⟨hP, hD, hS⟩
  refine lv_iload_n hx hb dX9_restore_5 rfl (lv_at hl 1 rfl) ?_
  refine lv_i2l hx hb dX9_restore_6 rfl ?_
  refine lv_lconst (v := 0) hx hb dX9_restore_7 (by decide) ?_
  refine lv_lconst (v := 1) hx hb dX9_restore_8 (by decide) ?_
  obtain ⟨z1, hz1, H⟩ := bd_some H
  refine MI.callS z1 [.long p1.toInt64, .long 0, .long 1] [] [] C G (c_X9_in l D cy p1.toInt64 0 1 z1 hz1) gX9_restore_X9_in rfl rfl rfl (n := 3) (by decide +kernel) ⟨Nat.le_of_ble_eq_true rfl, Nat.le_of_ble_eq_true rfl⟩ rfl rfl rfl rfl hl.1 rfl (Nat.le_of_ble_eq_true rfl) dX9_restore_9 ⟨Nat.zero_le _, Nat.zero_le _⟩ (fun U locs G => ?_)
  have G : Gd D A s (w_M cy mAd 0 status acts taped latest leng cursor token start till fault faultAt gifts traced lane many item bay fresh thn was tape left gift isKept kept trace) U locs := G
  refine lv_if_ne (tgt := 18) hx hb dX9_restore_12 (by decide) (fun c2 => ?_) (fun c2 => ?_)
  · have H := if_f H c2
    refine lv_aload_n hx hb dX9_restore_18 rfl (lv_at hl 0 rfl) ?_
    refine va_get (D := D) (ci := 9) (v := .ref (mAd 11)) (C := RX9) (T := TX9) (N := 27) hx hb hts hiX9 hown hK G.1 0 rfl rfl 23 (by decide) lk1 (fun _ h9 => h9) rfl dX9_restore_19 ?_
    refine lv_iload_n hx hb dX9_restore_22 rfl (lv_at hl 1 rfl) ?_
    obtain ⟨hb3, H⟩ := gd_some H
    refine g_zald (v := isKept (ix p1)) hx hb hK G.1 11 2 rfl rfl hb3 rfl dX9_restore_23 ?_
    refine lv_if_ne (tgt := 30) hx hb dX9_restore_24 (by decide) (fun c4 => ?_) (fun c4 => ?_)
    · have H := if_f H c4
      refine lv_iconst (v := 0) hx hb dX9_restore_30 (by decide) ?_
      refine lv_istore_n (lv' := [(2, .int 0), (0, .ref (mAd 0)), (1, .int p1)]) hx hb dX9_restore_31 rfl hl (by decide) rfl (fun ls hl => ?_)
      obtain ⟨z8, hz8, H⟩ := bd_some H
      refine wl_X9_restore_32 C mAd 0 status acts taped latest leng cursor token start till fault faultAt gifts traced lane many item fresh thn was tape left gift isKept kept trace p1 _ bay 0 z8 hz8 (fun U locs ls G hl => ?_) _ _ _ G (lv_sub hl [1, 2, 0] rfl)
      have G : Gd D A s (w_M cy mAd 0 status acts taped latest leng cursor token start till fault faultAt gifts traced lane many item z8 fresh thn was tape left gift isKept kept trace) U locs := G
      have hl : lv_has ls 3 [(0, .ref (mAd 0))] := hl
      refine lv_aload_n hx hb dX9_restore_61 rfl (lv_at hl 0 rfl) ?_
      refine lv_iconst (v := 0) hx hb dX9_restore_62 (by decide) ?_
      refine va_put (D := D) (ci := 9) (v := .int 0) (ty := .int) (C := RX9) (T := TX9) (N := 27) hx hb hts hiX9 tyX9 tyX9_ok nmX9 hown hK G.1 G.2.1 G.2.2 0 rfl rfl 9 (by decide) lk2 (fun _ h9 => h9) rfl (tyX9_ok 9 (by decide)) rfl rfl (Nat.le_of_ble_eq_true rfl) dX9_restore_63 (fun U locs hP hD hS => ?_)
      have G : Gd D A s (w_M cy mAd 0 status 0 taped latest leng cursor token start till fault faultAt gifts traced lane many item z8 fresh thn was tape left gift isKept kept trace) U locs := ⟨hP, hD, hS⟩
      refine lv_iconst (v := 1) hx hb dX9_restore_66 (by decide) ?_
      obtain rfl := Option.some.inj H
      exact ret_i C G rfl dX9_restore_67
    · have H := if_t H c4
      refine lv_ldc hx hb hown lk3 dX9_restore_27 ?_
      obtain rfl := Option.some.inj H
      exact ret_i C G rfl dX9_restore_29
  · have H := if_t H c2
    refine lv_ldc hx hb hown lk4 dX9_restore_15 ?_
    obtain rfl := Option.some.inj H
    exact ret_i C G rfl dX9_restore_17
def f_X9_isOf (p0 p1 : Int32) : Option Int32 := if p1 = 0 then (some 1) else (if p0 = p1 then (some 1) else (if p1 = 1 then (if p0 < 4 then (some 1) else (if p1 = 4 then (if p0 = 5 then (some 1) else (some 0)) else (some 0))) else (if p1 = 4 then (if p0 = 5 then (some 1) else (some 0)) else (some 0))))
set_option maxHeartbeats 4000000 in
set_option maxRecDepth 100000 in
theorem c_X9_isOf (l : Launch) (D : va_G) (cy : Nat → ClassId) (p0 p1 : Int32) (z : Int32) (hz : f_X9_isOf p0 p1 = some z) : MI l yX9_isOf wsX9_isOf ({ frames := 0, cells := 0, slots := 0, locals := 0 } : Room) D cy [.int p0, .int p1] [] z [] := by
  refine met_start (Qf := fun A => MQi D cy z [] A) (cc := cX9_isOf) (nL := 2) (ret := (some .boolean)) RX9 rfl (by decide) rfl (Nat.le_of_ble_eq_true rfl) ?_
  intro p e s m below meth c A ls C G hl
  have hl : lv_has ls 2 [(0, .int p0), (1, .int p1)] := hl
  have H := hz
  unfold f_X9_isOf at H
  obtain ⟨hx, hb, hr, hml, hown, hts, hlk, hK, hA, hE⟩ := id C
  refine lv_iload_n hx hb dX9_isOf_0 rfl (lv_at hl 1 rfl) ?_
  refine lv_if_eq (tgt := 29) hx hb dX9_isOf_1 (by decide) (fun c1 => ?_) (fun c1 => ?_)
  · have H := if_t H c1
    refine lv_iconst (v := 1) hx hb dX9_isOf_29 (by decide) ?_
    refine lv_goto (tgt := 34) hx hb dX9_isOf_30 (by decide) ?_
    obtain rfl := Option.some.inj H
    exact ret_z C G rfl rfl dX9_isOf_34
  · have H := if_f H c1
    refine lv_iload_n hx hb dX9_isOf_4 rfl (lv_at hl 0 rfl) ?_
    refine lv_iload_n hx hb dX9_isOf_5 rfl (lv_at hl 1 rfl) ?_
    refine lv_icmp_eq (tgt := 29) hx hb dX9_isOf_6 (by decide) (fun c2 => ?_) (fun c2 => ?_)
    · have H := if_t H c2
      refine lv_iconst (v := 1) hx hb dX9_isOf_29 (by decide) ?_
      refine lv_goto (tgt := 34) hx hb dX9_isOf_30 (by decide) ?_
      obtain rfl := Option.some.inj H
      exact ret_z C G rfl rfl dX9_isOf_34
    · have H := if_f H c2
      refine lv_iload_n hx hb dX9_isOf_9 rfl (lv_at hl 1 rfl) ?_
      refine lv_iconst (v := 1) hx hb dX9_isOf_10 (by decide) ?_
      refine lv_icmp_ne (tgt := 19) hx hb dX9_isOf_11 (by decide) (fun c3 => ?_) (fun c3 => ?_)
      · have H := if_f H c3
        refine lv_iload_n hx hb dX9_isOf_19 rfl (lv_at hl 1 rfl) ?_
        refine lv_iconst (v := 4) hx hb dX9_isOf_20 (by decide) ?_
        refine lv_icmp_ne (tgt := 33) hx hb dX9_isOf_21 (by decide) (fun c4 => ?_) (fun c4 => ?_)
        · have H := if_f H c4
          refine lv_iconst (v := 0) hx hb dX9_isOf_33 (by decide) ?_
          obtain rfl := Option.some.inj H
          exact ret_z C G rfl rfl dX9_isOf_34
        · have H := if_t H c4
          refine lv_iload_n hx hb dX9_isOf_24 rfl (lv_at hl 0 rfl) ?_
          refine lv_iconst (v := 5) hx hb dX9_isOf_25 (by decide) ?_
          refine lv_icmp_ne (tgt := 33) hx hb dX9_isOf_26 (by decide) (fun c5 => ?_) (fun c5 => ?_)
          · have H := if_f H c5
            refine lv_iconst (v := 0) hx hb dX9_isOf_33 (by decide) ?_
            obtain rfl := Option.some.inj H
            exact ret_z C G rfl rfl dX9_isOf_34
          · have H := if_t H c5
            refine lv_iconst (v := 1) hx hb dX9_isOf_29 (by decide) ?_
            refine lv_goto (tgt := 34) hx hb dX9_isOf_30 (by decide) ?_
            obtain rfl := Option.some.inj H
            exact ret_z C G rfl rfl dX9_isOf_34
      · have H := if_t H c3
        refine lv_iload_n hx hb dX9_isOf_14 rfl (lv_at hl 0 rfl) ?_
        refine lv_iconst (v := 4) hx hb dX9_isOf_15 (by decide) ?_
        refine lv_icmp_lt (tgt := 29) hx hb dX9_isOf_16 (by decide) (fun c6 => ?_) (fun c6 => ?_)
        · have H := if_t H c6
          refine lv_iconst (v := 1) hx hb dX9_isOf_29 (by decide) ?_
          refine lv_goto (tgt := 34) hx hb dX9_isOf_30 (by decide) ?_
          obtain rfl := Option.some.inj H
          exact ret_z C G rfl rfl dX9_isOf_34
        · have H := if_f H c6
          refine lv_iload_n hx hb dX9_isOf_19 rfl (lv_at hl 1 rfl) ?_
          refine lv_iconst (v := 4) hx hb dX9_isOf_20 (by decide) ?_
          refine lv_icmp_ne (tgt := 33) hx hb dX9_isOf_21 (by decide) (fun c7 => ?_) (fun c7 => ?_)
          · have H := if_f H c7
            refine lv_iconst (v := 0) hx hb dX9_isOf_33 (by decide) ?_
            obtain rfl := Option.some.inj H
            exact ret_z C G rfl rfl dX9_isOf_34
          · have H := if_t H c7
            refine lv_iload_n hx hb dX9_isOf_24 rfl (lv_at hl 0 rfl) ?_
            refine lv_iconst (v := 5) hx hb dX9_isOf_25 (by decide) ?_
            refine lv_icmp_ne (tgt := 33) hx hb dX9_isOf_26 (by decide) (fun c8 => ?_) (fun c8 => ?_)
            · have H := if_f H c8
              refine lv_iconst (v := 0) hx hb dX9_isOf_33 (by decide) ?_
              obtain rfl := Option.some.inj H
              exact ret_z C G rfl rfl dX9_isOf_34
            · have H := if_t H c8
              refine lv_iconst (v := 1) hx hb dX9_isOf_29 (by decide) ?_
              refine lv_goto (tgt := 34) hx hb dX9_isOf_30 (by decide) ?_
              obtain rfl := Option.some.inj H
              exact ret_z C G rfl rfl dX9_isOf_34
def f_X9_kind (thrown : Int32) (bay : Nat → Int32) (p1 : Int32) : Option (Int32 × Int32) := bd (f_X9_isWater bay p1) (fun z1 => if z1 = 0 then (some ((-1000001), 0)) else (bd (f_X9_at p1 0) (fun z3 => gd (inb z3 75) (some (bay (ix z3), 0)))))
set_option maxHeartbeats 4000000 in
set_option maxRecDepth 100000 in
theorem c_X9_kind (l : Launch) (D : va_G) (cy : Nat → ClassId) (mAd : Nat → Nat) (thrown status acts taped latest leng cursor token start till fault faultAt gifts traced : Int32) (lane many item bay fresh thn was tape left gift isKept kept trace : Nat → Int32) (p1 : Int32) (z : (Int32 × Int32)) (hz : f_X9_kind thrown bay p1 = some z) : MI l yX9_kind wsX9_kind ({ frames := 2, cells := 0, slots := 0, locals := 46 } : Room) D cy [.ref (mAd 0), .int p1] (w_M cy mAd thrown status acts taped latest leng cursor token start till fault faultAt gifts traced lane many item bay fresh thn was tape left gift isKept kept trace) z.1 (w_M cy mAd z.2 status acts taped latest leng cursor token start till fault faultAt gifts traced lane many item bay fresh thn was tape left gift isKept kept trace) := by
  refine met_start (Qf := fun A => MQi D cy z.1 (w_M cy mAd z.2 status acts taped latest leng cursor token start till fault faultAt gifts traced lane many item bay fresh thn was tape left gift isKept kept trace) A) (cc := cX9_kind) (nL := 2) (ret := (some .int)) RX9 rfl (by decide) rfl (Nat.le_of_ble_eq_true rfl) ?_
  intro p e s m below meth c A ls C G hl
  have hl : lv_has ls 2 [(0, .ref (mAd 0)), (1, .int p1)] := hl
  have H := hz
  unfold f_X9_kind at H
  obtain ⟨hx, hb, hr, hml, hown, hts, hlk, hK, hA, hE⟩ := id C
  have lk0 := hts (Cond.fieldLink RX9 50 "TideDebtsModel" "thrown" "I") (List.mem_of_getElem? (i := 1) rfl)
  have lk1 := hts (Cond.constant RX9 70 (-1000001)) (List.mem_of_getElem? (i := 3) rfl)
  have lk2 := hts (Cond.fieldLink RX9 19 "TideDebtsModel" "bay" "[I") (List.mem_of_getElem? (i := 2) rfl)
  have hiX9 : ∀ w ∈ u_ws RX9 TX9 27, w ∈ wsX9_kind := fun _ h => List.mem_cons_of_mem _ (List.mem_append_right _ h)
  refine lv_aload_n hx hb dX9_kind_0 rfl (lv_at hl 0 rfl) ?_
  refine lv_iconst (v := 0) hx hb dX9_kind_1 (by decide) ?_
  refine va_put (D := D) (ci := 9) (v := .int 0) (ty := .int) (C := RX9) (T := TX9) (N := 27) hx hb hts hiX9 tyX9 tyX9_ok nmX9 hown hK G.1 G.2.1 G.2.2 0 rfl rfl 0 (by decide) lk0 (fun _ h9 => h9) rfl (tyX9_ok 0 (by decide)) rfl rfl (Nat.le_of_ble_eq_true rfl) dX9_kind_2 (fun U locs hP hD hS => ?_)
  have G : Gd D A s (w_M cy mAd 0 status acts taped latest leng cursor token start till fault faultAt gifts traced lane many item bay fresh thn was tape left gift isKept kept trace) U locs := ⟨hP, hD, hS⟩
  refine lv_aload_n hx hb dX9_kind_5 rfl (lv_at hl 0 rfl) ?_
  refine lv_iload_n hx hb dX9_kind_6 rfl (lv_at hl 1 rfl) ?_
  obtain ⟨z1, hz1, H⟩ := bd_some H
  refine MI.callVw z1 [.int p1] [] C G (c_X9_isWater l D cy mAd 0 status acts taped latest leng cursor token start till fault faultAt gifts traced lane many item bay fresh thn was tape left gift isKept kept trace p1 z1 hz1) gX9_kind_X9_isWater rfl rfl rfl (n := 1) (by decide +kernel) ⟨Nat.le_of_ble_eq_true rfl, Nat.le_of_ble_eq_true rfl⟩ (q0 := 0) (ci := 9) rfl rfl rfl rfl hl.1 rfl (Nat.le_of_ble_eq_true rfl) dX9_kind_7 ⟨Nat.zero_le _, Nat.zero_le _⟩ (fun U locs G => ?_)
  have G : Gd D A s (w_M cy mAd 0 status acts taped latest leng cursor token start till fault faultAt gifts traced lane many item bay fresh thn was tape left gift isKept kept trace) U locs := G
  refine lv_if_eq (tgt := 26) hx hb dX9_kind_10 (by decide) (fun c2 => ?_) (fun c2 => ?_)
  · have H := if_t H c2
    refine lv_ldc hx hb hown lk1 dX9_kind_26 ?_
    obtain rfl := Option.some.inj H
    exact ret_i C G rfl dX9_kind_28
  · have H := if_f H c2
    refine lv_aload_n hx hb dX9_kind_13 rfl (lv_at hl 0 rfl) ?_
    refine va_get (D := D) (ci := 9) (v := .ref (mAd 4)) (C := RX9) (T := TX9) (N := 27) hx hb hts hiX9 hown hK G.1 0 rfl rfl 5 (by decide) lk2 (fun _ h9 => h9) rfl dX9_kind_14 ?_
    refine lv_iload_n hx hb dX9_kind_17 rfl (lv_at hl 1 rfl) ?_
    refine lv_iconst (v := 0) hx hb dX9_kind_18 (by decide) ?_
    obtain ⟨z3, hz3, H⟩ := bd_some H
    refine MI.callS z3 [.int p1, .int 0] [.ref (mAd 4)] [] C G (c_X9_at l D cy p1 0 z3 hz3) gX9_kind_X9_at rfl rfl rfl (n := 2) (by decide +kernel) ⟨Nat.le_of_ble_eq_true rfl, Nat.le_of_ble_eq_true rfl⟩ rfl rfl rfl rfl hl.1 rfl (Nat.le_of_ble_eq_true rfl) dX9_kind_19 ⟨Nat.zero_le _, Nat.zero_le _⟩ (fun U locs G => ?_)
    have G : Gd D A s (w_M cy mAd 0 status acts taped latest leng cursor token start till fault faultAt gifts traced lane many item bay fresh thn was tape left gift isKept kept trace) U locs := G
    obtain ⟨hb4, H⟩ := gd_some H
    refine g_iald (v := bay (ix z3)) hx hb hK G.1 4 1 rfl rfl hb4 rfl dX9_kind_22 ?_
    refine lv_goto (tgt := 28) hx hb dX9_kind_23 (by decide) ?_
    obtain rfl := Option.some.inj H
    exact ret_i C G rfl dX9_kind_28
def f_X9_as (thrown status : Int32) (bay : Nat → Int32) (p1 p2 : Int32) : Option (Int32 × Int32 × Int32) := bd (f_X9_isWater bay p1) (fun z1 => if z1 = 0 then (some ((-1000001), 0, status)) else (bd (f_X9_in p2.toInt64 0 5) (fun z3 => if z3 = 0 then (some ((-1000001), 0, status)) else (bd (f_X9_at p1 0) (fun z5 => gd (inb z5 75) (bd (f_X9_isOf (bay (ix z5)) p2) (fun z7 => if z7 = 0 then (bd (f_X9_finding 0 3) (fun z9 => some (z9.1, 0, z9.2))) else (some (p1, 0, 0)))))))))
set_option maxHeartbeats 4000000 in
set_option maxRecDepth 100000 in
theorem c_X9_as (l : Launch) (D : va_G) (cy : Nat → ClassId) (mAd : Nat → Nat) (thrown status acts taped latest leng cursor token start till fault faultAt gifts traced : Int32) (lane many item bay fresh thn was tape left gift isKept kept trace : Nat → Int32) (p1 p2 : Int32) (z : (Int32 × Int32 × Int32)) (hz : f_X9_as thrown status bay p1 p2 = some z) : MI l yX9_as wsX9_as ({ frames := 2, cells := 0, slots := 0, locals := 46 } : Room) D cy [.ref (mAd 0), .int p1, .int p2] (w_M cy mAd thrown status acts taped latest leng cursor token start till fault faultAt gifts traced lane many item bay fresh thn was tape left gift isKept kept trace) z.1 (w_M cy mAd z.2.1 z.2.2 acts taped latest leng cursor token start till fault faultAt gifts traced lane many item bay fresh thn was tape left gift isKept kept trace) := by
  refine met_start (Qf := fun A => MQi D cy z.1 (w_M cy mAd z.2.1 z.2.2 acts taped latest leng cursor token start till fault faultAt gifts traced lane many item bay fresh thn was tape left gift isKept kept trace) A) (cc := cX9_as) (nL := 3) (ret := (some .int)) RX9 rfl (by decide) rfl (Nat.le_of_ble_eq_true rfl) ?_
  intro p e s m below meth c A ls C G hl
  have hl : lv_has ls 3 [(0, .ref (mAd 0)), (1, .int p1), (2, .int p2)] := hl
  have H := hz
  unfold f_X9_as at H
  obtain ⟨hx, hb, hr, hml, hown, hts, hlk, hK, hA, hE⟩ := id C
  have lk0 := hts (Cond.fieldLink RX9 50 "TideDebtsModel" "thrown" "I") (List.mem_of_getElem? (i := 1) rfl)
  have lk1 := hts (Cond.constant RX9 70 (-1000001)) (List.mem_of_getElem? (i := 3) rfl)
  have lk2 := hts (Cond.constantLong RX9 250 (5)) (List.mem_of_getElem? (i := 2) rfl)
  have lk3 := hts (Cond.fieldLink RX9 54 "TideDebtsModel" "status" "I") (List.mem_of_getElem? (i := 4) rfl)
  have lk4 := hts (Cond.fieldLink RX9 19 "TideDebtsModel" "bay" "[I") (List.mem_of_getElem? (i := 5) rfl)
  have hiX9 : ∀ w ∈ u_ws RX9 TX9 27, w ∈ wsX9_as := fun _ h => List.mem_cons_of_mem _ (List.mem_append_right _ h)
  refine lv_aload_n hx hb dX9_as_0 rfl (lv_at hl 0 rfl) ?_
  refine lv_iconst (v := 0) hx hb dX9_as_1 (by decide) ?_
  refine va_put (D := D) (ci := 9) (v := .int 0) (ty := .int) (C := RX9) (T := TX9) (N := 27) hx hb hts hiX9 tyX9 tyX9_ok nmX9 hown hK G.1 G.2.1 G.2.2 0 rfl rfl 0 (by decide) lk0 (fun _ h9 => h9) rfl (tyX9_ok 0 (by decide)) rfl rfl (Nat.le_of_ble_eq_true rfl) dX9_as_2 (fun U locs hP hD hS => ?_)
  have G : Gd D A s (w_M cy mAd 0 status acts taped latest leng cursor token start till fault faultAt gifts traced lane many item bay fresh thn was tape left gift isKept kept trace) U locs := ⟨hP, hD, hS⟩
  refine lv_aload_n hx hb dX9_as_5 rfl (lv_at hl 0 rfl) ?_
  refine lv_iload_n hx hb dX9_as_6 rfl (lv_at hl 1 rfl) ?_
  obtain ⟨z1, hz1, H⟩ := bd_some H
  refine MI.callVw z1 [.int p1] [] C G (c_X9_isWater l D cy mAd 0 status acts taped latest leng cursor token start till fault faultAt gifts traced lane many item bay fresh thn was tape left gift isKept kept trace p1 z1 hz1) gX9_as_X9_isWater rfl rfl rfl (n := 1) (by decide +kernel) ⟨Nat.le_of_ble_eq_true rfl, Nat.le_of_ble_eq_true rfl⟩ (q0 := 0) (ci := 9) rfl rfl rfl rfl hl.1 rfl (Nat.le_of_ble_eq_true rfl) dX9_as_7 ⟨Nat.zero_le _, Nat.zero_le _⟩ (fun U locs G => ?_)
  have G : Gd D A s (w_M cy mAd 0 status acts taped latest leng cursor token start till fault faultAt gifts traced lane many item bay fresh thn was tape left gift isKept kept trace) U locs := G
  refine lv_if_eq (tgt := 25) hx hb dX9_as_10 (by decide) (fun c2 => ?_) (fun c2 => ?_)
  · have H := if_t H c2
    refine lv_ldc hx hb hown lk1 dX9_as_25 ?_
    obtain rfl := Option.some.inj H
    exact ret_i C G rfl dX9_as_27
  · have H := if_f H c2
    refine lv_iload_n hx hb dX9_as_13 rfl (lv_at hl 2 rfl) ?_
    refine lv_i2l hx hb dX9_as_14 rfl ?_
    refine lv_lconst (v := 0) hx hb dX9_as_15 (by decide) ?_
    refine lv_ldc2 hx hb hown lk2 dX9_as_16 ?_
    obtain ⟨z3, hz3, H⟩ := bd_some H
    refine MI.callS z3 [.long p2.toInt64, .long 0, .long 5] [] [] C G (c_X9_in l D cy p2.toInt64 0 5 z3 hz3) gX9_as_X9_in rfl rfl rfl (n := 3) (by decide +kernel) ⟨Nat.le_of_ble_eq_true rfl, Nat.le_of_ble_eq_true rfl⟩ rfl rfl rfl rfl hl.1 rfl (Nat.le_of_ble_eq_true rfl) dX9_as_19 ⟨Nat.zero_le _, Nat.zero_le _⟩ (fun U locs G => ?_)
    have G : Gd D A s (w_M cy mAd 0 status acts taped latest leng cursor token start till fault faultAt gifts traced lane many item bay fresh thn was tape left gift isKept kept trace) U locs := G
    refine lv_if_ne (tgt := 28) hx hb dX9_as_22 (by decide) (fun c4 => ?_) (fun c4 => ?_)
    · have H := if_f H c4
      refine lv_aload_n hx hb dX9_as_28 rfl (lv_at hl 0 rfl) ?_
      refine lv_iconst (v := 0) hx hb dX9_as_29 (by decide) ?_
      refine va_put (D := D) (ci := 9) (v := .int 0) (ty := .int) (C := RX9) (T := TX9) (N := 27) hx hb hts hiX9 tyX9 tyX9_ok nmX9 hown hK G.1 G.2.1 G.2.2 0 rfl rfl 1 (by decide) lk3 (fun _ h9 => h9) rfl (tyX9_ok 1 (by decide)) rfl rfl (Nat.le_of_ble_eq_true rfl) dX9_as_30 (fun U locs hP hD hS => ?_)
      have G : Gd D A s (w_M cy mAd 0 0 acts taped latest leng cursor token start till fault faultAt gifts traced lane many item bay fresh thn was tape left gift isKept kept trace) U locs := ⟨hP, hD, hS⟩
      refine lv_aload_n hx hb dX9_as_33 rfl (lv_at hl 0 rfl) ?_
      refine va_get (D := D) (ci := 9) (v := .ref (mAd 4)) (C := RX9) (T := TX9) (N := 27) hx hb hts hiX9 hown hK G.1 0 rfl rfl 5 (by decide) lk4 (fun _ h9 => h9) rfl dX9_as_34 ?_
      refine lv_iload_n hx hb dX9_as_37 rfl (lv_at hl 1 rfl) ?_
      refine lv_iconst (v := 0) hx hb dX9_as_38 (by decide) ?_
      obtain ⟨z5, hz5, H⟩ := bd_some H
      refine MI.callS z5 [.int p1, .int 0] [.ref (mAd 4)] [] C G (c_X9_at l D cy p1 0 z5 hz5) gX9_as_X9_at rfl rfl rfl (n := 2) (by decide +kernel) ⟨Nat.le_of_ble_eq_true rfl, Nat.le_of_ble_eq_true rfl⟩ rfl rfl rfl rfl hl.1 rfl (Nat.le_of_ble_eq_true rfl) dX9_as_39 ⟨Nat.zero_le _, Nat.zero_le _⟩ (fun U locs G => ?_)
      have G : Gd D A s (w_M cy mAd 0 0 acts taped latest leng cursor token start till fault faultAt gifts traced lane many item bay fresh thn was tape left gift isKept kept trace) U locs := G
      obtain ⟨hb6, H⟩ := gd_some H
      refine g_iald (v := bay (ix z5)) hx hb hK G.1 4 1 rfl rfl hb6 rfl dX9_as_42 ?_
      refine lv_iload_n hx hb dX9_as_43 rfl (lv_at hl 2 rfl) ?_
      obtain ⟨z7, hz7, H⟩ := bd_some H
      refine MI.callS z7 [.int (bay (ix z5)), .int p2] [] [] C G (c_X9_isOf l D cy (bay (ix z5)) p2 z7 hz7) gX9_as_X9_isOf rfl rfl rfl (n := 2) (by decide +kernel) ⟨Nat.le_of_ble_eq_true rfl, Nat.le_of_ble_eq_true rfl⟩ rfl rfl rfl rfl hl.1 rfl (Nat.le_of_ble_eq_true rfl) dX9_as_44 ⟨Nat.zero_le _, Nat.zero_le _⟩ (fun U locs G => ?_)
      have G : Gd D A s (w_M cy mAd 0 0 acts taped latest leng cursor token start till fault faultAt gifts traced lane many item bay fresh thn was tape left gift isKept kept trace) U locs := G
      refine lv_if_eq (tgt := 54) hx hb dX9_as_47 (by decide) (fun c8 => ?_) (fun c8 => ?_)
      · have H := if_t H c8
        refine lv_aload_n hx hb dX9_as_54 rfl (lv_at hl 0 rfl) ?_
        refine lv_iconst (v := 3) hx hb dX9_as_55 (by decide) ?_
        obtain ⟨z9, hz9, H⟩ := bd_some H
        refine MI.callVw z9.1 [.int 3] [] C G (c_X9_finding l D cy mAd 0 0 acts taped latest leng cursor token start till fault faultAt gifts traced lane many item bay fresh thn was tape left gift isKept kept trace 3 z9 hz9) gX9_as_X9_finding rfl rfl rfl (n := 1) (by decide +kernel) ⟨Nat.le_of_ble_eq_true rfl, Nat.le_of_ble_eq_true rfl⟩ (q0 := 0) (ci := 9) rfl rfl rfl rfl hl.1 rfl (Nat.le_of_ble_eq_true rfl) dX9_as_56 ⟨Nat.zero_le _, Nat.zero_le _⟩ (fun U locs G => ?_)
        have G : Gd D A s (w_M cy mAd 0 z9.2 acts taped latest leng cursor token start till fault faultAt gifts traced lane many item bay fresh thn was tape left gift isKept kept trace) U locs := G
        obtain rfl := Option.some.inj H
        exact ret_i C G rfl dX9_as_59
      · have H := if_f H c8
        refine lv_iload_n hx hb dX9_as_50 rfl (lv_at hl 1 rfl) ?_
        refine lv_goto (tgt := 59) hx hb dX9_as_51 (by decide) ?_
        obtain rfl := Option.some.inj H
        exact ret_i C G rfl dX9_as_59
    · have H := if_t H c4
      refine lv_ldc hx hb hown lk1 dX9_as_25 ?_
      obtain rfl := Option.some.inj H
      exact ret_i C G rfl dX9_as_27
def f_X9_began (traced : Int32) (trace : Nat → Int32) (p1 : Int32) : Option (Int32 × (Nat → Int32)) := if 16 ≤ traced then (some (traced, trace)) else (gd (inb traced 16) (some (traced + 1, upd trace (ix traced) p1)))
set_option maxHeartbeats 4000000 in
set_option maxRecDepth 100000 in
theorem c_X9_began (l : Launch) (D : va_G) (cy : Nat → ClassId) (mAd : Nat → Nat) (thrown status acts taped latest leng cursor token start till fault faultAt gifts traced : Int32) (lane many item bay fresh thn was tape left gift isKept kept trace : Nat → Int32) (p1 : Int32) (z : (Int32 × (Nat → Int32))) (hz : f_X9_began traced trace p1 = some z) : MV l yX9_began wsX9_began ({ frames := 0, cells := 0, slots := 0, locals := 0 } : Room) D cy [.ref (mAd 0), .int p1] (w_M cy mAd thrown status acts taped latest leng cursor token start till fault faultAt gifts traced lane many item bay fresh thn was tape left gift isKept kept trace) (w_M cy mAd thrown status acts taped latest leng cursor token start till fault faultAt gifts z.1 lane many item bay fresh thn was tape left gift isKept kept z.2) := by
  refine met_start (Qf := fun A => MQv D cy (w_M cy mAd thrown status acts taped latest leng cursor token start till fault faultAt gifts z.1 lane many item bay fresh thn was tape left gift isKept kept z.2) A) (cc := cX9_began) (nL := 2) (ret := none) RX9 rfl (by decide) rfl (Nat.le_of_ble_eq_true rfl) ?_
  intro p e s m below meth c A ls C G hl
  have hl : lv_has ls 2 [(0, .ref (mAd 0)), (1, .int p1)] := hl
  have H := hz
  unfold f_X9_began at H
  obtain ⟨hx, hb, hr, hml, hown, hts, hlk, hK, hA, hE⟩ := id C
  have lk0 := hts (Cond.fieldLink RX9 255 "TideDebtsModel" "traced" "I") (List.mem_of_getElem? (i := 1) rfl)
  have lk1 := hts (Cond.fieldLink RX9 47 "TideDebtsModel" "trace" "[I") (List.mem_of_getElem? (i := 2) rfl)
  have hiX9 : ∀ w ∈ u_ws RX9 TX9 27, w ∈ wsX9_began := fun _ h => List.mem_cons_of_mem _ (List.mem_append_right _ h)
  refine lv_aload_n hx hb dX9_began_0 rfl (lv_at hl 0 rfl) ?_
  refine va_get (D := D) (ci := 9) (v := .int traced) (C := RX9) (T := TX9) (N := 27) hx hb hts hiX9 hown hK G.1 0 rfl rfl 26 (by decide) lk0 (fun _ h9 => h9) rfl dX9_began_1 ?_
  refine lv_bipush (v := 16) hx hb dX9_began_4 (by decide) ?_
  refine lv_icmp_ge (tgt := 29) hx hb dX9_began_6 (by decide) (fun c1 => ?_) (fun c1 => ?_)
  · have H := if_t H c1
    obtain rfl := Option.some.inj H
    exact ret_v C G dX9_began_29
  · have H := if_f H c1
    refine lv_aload_n hx hb dX9_began_9 rfl (lv_at hl 0 rfl) ?_
    refine va_get (D := D) (ci := 9) (v := .ref (mAd 13)) (C := RX9) (T := TX9) (N := 27) hx hb hts hiX9 hown hK G.1 0 rfl rfl 25 (by decide) lk1 (fun _ h9 => h9) rfl dX9_began_10 ?_
    refine lv_aload_n hx hb dX9_began_13 rfl (lv_at hl 0 rfl) ?_
    refine va_get (D := D) (ci := 9) (v := .int traced) (C := RX9) (T := TX9) (N := 27) hx hb hts hiX9 hown hK G.1 0 rfl rfl 26 (by decide) lk0 (fun _ h9 => h9) rfl dX9_began_14 ?_
    refine lv_iload_n hx hb dX9_began_17 rfl (lv_at hl 1 rfl) ?_
    obtain ⟨hb2, H⟩ := gd_some H
    refine va_iast hx hb hK G.1 G.2.1 G.2.2 13 1 rfl rfl (inb_in hb2) dX9_began_18 (fun U locs hP hD hS => ?_)
    have G : Gd D A s (w_M cy mAd thrown status acts taped latest leng cursor token start till fault faultAt gifts traced lane many item bay fresh thn was tape left gift isKept kept (upd trace (ix traced) p1)) U locs := ⟨hP, hD, hS⟩
    refine lv_aload_n hx hb dX9_began_19 rfl (lv_at hl 0 rfl) ?_
    refine lv_dup hx hb dX9_began_20 rfl ?_
    refine va_get (D := D) (ci := 9) (v := .int traced) (C := RX9) (T := TX9) (N := 27) hx hb hts hiX9 hown hK G.1 0 rfl rfl 26 (by decide) lk0 (fun _ h9 => h9) rfl dX9_began_21 ?_
    refine lv_iconst (v := 1) hx hb dX9_began_24 (by decide) ?_
    refine lv_iadd hx hb dX9_began_25 ?_
    refine va_put (D := D) (ci := 9) (v := .int (traced + 1)) (ty := .int) (C := RX9) (T := TX9) (N := 27) hx hb hts hiX9 tyX9 tyX9_ok nmX9 hown hK G.1 G.2.1 G.2.2 0 rfl rfl 26 (by decide) lk0 (fun _ h9 => h9) rfl (tyX9_ok 26 (by decide)) rfl rfl (Nat.le_of_ble_eq_true rfl) dX9_began_26 (fun U locs hP hD hS => ?_)
    have G : Gd D A s (w_M cy mAd thrown status acts taped latest leng cursor token start till fault faultAt gifts (traced + 1) lane many item bay fresh thn was tape left gift isKept kept (upd trace (ix traced) p1)) U locs := ⟨hP, hD, hS⟩
    obtain rfl := Option.some.inj H
    exact ret_v C G dX9_began_29
def f_X9_plainSize (traced : Int32) (bay trace : Nat → Int32) (p1 : Int32) : Option (Int32 × Int32 × (Nat → Int32)) := bd (f_X9_began traced trace 10) (fun z1 => bd (f_X9_at p1 1) (fun z2 => gd (inb z2 75) (some (bay (ix z2), z1.1, z1.2))))
set_option maxHeartbeats 4000000 in
set_option maxRecDepth 100000 in
theorem c_X9_plainSize (l : Launch) (D : va_G) (cy : Nat → ClassId) (mAd : Nat → Nat) (thrown status acts taped latest leng cursor token start till fault faultAt gifts traced : Int32) (lane many item bay fresh thn was tape left gift isKept kept trace : Nat → Int32) (p1 : Int32) (z : (Int32 × Int32 × (Nat → Int32))) (hz : f_X9_plainSize traced bay trace p1 = some z) : MI l yX9_plainSize wsX9_plainSize ({ frames := 1, cells := 0, slots := 0, locals := 21 } : Room) D cy [.ref (mAd 0), .int p1] (w_M cy mAd thrown status acts taped latest leng cursor token start till fault faultAt gifts traced lane many item bay fresh thn was tape left gift isKept kept trace) z.1 (w_M cy mAd thrown status acts taped latest leng cursor token start till fault faultAt gifts z.2.1 lane many item bay fresh thn was tape left gift isKept kept z.2.2) := by
  refine met_start (Qf := fun A => MQi D cy z.1 (w_M cy mAd thrown status acts taped latest leng cursor token start till fault faultAt gifts z.2.1 lane many item bay fresh thn was tape left gift isKept kept z.2.2) A) (cc := cX9_plainSize) (nL := 2) (ret := (some .int)) RX9 rfl (by decide) rfl (Nat.le_of_ble_eq_true rfl) ?_
  intro p e s m below meth c A ls C G hl
  have hl : lv_has ls 2 [(0, .ref (mAd 0)), (1, .int p1)] := hl
  have H := hz
  unfold f_X9_plainSize at H
  obtain ⟨hx, hb, hr, hml, hown, hts, hlk, hK, hA, hE⟩ := id C
  have lk0 := hts (Cond.fieldLink RX9 19 "TideDebtsModel" "bay" "[I") (List.mem_of_getElem? (i := 1) rfl)
  have hiX9 : ∀ w ∈ u_ws RX9 TX9 27, w ∈ wsX9_plainSize := fun _ h => List.mem_cons_of_mem _ (List.mem_append_right _ h)
  refine lv_aload_n hx hb dX9_plainSize_0 rfl (lv_at hl 0 rfl) ?_
  refine lv_bipush (v := 10) hx hb dX9_plainSize_1 (by decide) ?_
  obtain ⟨z1, hz1, H⟩ := bd_some H
  refine MV.callVw [.int 10] [] C G (c_X9_began l D cy mAd thrown status acts taped latest leng cursor token start till fault faultAt gifts traced lane many item bay fresh thn was tape left gift isKept kept trace 10 z1 hz1) gX9_plainSize_X9_began rfl rfl rfl (n := 1) (by decide +kernel) ⟨Nat.le_of_ble_eq_true rfl, Nat.le_of_ble_eq_true rfl⟩ (q0 := 0) (ci := 9) rfl rfl rfl rfl hl.1 rfl (Nat.le_of_ble_eq_true rfl) dX9_plainSize_3 ⟨Nat.zero_le _, Nat.zero_le _⟩ (fun U locs G => ?_)
  have G : Gd D A s (w_M cy mAd thrown status acts taped latest leng cursor token start till fault faultAt gifts z1.1 lane many item bay fresh thn was tape left gift isKept kept z1.2) U locs := G
  refine lv_aload_n hx hb dX9_plainSize_6 rfl (lv_at hl 0 rfl) ?_
  refine va_get (D := D) (ci := 9) (v := .ref (mAd 4)) (C := RX9) (T := TX9) (N := 27) hx hb hts hiX9 hown hK G.1 0 rfl rfl 5 (by decide) lk0 (fun _ h9 => h9) rfl dX9_plainSize_7 ?_
  refine lv_iload_n hx hb dX9_plainSize_10 rfl (lv_at hl 1 rfl) ?_
  refine lv_iconst (v := 1) hx hb dX9_plainSize_11 (by decide) ?_
  obtain ⟨z2, hz2, H⟩ := bd_some H
  refine MI.callS z2 [.int p1, .int 1] [.ref (mAd 4)] [] C G (c_X9_at l D cy p1 1 z2 hz2) gX9_plainSize_X9_at rfl rfl rfl (n := 2) (by decide +kernel) ⟨Nat.le_of_ble_eq_true rfl, Nat.le_of_ble_eq_true rfl⟩ rfl rfl rfl rfl hl.1 rfl (Nat.le_of_ble_eq_true rfl) dX9_plainSize_12 ⟨Nat.zero_le _, Nat.zero_le _⟩ (fun U locs G => ?_)
  have G : Gd D A s (w_M cy mAd thrown status acts taped latest leng cursor token start till fault faultAt gifts z1.1 lane many item bay fresh thn was tape left gift isKept kept z1.2) U locs := G
  obtain ⟨hb3, H⟩ := gd_some H
  refine g_iald (v := bay (ix z2)) hx hb hK G.1 4 1 rfl rfl hb3 rfl dX9_plainSize_15 ?_
  obtain rfl := Option.some.inj H
  exact ret_i C G rfl dX9_plainSize_16
def f_X9_dykeSize (traced : Int32) (bay trace : Nat → Int32) (p1 : Int32) : Option (Int32 × Int32 × (Nat → Int32)) := bd (f_X9_at p1 0) (fun z1 => gd (inb z1 75) (if (bay (ix z1)) = 5 then (bd (f_X9_began traced trace 14) (fun z7 => bd (f_X9_began z7.1 z7.2 13) (fun z8 => bd (f_X9_plainSize z8.1 bay z8.2 p1) (fun z9 => if (bay (ix z1)) = 5 then (some (2 * (z9.1 - 100), z9.2.1, z9.2.2)) else (some (z9.1 - 100, z9.2.1, z9.2.2)))))) else (bd (f_X9_began traced trace 13) (fun z4 => bd (f_X9_plainSize z4.1 bay z4.2 p1) (fun z5 => if (bay (ix z1)) = 5 then (some (2 * (z5.1 - 100), z5.2.1, z5.2.2)) else (some (z5.1 - 100, z5.2.1, z5.2.2)))))))
set_option maxHeartbeats 4000000 in
set_option maxRecDepth 100000 in
theorem c_X9_dykeSize (l : Launch) (D : va_G) (cy : Nat → ClassId) (mAd : Nat → Nat) (thrown status acts taped latest leng cursor token start till fault faultAt gifts traced : Int32) (lane many item bay fresh thn was tape left gift isKept kept trace : Nat → Int32) (p1 : Int32) (z : (Int32 × Int32 × (Nat → Int32))) (hz : f_X9_dykeSize traced bay trace p1 = some z) : MI l yX9_dykeSize wsX9_dykeSize ({ frames := 2, cells := 0, slots := 0, locals := 42 } : Room) D cy [.ref (mAd 0), .int p1] (w_M cy mAd thrown status acts taped latest leng cursor token start till fault faultAt gifts traced lane many item bay fresh thn was tape left gift isKept kept trace) z.1 (w_M cy mAd thrown status acts taped latest leng cursor token start till fault faultAt gifts z.2.1 lane many item bay fresh thn was tape left gift isKept kept z.2.2) := by
  refine met_start (Qf := fun A => MQi D cy z.1 (w_M cy mAd thrown status acts taped latest leng cursor token start till fault faultAt gifts z.2.1 lane many item bay fresh thn was tape left gift isKept kept z.2.2) A) (cc := cX9_dykeSize) (nL := 4) (ret := (some .int)) RX9 rfl (by decide) rfl (Nat.le_of_ble_eq_true rfl) ?_
  intro p e s m below meth c A ls C G hl
  have hl : lv_has ls 4 [(0, .ref (mAd 0)), (1, .int p1)] := hl
  have H := hz
  unfold f_X9_dykeSize at H
  obtain ⟨hx, hb, hr, hml, hown, hts, hlk, hK, hA, hE⟩ := id C
  have lk0 := hts (Cond.fieldLink RX9 19 "TideDebtsModel" "bay" "[I") (List.mem_of_getElem? (i := 1) rfl)
  have hiX9 : ∀ w ∈ u_ws RX9 TX9 27, w ∈ wsX9_dykeSize := fun _ h => List.mem_cons_of_mem _ (List.mem_append_right _ h)
  refine lv_aload_n hx hb dX9_dykeSize_0 rfl (lv_at hl 0 rfl) ?_
  refine va_get (D := D) (ci := 9) (v := .ref (mAd 4)) (C := RX9) (T := TX9) (N := 27) hx hb hts hiX9 hown hK G.1 0 rfl rfl 5 (by decide) lk0 (fun _ h9 => h9) rfl dX9_dykeSize_1 ?_
  refine lv_iload_n hx hb dX9_dykeSize_4 rfl (lv_at hl 1 rfl) ?_
  refine lv_iconst (v := 0) hx hb dX9_dykeSize_5 (by decide) ?_
  obtain ⟨z1, hz1, H⟩ := bd_some H
  refine MI.callS z1 [.int p1, .int 0] [.ref (mAd 4)] [] C G (c_X9_at l D cy p1 0 z1 hz1) gX9_dykeSize_X9_at rfl rfl rfl (n := 2) (by decide +kernel) ⟨Nat.le_of_ble_eq_true rfl, Nat.le_of_ble_eq_true rfl⟩ rfl rfl rfl rfl hl.1 rfl (Nat.le_of_ble_eq_true rfl) dX9_dykeSize_6 ⟨Nat.zero_le _, Nat.zero_le _⟩ (fun U locs G => ?_)
  have G : Gd D A s (w_M cy mAd thrown status acts taped latest leng cursor token start till fault faultAt gifts traced lane many item bay fresh thn was tape left gift isKept kept trace) U locs := G
  obtain ⟨hb2, H⟩ := gd_some H
  refine g_iald (v := bay (ix z1)) hx hb hK G.1 4 1 rfl rfl hb2 rfl dX9_dykeSize_9 ?_
  refine lv_istore_n (lv' := [(2, .int (bay (ix z1))), (0, .ref (mAd 0)), (1, .int p1)]) hx hb dX9_dykeSize_10 rfl hl (by decide) rfl (fun ls hl => ?_)
  refine lv_iload_n hx hb dX9_dykeSize_11 rfl (lv_at hl 0 rfl) ?_
  refine lv_iconst (v := 5) hx hb dX9_dykeSize_12 (by decide) ?_
  refine lv_icmp_ne (tgt := 22) hx hb dX9_dykeSize_13 (by decide) (fun c3 => ?_) (fun c3 => ?_)
  · have H := if_f H c3
    refine lv_aload_n hx hb dX9_dykeSize_22 rfl (lv_at hl 1 rfl) ?_
    refine lv_bipush (v := 13) hx hb dX9_dykeSize_23 (by decide) ?_
    obtain ⟨z4, hz4, H⟩ := bd_some H
    refine MV.callVw [.int 13] [] C G (c_X9_began l D cy mAd thrown status acts taped latest leng cursor token start till fault faultAt gifts traced lane many item bay fresh thn was tape left gift isKept kept trace 13 z4 hz4) gX9_dykeSize_X9_began rfl rfl rfl (n := 1) (by decide +kernel) ⟨Nat.le_of_ble_eq_true rfl, Nat.le_of_ble_eq_true rfl⟩ (q0 := 0) (ci := 9) rfl rfl rfl rfl hl.1 rfl (Nat.le_of_ble_eq_true rfl) dX9_dykeSize_25 ⟨Nat.zero_le _, Nat.zero_le _⟩ (fun U locs G => ?_)
    have G : Gd D A s (w_M cy mAd thrown status acts taped latest leng cursor token start till fault faultAt gifts z4.1 lane many item bay fresh thn was tape left gift isKept kept z4.2) U locs := G
    refine lv_aload_n hx hb dX9_dykeSize_28 rfl (lv_at hl 1 rfl) ?_
    refine lv_iload_n hx hb dX9_dykeSize_29 rfl (lv_at hl 2 rfl) ?_
    obtain ⟨z5, hz5, H⟩ := bd_some H
    refine MI.callVw z5.1 [.int p1] [] C G (c_X9_plainSize l D cy mAd thrown status acts taped latest leng cursor token start till fault faultAt gifts z4.1 lane many item bay fresh thn was tape left gift isKept kept z4.2 p1 z5 hz5) gX9_dykeSize_X9_plainSize rfl rfl rfl (n := 1) (by decide +kernel) ⟨Nat.le_of_ble_eq_true rfl, Nat.le_of_ble_eq_true rfl⟩ (q0 := 0) (ci := 9) rfl rfl rfl rfl hl.1 rfl (Nat.le_of_ble_eq_true rfl) dX9_dykeSize_30 ⟨Nat.zero_le _, Nat.zero_le _⟩ (fun U locs G => ?_)
    have G : Gd D A s (w_M cy mAd thrown status acts taped latest leng cursor token start till fault faultAt gifts z5.2.1 lane many item bay fresh thn was tape left gift isKept kept z5.2.2) U locs := G
    refine lv_bipush (v := 100) hx hb dX9_dykeSize_33 (by decide) ?_
    refine lv_isub hx hb dX9_dykeSize_35 ?_
    refine lv_istore_n (lv' := [(3, .int (z5.1 - 100)), (2, .int (bay (ix z1))), (0, .ref (mAd 0)), (1, .int p1)]) hx hb dX9_dykeSize_36 rfl hl (by decide) rfl (fun ls hl => ?_)
    refine lv_iload_n hx hb dX9_dykeSize_37 rfl (lv_at hl 1 rfl) ?_
    refine lv_iconst (v := 5) hx hb dX9_dykeSize_38 (by decide) ?_
    refine lv_icmp_ne (tgt := 48) hx hb dX9_dykeSize_39 (by decide) (fun c6 => ?_) (fun c6 => ?_)
    · have H := if_f H c6
      refine lv_iload_n hx hb dX9_dykeSize_48 rfl (lv_at hl 0 rfl) ?_
      obtain rfl := Option.some.inj H
      exact ret_i C G rfl dX9_dykeSize_49
    · have H := if_t H c6
      refine lv_iconst (v := 2) hx hb dX9_dykeSize_42 (by decide) ?_
      refine lv_iload_n hx hb dX9_dykeSize_43 rfl (lv_at hl 0 rfl) ?_
      refine lv_imul hx hb dX9_dykeSize_44 ?_
      refine lv_goto (tgt := 49) hx hb dX9_dykeSize_45 (by decide) ?_
      obtain rfl := Option.some.inj H
      exact ret_i C G rfl dX9_dykeSize_49
  · have H := if_t H c3
    refine lv_aload_n hx hb dX9_dykeSize_16 rfl (lv_at hl 1 rfl) ?_
    refine lv_bipush (v := 14) hx hb dX9_dykeSize_17 (by decide) ?_
    obtain ⟨z7, hz7, H⟩ := bd_some H
    refine MV.callVw [.int 14] [] C G (c_X9_began l D cy mAd thrown status acts taped latest leng cursor token start till fault faultAt gifts traced lane many item bay fresh thn was tape left gift isKept kept trace 14 z7 hz7) gX9_dykeSize_X9_began rfl rfl rfl (n := 1) (by decide +kernel) ⟨Nat.le_of_ble_eq_true rfl, Nat.le_of_ble_eq_true rfl⟩ (q0 := 0) (ci := 9) rfl rfl rfl rfl hl.1 rfl (Nat.le_of_ble_eq_true rfl) dX9_dykeSize_19 ⟨Nat.zero_le _, Nat.zero_le _⟩ (fun U locs G => ?_)
    have G : Gd D A s (w_M cy mAd thrown status acts taped latest leng cursor token start till fault faultAt gifts z7.1 lane many item bay fresh thn was tape left gift isKept kept z7.2) U locs := G
    refine lv_aload_n hx hb dX9_dykeSize_22 rfl (lv_at hl 1 rfl) ?_
    refine lv_bipush (v := 13) hx hb dX9_dykeSize_23 (by decide) ?_
    obtain ⟨z8, hz8, H⟩ := bd_some H
    refine MV.callVw [.int 13] [] C G (c_X9_began l D cy mAd thrown status acts taped latest leng cursor token start till fault faultAt gifts z7.1 lane many item bay fresh thn was tape left gift isKept kept z7.2 13 z8 hz8) gX9_dykeSize_X9_began rfl rfl rfl (n := 1) (by decide +kernel) ⟨Nat.le_of_ble_eq_true rfl, Nat.le_of_ble_eq_true rfl⟩ (q0 := 0) (ci := 9) rfl rfl rfl rfl hl.1 rfl (Nat.le_of_ble_eq_true rfl) dX9_dykeSize_25 ⟨Nat.zero_le _, Nat.zero_le _⟩ (fun U locs G => ?_)
    have G : Gd D A s (w_M cy mAd thrown status acts taped latest leng cursor token start till fault faultAt gifts z8.1 lane many item bay fresh thn was tape left gift isKept kept z8.2) U locs := G
    refine lv_aload_n hx hb dX9_dykeSize_28 rfl (lv_at hl 1 rfl) ?_
    refine lv_iload_n hx hb dX9_dykeSize_29 rfl (lv_at hl 2 rfl) ?_
    obtain ⟨z9, hz9, H⟩ := bd_some H
    refine MI.callVw z9.1 [.int p1] [] C G (c_X9_plainSize l D cy mAd thrown status acts taped latest leng cursor token start till fault faultAt gifts z8.1 lane many item bay fresh thn was tape left gift isKept kept z8.2 p1 z9 hz9) gX9_dykeSize_X9_plainSize rfl rfl rfl (n := 1) (by decide +kernel) ⟨Nat.le_of_ble_eq_true rfl, Nat.le_of_ble_eq_true rfl⟩ (q0 := 0) (ci := 9) rfl rfl rfl rfl hl.1 rfl (Nat.le_of_ble_eq_true rfl) dX9_dykeSize_30 ⟨Nat.zero_le _, Nat.zero_le _⟩ (fun U locs G => ?_)
    have G : Gd D A s (w_M cy mAd thrown status acts taped latest leng cursor token start till fault faultAt gifts z9.2.1 lane many item bay fresh thn was tape left gift isKept kept z9.2.2) U locs := G
    refine lv_bipush (v := 100) hx hb dX9_dykeSize_33 (by decide) ?_
    refine lv_isub hx hb dX9_dykeSize_35 ?_
    refine lv_istore_n (lv' := [(3, .int (z9.1 - 100)), (2, .int (bay (ix z1))), (0, .ref (mAd 0)), (1, .int p1)]) hx hb dX9_dykeSize_36 rfl hl (by decide) rfl (fun ls hl => ?_)
    refine lv_iload_n hx hb dX9_dykeSize_37 rfl (lv_at hl 1 rfl) ?_
    refine lv_iconst (v := 5) hx hb dX9_dykeSize_38 (by decide) ?_
    refine lv_icmp_ne (tgt := 48) hx hb dX9_dykeSize_39 (by decide) (fun c10 => ?_) (fun c10 => ?_)
    · have H := if_f H c10
      refine lv_iload_n hx hb dX9_dykeSize_48 rfl (lv_at hl 0 rfl) ?_
      obtain rfl := Option.some.inj H
      exact ret_i C G rfl dX9_dykeSize_49
    · have H := if_t H c10
      refine lv_iconst (v := 2) hx hb dX9_dykeSize_42 (by decide) ?_
      refine lv_iload_n hx hb dX9_dykeSize_43 rfl (lv_at hl 0 rfl) ?_
      refine lv_imul hx hb dX9_dykeSize_44 ?_
      refine lv_goto (tgt := 49) hx hb dX9_dykeSize_45 (by decide) ?_
      obtain rfl := Option.some.inj H
      exact ret_i C G rfl dX9_dykeSize_49
def f_X9_markOf (traced : Int32) (bay trace : Nat → Int32) (p1 : Int32) : Option (Int32 × Int32 × (Nat → Int32)) := bd (f_X9_at p1 0) (fun z1 => gd (inb z1 75) (if (bay (ix z1)) < 4 then (if (bay (ix z1)) = 1 then (bd (f_X9_began traced trace 21) (fun z5 => bd (f_X9_began z5.1 z5.2 20) (fun z6 => bd (f_X9_at p1 3) (fun z7 => gd (inb z7 75) (if (bay (ix z1)) = 1 then (some (p1 + (bay (ix z7)), z6.1, z6.2)) else (if (bay (ix z1)) = 3 then (some ((p1 + (bay (ix z7))) - 1000, z6.1, z6.2)) else (some (2 * (p1 + (bay (ix z7))), z6.1, z6.2)))))))) else (if (bay (ix z1)) = 3 then (bd (f_X9_began traced trace 22) (fun z19 => bd (f_X9_began z19.1 z19.2 21) (fun z20 => bd (f_X9_began z20.1 z20.2 20) (fun z21 => bd (f_X9_at p1 3) (fun z22 => gd (inb z22 75) (if (bay (ix z1)) = 1 then (some (p1 + (bay (ix z22)), z21.1, z21.2)) else (if (bay (ix z1)) = 3 then (some ((p1 + (bay (ix z22))) - 1000, z21.1, z21.2)) else (some (2 * (p1 + (bay (ix z22))), z21.1, z21.2))))))))) else (bd (f_X9_began traced trace 24) (fun z12 => bd (f_X9_began z12.1 z12.2 21) (fun z13 => bd (f_X9_began z13.1 z13.2 20) (fun z14 => bd (f_X9_at p1 3) (fun z15 => gd (inb z15 75) (if (bay (ix z1)) = 1 then (some (p1 + (bay (ix z15)), z14.1, z14.2)) else (if (bay (ix z1)) = 3 then (some ((p1 + (bay (ix z15))) - 1000, z14.1, z14.2)) else (some (2 * (p1 + (bay (ix z15))), z14.1, z14.2))))))))))) else (bd (f_X9_began traced trace 23) (fun z26 => bd (f_X9_began z26.1 z26.2 20) (fun z27 => bd (f_X9_dykeSize z27.1 bay z27.2 p1) (fun z28 => some (p1 - z28.1, z28.2.1, z28.2.2)))))))
set_option maxHeartbeats 4000000 in
set_option maxRecDepth 100000 in
theorem c_X9_markOf (l : Launch) (D : va_G) (cy : Nat → ClassId) (mAd : Nat → Nat) (thrown status acts taped latest leng cursor token start till fault faultAt gifts traced : Int32) (lane many item bay fresh thn was tape left gift isKept kept trace : Nat → Int32) (p1 : Int32) (z : (Int32 × Int32 × (Nat → Int32))) (hz : f_X9_markOf traced bay trace p1 = some z) : MI l yX9_markOf wsX9_markOf ({ frames := 3, cells := 0, slots := 0, locals := 65 } : Room) D cy [.ref (mAd 0), .int p1] (w_M cy mAd thrown status acts taped latest leng cursor token start till fault faultAt gifts traced lane many item bay fresh thn was tape left gift isKept kept trace) z.1 (w_M cy mAd thrown status acts taped latest leng cursor token start till fault faultAt gifts z.2.1 lane many item bay fresh thn was tape left gift isKept kept z.2.2) := by
  refine met_start (Qf := fun A => MQi D cy z.1 (w_M cy mAd thrown status acts taped latest leng cursor token start till fault faultAt gifts z.2.1 lane many item bay fresh thn was tape left gift isKept kept z.2.2) A) (cc := cX9_markOf) (nL := 4) (ret := (some .int)) RX9 rfl (by decide) rfl (Nat.le_of_ble_eq_true rfl) ?_
  intro p e s m below meth c A ls C G hl
  have hl : lv_has ls 4 [(0, .ref (mAd 0)), (1, .int p1)] := hl
  have H := hz
  unfold f_X9_markOf at H
  obtain ⟨hx, hb, hr, hml, hown, hts, hlk, hK, hA, hE⟩ := id C
  have lk0 := hts (Cond.fieldLink RX9 19 "TideDebtsModel" "bay" "[I") (List.mem_of_getElem? (i := 1) rfl)
  have hiX9 : ∀ w ∈ u_ws RX9 TX9 27, w ∈ wsX9_markOf := fun _ h => List.mem_cons_of_mem _ (List.mem_append_right _ h)
  refine lv_aload_n hx hb dX9_markOf_0 rfl (lv_at hl 0 rfl) ?_
  refine va_get (D := D) (ci := 9) (v := .ref (mAd 4)) (C := RX9) (T := TX9) (N := 27) hx hb hts hiX9 hown hK G.1 0 rfl rfl 5 (by decide) lk0 (fun _ h9 => h9) rfl dX9_markOf_1 ?_
  refine lv_iload_n hx hb dX9_markOf_4 rfl (lv_at hl 1 rfl) ?_
  refine lv_iconst (v := 0) hx hb dX9_markOf_5 (by decide) ?_
  obtain ⟨z1, hz1, H⟩ := bd_some H
  refine MI.callS z1 [.int p1, .int 0] [.ref (mAd 4)] [] C G (c_X9_at l D cy p1 0 z1 hz1) gX9_markOf_X9_at rfl rfl rfl (n := 2) (by decide +kernel) ⟨Nat.le_of_ble_eq_true rfl, Nat.le_of_ble_eq_true rfl⟩ rfl rfl rfl rfl hl.1 rfl (Nat.le_of_ble_eq_true rfl) dX9_markOf_6 ⟨Nat.zero_le _, Nat.zero_le _⟩ (fun U locs G => ?_)
  have G : Gd D A s (w_M cy mAd thrown status acts taped latest leng cursor token start till fault faultAt gifts traced lane many item bay fresh thn was tape left gift isKept kept trace) U locs := G
  obtain ⟨hb2, H⟩ := gd_some H
  refine g_iald (v := bay (ix z1)) hx hb hK G.1 4 1 rfl rfl hb2 rfl dX9_markOf_9 ?_
  refine lv_istore_n (lv' := [(2, .int (bay (ix z1))), (0, .ref (mAd 0)), (1, .int p1)]) hx hb dX9_markOf_10 rfl hl (by decide) rfl (fun ls hl => ?_)
  refine lv_iload_n hx hb dX9_markOf_11 rfl (lv_at hl 0 rfl) ?_
  refine lv_iconst (v := 4) hx hb dX9_markOf_12 (by decide) ?_
  refine lv_icmp_lt (tgt := 36) hx hb dX9_markOf_13 (by decide) (fun c3 => ?_) (fun c3 => ?_)
  · have H := if_t H c3
    refine lv_iload_n hx hb dX9_markOf_36 rfl (lv_at hl 0 rfl) ?_
    refine lv_iconst (v := 1) hx hb dX9_markOf_37 (by decide) ?_
    refine lv_icmp_eq (tgt := 57) hx hb dX9_markOf_38 (by decide) (fun c4 => ?_) (fun c4 => ?_)
    · have H := if_t H c4
      refine lv_aload_n hx hb dX9_markOf_57 rfl (lv_at hl 1 rfl) ?_
      refine lv_bipush (v := 21) hx hb dX9_markOf_58 (by decide) ?_
      obtain ⟨z5, hz5, H⟩ := bd_some H
      refine MV.callVw [.int 21] [] C G (c_X9_began l D cy mAd thrown status acts taped latest leng cursor token start till fault faultAt gifts traced lane many item bay fresh thn was tape left gift isKept kept trace 21 z5 hz5) gX9_markOf_X9_began rfl rfl rfl (n := 1) (by decide +kernel) ⟨Nat.le_of_ble_eq_true rfl, Nat.le_of_ble_eq_true rfl⟩ (q0 := 0) (ci := 9) rfl rfl rfl rfl hl.1 rfl (Nat.le_of_ble_eq_true rfl) dX9_markOf_60 ⟨Nat.zero_le _, Nat.zero_le _⟩ (fun U locs G => ?_)
      have G : Gd D A s (w_M cy mAd thrown status acts taped latest leng cursor token start till fault faultAt gifts z5.1 lane many item bay fresh thn was tape left gift isKept kept z5.2) U locs := G
      refine lv_aload_n hx hb dX9_markOf_63 rfl (lv_at hl 1 rfl) ?_
      refine lv_bipush (v := 20) hx hb dX9_markOf_64 (by decide) ?_
      obtain ⟨z6, hz6, H⟩ := bd_some H
      refine MV.callVw [.int 20] [] C G (c_X9_began l D cy mAd thrown status acts taped latest leng cursor token start till fault faultAt gifts z5.1 lane many item bay fresh thn was tape left gift isKept kept z5.2 20 z6 hz6) gX9_markOf_X9_began rfl rfl rfl (n := 1) (by decide +kernel) ⟨Nat.le_of_ble_eq_true rfl, Nat.le_of_ble_eq_true rfl⟩ (q0 := 0) (ci := 9) rfl rfl rfl rfl hl.1 rfl (Nat.le_of_ble_eq_true rfl) dX9_markOf_66 ⟨Nat.zero_le _, Nat.zero_le _⟩ (fun U locs G => ?_)
      have G : Gd D A s (w_M cy mAd thrown status acts taped latest leng cursor token start till fault faultAt gifts z6.1 lane many item bay fresh thn was tape left gift isKept kept z6.2) U locs := G
      refine lv_iload_n hx hb dX9_markOf_69 rfl (lv_at hl 2 rfl) ?_
      refine lv_aload_n hx hb dX9_markOf_70 rfl (lv_at hl 1 rfl) ?_
      refine va_get (D := D) (ci := 9) (v := .ref (mAd 4)) (C := RX9) (T := TX9) (N := 27) hx hb hts hiX9 hown hK G.1 0 rfl rfl 5 (by decide) lk0 (fun _ h9 => h9) rfl dX9_markOf_71 ?_
      refine lv_iload_n hx hb dX9_markOf_74 rfl (lv_at hl 2 rfl) ?_
      refine lv_iconst (v := 3) hx hb dX9_markOf_75 (by decide) ?_
      obtain ⟨z7, hz7, H⟩ := bd_some H
      refine MI.callS z7 [.int p1, .int 3] [.ref (mAd 4), .int p1] [] C G (c_X9_at l D cy p1 3 z7 hz7) gX9_markOf_X9_at rfl rfl rfl (n := 2) (by decide +kernel) ⟨Nat.le_of_ble_eq_true rfl, Nat.le_of_ble_eq_true rfl⟩ rfl rfl rfl rfl hl.1 rfl (Nat.le_of_ble_eq_true rfl) dX9_markOf_76 ⟨Nat.zero_le _, Nat.zero_le _⟩ (fun U locs G => ?_)
      have G : Gd D A s (w_M cy mAd thrown status acts taped latest leng cursor token start till fault faultAt gifts z6.1 lane many item bay fresh thn was tape left gift isKept kept z6.2) U locs := G
      obtain ⟨hb8, H⟩ := gd_some H
      refine g_iald (v := bay (ix z7)) hx hb hK G.1 4 1 rfl rfl hb8 rfl dX9_markOf_79 ?_
      refine lv_iadd hx hb dX9_markOf_80 ?_
      refine lv_istore_n (lv' := [(3, .int (p1 + (bay (ix z7)))), (2, .int (bay (ix z1))), (0, .ref (mAd 0)), (1, .int p1)]) hx hb dX9_markOf_81 rfl hl (by decide) rfl (fun ls hl => ?_)
      refine lv_iload_n hx hb dX9_markOf_82 rfl (lv_at hl 1 rfl) ?_
      refine lv_iconst (v := 1) hx hb dX9_markOf_83 (by decide) ?_
      refine lv_icmp_ne (tgt := 91) hx hb dX9_markOf_84 (by decide) (fun c9 => ?_) (fun c9 => ?_)
      · have H := if_f H c9
        refine lv_iload_n hx hb dX9_markOf_91 rfl (lv_at hl 1 rfl) ?_
        refine lv_iconst (v := 3) hx hb dX9_markOf_92 (by decide) ?_
        refine lv_icmp_ne (tgt := 104) hx hb dX9_markOf_93 (by decide) (fun c10 => ?_) (fun c10 => ?_)
        · have H := if_f H c10
          refine lv_iconst (v := 2) hx hb dX9_markOf_104 (by decide) ?_
          refine lv_iload_n hx hb dX9_markOf_105 rfl (lv_at hl 0 rfl) ?_
          refine lv_imul hx hb dX9_markOf_106 ?_
          obtain rfl := Option.some.inj H
          exact ret_i C G rfl dX9_markOf_107
        · have H := if_t H c10
          refine lv_iload_n hx hb dX9_markOf_96 rfl (lv_at hl 0 rfl) ?_
          refine lv_sipush (v := 1000) hx hb dX9_markOf_97 (by decide) ?_
          refine lv_isub hx hb dX9_markOf_100 ?_
          refine lv_goto (tgt := 107) hx hb dX9_markOf_101 (by decide) ?_
          obtain rfl := Option.some.inj H
          exact ret_i C G rfl dX9_markOf_107
      · have H := if_t H c9
        refine lv_iload_n hx hb dX9_markOf_87 rfl (lv_at hl 0 rfl) ?_
        refine lv_goto (tgt := 107) hx hb dX9_markOf_88 (by decide) ?_
        obtain rfl := Option.some.inj H
        exact ret_i C G rfl dX9_markOf_107
    · have H := if_f H c4
      refine lv_aload_n hx hb dX9_markOf_41 rfl (lv_at hl 1 rfl) ?_
      refine lv_iload_n hx hb dX9_markOf_42 rfl (lv_at hl 0 rfl) ?_
      refine lv_iconst (v := 3) hx hb dX9_markOf_43 (by decide) ?_
      refine lv_icmp_ne (tgt := 52) hx hb dX9_markOf_44 (by decide) (fun c11 => ?_) (fun c11 => ?_)
      · have H := if_f H c11
        refine lv_bipush (v := 24) hx hb dX9_markOf_52 (by decide) ?_
        obtain ⟨z12, hz12, H⟩ := bd_some H
        refine MV.callVw [.int 24] [] C G (c_X9_began l D cy mAd thrown status acts taped latest leng cursor token start till fault faultAt gifts traced lane many item bay fresh thn was tape left gift isKept kept trace 24 z12 hz12) gX9_markOf_X9_began rfl rfl rfl (n := 1) (by decide +kernel) ⟨Nat.le_of_ble_eq_true rfl, Nat.le_of_ble_eq_true rfl⟩ (q0 := 0) (ci := 9) rfl rfl rfl rfl hl.1 rfl (Nat.le_of_ble_eq_true rfl) dX9_markOf_54 ⟨Nat.zero_le _, Nat.zero_le _⟩ (fun U locs G => ?_)
        have G : Gd D A s (w_M cy mAd thrown status acts taped latest leng cursor token start till fault faultAt gifts z12.1 lane many item bay fresh thn was tape left gift isKept kept z12.2) U locs := G
        refine lv_aload_n hx hb dX9_markOf_57 rfl (lv_at hl 1 rfl) ?_
        refine lv_bipush (v := 21) hx hb dX9_markOf_58 (by decide) ?_
        obtain ⟨z13, hz13, H⟩ := bd_some H
        refine MV.callVw [.int 21] [] C G (c_X9_began l D cy mAd thrown status acts taped latest leng cursor token start till fault faultAt gifts z12.1 lane many item bay fresh thn was tape left gift isKept kept z12.2 21 z13 hz13) gX9_markOf_X9_began rfl rfl rfl (n := 1) (by decide +kernel) ⟨Nat.le_of_ble_eq_true rfl, Nat.le_of_ble_eq_true rfl⟩ (q0 := 0) (ci := 9) rfl rfl rfl rfl hl.1 rfl (Nat.le_of_ble_eq_true rfl) dX9_markOf_60 ⟨Nat.zero_le _, Nat.zero_le _⟩ (fun U locs G => ?_)
        have G : Gd D A s (w_M cy mAd thrown status acts taped latest leng cursor token start till fault faultAt gifts z13.1 lane many item bay fresh thn was tape left gift isKept kept z13.2) U locs := G
        refine lv_aload_n hx hb dX9_markOf_63 rfl (lv_at hl 1 rfl) ?_
        refine lv_bipush (v := 20) hx hb dX9_markOf_64 (by decide) ?_
        obtain ⟨z14, hz14, H⟩ := bd_some H
        refine MV.callVw [.int 20] [] C G (c_X9_began l D cy mAd thrown status acts taped latest leng cursor token start till fault faultAt gifts z13.1 lane many item bay fresh thn was tape left gift isKept kept z13.2 20 z14 hz14) gX9_markOf_X9_began rfl rfl rfl (n := 1) (by decide +kernel) ⟨Nat.le_of_ble_eq_true rfl, Nat.le_of_ble_eq_true rfl⟩ (q0 := 0) (ci := 9) rfl rfl rfl rfl hl.1 rfl (Nat.le_of_ble_eq_true rfl) dX9_markOf_66 ⟨Nat.zero_le _, Nat.zero_le _⟩ (fun U locs G => ?_)
        have G : Gd D A s (w_M cy mAd thrown status acts taped latest leng cursor token start till fault faultAt gifts z14.1 lane many item bay fresh thn was tape left gift isKept kept z14.2) U locs := G
        refine lv_iload_n hx hb dX9_markOf_69 rfl (lv_at hl 2 rfl) ?_
        refine lv_aload_n hx hb dX9_markOf_70 rfl (lv_at hl 1 rfl) ?_
        refine va_get (D := D) (ci := 9) (v := .ref (mAd 4)) (C := RX9) (T := TX9) (N := 27) hx hb hts hiX9 hown hK G.1 0 rfl rfl 5 (by decide) lk0 (fun _ h9 => h9) rfl dX9_markOf_71 ?_
        refine lv_iload_n hx hb dX9_markOf_74 rfl (lv_at hl 2 rfl) ?_
        refine lv_iconst (v := 3) hx hb dX9_markOf_75 (by decide) ?_
        obtain ⟨z15, hz15, H⟩ := bd_some H
        refine MI.callS z15 [.int p1, .int 3] [.ref (mAd 4), .int p1] [] C G (c_X9_at l D cy p1 3 z15 hz15) gX9_markOf_X9_at rfl rfl rfl (n := 2) (by decide +kernel) ⟨Nat.le_of_ble_eq_true rfl, Nat.le_of_ble_eq_true rfl⟩ rfl rfl rfl rfl hl.1 rfl (Nat.le_of_ble_eq_true rfl) dX9_markOf_76 ⟨Nat.zero_le _, Nat.zero_le _⟩ (fun U locs G => ?_)
        have G : Gd D A s (w_M cy mAd thrown status acts taped latest leng cursor token start till fault faultAt gifts z14.1 lane many item bay fresh thn was tape left gift isKept kept z14.2) U locs := G
        obtain ⟨hb16, H⟩ := gd_some H
        refine g_iald (v := bay (ix z15)) hx hb hK G.1 4 1 rfl rfl hb16 rfl dX9_markOf_79 ?_
        refine lv_iadd hx hb dX9_markOf_80 ?_
        refine lv_istore_n (lv' := [(3, .int (p1 + (bay (ix z15)))), (2, .int (bay (ix z1))), (0, .ref (mAd 0)), (1, .int p1)]) hx hb dX9_markOf_81 rfl hl (by decide) rfl (fun ls hl => ?_)
        refine lv_iload_n hx hb dX9_markOf_82 rfl (lv_at hl 1 rfl) ?_
        refine lv_iconst (v := 1) hx hb dX9_markOf_83 (by decide) ?_
        refine lv_icmp_ne (tgt := 91) hx hb dX9_markOf_84 (by decide) (fun c17 => ?_) (fun c17 => ?_)
        · have H := if_f H c17
          refine lv_iload_n hx hb dX9_markOf_91 rfl (lv_at hl 1 rfl) ?_
          refine lv_iconst (v := 3) hx hb dX9_markOf_92 (by decide) ?_
          refine lv_icmp_ne (tgt := 104) hx hb dX9_markOf_93 (by decide) (fun c18 => ?_) (fun c18 => ?_)
          · have H := if_f H c18
            refine lv_iconst (v := 2) hx hb dX9_markOf_104 (by decide) ?_
            refine lv_iload_n hx hb dX9_markOf_105 rfl (lv_at hl 0 rfl) ?_
            refine lv_imul hx hb dX9_markOf_106 ?_
            obtain rfl := Option.some.inj H
            exact ret_i C G rfl dX9_markOf_107
          · have H := if_t H c18
            refine lv_iload_n hx hb dX9_markOf_96 rfl (lv_at hl 0 rfl) ?_
            refine lv_sipush (v := 1000) hx hb dX9_markOf_97 (by decide) ?_
            refine lv_isub hx hb dX9_markOf_100 ?_
            refine lv_goto (tgt := 107) hx hb dX9_markOf_101 (by decide) ?_
            obtain rfl := Option.some.inj H
            exact ret_i C G rfl dX9_markOf_107
        · have H := if_t H c17
          refine lv_iload_n hx hb dX9_markOf_87 rfl (lv_at hl 0 rfl) ?_
          refine lv_goto (tgt := 107) hx hb dX9_markOf_88 (by decide) ?_
          obtain rfl := Option.some.inj H
          exact ret_i C G rfl dX9_markOf_107
      · have H := if_t H c11
        refine lv_bipush (v := 22) hx hb dX9_markOf_47 (by decide) ?_
        refine lv_goto (tgt := 54) hx hb dX9_markOf_49 (by decide) ?_
        obtain ⟨z19, hz19, H⟩ := bd_some H
        refine MV.callVw [.int 22] [] C G (c_X9_began l D cy mAd thrown status acts taped latest leng cursor token start till fault faultAt gifts traced lane many item bay fresh thn was tape left gift isKept kept trace 22 z19 hz19) gX9_markOf_X9_began rfl rfl rfl (n := 1) (by decide +kernel) ⟨Nat.le_of_ble_eq_true rfl, Nat.le_of_ble_eq_true rfl⟩ (q0 := 0) (ci := 9) rfl rfl rfl rfl hl.1 rfl (Nat.le_of_ble_eq_true rfl) dX9_markOf_54 ⟨Nat.zero_le _, Nat.zero_le _⟩ (fun U locs G => ?_)
        have G : Gd D A s (w_M cy mAd thrown status acts taped latest leng cursor token start till fault faultAt gifts z19.1 lane many item bay fresh thn was tape left gift isKept kept z19.2) U locs := G
        refine lv_aload_n hx hb dX9_markOf_57 rfl (lv_at hl 1 rfl) ?_
        refine lv_bipush (v := 21) hx hb dX9_markOf_58 (by decide) ?_
        obtain ⟨z20, hz20, H⟩ := bd_some H
        refine MV.callVw [.int 21] [] C G (c_X9_began l D cy mAd thrown status acts taped latest leng cursor token start till fault faultAt gifts z19.1 lane many item bay fresh thn was tape left gift isKept kept z19.2 21 z20 hz20) gX9_markOf_X9_began rfl rfl rfl (n := 1) (by decide +kernel) ⟨Nat.le_of_ble_eq_true rfl, Nat.le_of_ble_eq_true rfl⟩ (q0 := 0) (ci := 9) rfl rfl rfl rfl hl.1 rfl (Nat.le_of_ble_eq_true rfl) dX9_markOf_60 ⟨Nat.zero_le _, Nat.zero_le _⟩ (fun U locs G => ?_)
        have G : Gd D A s (w_M cy mAd thrown status acts taped latest leng cursor token start till fault faultAt gifts z20.1 lane many item bay fresh thn was tape left gift isKept kept z20.2) U locs := G
        refine lv_aload_n hx hb dX9_markOf_63 rfl (lv_at hl 1 rfl) ?_
        refine lv_bipush (v := 20) hx hb dX9_markOf_64 (by decide) ?_
        obtain ⟨z21, hz21, H⟩ := bd_some H
        refine MV.callVw [.int 20] [] C G (c_X9_began l D cy mAd thrown status acts taped latest leng cursor token start till fault faultAt gifts z20.1 lane many item bay fresh thn was tape left gift isKept kept z20.2 20 z21 hz21) gX9_markOf_X9_began rfl rfl rfl (n := 1) (by decide +kernel) ⟨Nat.le_of_ble_eq_true rfl, Nat.le_of_ble_eq_true rfl⟩ (q0 := 0) (ci := 9) rfl rfl rfl rfl hl.1 rfl (Nat.le_of_ble_eq_true rfl) dX9_markOf_66 ⟨Nat.zero_le _, Nat.zero_le _⟩ (fun U locs G => ?_)
        have G : Gd D A s (w_M cy mAd thrown status acts taped latest leng cursor token start till fault faultAt gifts z21.1 lane many item bay fresh thn was tape left gift isKept kept z21.2) U locs := G
        refine lv_iload_n hx hb dX9_markOf_69 rfl (lv_at hl 2 rfl) ?_
        refine lv_aload_n hx hb dX9_markOf_70 rfl (lv_at hl 1 rfl) ?_
        refine va_get (D := D) (ci := 9) (v := .ref (mAd 4)) (C := RX9) (T := TX9) (N := 27) hx hb hts hiX9 hown hK G.1 0 rfl rfl 5 (by decide) lk0 (fun _ h9 => h9) rfl dX9_markOf_71 ?_
        refine lv_iload_n hx hb dX9_markOf_74 rfl (lv_at hl 2 rfl) ?_
        refine lv_iconst (v := 3) hx hb dX9_markOf_75 (by decide) ?_
        obtain ⟨z22, hz22, H⟩ := bd_some H
        refine MI.callS z22 [.int p1, .int 3] [.ref (mAd 4), .int p1] [] C G (c_X9_at l D cy p1 3 z22 hz22) gX9_markOf_X9_at rfl rfl rfl (n := 2) (by decide +kernel) ⟨Nat.le_of_ble_eq_true rfl, Nat.le_of_ble_eq_true rfl⟩ rfl rfl rfl rfl hl.1 rfl (Nat.le_of_ble_eq_true rfl) dX9_markOf_76 ⟨Nat.zero_le _, Nat.zero_le _⟩ (fun U locs G => ?_)
        have G : Gd D A s (w_M cy mAd thrown status acts taped latest leng cursor token start till fault faultAt gifts z21.1 lane many item bay fresh thn was tape left gift isKept kept z21.2) U locs := G
        obtain ⟨hb23, H⟩ := gd_some H
        refine g_iald (v := bay (ix z22)) hx hb hK G.1 4 1 rfl rfl hb23 rfl dX9_markOf_79 ?_
        refine lv_iadd hx hb dX9_markOf_80 ?_
        refine lv_istore_n (lv' := [(3, .int (p1 + (bay (ix z22)))), (2, .int (bay (ix z1))), (0, .ref (mAd 0)), (1, .int p1)]) hx hb dX9_markOf_81 rfl hl (by decide) rfl (fun ls hl => ?_)
        refine lv_iload_n hx hb dX9_markOf_82 rfl (lv_at hl 1 rfl) ?_
        refine lv_iconst (v := 1) hx hb dX9_markOf_83 (by decide) ?_
        refine lv_icmp_ne (tgt := 91) hx hb dX9_markOf_84 (by decide) (fun c24 => ?_) (fun c24 => ?_)
        · have H := if_f H c24
          refine lv_iload_n hx hb dX9_markOf_91 rfl (lv_at hl 1 rfl) ?_
          refine lv_iconst (v := 3) hx hb dX9_markOf_92 (by decide) ?_
          refine lv_icmp_ne (tgt := 104) hx hb dX9_markOf_93 (by decide) (fun c25 => ?_) (fun c25 => ?_)
          · have H := if_f H c25
            refine lv_iconst (v := 2) hx hb dX9_markOf_104 (by decide) ?_
            refine lv_iload_n hx hb dX9_markOf_105 rfl (lv_at hl 0 rfl) ?_
            refine lv_imul hx hb dX9_markOf_106 ?_
            obtain rfl := Option.some.inj H
            exact ret_i C G rfl dX9_markOf_107
          · have H := if_t H c25
            refine lv_iload_n hx hb dX9_markOf_96 rfl (lv_at hl 0 rfl) ?_
            refine lv_sipush (v := 1000) hx hb dX9_markOf_97 (by decide) ?_
            refine lv_isub hx hb dX9_markOf_100 ?_
            refine lv_goto (tgt := 107) hx hb dX9_markOf_101 (by decide) ?_
            obtain rfl := Option.some.inj H
            exact ret_i C G rfl dX9_markOf_107
        · have H := if_t H c24
          refine lv_iload_n hx hb dX9_markOf_87 rfl (lv_at hl 0 rfl) ?_
          refine lv_goto (tgt := 107) hx hb dX9_markOf_88 (by decide) ?_
          obtain rfl := Option.some.inj H
          exact ret_i C G rfl dX9_markOf_107
  · have H := if_f H c3
    refine lv_aload_n hx hb dX9_markOf_16 rfl (lv_at hl 1 rfl) ?_
    refine lv_bipush (v := 23) hx hb dX9_markOf_17 (by decide) ?_
    obtain ⟨z26, hz26, H⟩ := bd_some H
    refine MV.callVw [.int 23] [] C G (c_X9_began l D cy mAd thrown status acts taped latest leng cursor token start till fault faultAt gifts traced lane many item bay fresh thn was tape left gift isKept kept trace 23 z26 hz26) gX9_markOf_X9_began rfl rfl rfl (n := 1) (by decide +kernel) ⟨Nat.le_of_ble_eq_true rfl, Nat.le_of_ble_eq_true rfl⟩ (q0 := 0) (ci := 9) rfl rfl rfl rfl hl.1 rfl (Nat.le_of_ble_eq_true rfl) dX9_markOf_19 ⟨Nat.zero_le _, Nat.zero_le _⟩ (fun U locs G => ?_)
    have G : Gd D A s (w_M cy mAd thrown status acts taped latest leng cursor token start till fault faultAt gifts z26.1 lane many item bay fresh thn was tape left gift isKept kept z26.2) U locs := G
    refine lv_aload_n hx hb dX9_markOf_22 rfl (lv_at hl 1 rfl) ?_
    refine lv_bipush (v := 20) hx hb dX9_markOf_23 (by decide) ?_
    obtain ⟨z27, hz27, H⟩ := bd_some H
    refine MV.callVw [.int 20] [] C G (c_X9_began l D cy mAd thrown status acts taped latest leng cursor token start till fault faultAt gifts z26.1 lane many item bay fresh thn was tape left gift isKept kept z26.2 20 z27 hz27) gX9_markOf_X9_began rfl rfl rfl (n := 1) (by decide +kernel) ⟨Nat.le_of_ble_eq_true rfl, Nat.le_of_ble_eq_true rfl⟩ (q0 := 0) (ci := 9) rfl rfl rfl rfl hl.1 rfl (Nat.le_of_ble_eq_true rfl) dX9_markOf_25 ⟨Nat.zero_le _, Nat.zero_le _⟩ (fun U locs G => ?_)
    have G : Gd D A s (w_M cy mAd thrown status acts taped latest leng cursor token start till fault faultAt gifts z27.1 lane many item bay fresh thn was tape left gift isKept kept z27.2) U locs := G
    refine lv_iload_n hx hb dX9_markOf_28 rfl (lv_at hl 2 rfl) ?_
    refine lv_aload_n hx hb dX9_markOf_29 rfl (lv_at hl 1 rfl) ?_
    refine lv_iload_n hx hb dX9_markOf_30 rfl (lv_at hl 2 rfl) ?_
    obtain ⟨z28, hz28, H⟩ := bd_some H
    refine MI.callVw z28.1 [.int p1] [.int p1] C G (c_X9_dykeSize l D cy mAd thrown status acts taped latest leng cursor token start till fault faultAt gifts z27.1 lane many item bay fresh thn was tape left gift isKept kept z27.2 p1 z28 hz28) gX9_markOf_X9_dykeSize rfl rfl rfl (n := 1) (by decide +kernel) ⟨Nat.le_of_ble_eq_true rfl, Nat.le_of_ble_eq_true rfl⟩ (q0 := 0) (ci := 9) rfl rfl rfl rfl hl.1 rfl (Nat.le_of_ble_eq_true rfl) dX9_markOf_31 ⟨Nat.zero_le _, Nat.zero_le _⟩ (fun U locs G => ?_)
    have G : Gd D A s (w_M cy mAd thrown status acts taped latest leng cursor token start till fault faultAt gifts z28.2.1 lane many item bay fresh thn was tape left gift isKept kept z28.2.2) U locs := G
    refine lv_isub hx hb dX9_markOf_34 ?_
    obtain rfl := Option.some.inj H
    exact ret_i C G rfl dX9_markOf_35
def f_X9_sizeOf (traced : Int32) (bay trace : Nat → Int32) (p1 : Int32) : Option (Int32 × Int32 × (Nat → Int32)) := bd (f_X9_at p1 0) (fun z1 => gd (inb z1 75) (if (bay (ix z1)) < 4 then (if (bay (ix z1)) = 2 then (bd (f_X9_began traced trace 12) (fun z9 => bd (f_X9_began z9.1 z9.2 11) (fun z10 => bd (f_X9_plainSize z10.1 bay z10.2 p1) (fun z11 => bd (f_X9_markOf z11.2.1 bay z11.2.2 p1) (fun z12 => if (bay (ix z1)) = 2 then (some (-(z11.1 + z12.1), z12.2.1, z12.2.2)) else (some (z11.1 + z12.1, z12.2.1, z12.2.2))))))) else (bd (f_X9_began traced trace 11) (fun z5 => bd (f_X9_plainSize z5.1 bay z5.2 p1) (fun z6 => bd (f_X9_markOf z6.2.1 bay z6.2.2 p1) (fun z7 => if (bay (ix z1)) = 2 then (some (-(z6.1 + z7.1), z7.2.1, z7.2.2)) else (some (z6.1 + z7.1, z7.2.1, z7.2.2))))))) else (bd (f_X9_dykeSize traced bay trace p1) (fun z14 => some (z14.1, z14.2.1, z14.2.2)))))
set_option maxHeartbeats 4000000 in
set_option maxRecDepth 100000 in
theorem c_X9_sizeOf (l : Launch) (D : va_G) (cy : Nat → ClassId) (mAd : Nat → Nat) (thrown status acts taped latest leng cursor token start till fault faultAt gifts traced : Int32) (lane many item bay fresh thn was tape left gift isKept kept trace : Nat → Int32) (p1 : Int32) (z : (Int32 × Int32 × (Nat → Int32))) (hz : f_X9_sizeOf traced bay trace p1 = some z) : MI l yX9_sizeOf wsX9_sizeOf ({ frames := 4, cells := 0, slots := 0, locals := 88 } : Room) D cy [.ref (mAd 0), .int p1] (w_M cy mAd thrown status acts taped latest leng cursor token start till fault faultAt gifts traced lane many item bay fresh thn was tape left gift isKept kept trace) z.1 (w_M cy mAd thrown status acts taped latest leng cursor token start till fault faultAt gifts z.2.1 lane many item bay fresh thn was tape left gift isKept kept z.2.2) := by
  refine met_start (Qf := fun A => MQi D cy z.1 (w_M cy mAd thrown status acts taped latest leng cursor token start till fault faultAt gifts z.2.1 lane many item bay fresh thn was tape left gift isKept kept z.2.2) A) (cc := cX9_sizeOf) (nL := 4) (ret := (some .int)) RX9 rfl (by decide) rfl (Nat.le_of_ble_eq_true rfl) ?_
  intro p e s m below meth c A ls C G hl
  have hl : lv_has ls 4 [(0, .ref (mAd 0)), (1, .int p1)] := hl
  have H := hz
  unfold f_X9_sizeOf at H
  obtain ⟨hx, hb, hr, hml, hown, hts, hlk, hK, hA, hE⟩ := id C
  have lk0 := hts (Cond.fieldLink RX9 19 "TideDebtsModel" "bay" "[I") (List.mem_of_getElem? (i := 1) rfl)
  have hiX9 : ∀ w ∈ u_ws RX9 TX9 27, w ∈ wsX9_sizeOf := fun _ h => List.mem_cons_of_mem _ (List.mem_append_right _ h)
  refine lv_aload_n hx hb dX9_sizeOf_0 rfl (lv_at hl 0 rfl) ?_
  refine va_get (D := D) (ci := 9) (v := .ref (mAd 4)) (C := RX9) (T := TX9) (N := 27) hx hb hts hiX9 hown hK G.1 0 rfl rfl 5 (by decide) lk0 (fun _ h9 => h9) rfl dX9_sizeOf_1 ?_
  refine lv_iload_n hx hb dX9_sizeOf_4 rfl (lv_at hl 1 rfl) ?_
  refine lv_iconst (v := 0) hx hb dX9_sizeOf_5 (by decide) ?_
  obtain ⟨z1, hz1, H⟩ := bd_some H
  refine MI.callS z1 [.int p1, .int 0] [.ref (mAd 4)] [] C G (c_X9_at l D cy p1 0 z1 hz1) gX9_sizeOf_X9_at rfl rfl rfl (n := 2) (by decide +kernel) ⟨Nat.le_of_ble_eq_true rfl, Nat.le_of_ble_eq_true rfl⟩ rfl rfl rfl rfl hl.1 rfl (Nat.le_of_ble_eq_true rfl) dX9_sizeOf_6 ⟨Nat.zero_le _, Nat.zero_le _⟩ (fun U locs G => ?_)
  have G : Gd D A s (w_M cy mAd thrown status acts taped latest leng cursor token start till fault faultAt gifts traced lane many item bay fresh thn was tape left gift isKept kept trace) U locs := G
  obtain ⟨hb2, H⟩ := gd_some H
  refine g_iald (v := bay (ix z1)) hx hb hK G.1 4 1 rfl rfl hb2 rfl dX9_sizeOf_9 ?_
  refine lv_istore_n (lv' := [(2, .int (bay (ix z1))), (0, .ref (mAd 0)), (1, .int p1)]) hx hb dX9_sizeOf_10 rfl hl (by decide) rfl (fun ls hl => ?_)
  refine lv_iload_n hx hb dX9_sizeOf_11 rfl (lv_at hl 0 rfl) ?_
  refine lv_iconst (v := 4) hx hb dX9_sizeOf_12 (by decide) ?_
  refine lv_icmp_lt (tgt := 22) hx hb dX9_sizeOf_13 (by decide) (fun c3 => ?_) (fun c3 => ?_)
  · have H := if_t H c3
    refine lv_iload_n hx hb dX9_sizeOf_22 rfl (lv_at hl 0 rfl) ?_
    refine lv_iconst (v := 2) hx hb dX9_sizeOf_23 (by decide) ?_
    refine lv_icmp_ne (tgt := 33) hx hb dX9_sizeOf_24 (by decide) (fun c4 => ?_) (fun c4 => ?_)
    · have H := if_f H c4
      refine lv_aload_n hx hb dX9_sizeOf_33 rfl (lv_at hl 1 rfl) ?_
      refine lv_bipush (v := 11) hx hb dX9_sizeOf_34 (by decide) ?_
      obtain ⟨z5, hz5, H⟩ := bd_some H
      refine MV.callVw [.int 11] [] C G (c_X9_began l D cy mAd thrown status acts taped latest leng cursor token start till fault faultAt gifts traced lane many item bay fresh thn was tape left gift isKept kept trace 11 z5 hz5) gX9_sizeOf_X9_began rfl rfl rfl (n := 1) (by decide +kernel) ⟨Nat.le_of_ble_eq_true rfl, Nat.le_of_ble_eq_true rfl⟩ (q0 := 0) (ci := 9) rfl rfl rfl rfl hl.1 rfl (Nat.le_of_ble_eq_true rfl) dX9_sizeOf_36 ⟨Nat.zero_le _, Nat.zero_le _⟩ (fun U locs G => ?_)
      have G : Gd D A s (w_M cy mAd thrown status acts taped latest leng cursor token start till fault faultAt gifts z5.1 lane many item bay fresh thn was tape left gift isKept kept z5.2) U locs := G
      refine lv_aload_n hx hb dX9_sizeOf_39 rfl (lv_at hl 1 rfl) ?_
      refine lv_iload_n hx hb dX9_sizeOf_40 rfl (lv_at hl 2 rfl) ?_
      obtain ⟨z6, hz6, H⟩ := bd_some H
      refine MI.callVw z6.1 [.int p1] [] C G (c_X9_plainSize l D cy mAd thrown status acts taped latest leng cursor token start till fault faultAt gifts z5.1 lane many item bay fresh thn was tape left gift isKept kept z5.2 p1 z6 hz6) gX9_sizeOf_X9_plainSize rfl rfl rfl (n := 1) (by decide +kernel) ⟨Nat.le_of_ble_eq_true rfl, Nat.le_of_ble_eq_true rfl⟩ (q0 := 0) (ci := 9) rfl rfl rfl rfl hl.1 rfl (Nat.le_of_ble_eq_true rfl) dX9_sizeOf_41 ⟨Nat.zero_le _, Nat.zero_le _⟩ (fun U locs G => ?_)
      have G : Gd D A s (w_M cy mAd thrown status acts taped latest leng cursor token start till fault faultAt gifts z6.2.1 lane many item bay fresh thn was tape left gift isKept kept z6.2.2) U locs := G
      refine lv_istore_n (lv' := [(3, .int z6.1), (2, .int (bay (ix z1))), (0, .ref (mAd 0)), (1, .int p1)]) hx hb dX9_sizeOf_44 rfl hl (by decide) rfl (fun ls hl => ?_)
      refine lv_iload_n hx hb dX9_sizeOf_45 rfl (lv_at hl 0 rfl) ?_
      refine lv_aload_n hx hb dX9_sizeOf_46 rfl (lv_at hl 2 rfl) ?_
      refine lv_iload_n hx hb dX9_sizeOf_47 rfl (lv_at hl 3 rfl) ?_
      obtain ⟨z7, hz7, H⟩ := bd_some H
      refine MI.callVw z7.1 [.int p1] [.int z6.1] C G (c_X9_markOf l D cy mAd thrown status acts taped latest leng cursor token start till fault faultAt gifts z6.2.1 lane many item bay fresh thn was tape left gift isKept kept z6.2.2 p1 z7 hz7) gX9_sizeOf_X9_markOf rfl rfl rfl (n := 1) (by decide +kernel) ⟨Nat.le_of_ble_eq_true rfl, Nat.le_of_ble_eq_true rfl⟩ (q0 := 0) (ci := 9) rfl rfl rfl rfl hl.1 rfl (Nat.le_of_ble_eq_true rfl) dX9_sizeOf_48 ⟨Nat.zero_le _, Nat.zero_le _⟩ (fun U locs G => ?_)
      have G : Gd D A s (w_M cy mAd thrown status acts taped latest leng cursor token start till fault faultAt gifts z7.2.1 lane many item bay fresh thn was tape left gift isKept kept z7.2.2) U locs := G
      refine lv_iadd hx hb dX9_sizeOf_51 ?_
      refine lv_istore_n (lv' := [(3, .int (z6.1 + z7.1)), (2, .int (bay (ix z1))), (0, .ref (mAd 0)), (1, .int p1)]) hx hb dX9_sizeOf_52 rfl hl (by decide) rfl (fun ls hl => ?_)
      refine lv_iload_n hx hb dX9_sizeOf_53 rfl (lv_at hl 1 rfl) ?_
      refine lv_iconst (v := 2) hx hb dX9_sizeOf_54 (by decide) ?_
      refine lv_icmp_ne (tgt := 63) hx hb dX9_sizeOf_55 (by decide) (fun c8 => ?_) (fun c8 => ?_)
      · have H := if_f H c8
        refine lv_iload_n hx hb dX9_sizeOf_63 rfl (lv_at hl 0 rfl) ?_
        obtain rfl := Option.some.inj H
        exact ret_i C G rfl dX9_sizeOf_64
      · have H := if_t H c8
        refine lv_iload_n hx hb dX9_sizeOf_58 rfl (lv_at hl 0 rfl) ?_
        refine lv_ineg hx hb dX9_sizeOf_59 ?_
        refine lv_goto (tgt := 64) hx hb dX9_sizeOf_60 (by decide) ?_
        obtain rfl := Option.some.inj H
        exact ret_i C G rfl dX9_sizeOf_64
    · have H := if_t H c4
      refine lv_aload_n hx hb dX9_sizeOf_27 rfl (lv_at hl 1 rfl) ?_
      refine lv_bipush (v := 12) hx hb dX9_sizeOf_28 (by decide) ?_
      obtain ⟨z9, hz9, H⟩ := bd_some H
      refine MV.callVw [.int 12] [] C G (c_X9_began l D cy mAd thrown status acts taped latest leng cursor token start till fault faultAt gifts traced lane many item bay fresh thn was tape left gift isKept kept trace 12 z9 hz9) gX9_sizeOf_X9_began rfl rfl rfl (n := 1) (by decide +kernel) ⟨Nat.le_of_ble_eq_true rfl, Nat.le_of_ble_eq_true rfl⟩ (q0 := 0) (ci := 9) rfl rfl rfl rfl hl.1 rfl (Nat.le_of_ble_eq_true rfl) dX9_sizeOf_30 ⟨Nat.zero_le _, Nat.zero_le _⟩ (fun U locs G => ?_)
      have G : Gd D A s (w_M cy mAd thrown status acts taped latest leng cursor token start till fault faultAt gifts z9.1 lane many item bay fresh thn was tape left gift isKept kept z9.2) U locs := G
      refine lv_aload_n hx hb dX9_sizeOf_33 rfl (lv_at hl 1 rfl) ?_
      refine lv_bipush (v := 11) hx hb dX9_sizeOf_34 (by decide) ?_
      obtain ⟨z10, hz10, H⟩ := bd_some H
      refine MV.callVw [.int 11] [] C G (c_X9_began l D cy mAd thrown status acts taped latest leng cursor token start till fault faultAt gifts z9.1 lane many item bay fresh thn was tape left gift isKept kept z9.2 11 z10 hz10) gX9_sizeOf_X9_began rfl rfl rfl (n := 1) (by decide +kernel) ⟨Nat.le_of_ble_eq_true rfl, Nat.le_of_ble_eq_true rfl⟩ (q0 := 0) (ci := 9) rfl rfl rfl rfl hl.1 rfl (Nat.le_of_ble_eq_true rfl) dX9_sizeOf_36 ⟨Nat.zero_le _, Nat.zero_le _⟩ (fun U locs G => ?_)
      have G : Gd D A s (w_M cy mAd thrown status acts taped latest leng cursor token start till fault faultAt gifts z10.1 lane many item bay fresh thn was tape left gift isKept kept z10.2) U locs := G
      refine lv_aload_n hx hb dX9_sizeOf_39 rfl (lv_at hl 1 rfl) ?_
      refine lv_iload_n hx hb dX9_sizeOf_40 rfl (lv_at hl 2 rfl) ?_
      obtain ⟨z11, hz11, H⟩ := bd_some H
      refine MI.callVw z11.1 [.int p1] [] C G (c_X9_plainSize l D cy mAd thrown status acts taped latest leng cursor token start till fault faultAt gifts z10.1 lane many item bay fresh thn was tape left gift isKept kept z10.2 p1 z11 hz11) gX9_sizeOf_X9_plainSize rfl rfl rfl (n := 1) (by decide +kernel) ⟨Nat.le_of_ble_eq_true rfl, Nat.le_of_ble_eq_true rfl⟩ (q0 := 0) (ci := 9) rfl rfl rfl rfl hl.1 rfl (Nat.le_of_ble_eq_true rfl) dX9_sizeOf_41 ⟨Nat.zero_le _, Nat.zero_le _⟩ (fun U locs G => ?_)
      have G : Gd D A s (w_M cy mAd thrown status acts taped latest leng cursor token start till fault faultAt gifts z11.2.1 lane many item bay fresh thn was tape left gift isKept kept z11.2.2) U locs := G
      refine lv_istore_n (lv' := [(3, .int z11.1), (2, .int (bay (ix z1))), (0, .ref (mAd 0)), (1, .int p1)]) hx hb dX9_sizeOf_44 rfl hl (by decide) rfl (fun ls hl => ?_)
      refine lv_iload_n hx hb dX9_sizeOf_45 rfl (lv_at hl 0 rfl) ?_
      refine lv_aload_n hx hb dX9_sizeOf_46 rfl (lv_at hl 2 rfl) ?_
      refine lv_iload_n hx hb dX9_sizeOf_47 rfl (lv_at hl 3 rfl) ?_
      obtain ⟨z12, hz12, H⟩ := bd_some H
      refine MI.callVw z12.1 [.int p1] [.int z11.1] C G (c_X9_markOf l D cy mAd thrown status acts taped latest leng cursor token start till fault faultAt gifts z11.2.1 lane many item bay fresh thn was tape left gift isKept kept z11.2.2 p1 z12 hz12) gX9_sizeOf_X9_markOf rfl rfl rfl (n := 1) (by decide +kernel) ⟨Nat.le_of_ble_eq_true rfl, Nat.le_of_ble_eq_true rfl⟩ (q0 := 0) (ci := 9) rfl rfl rfl rfl hl.1 rfl (Nat.le_of_ble_eq_true rfl) dX9_sizeOf_48 ⟨Nat.zero_le _, Nat.zero_le _⟩ (fun U locs G => ?_)
      have G : Gd D A s (w_M cy mAd thrown status acts taped latest leng cursor token start till fault faultAt gifts z12.2.1 lane many item bay fresh thn was tape left gift isKept kept z12.2.2) U locs := G
      refine lv_iadd hx hb dX9_sizeOf_51 ?_
      refine lv_istore_n (lv' := [(3, .int (z11.1 + z12.1)), (2, .int (bay (ix z1))), (0, .ref (mAd 0)), (1, .int p1)]) hx hb dX9_sizeOf_52 rfl hl (by decide) rfl (fun ls hl => ?_)
      refine lv_iload_n hx hb dX9_sizeOf_53 rfl (lv_at hl 1 rfl) ?_
      refine lv_iconst (v := 2) hx hb dX9_sizeOf_54 (by decide) ?_
      refine lv_icmp_ne (tgt := 63) hx hb dX9_sizeOf_55 (by decide) (fun c13 => ?_) (fun c13 => ?_)
      · have H := if_f H c13
        refine lv_iload_n hx hb dX9_sizeOf_63 rfl (lv_at hl 0 rfl) ?_
        obtain rfl := Option.some.inj H
        exact ret_i C G rfl dX9_sizeOf_64
      · have H := if_t H c13
        refine lv_iload_n hx hb dX9_sizeOf_58 rfl (lv_at hl 0 rfl) ?_
        refine lv_ineg hx hb dX9_sizeOf_59 ?_
        refine lv_goto (tgt := 64) hx hb dX9_sizeOf_60 (by decide) ?_
        obtain rfl := Option.some.inj H
        exact ret_i C G rfl dX9_sizeOf_64
  · have H := if_f H c3
    refine lv_aload_n hx hb dX9_sizeOf_16 rfl (lv_at hl 1 rfl) ?_
    refine lv_iload_n hx hb dX9_sizeOf_17 rfl (lv_at hl 2 rfl) ?_
    obtain ⟨z14, hz14, H⟩ := bd_some H
    refine MI.callVw z14.1 [.int p1] [] C G (c_X9_dykeSize l D cy mAd thrown status acts taped latest leng cursor token start till fault faultAt gifts traced lane many item bay fresh thn was tape left gift isKept kept trace p1 z14 hz14) gX9_sizeOf_X9_dykeSize rfl rfl rfl (n := 1) (by decide +kernel) ⟨Nat.le_of_ble_eq_true rfl, Nat.le_of_ble_eq_true rfl⟩ (q0 := 0) (ci := 9) rfl rfl rfl rfl hl.1 rfl (Nat.le_of_ble_eq_true rfl) dX9_sizeOf_18 ⟨Nat.zero_le _, Nat.zero_le _⟩ (fun U locs G => ?_)
    have G : Gd D A s (w_M cy mAd thrown status acts taped latest leng cursor token start till fault faultAt gifts z14.2.1 lane many item bay fresh thn was tape left gift isKept kept z14.2.2) U locs := G
    obtain rfl := Option.some.inj H
    exact ret_i C G rfl dX9_sizeOf_21
def f_X9_ask (thrown traced : Int32) (bay trace : Nat → Int32) (p1 p2 : Int32) : Option (Int32 × Int32 × Int32 × (Nat → Int32)) := bd (f_X9_isWater bay p1) (fun z1 => if z1 = 0 then (some ((-1000001), 0, traced, trace)) else (bd (f_X9_in p2.toInt64 0 1) (fun z3 => if z3 = 0 then (some ((-1000001), 0, traced, trace)) else (if p2 = 0 then (bd (f_X9_sizeOf 0 bay trace p1) (fun z7 => some (z7.1, 0, z7.2.1, z7.2.2))) else (bd (f_X9_markOf 0 bay trace p1) (fun z6 => some (z6.1, 0, z6.2.1, z6.2.2)))))))
set_option maxHeartbeats 4000000 in
set_option maxRecDepth 100000 in
theorem c_X9_ask (l : Launch) (D : va_G) (cy : Nat → ClassId) (mAd : Nat → Nat) (thrown status acts taped latest leng cursor token start till fault faultAt gifts traced : Int32) (lane many item bay fresh thn was tape left gift isKept kept trace : Nat → Int32) (p1 p2 : Int32) (z : (Int32 × Int32 × Int32 × (Nat → Int32))) (hz : f_X9_ask thrown traced bay trace p1 p2 = some z) : MI l yX9_ask wsX9_ask ({ frames := 5, cells := 0, slots := 0, locals := 111 } : Room) D cy [.ref (mAd 0), .int p1, .int p2] (w_M cy mAd thrown status acts taped latest leng cursor token start till fault faultAt gifts traced lane many item bay fresh thn was tape left gift isKept kept trace) z.1 (w_M cy mAd z.2.1 status acts taped latest leng cursor token start till fault faultAt gifts z.2.2.1 lane many item bay fresh thn was tape left gift isKept kept z.2.2.2) := by
  refine met_start (Qf := fun A => MQi D cy z.1 (w_M cy mAd z.2.1 status acts taped latest leng cursor token start till fault faultAt gifts z.2.2.1 lane many item bay fresh thn was tape left gift isKept kept z.2.2.2) A) (cc := cX9_ask) (nL := 3) (ret := (some .int)) RX9 rfl (by decide) rfl (Nat.le_of_ble_eq_true rfl) ?_
  intro p e s m below meth c A ls C G hl
  have hl : lv_has ls 3 [(0, .ref (mAd 0)), (1, .int p1), (2, .int p2)] := hl
  have H := hz
  unfold f_X9_ask at H
  obtain ⟨hx, hb, hr, hml, hown, hts, hlk, hK, hA, hE⟩ := id C
  have lk0 := hts (Cond.fieldLink RX9 50 "TideDebtsModel" "thrown" "I") (List.mem_of_getElem? (i := 1) rfl)
  have lk1 := hts (Cond.constant RX9 70 (-1000001)) (List.mem_of_getElem? (i := 2) rfl)
  have lk2 := hts (Cond.fieldLink RX9 255 "TideDebtsModel" "traced" "I") (List.mem_of_getElem? (i := 3) rfl)
  have hiX9 : ∀ w ∈ u_ws RX9 TX9 27, w ∈ wsX9_ask := fun _ h => List.mem_cons_of_mem _ (List.mem_append_right _ h)
  refine lv_aload_n hx hb dX9_ask_0 rfl (lv_at hl 0 rfl) ?_
  refine lv_iconst (v := 0) hx hb dX9_ask_1 (by decide) ?_
  refine va_put (D := D) (ci := 9) (v := .int 0) (ty := .int) (C := RX9) (T := TX9) (N := 27) hx hb hts hiX9 tyX9 tyX9_ok nmX9 hown hK G.1 G.2.1 G.2.2 0 rfl rfl 0 (by decide) lk0 (fun _ h9 => h9) rfl (tyX9_ok 0 (by decide)) rfl rfl (Nat.le_of_ble_eq_true rfl) dX9_ask_2 (fun U locs hP hD hS => ?_)
  have G : Gd D A s (w_M cy mAd 0 status acts taped latest leng cursor token start till fault faultAt gifts traced lane many item bay fresh thn was tape left gift isKept kept trace) U locs := ⟨hP, hD, hS⟩
  refine lv_aload_n hx hb dX9_ask_5 rfl (lv_at hl 0 rfl) ?_
  refine lv_iload_n hx hb dX9_ask_6 rfl (lv_at hl 1 rfl) ?_
  obtain ⟨z1, hz1, H⟩ := bd_some H
  refine MI.callVw z1 [.int p1] [] C G (c_X9_isWater l D cy mAd 0 status acts taped latest leng cursor token start till fault faultAt gifts traced lane many item bay fresh thn was tape left gift isKept kept trace p1 z1 hz1) gX9_ask_X9_isWater rfl rfl rfl (n := 1) (by decide +kernel) ⟨Nat.le_of_ble_eq_true rfl, Nat.le_of_ble_eq_true rfl⟩ (q0 := 0) (ci := 9) rfl rfl rfl rfl hl.1 rfl (Nat.le_of_ble_eq_true rfl) dX9_ask_7 ⟨Nat.zero_le _, Nat.zero_le _⟩ (fun U locs G => ?_)
  have G : Gd D A s (w_M cy mAd 0 status acts taped latest leng cursor token start till fault faultAt gifts traced lane many item bay fresh thn was tape left gift isKept kept trace) U locs := G
  refine lv_if_eq (tgt := 23) hx hb dX9_ask_10 (by decide) (fun c2 => ?_) (fun c2 => ?_)
  · have H := if_t H c2
    refine lv_ldc hx hb hown lk1 dX9_ask_23 ?_
    obtain rfl := Option.some.inj H
    exact ret_i C G rfl dX9_ask_25
  · have H := if_f H c2
    refine lv_iload_n hx hb dX9_ask_13 rfl (lv_at hl 2 rfl) ?_
    refine lv_i2l hx hb dX9_ask_14 rfl ?_
    refine lv_lconst (v := 0) hx hb dX9_ask_15 (by decide) ?_
    refine lv_lconst (v := 1) hx hb dX9_ask_16 (by decide) ?_
    obtain ⟨z3, hz3, H⟩ := bd_some H
    refine MI.callS z3 [.long p2.toInt64, .long 0, .long 1] [] [] C G (c_X9_in l D cy p2.toInt64 0 1 z3 hz3) gX9_ask_X9_in rfl rfl rfl (n := 3) (by decide +kernel) ⟨Nat.le_of_ble_eq_true rfl, Nat.le_of_ble_eq_true rfl⟩ rfl rfl rfl rfl hl.1 rfl (Nat.le_of_ble_eq_true rfl) dX9_ask_17 ⟨Nat.zero_le _, Nat.zero_le _⟩ (fun U locs G => ?_)
    have G : Gd D A s (w_M cy mAd 0 status acts taped latest leng cursor token start till fault faultAt gifts traced lane many item bay fresh thn was tape left gift isKept kept trace) U locs := G
    refine lv_if_ne (tgt := 26) hx hb dX9_ask_20 (by decide) (fun c4 => ?_) (fun c4 => ?_)
    · have H := if_f H c4
      refine lv_aload_n hx hb dX9_ask_26 rfl (lv_at hl 0 rfl) ?_
      refine lv_iconst (v := 0) hx hb dX9_ask_27 (by decide) ?_
      refine va_put (D := D) (ci := 9) (v := .int 0) (ty := .int) (C := RX9) (T := TX9) (N := 27) hx hb hts hiX9 tyX9 tyX9_ok nmX9 hown hK G.1 G.2.1 G.2.2 0 rfl rfl 26 (by decide) lk2 (fun _ h9 => h9) rfl (tyX9_ok 26 (by decide)) rfl rfl (Nat.le_of_ble_eq_true rfl) dX9_ask_28 (fun U locs hP hD hS => ?_)
      have G : Gd D A s (w_M cy mAd 0 status acts taped latest leng cursor token start till fault faultAt gifts 0 lane many item bay fresh thn was tape left gift isKept kept trace) U locs := ⟨hP, hD, hS⟩
      refine lv_iload_n hx hb dX9_ask_31 rfl (lv_at hl 2 rfl) ?_
      refine lv_if_ne (tgt := 43) hx hb dX9_ask_32 (by decide) (fun c5 => ?_) (fun c5 => ?_)
      · have H := if_f H c5
        refine lv_aload_n hx hb dX9_ask_43 rfl (lv_at hl 0 rfl) ?_
        refine lv_iload_n hx hb dX9_ask_44 rfl (lv_at hl 1 rfl) ?_
        obtain ⟨z6, hz6, H⟩ := bd_some H
        refine MI.callVw z6.1 [.int p1] [] C G (c_X9_markOf l D cy mAd 0 status acts taped latest leng cursor token start till fault faultAt gifts 0 lane many item bay fresh thn was tape left gift isKept kept trace p1 z6 hz6) gX9_ask_X9_markOf rfl rfl rfl (n := 1) (by decide +kernel) ⟨Nat.le_of_ble_eq_true rfl, Nat.le_of_ble_eq_true rfl⟩ (q0 := 0) (ci := 9) rfl rfl rfl rfl hl.1 rfl (Nat.le_of_ble_eq_true rfl) dX9_ask_45 ⟨Nat.zero_le _, Nat.zero_le _⟩ (fun U locs G => ?_)
        have G : Gd D A s (w_M cy mAd 0 status acts taped latest leng cursor token start till fault faultAt gifts z6.2.1 lane many item bay fresh thn was tape left gift isKept kept z6.2.2) U locs := G
        obtain rfl := Option.some.inj H
        exact ret_i C G rfl dX9_ask_48
      · have H := if_t H c5
        refine lv_aload_n hx hb dX9_ask_35 rfl (lv_at hl 0 rfl) ?_
        refine lv_iload_n hx hb dX9_ask_36 rfl (lv_at hl 1 rfl) ?_
        obtain ⟨z7, hz7, H⟩ := bd_some H
        refine MI.callVw z7.1 [.int p1] [] C G (c_X9_sizeOf l D cy mAd 0 status acts taped latest leng cursor token start till fault faultAt gifts 0 lane many item bay fresh thn was tape left gift isKept kept trace p1 z7 hz7) gX9_ask_X9_sizeOf rfl rfl rfl (n := 1) (by decide +kernel) ⟨Nat.le_of_ble_eq_true rfl, Nat.le_of_ble_eq_true rfl⟩ (q0 := 0) (ci := 9) rfl rfl rfl rfl hl.1 rfl (Nat.le_of_ble_eq_true rfl) dX9_ask_37 ⟨Nat.zero_le _, Nat.zero_le _⟩ (fun U locs G => ?_)
        have G : Gd D A s (w_M cy mAd 0 status acts taped latest leng cursor token start till fault faultAt gifts z7.2.1 lane many item bay fresh thn was tape left gift isKept kept z7.2.2) U locs := G
        refine lv_goto (tgt := 48) hx hb dX9_ask_40 (by decide) ?_
        obtain rfl := Option.some.inj H
        exact ret_i C G rfl dX9_ask_48
    · have H := if_t H c4
      refine lv_ldc hx hb hown lk1 dX9_ask_23 ?_
      obtain rfl := Option.some.inj H
      exact ret_i C G rfl dX9_ask_25
def f_X9_trace (thrown traced : Int32) (trace : Nat → Int32) (p1 : Int32) : Option (Int32 × Int32) := bd (f_X9_in p1.toInt64 0 ((traced - 1 : Int32).toInt64)) (fun z1 => if z1 = 0 then (some ((-1000000), 0)) else (gd (inb p1 16) (some (trace (ix p1), 0))))
set_option maxHeartbeats 4000000 in
set_option maxRecDepth 100000 in
theorem c_X9_trace (l : Launch) (D : va_G) (cy : Nat → ClassId) (mAd : Nat → Nat) (thrown status acts taped latest leng cursor token start till fault faultAt gifts traced : Int32) (lane many item bay fresh thn was tape left gift isKept kept trace : Nat → Int32) (p1 : Int32) (z : (Int32 × Int32)) (hz : f_X9_trace thrown traced trace p1 = some z) : MI l yX9_trace wsX9_trace ({ frames := 1, cells := 0, slots := 0, locals := 25 } : Room) D cy [.ref (mAd 0), .int p1] (w_M cy mAd thrown status acts taped latest leng cursor token start till fault faultAt gifts traced lane many item bay fresh thn was tape left gift isKept kept trace) z.1 (w_M cy mAd z.2 status acts taped latest leng cursor token start till fault faultAt gifts traced lane many item bay fresh thn was tape left gift isKept kept trace) := by
  refine met_start (Qf := fun A => MQi D cy z.1 (w_M cy mAd z.2 status acts taped latest leng cursor token start till fault faultAt gifts traced lane many item bay fresh thn was tape left gift isKept kept trace) A) (cc := cX9_trace) (nL := 2) (ret := (some .int)) RX9 rfl (by decide) rfl (Nat.le_of_ble_eq_true rfl) ?_
  intro p e s m below meth c A ls C G hl
  have hl : lv_has ls 2 [(0, .ref (mAd 0)), (1, .int p1)] := hl
  have H := hz
  unfold f_X9_trace at H
  obtain ⟨hx, hb, hr, hml, hown, hts, hlk, hK, hA, hE⟩ := id C
  have lk0 := hts (Cond.fieldLink RX9 50 "TideDebtsModel" "thrown" "I") (List.mem_of_getElem? (i := 1) rfl)
  have lk1 := hts (Cond.fieldLink RX9 255 "TideDebtsModel" "traced" "I") (List.mem_of_getElem? (i := 2) rfl)
  have lk2 := hts (Cond.constant RX9 86 (-1000000)) (List.mem_of_getElem? (i := 4) rfl)
  have lk3 := hts (Cond.fieldLink RX9 47 "TideDebtsModel" "trace" "[I") (List.mem_of_getElem? (i := 3) rfl)
  have hiX9 : ∀ w ∈ u_ws RX9 TX9 27, w ∈ wsX9_trace := fun _ h => List.mem_cons_of_mem _ (List.mem_append_right _ h)
  refine lv_aload_n hx hb dX9_trace_0 rfl (lv_at hl 0 rfl) ?_
  refine lv_iconst (v := 0) hx hb dX9_trace_1 (by decide) ?_
  refine va_put (D := D) (ci := 9) (v := .int 0) (ty := .int) (C := RX9) (T := TX9) (N := 27) hx hb hts hiX9 tyX9 tyX9_ok nmX9 hown hK G.1 G.2.1 G.2.2 0 rfl rfl 0 (by decide) lk0 (fun _ h9 => h9) rfl (tyX9_ok 0 (by decide)) rfl rfl (Nat.le_of_ble_eq_true rfl) dX9_trace_2 (fun U locs hP hD hS => ?_)
  have G : Gd D A s (w_M cy mAd 0 status acts taped latest leng cursor token start till fault faultAt gifts traced lane many item bay fresh thn was tape left gift isKept kept trace) U locs := ⟨hP, hD, hS⟩
  refine lv_iload_n hx hb dX9_trace_5 rfl (lv_at hl 1 rfl) ?_
  refine lv_i2l hx hb dX9_trace_6 rfl ?_
  refine lv_lconst (v := 0) hx hb dX9_trace_7 (by decide) ?_
  refine lv_aload_n hx hb dX9_trace_8 rfl (lv_at hl 0 rfl) ?_
  refine va_get (D := D) (ci := 9) (v := .int traced) (C := RX9) (T := TX9) (N := 27) hx hb hts hiX9 hown hK G.1 0 rfl rfl 26 (by decide) lk1 (fun _ h9 => h9) rfl dX9_trace_9 ?_
  refine lv_iconst (v := 1) hx hb dX9_trace_12 (by decide) ?_
  refine lv_isub hx hb dX9_trace_13 ?_
  refine lv_i2l hx hb dX9_trace_14 rfl ?_
  obtain ⟨z1, hz1, H⟩ := bd_some H
  refine MI.callS z1 [.long p1.toInt64, .long 0, .long ((traced - 1 : Int32).toInt64)] [] [] C G (c_X9_in l D cy p1.toInt64 0 ((traced - 1 : Int32).toInt64) z1 hz1) gX9_trace_X9_in rfl rfl rfl (n := 3) (by decide +kernel) ⟨Nat.le_of_ble_eq_true rfl, Nat.le_of_ble_eq_true rfl⟩ rfl rfl rfl rfl hl.1 rfl (Nat.le_of_ble_eq_true rfl) dX9_trace_15 ⟨Nat.zero_le _, Nat.zero_le _⟩ (fun U locs G => ?_)
  have G : Gd D A s (w_M cy mAd 0 status acts taped latest leng cursor token start till fault faultAt gifts traced lane many item bay fresh thn was tape left gift isKept kept trace) U locs := G
  refine lv_if_eq (tgt := 30) hx hb dX9_trace_18 (by decide) (fun c2 => ?_) (fun c2 => ?_)
  · have H := if_t H c2
    refine lv_ldc hx hb hown lk2 dX9_trace_30 ?_
    obtain rfl := Option.some.inj H
    exact ret_i C G rfl dX9_trace_32
  · have H := if_f H c2
    refine lv_aload_n hx hb dX9_trace_21 rfl (lv_at hl 0 rfl) ?_
    refine va_get (D := D) (ci := 9) (v := .ref (mAd 13)) (C := RX9) (T := TX9) (N := 27) hx hb hts hiX9 hown hK G.1 0 rfl rfl 25 (by decide) lk3 (fun _ h9 => h9) rfl dX9_trace_22 ?_
    refine lv_iload_n hx hb dX9_trace_25 rfl (lv_at hl 1 rfl) ?_
    obtain ⟨hb3, H⟩ := gd_some H
    refine g_iald (v := trace (ix p1)) hx hb hK G.1 13 1 rfl rfl hb3 rfl dX9_trace_26 ?_
    refine lv_goto (tgt := 32) hx hb dX9_trace_27 (by decide) ?_
    obtain rfl := Option.some.inj H
    exact ret_i C G rfl dX9_trace_32
def f_X9_count_L54 (lane : Nat → Int32) : Nat → Int32 → Int32 → Option Int32
  | 0, _, _ => none
  | n + 1, x2, x3 => if 8 ≤ x3 then (some x2) else (gd (inb x3 8) (if (lane (ix x3)) < 0 then (f_X9_count_L54 lane n (x2 + 0) (x3 + 1)) else (f_X9_count_L54 lane n (x2 + 1) (x3 + 1))))
theorem f_X9_count_L54_z (lane : Nat → Int32) (x2 x3 : Int32) : f_X9_count_L54 lane 0 x2 x3 = none := rfl
theorem f_X9_count_L54_s (lane : Nat → Int32) (n : Nat) (x2 x3 : Int32) : f_X9_count_L54 lane (n + 1) x2 x3 = if 8 ≤ x3 then (some x2) else (gd (inb x3 8) (if (lane (ix x3)) < 0 then (f_X9_count_L54 lane n (x2 + 0) (x3 + 1)) else (f_X9_count_L54 lane n (x2 + 1) (x3 + 1)))) := rfl
set_option maxHeartbeats 4000000 in
set_option maxRecDepth 100000 in
theorem wl_X9_count_54 {p : Program} {l : Launch} {e : Env} {s : State} {m : MethodId} {below : List Frame} {meth : Method} {c : Code} {D : va_G} {cy : Nat → ClassId} {A : Nat → Prop} {args : Array Value} {Q : State → Prop} (C : Cx D cy A p s m meth c cX9_count 4 (some .int) wsX9_count RX9 args) (mAd : Nat → Nat) (thrown status acts taped latest leng cursor token start till fault faultAt gifts traced : Int32) (lane many item bay fresh thn was tape left gift isKept kept trace : Nat → Int32) :
    ∀ (n : Nat) (x2 x3 : Int32) (z : Int32), f_X9_count_L54 lane n x2 x3 = some z → (∀ (U : Heap) (locs : List Loc) (ls : Array Slot), Gd D A s (w_M cy mAd thrown status acts taped latest leng cursor token start till fault faultAt gifts traced lane many item bay fresh thn was tape left gift isKept kept trace) U locs → lv_has ls 4 [(2, .int z)] → W p l e ({ frames := 1, cells := 0, slots := 0, locals := 21 } : Room) s m args below meth c U locs 0 0 Q (F0 m 83 ls [])) → ∀ (U : Heap) (locs : List Loc) (ls : Array Slot), Gd D A s (w_M cy mAd thrown status acts taped latest leng cursor token start till fault faultAt gifts traced lane many item bay fresh thn was tape left gift isKept kept trace) U locs → lv_has ls 4 [(0, .ref (mAd 0)), (2, .int x2), (3, .int x3)] → W p l e ({ frames := 1, cells := 0, slots := 0, locals := 21 } : Room) s m args below meth c U locs 0 0 Q (F0 m 54 ls []) := by
  obtain ⟨hx, hb, hr, hml, hown, hts, hlk, hK, hA, hE⟩ := id C
  have lk0 := hts (Cond.fieldLink RX9 7 "TideDebtsModel" "lane" "[I") (List.mem_of_getElem? (i := 2) rfl)
  have hiX9 : ∀ w ∈ u_ws RX9 TX9 27, w ∈ wsX9_count := fun _ h => List.mem_cons_of_mem _ (List.mem_append_right _ h)
  intro n
  induction n with
  | zero =>
    intro x2 x3 z H
    rw [f_X9_count_L54_z] at H
    cases H
  | succ n ih =>
    intro x2 x3 z H kk U locs ls G hl
    rw [f_X9_count_L54_s] at H
    refine lv_iload_n hx hb dX9_count_54 rfl (lv_at hl 2 rfl) ?_
    refine lv_bipush (v := 8) hx hb dX9_count_55 (by decide) ?_
    refine lv_icmp_ge (tgt := 83) hx hb dX9_count_57 (by decide) (fun c2 => ?_) (fun c2 => ?_)
    · have H := if_t H c2
      obtain rfl := Option.some.inj H
      exact kk _ _ _ G (lv_sub hl [1] rfl)
    · have H := if_f H c2
      refine lv_iload_n hx hb dX9_count_60 rfl (lv_at hl 1 rfl) ?_
      refine lv_aload_n hx hb dX9_count_61 rfl (lv_at hl 0 rfl) ?_
      refine va_get (D := D) (ci := 9) (v := .ref (mAd 1)) (C := RX9) (T := TX9) (N := 27) hx hb hts hiX9 hown hK G.1 0 rfl rfl 2 (by decide) lk0 (fun _ h9 => h9) rfl dX9_count_62 ?_
      refine lv_iload_n hx hb dX9_count_65 rfl (lv_at hl 2 rfl) ?_
      obtain ⟨hb3, H⟩ := gd_some H
      refine g_iald (v := lane (ix x3)) hx hb hK G.1 1 1 rfl rfl hb3 rfl dX9_count_66 ?_
      refine lv_if_lt (tgt := 74) hx hb dX9_count_67 (by decide) (fun c4 => ?_) (fun c4 => ?_)
      · have H := if_t H c4
        refine lv_iconst (v := 0) hx hb dX9_count_74 (by decide) ?_
        refine lv_iadd hx hb dX9_count_75 ?_
        refine lv_istore_n (lv' := [(2, .int (x2 + 0)), (0, .ref (mAd 0)), (3, .int x3)]) hx hb dX9_count_76 rfl hl (by decide) rfl (fun ls hl => ?_)
        refine lv_iinc (v := x3 + 1) (lv' := [(3, .int (x3 + 1)), (2, .int (x2 + 0)), (0, .ref (mAd 0))]) hx hb dX9_count_77 hl (k := 2) rfl rfl (by decide) rfl (fun ls hl => ?_)
        refine lv_goto (tgt := 54) hx hb dX9_count_80 (by decide) ?_
        exact ih (x2 + 0) (x3 + 1) z H kk _ _ _ G (lv_sub hl [2, 1, 0] rfl)
      · have H := if_f H c4
        refine lv_iconst (v := 1) hx hb dX9_count_70 (by decide) ?_
        refine lv_goto (tgt := 75) hx hb dX9_count_71 (by decide) ?_
        refine lv_iadd hx hb dX9_count_75 ?_
        refine lv_istore_n (lv' := [(2, .int (x2 + 1)), (0, .ref (mAd 0)), (3, .int x3)]) hx hb dX9_count_76 rfl hl (by decide) rfl (fun ls hl => ?_)
        refine lv_iinc (v := x3 + 1) (lv' := [(3, .int (x3 + 1)), (2, .int (x2 + 1)), (0, .ref (mAd 0))]) hx hb dX9_count_77 hl (k := 2) rfl rfl (by decide) rfl (fun ls hl => ?_)
        refine lv_goto (tgt := 54) hx hb dX9_count_80 (by decide) ?_
        exact ih (x2 + 1) (x3 + 1) z H kk _ _ _ G (lv_sub hl [2, 1, 0] rfl)
def f_X9_count_L94 (bay : Nat → Int32) : Nat → Int32 → Int32 → Option Int32
  | 0, _, _ => none
  | n + 1, x2, x3 => if (bay 1) ≤ x3 then (some x2) else (bd (f_X9_at x3 1) (fun z12 => gd (inb z12 75) (f_X9_count_L94 bay n (x2 + (bay (ix z12))) (x3 + 1))))
theorem f_X9_count_L94_z (bay : Nat → Int32) (x2 x3 : Int32) : f_X9_count_L94 bay 0 x2 x3 = none := rfl
theorem f_X9_count_L94_s (bay : Nat → Int32) (n : Nat) (x2 x3 : Int32) : f_X9_count_L94 bay (n + 1) x2 x3 = if (bay 1) ≤ x3 then (some x2) else (bd (f_X9_at x3 1) (fun z12 => gd (inb z12 75) (f_X9_count_L94 bay n (x2 + (bay (ix z12))) (x3 + 1)))) := rfl
set_option maxHeartbeats 4000000 in
set_option maxRecDepth 100000 in
theorem wl_X9_count_94 {p : Program} {l : Launch} {e : Env} {s : State} {m : MethodId} {below : List Frame} {meth : Method} {c : Code} {D : va_G} {cy : Nat → ClassId} {A : Nat → Prop} {args : Array Value} {Q : State → Prop} (C : Cx D cy A p s m meth c cX9_count 4 (some .int) wsX9_count RX9 args) (mAd : Nat → Nat) (thrown status acts taped latest leng cursor token start till fault faultAt gifts traced : Int32) (lane many item bay fresh thn was tape left gift isKept kept trace : Nat → Int32) :
    ∀ (n : Nat) (x2 x3 : Int32) (z : Int32), f_X9_count_L94 bay n x2 x3 = some z → (∀ (U : Heap) (locs : List Loc) (ls : Array Slot), Gd D A s (w_M cy mAd thrown status acts taped latest leng cursor token start till fault faultAt gifts traced lane many item bay fresh thn was tape left gift isKept kept trace) U locs → lv_has ls 4 [(2, .int z)] → W p l e ({ frames := 1, cells := 0, slots := 0, locals := 21 } : Room) s m args below meth c U locs 0 0 Q (F0 m 123 ls [])) → ∀ (U : Heap) (locs : List Loc) (ls : Array Slot), Gd D A s (w_M cy mAd thrown status acts taped latest leng cursor token start till fault faultAt gifts traced lane many item bay fresh thn was tape left gift isKept kept trace) U locs → lv_has ls 4 [(0, .ref (mAd 0)), (2, .int x2), (3, .int x3)] → W p l e ({ frames := 1, cells := 0, slots := 0, locals := 21 } : Room) s m args below meth c U locs 0 0 Q (F0 m 94 ls []) := by
  obtain ⟨hx, hb, hr, hml, hown, hts, hlk, hK, hA, hE⟩ := id C
  have lk0 := hts (Cond.fieldLink RX9 19 "TideDebtsModel" "bay" "[I") (List.mem_of_getElem? (i := 3) rfl)
  have hiX9 : ∀ w ∈ u_ws RX9 TX9 27, w ∈ wsX9_count := fun _ h => List.mem_cons_of_mem _ (List.mem_append_right _ h)
  intro n
  induction n with
  | zero =>
    intro x2 x3 z H
    rw [f_X9_count_L94_z] at H
    cases H
  | succ n ih =>
    intro x2 x3 z H kk U locs ls G hl
    rw [f_X9_count_L94_s] at H
    refine lv_iload_n hx hb dX9_count_94 rfl (lv_at hl 2 rfl) ?_
    refine lv_aload_n hx hb dX9_count_95 rfl (lv_at hl 0 rfl) ?_
    refine va_get (D := D) (ci := 9) (v := .ref (mAd 4)) (C := RX9) (T := TX9) (N := 27) hx hb hts hiX9 hown hK G.1 0 rfl rfl 5 (by decide) lk0 (fun _ h9 => h9) rfl dX9_count_96 ?_
    refine lv_iconst (v := 1) hx hb dX9_count_99 (by decide) ?_
    refine g_iald (v := bay 1) hx hb hK G.1 4 1 rfl rfl (by decide) rfl dX9_count_100 ?_
    refine lv_icmp_ge (tgt := 123) hx hb dX9_count_101 (by decide) (fun c11 => ?_) (fun c11 => ?_)
    · have H := if_t H c11
      obtain rfl := Option.some.inj H
      exact kk _ _ _ G (lv_sub hl [1] rfl)
    · have H := if_f H c11
      refine lv_iload_n hx hb dX9_count_104 rfl (lv_at hl 1 rfl) ?_
      refine lv_aload_n hx hb dX9_count_105 rfl (lv_at hl 0 rfl) ?_
      refine va_get (D := D) (ci := 9) (v := .ref (mAd 4)) (C := RX9) (T := TX9) (N := 27) hx hb hts hiX9 hown hK G.1 0 rfl rfl 5 (by decide) lk0 (fun _ h9 => h9) rfl dX9_count_106 ?_
      refine lv_iload_n hx hb dX9_count_109 rfl (lv_at hl 2 rfl) ?_
      refine lv_iconst (v := 1) hx hb dX9_count_110 (by decide) ?_
      obtain ⟨z12, hz12, H⟩ := bd_some H
      refine MI.callS z12 [.int x3, .int 1] [.ref (mAd 4), .int x2] [] C G (c_X9_at l D cy x3 1 z12 hz12) gX9_count_X9_at rfl rfl rfl (n := 2) (by decide +kernel) ⟨Nat.le_of_ble_eq_true rfl, Nat.le_of_ble_eq_true rfl⟩ rfl rfl rfl rfl hl.1 rfl (Nat.le_of_ble_eq_true rfl) dX9_count_111 ⟨Nat.zero_le _, Nat.zero_le _⟩ (fun U locs G => ?_)
      have G : Gd D A s (w_M cy mAd thrown status acts taped latest leng cursor token start till fault faultAt gifts traced lane many item bay fresh thn was tape left gift isKept kept trace) U locs := G
      obtain ⟨hb13, H⟩ := gd_some H
      refine g_iald (v := bay (ix z12)) hx hb hK G.1 4 1 rfl rfl hb13 rfl dX9_count_114 ?_
      refine lv_iadd hx hb dX9_count_115 ?_
      refine lv_istore_n (lv' := [(2, .int (x2 + (bay (ix z12)))), (0, .ref (mAd 0)), (3, .int x3)]) hx hb dX9_count_116 rfl hl (by decide) rfl (fun ls hl => ?_)
      refine lv_iinc (v := x3 + 1) (lv' := [(3, .int (x3 + 1)), (2, .int (x2 + (bay (ix z12)))), (0, .ref (mAd 0))]) hx hb dX9_count_117 hl (k := 2) rfl rfl (by decide) rfl (fun ls hl => ?_)
      refine lv_goto (tgt := 94) hx hb dX9_count_120 (by decide) ?_
      exact ih (x2 + (bay (ix z12))) (x3 + 1) z H kk _ _ _ G (lv_sub hl [2, 1, 0] rfl)
def f_X9_count_L133 (bay : Nat → Int32) : Nat → Int32 → Int32 → Option Int32
  | 0, _, _ => none
  | n + 1, x2, x3 => if 75 ≤ x3 then (some x2) else (gd (inb x3 75) (if (bay (ix x3)) ≤ 0 then (f_X9_count_L133 bay n (x2 + 0) (x3 + 1)) else (f_X9_count_L133 bay n (x2 + 1) (x3 + 1))))
theorem f_X9_count_L133_z (bay : Nat → Int32) (x2 x3 : Int32) : f_X9_count_L133 bay 0 x2 x3 = none := rfl
theorem f_X9_count_L133_s (bay : Nat → Int32) (n : Nat) (x2 x3 : Int32) : f_X9_count_L133 bay (n + 1) x2 x3 = if 75 ≤ x3 then (some x2) else (gd (inb x3 75) (if (bay (ix x3)) ≤ 0 then (f_X9_count_L133 bay n (x2 + 0) (x3 + 1)) else (f_X9_count_L133 bay n (x2 + 1) (x3 + 1)))) := rfl
set_option maxHeartbeats 4000000 in
set_option maxRecDepth 100000 in
theorem wl_X9_count_133 {p : Program} {l : Launch} {e : Env} {s : State} {m : MethodId} {below : List Frame} {meth : Method} {c : Code} {D : va_G} {cy : Nat → ClassId} {A : Nat → Prop} {args : Array Value} {Q : State → Prop} (C : Cx D cy A p s m meth c cX9_count 4 (some .int) wsX9_count RX9 args) (mAd : Nat → Nat) (thrown status acts taped latest leng cursor token start till fault faultAt gifts traced : Int32) (lane many item bay fresh thn was tape left gift isKept kept trace : Nat → Int32) :
    ∀ (n : Nat) (x2 x3 : Int32) (z : Int32), f_X9_count_L133 bay n x2 x3 = some z → (∀ (U : Heap) (locs : List Loc) (ls : Array Slot), Gd D A s (w_M cy mAd thrown status acts taped latest leng cursor token start till fault faultAt gifts traced lane many item bay fresh thn was tape left gift isKept kept trace) U locs → lv_has ls 4 [(2, .int z)] → W p l e ({ frames := 1, cells := 0, slots := 0, locals := 21 } : Room) s m args below meth c U locs 0 0 Q (F0 m 162 ls [])) → ∀ (U : Heap) (locs : List Loc) (ls : Array Slot), Gd D A s (w_M cy mAd thrown status acts taped latest leng cursor token start till fault faultAt gifts traced lane many item bay fresh thn was tape left gift isKept kept trace) U locs → lv_has ls 4 [(0, .ref (mAd 0)), (2, .int x2), (3, .int x3)] → W p l e ({ frames := 1, cells := 0, slots := 0, locals := 21 } : Room) s m args below meth c U locs 0 0 Q (F0 m 133 ls []) := by
  obtain ⟨hx, hb, hr, hml, hown, hts, hlk, hK, hA, hE⟩ := id C
  have lk0 := hts (Cond.fieldLink RX9 19 "TideDebtsModel" "bay" "[I") (List.mem_of_getElem? (i := 3) rfl)
  have hiX9 : ∀ w ∈ u_ws RX9 TX9 27, w ∈ wsX9_count := fun _ h => List.mem_cons_of_mem _ (List.mem_append_right _ h)
  intro n
  induction n with
  | zero =>
    intro x2 x3 z H
    rw [f_X9_count_L133_z] at H
    cases H
  | succ n ih =>
    intro x2 x3 z H kk U locs ls G hl
    rw [f_X9_count_L133_s] at H
    refine lv_iload_n hx hb dX9_count_133 rfl (lv_at hl 2 rfl) ?_
    refine lv_bipush (v := 75) hx hb dX9_count_134 (by decide) ?_
    refine lv_icmp_ge (tgt := 162) hx hb dX9_count_136 (by decide) (fun c17 => ?_) (fun c17 => ?_)
    · have H := if_t H c17
      obtain rfl := Option.some.inj H
      exact kk _ _ _ G (lv_sub hl [1] rfl)
    · have H := if_f H c17
      refine lv_iload_n hx hb dX9_count_139 rfl (lv_at hl 1 rfl) ?_
      refine lv_aload_n hx hb dX9_count_140 rfl (lv_at hl 0 rfl) ?_
      refine va_get (D := D) (ci := 9) (v := .ref (mAd 4)) (C := RX9) (T := TX9) (N := 27) hx hb hts hiX9 hown hK G.1 0 rfl rfl 5 (by decide) lk0 (fun _ h9 => h9) rfl dX9_count_141 ?_
      refine lv_iload_n hx hb dX9_count_144 rfl (lv_at hl 2 rfl) ?_
      obtain ⟨hb18, H⟩ := gd_some H
      refine g_iald (v := bay (ix x3)) hx hb hK G.1 4 1 rfl rfl hb18 rfl dX9_count_145 ?_
      refine lv_if_le (tgt := 153) hx hb dX9_count_146 (by decide) (fun c19 => ?_) (fun c19 => ?_)
      · have H := if_t H c19
        refine lv_iconst (v := 0) hx hb dX9_count_153 (by decide) ?_
        refine lv_iadd hx hb dX9_count_154 ?_
        refine lv_istore_n (lv' := [(2, .int (x2 + 0)), (0, .ref (mAd 0)), (3, .int x3)]) hx hb dX9_count_155 rfl hl (by decide) rfl (fun ls hl => ?_)
        refine lv_iinc (v := x3 + 1) (lv' := [(3, .int (x3 + 1)), (2, .int (x2 + 0)), (0, .ref (mAd 0))]) hx hb dX9_count_156 hl (k := 2) rfl rfl (by decide) rfl (fun ls hl => ?_)
        refine lv_goto (tgt := 133) hx hb dX9_count_159 (by decide) ?_
        exact ih (x2 + 0) (x3 + 1) z H kk _ _ _ G (lv_sub hl [2, 1, 0] rfl)
      · have H := if_f H c19
        refine lv_iconst (v := 1) hx hb dX9_count_149 (by decide) ?_
        refine lv_goto (tgt := 154) hx hb dX9_count_150 (by decide) ?_
        refine lv_iadd hx hb dX9_count_154 ?_
        refine lv_istore_n (lv' := [(2, .int (x2 + 1)), (0, .ref (mAd 0)), (3, .int x3)]) hx hb dX9_count_155 rfl hl (by decide) rfl (fun ls hl => ?_)
        refine lv_iinc (v := x3 + 1) (lv' := [(3, .int (x3 + 1)), (2, .int (x2 + 1)), (0, .ref (mAd 0))]) hx hb dX9_count_156 hl (k := 2) rfl rfl (by decide) rfl (fun ls hl => ?_)
        refine lv_goto (tgt := 133) hx hb dX9_count_159 (by decide) ?_
        exact ih (x2 + 1) (x3 + 1) z H kk _ _ _ G (lv_sub hl [2, 1, 0] rfl)
def f_X9_count (thrown acts taped : Int32) (lane bay : Nat → Int32) (p1 : Int32) : Option (Int32 × Int32) := if p1 = 0 then (bd (f_X9_count_L54 lane 2000 0 0) (fun z5 => some (z5, 0))) else (if p1 = 1 then (gd (inb p1 75) (some (bay (ix p1), 0))) else (if p1 = 2 then (gd (inb p1 75) (some (bay (ix p1), 0))) else (if p1 = 3 then (bd (f_X9_count_L94 bay 2000 0 0) (fun z14 => some (z14, 0))) else (if p1 = 4 then (some (acts, 0)) else (if p1 = 5 then (bd (f_X9_count_L133 bay 2000 0 39) (fun z20 => some (z20, 0))) else (if p1 = 6 then (some (taped, 0)) else (some ((-1000001), 0))))))))
set_option maxHeartbeats 4000000 in
set_option maxRecDepth 100000 in
theorem c_X9_count (l : Launch) (D : va_G) (cy : Nat → ClassId) (mAd : Nat → Nat) (thrown status acts taped latest leng cursor token start till fault faultAt gifts traced : Int32) (lane many item bay fresh thn was tape left gift isKept kept trace : Nat → Int32) (p1 : Int32) (z : (Int32 × Int32)) (hz : f_X9_count thrown acts taped lane bay p1 = some z) : MI l yX9_count wsX9_count ({ frames := 1, cells := 0, slots := 0, locals := 21 } : Room) D cy [.ref (mAd 0), .int p1] (w_M cy mAd thrown status acts taped latest leng cursor token start till fault faultAt gifts traced lane many item bay fresh thn was tape left gift isKept kept trace) z.1 (w_M cy mAd z.2 status acts taped latest leng cursor token start till fault faultAt gifts traced lane many item bay fresh thn was tape left gift isKept kept trace) := by
  refine met_start (Qf := fun A => MQi D cy z.1 (w_M cy mAd z.2 status acts taped latest leng cursor token start till fault faultAt gifts traced lane many item bay fresh thn was tape left gift isKept kept trace) A) (cc := cX9_count) (nL := 4) (ret := (some .int)) RX9 rfl (by decide) rfl (Nat.le_of_ble_eq_true rfl) ?_
  intro p e s m below meth c A ls C G hl
  have hl : lv_has ls 4 [(0, .ref (mAd 0)), (1, .int p1)] := hl
  have H := hz
  unfold f_X9_count at H
  obtain ⟨hx, hb, hr, hml, hown, hts, hlk, hK, hA, hE⟩ := id C
  have lk0 := hts (Cond.fieldLink RX9 50 "TideDebtsModel" "thrown" "I") (List.mem_of_getElem? (i := 1) rfl)
  have lk1 := hts (Cond.fieldLink RX9 19 "TideDebtsModel" "bay" "[I") (List.mem_of_getElem? (i := 3) rfl)
  have lk2 := hts (Cond.fieldLink RX9 171 "TideDebtsModel" "acts" "I") (List.mem_of_getElem? (i := 4) rfl)
  have lk3 := hts (Cond.fieldLink RX9 77 "TideDebtsModel" "taped" "I") (List.mem_of_getElem? (i := 5) rfl)
  have lk4 := hts (Cond.constant RX9 70 (-1000001)) (List.mem_of_getElem? (i := 6) rfl)
  have hiX9 : ∀ w ∈ u_ws RX9 TX9 27, w ∈ wsX9_count := fun _ h => List.mem_cons_of_mem _ (List.mem_append_right _ h)
  refine lv_aload_n hx hb dX9_count_0 rfl (lv_at hl 0 rfl) ?_
  refine lv_iconst (v := 0) hx hb dX9_count_1 (by decide) ?_
  refine va_put (D := D) (ci := 9) (v := .int 0) (ty := .int) (C := RX9) (T := TX9) (N := 27) hx hb hts hiX9 tyX9 tyX9_ok nmX9 hown hK G.1 G.2.1 G.2.2 0 rfl rfl 0 (by decide) lk0 (fun _ h9 => h9) rfl (tyX9_ok 0 (by decide)) rfl rfl (Nat.le_of_ble_eq_true rfl) dX9_count_2 (fun U locs hP hD hS => ?_)
  have G : Gd D A s (w_M cy mAd 0 status acts taped latest leng cursor token start till fault faultAt gifts traced lane many item bay fresh thn was tape left gift isKept kept trace) U locs := ⟨hP, hD, hS⟩
  refine lv_iconst (v := 0) hx hb dX9_count_5 (by decide) ?_
  refine lv_istore_n (lv' := [(2, .int 0), (0, .ref (mAd 0)), (1, .int p1)]) hx hb dX9_count_6 rfl hl (by decide) rfl (fun ls hl => ?_)
  refine lv_iload_n hx hb dX9_count_7 rfl (lv_at hl 2 rfl) ?_
  by_cases c1 : p1 = 0
  · have H := if_t H c1
    refine lv_tableIn (off := 44) (tgt := 52) hx hb dX9_count_8 (by rw [c1]; decide) (by rw [c1]; decide) (by rw [c1]; decide) (by decide) ?_
    refine lv_iconst (v := 0) hx hb dX9_count_52 (by decide) ?_
    refine lv_istore_n (lv' := [(3, .int 0), (2, .int 0), (0, .ref (mAd 0)), (1, .int p1)]) hx hb dX9_count_53 rfl hl (by decide) rfl (fun ls hl => ?_)
    obtain ⟨z5, hz5, H⟩ := bd_some H
    refine wl_X9_count_54 C mAd 0 status acts taped latest leng cursor token start till fault faultAt gifts traced lane many item bay fresh thn was tape left gift isKept kept trace _ 0 0 z5 hz5 (fun U locs ls G hl => ?_) _ _ _ G (lv_sub hl [2, 1, 0] rfl)
    have G : Gd D A s (w_M cy mAd 0 status acts taped latest leng cursor token start till fault faultAt gifts traced lane many item bay fresh thn was tape left gift isKept kept trace) U locs := G
    have hl : lv_has ls 4 [(2, .int z5)] := hl
    refine lv_iload_n hx hb dX9_count_83 rfl (lv_at hl 0 rfl) ?_
    obtain rfl := Option.some.inj H
    exact ret_i C G rfl dX9_count_84
  · have H := if_f H c1
    by_cases c6 : p1 = 1
    · have H := if_t H c6
      refine lv_tableIn (off := 77) (tgt := 85) hx hb dX9_count_8 (by rw [c6]; decide) (by rw [c6]; decide) (by rw [c6]; decide) (by decide) ?_
      refine lv_aload_n hx hb dX9_count_85 rfl (lv_at hl 1 rfl) ?_
      refine va_get (D := D) (ci := 9) (v := .ref (mAd 4)) (C := RX9) (T := TX9) (N := 27) hx hb hts hiX9 hown hK G.1 0 rfl rfl 5 (by decide) lk1 (fun _ h9 => h9) rfl dX9_count_86 ?_
      refine lv_iload_n hx hb dX9_count_89 rfl (lv_at hl 2 rfl) ?_
      obtain ⟨hb7, H⟩ := gd_some H
      refine g_iald (v := bay (ix p1)) hx hb hK G.1 4 1 rfl rfl hb7 rfl dX9_count_90 ?_
      obtain rfl := Option.some.inj H
      exact ret_i C G rfl dX9_count_91
    · have H := if_f H c6
      by_cases c8 : p1 = 2
      · have H := if_t H c8
        refine lv_tableIn (off := 77) (tgt := 85) hx hb dX9_count_8 (by rw [c8]; decide) (by rw [c8]; decide) (by rw [c8]; decide) (by decide) ?_
        refine lv_aload_n hx hb dX9_count_85 rfl (lv_at hl 1 rfl) ?_
        refine va_get (D := D) (ci := 9) (v := .ref (mAd 4)) (C := RX9) (T := TX9) (N := 27) hx hb hts hiX9 hown hK G.1 0 rfl rfl 5 (by decide) lk1 (fun _ h9 => h9) rfl dX9_count_86 ?_
        refine lv_iload_n hx hb dX9_count_89 rfl (lv_at hl 2 rfl) ?_
        obtain ⟨hb9, H⟩ := gd_some H
        refine g_iald (v := bay (ix p1)) hx hb hK G.1 4 1 rfl rfl hb9 rfl dX9_count_90 ?_
        obtain rfl := Option.some.inj H
        exact ret_i C G rfl dX9_count_91
      · have H := if_f H c8
        by_cases c10 : p1 = 3
        · have H := if_t H c10
          refine lv_tableIn (off := 84) (tgt := 92) hx hb dX9_count_8 (by rw [c10]; decide) (by rw [c10]; decide) (by rw [c10]; decide) (by decide) ?_
          refine lv_iconst (v := 0) hx hb dX9_count_92 (by decide) ?_
          refine lv_istore_n (lv' := [(3, .int 0), (2, .int 0), (0, .ref (mAd 0)), (1, .int p1)]) hx hb dX9_count_93 rfl hl (by decide) rfl (fun ls hl => ?_)
          obtain ⟨z14, hz14, H⟩ := bd_some H
          refine wl_X9_count_94 C mAd 0 status acts taped latest leng cursor token start till fault faultAt gifts traced lane many item bay fresh thn was tape left gift isKept kept trace _ 0 0 z14 hz14 (fun U locs ls G hl => ?_) _ _ _ G (lv_sub hl [2, 1, 0] rfl)
          have G : Gd D A s (w_M cy mAd 0 status acts taped latest leng cursor token start till fault faultAt gifts traced lane many item bay fresh thn was tape left gift isKept kept trace) U locs := G
          have hl : lv_has ls 4 [(2, .int z14)] := hl
          refine lv_iload_n hx hb dX9_count_123 rfl (lv_at hl 0 rfl) ?_
          obtain rfl := Option.some.inj H
          exact ret_i C G rfl dX9_count_124
        · have H := if_f H c10
          by_cases c15 : p1 = 4
          · have H := if_t H c15
            refine lv_tableIn (off := 117) (tgt := 125) hx hb dX9_count_8 (by rw [c15]; decide) (by rw [c15]; decide) (by rw [c15]; decide) (by decide) ?_
            refine lv_aload_n hx hb dX9_count_125 rfl (lv_at hl 1 rfl) ?_
            refine va_get (D := D) (ci := 9) (v := .int acts) (C := RX9) (T := TX9) (N := 27) hx hb hts hiX9 hown hK G.1 0 rfl rfl 9 (by decide) lk2 (fun _ h9 => h9) rfl dX9_count_126 ?_
            obtain rfl := Option.some.inj H
            exact ret_i C G rfl dX9_count_129
          · have H := if_f H c15
            by_cases c16 : p1 = 5
            · have H := if_t H c16
              refine lv_tableIn (off := 122) (tgt := 130) hx hb dX9_count_8 (by rw [c16]; decide) (by rw [c16]; decide) (by rw [c16]; decide) (by decide) ?_
              refine lv_bipush (v := 39) hx hb dX9_count_130 (by decide) ?_
              refine lv_istore_n (lv' := [(3, .int 39), (2, .int 0), (0, .ref (mAd 0)), (1, .int p1)]) hx hb dX9_count_132 rfl hl (by decide) rfl (fun ls hl => ?_)
              obtain ⟨z20, hz20, H⟩ := bd_some H
              refine wl_X9_count_133 C mAd 0 status acts taped latest leng cursor token start till fault faultAt gifts traced lane many item bay fresh thn was tape left gift isKept kept trace _ 0 39 z20 hz20 (fun U locs ls G hl => ?_) _ _ _ G (lv_sub hl [2, 1, 0] rfl)
              have G : Gd D A s (w_M cy mAd 0 status acts taped latest leng cursor token start till fault faultAt gifts traced lane many item bay fresh thn was tape left gift isKept kept trace) U locs := G
              have hl : lv_has ls 4 [(2, .int z20)] := hl
              refine lv_iload_n hx hb dX9_count_162 rfl (lv_at hl 0 rfl) ?_
              obtain rfl := Option.some.inj H
              exact ret_i C G rfl dX9_count_163
            · have H := if_f H c16
              by_cases c21 : p1 = 6
              · have H := if_t H c21
                refine lv_tableIn (off := 156) (tgt := 164) hx hb dX9_count_8 (by rw [c21]; decide) (by rw [c21]; decide) (by rw [c21]; decide) (by decide) ?_
                refine lv_aload_n hx hb dX9_count_164 rfl (lv_at hl 1 rfl) ?_
                refine va_get (D := D) (ci := 9) (v := .int taped) (C := RX9) (T := TX9) (N := 27) hx hb hts hiX9 hown hK G.1 0 rfl rfl 11 (by decide) lk3 (fun _ h9 => h9) rfl dX9_count_165 ?_
                obtain rfl := Option.some.inj H
                exact ret_i C G rfl dX9_count_168
              · have H := if_f H c21
                have hout := sw_out (x := p1) (lo := 0) (hi := 6) (fun k h1 h2 => by
                    have hk : k = 0 ∨ k = 1 ∨ k = 2 ∨ k = 3 ∨ k = 4 ∨ k = 5 ∨ k = 6 := by omega
                    rcases hk with rfl | rfl | rfl | rfl | rfl | rfl | rfl
                    · exact c1
                    · exact c6
                    · exact c8
                    · exact c10
                    · exact c15
                    · exact c16
                    · exact c21)
                refine lv_tableOut (tgt := 169) hx hb dX9_count_8 hout (by decide) ?_
                refine lv_ldc hx hb hown lk4 dX9_count_169 ?_
                obtain rfl := Option.some.inj H
                exact ret_i C G rfl dX9_count_171
def f_X9_status (thrown status : Int32) : Option (Int32 × Int32) := some (status, 0)
set_option maxHeartbeats 4000000 in
set_option maxRecDepth 100000 in
theorem c_X9_status (l : Launch) (D : va_G) (cy : Nat → ClassId) (mAd : Nat → Nat) (thrown status acts taped latest leng cursor token start till fault faultAt gifts traced : Int32) (lane many item bay fresh thn was tape left gift isKept kept trace : Nat → Int32) (z : (Int32 × Int32)) (hz : f_X9_status thrown status = some z) : MI l yX9_status wsX9_status ({ frames := 0, cells := 0, slots := 0, locals := 0 } : Room) D cy [.ref (mAd 0)] (w_M cy mAd thrown status acts taped latest leng cursor token start till fault faultAt gifts traced lane many item bay fresh thn was tape left gift isKept kept trace) z.1 (w_M cy mAd z.2 status acts taped latest leng cursor token start till fault faultAt gifts traced lane many item bay fresh thn was tape left gift isKept kept trace) := by
  refine met_start (Qf := fun A => MQi D cy z.1 (w_M cy mAd z.2 status acts taped latest leng cursor token start till fault faultAt gifts traced lane many item bay fresh thn was tape left gift isKept kept trace) A) (cc := cX9_status) (nL := 1) (ret := (some .int)) RX9 rfl (by decide) rfl (Nat.le_of_ble_eq_true rfl) ?_
  intro p e s m below meth c A ls C G hl
  have hl : lv_has ls 1 [(0, .ref (mAd 0))] := hl
  have H := hz
  unfold f_X9_status at H
  obtain ⟨hx, hb, hr, hml, hown, hts, hlk, hK, hA, hE⟩ := id C
  have lk0 := hts (Cond.fieldLink RX9 50 "TideDebtsModel" "thrown" "I") (List.mem_of_getElem? (i := 1) rfl)
  have lk1 := hts (Cond.fieldLink RX9 54 "TideDebtsModel" "status" "I") (List.mem_of_getElem? (i := 2) rfl)
  have hiX9 : ∀ w ∈ u_ws RX9 TX9 27, w ∈ wsX9_status := fun _ h => List.mem_cons_of_mem _ (List.mem_append_right _ h)
  refine lv_aload_n hx hb dX9_status_0 rfl (lv_at hl 0 rfl) ?_
  refine lv_iconst (v := 0) hx hb dX9_status_1 (by decide) ?_
  refine va_put (D := D) (ci := 9) (v := .int 0) (ty := .int) (C := RX9) (T := TX9) (N := 27) hx hb hts hiX9 tyX9 tyX9_ok nmX9 hown hK G.1 G.2.1 G.2.2 0 rfl rfl 0 (by decide) lk0 (fun _ h9 => h9) rfl (tyX9_ok 0 (by decide)) rfl rfl (Nat.le_of_ble_eq_true rfl) dX9_status_2 (fun U locs hP hD hS => ?_)
  have G : Gd D A s (w_M cy mAd 0 status acts taped latest leng cursor token start till fault faultAt gifts traced lane many item bay fresh thn was tape left gift isKept kept trace) U locs := ⟨hP, hD, hS⟩
  refine lv_aload_n hx hb dX9_status_5 rfl (lv_at hl 0 rfl) ?_
  refine va_get (D := D) (ci := 9) (v := .int status) (C := RX9) (T := TX9) (N := 27) hx hb hts hiX9 hown hK G.1 0 rfl rfl 1 (by decide) lk1 (fun _ h9 => h9) rfl dX9_status_6 ?_
  obtain rfl := Option.some.inj H
  exact ret_i C G rfl dX9_status_9
