def f_X9_flows (thn : Nat → Int32) (p1 p2 : Int32) : Option (Nat → Int32) := bd (f_X9_at p1 1) (fun z1 => bd (f_X9_at p1 2) (fun z2 => if p2 ≤ 0 then (gd (inb z1 75) (if (thn (ix z1)) ≤ (-p2) then (gd (inb z2 75) (some (upd (upd thn (ix z1) ((thn (ix z1)) - (thn (ix z1)))) (ix z2) (((upd thn (ix z1) ((thn (ix z1)) - (thn (ix z1)))) (ix z2)) + ((-p2) - (thn (ix z1))))))) else (gd (inb z2 75) (some (upd (upd thn (ix z1) ((thn (ix z1)) - (-p2))) (ix z2) (((upd thn (ix z1) ((thn (ix z1)) - (-p2))) (ix z2)) + ((-p2) - (-p2)))))))) else (gd (inb z2 75) (if (thn (ix z2)) ≤ p2 then (gd (inb z1 75) (some (upd (upd thn (ix z2) ((thn (ix z2)) - (thn (ix z2)))) (ix z1) (((upd thn (ix z2) ((thn (ix z2)) - (thn (ix z2)))) (ix z1)) + (p2 - (thn (ix z2))))))) else (gd (inb z1 75) (some (upd (upd thn (ix z2) ((thn (ix z2)) - p2)) (ix z1) (((upd thn (ix z2) ((thn (ix z2)) - p2)) (ix z1)) + (p2 - p2)))))))))
set_option maxHeartbeats 4000000 in
set_option maxRecDepth 100000 in
theorem c_X9_flows (l : Launch) (D : va_G) (cy : Nat → ClassId) (mAd : Nat → Nat) (thrown status acts taped latest leng cursor token start till fault faultAt gifts traced : Int32) (lane many item bay fresh thn was tape left gift isKept kept trace : Nat → Int32) (p1 p2 : Int32) (z : (Nat → Int32)) (hz : f_X9_flows thn p1 p2 = some z) : MV l yX9_flows wsX9_flows ({ frames := 1, cells := 0, slots := 0, locals := 21 } : Room) D cy [.ref (mAd 0), .int p1, .int p2] (w_M cy mAd thrown status acts taped latest leng cursor token start till fault faultAt gifts traced lane many item bay fresh thn was tape left gift isKept kept trace) (w_M cy mAd thrown status acts taped latest leng cursor token start till fault faultAt gifts traced lane many item bay fresh z was tape left gift isKept kept trace) := by
  refine met_start (Qf := fun A => MQv D cy (w_M cy mAd thrown status acts taped latest leng cursor token start till fault faultAt gifts traced lane many item bay fresh z was tape left gift isKept kept trace) A) (cc := cX9_flows) (nL := 6) (ret := none) RX9 rfl (by decide) rfl (Nat.le_of_ble_eq_true rfl) ?_
  intro p e s m below meth c A ls C G hl
  have hl : lv_has ls 6 [(0, .ref (mAd 0)), (1, .int p1), (2, .int p2)] := hl
  have H := hz
  unfold f_X9_flows at H
  obtain ⟨hx, hb, hr, hml, hown, hts, hlk, hK, hA, hE⟩ := id C
  have lk0 := hts (Cond.fieldLink RX9 25 "TideDebtsModel" "then" "[I") (List.mem_of_getElem? (i := 1) rfl)
  have hiX9 : ∀ w ∈ u_ws RX9 TX9 27, w ∈ wsX9_flows := fun _ h => List.mem_cons_of_mem _ (List.mem_append_right _ h)
  refine lv_iload_n hx hb dX9_flows_0 rfl (lv_at hl 1 rfl) ?_
  refine lv_iconst (v := 1) hx hb dX9_flows_1 (by decide) ?_
  obtain ⟨z1, hz1, H⟩ := bd_some H
  refine MI.callS z1 [.int p1, .int 1] [] [] C G (c_X9_at l D cy p1 1 z1 hz1) gX9_flows_X9_at rfl rfl rfl (n := 2) (by decide +kernel) ⟨Nat.le_of_ble_eq_true rfl, Nat.le_of_ble_eq_true rfl⟩ rfl rfl rfl rfl hl.1 rfl (Nat.le_of_ble_eq_true rfl) dX9_flows_2 ⟨Nat.zero_le _, Nat.zero_le _⟩ (fun U locs G => ?_)
  have G : Gd D A s (w_M cy mAd thrown status acts taped latest leng cursor token start till fault faultAt gifts traced lane many item bay fresh thn was tape left gift isKept kept trace) U locs := G
  refine lv_istore_n (lv' := [(3, .int z1), (0, .ref (mAd 0)), (1, .int p1), (2, .int p2)]) hx hb dX9_flows_5 rfl hl (by decide) rfl (fun ls hl => ?_)
  refine lv_iload_n hx hb dX9_flows_6 rfl (lv_at hl 2 rfl) ?_
  refine lv_iconst (v := 2) hx hb dX9_flows_7 (by decide) ?_
  obtain ⟨z2, hz2, H⟩ := bd_some H
  refine MI.callS z2 [.int p1, .int 2] [] [] C G (c_X9_at l D cy p1 2 z2 hz2) gX9_flows_X9_at rfl rfl rfl (n := 2) (by decide +kernel) ⟨Nat.le_of_ble_eq_true rfl, Nat.le_of_ble_eq_true rfl⟩ rfl rfl rfl rfl hl.1 rfl (Nat.le_of_ble_eq_true rfl) dX9_flows_8 ⟨Nat.zero_le _, Nat.zero_le _⟩ (fun U locs G => ?_)
  have G : Gd D A s (w_M cy mAd thrown status acts taped latest leng cursor token start till fault faultAt gifts traced lane many item bay fresh thn was tape left gift isKept kept trace) U locs := G
  refine lv_istore (lv' := [(4, .int z2), (3, .int z1), (0, .ref (mAd 0)), (1, .int p1), (2, .int p2)]) hx hb dX9_flows_11 hl (by decide) rfl (fun ls hl => ?_)
  refine lv_iload_n hx hb dX9_flows_13 rfl (lv_at hl 4 rfl) ?_
  refine lv_if_le (tgt := 69) hx hb dX9_flows_14 (by decide) (fun c3 => ?_) (fun c3 => ?_)
  · have H := if_t H c3
    refine lv_iload_n hx hb dX9_flows_69 rfl (lv_at hl 4 rfl) ?_
    refine lv_ineg hx hb dX9_flows_70 ?_
    refine lv_aload_n hx hb dX9_flows_71 rfl (lv_at hl 2 rfl) ?_
    refine va_get (D := D) (ci := 9) (v := .ref (mAd 6)) (C := RX9) (T := TX9) (N := 27) hx hb hts hiX9 hown hK G.1 0 rfl rfl 7 (by decide) lk0 (fun _ h9 => h9) rfl dX9_flows_72 ?_
    refine lv_iload_n hx hb dX9_flows_75 rfl (lv_at hl 1 rfl) ?_
    obtain ⟨hb4, H⟩ := gd_some H
    refine g_iald (v := thn (ix z1)) hx hb hK G.1 6 1 rfl rfl hb4 rfl dX9_flows_76 ?_
    refine lv_icmp_ge (tgt := 85) hx hb dX9_flows_77 (by decide) (fun c5 => ?_) (fun c5 => ?_)
    · have H := if_t H c5
      refine lv_aload_n hx hb dX9_flows_85 rfl (lv_at hl 2 rfl) ?_
      refine va_get (D := D) (ci := 9) (v := .ref (mAd 6)) (C := RX9) (T := TX9) (N := 27) hx hb hts hiX9 hown hK G.1 0 rfl rfl 7 (by decide) lk0 (fun _ h9 => h9) rfl dX9_flows_86 ?_
      refine lv_iload_n hx hb dX9_flows_89 rfl (lv_at hl 1 rfl) ?_
      refine g_iald (v := thn (ix z1)) hx hb hK G.1 6 1 rfl rfl hb4 rfl dX9_flows_90 ?_
      refine lv_istore (lv' := [(5, .int (thn (ix z1))), (4, .int z2), (3, .int z1), (0, .ref (mAd 0)), (1, .int p1), (2, .int p2)]) hx hb dX9_flows_91 hl (by decide) rfl (fun ls hl => ?_)
      refine lv_aload_n hx hb dX9_flows_93 rfl (lv_at hl 3 rfl) ?_
      refine va_get (D := D) (ci := 9) (v := .ref (mAd 6)) (C := RX9) (T := TX9) (N := 27) hx hb hts hiX9 hown hK G.1 0 rfl rfl 7 (by decide) lk0 (fun _ h9 => h9) rfl dX9_flows_94 ?_
      refine lv_iload_n hx hb dX9_flows_97 rfl (lv_at hl 2 rfl) ?_
      refine lv_dup2_11 hx hb dX9_flows_98 rfl rfl ?_
      refine g_iald (v := thn (ix z1)) hx hb hK G.1 6 1 rfl rfl hb4 rfl dX9_flows_99 ?_
      refine lv_iload hx hb dX9_flows_100 (lv_at hl 0 rfl) ?_
      refine lv_isub hx hb dX9_flows_102 ?_
      refine va_iast hx hb hK G.1 G.2.1 G.2.2 6 1 rfl rfl (inb_in hb4) dX9_flows_103 (fun U locs hP hD hS => ?_)
      have G : Gd D A s (w_M cy mAd thrown status acts taped latest leng cursor token start till fault faultAt gifts traced lane many item bay fresh (upd thn (ix z1) ((thn (ix z1)) - (thn (ix z1)))) was tape left gift isKept kept trace) U locs := ⟨hP, hD, hS⟩
      refine lv_aload_n hx hb dX9_flows_104 rfl (lv_at hl 3 rfl) ?_
      refine va_get (D := D) (ci := 9) (v := .ref (mAd 6)) (C := RX9) (T := TX9) (N := 27) hx hb hts hiX9 hown hK G.1 0 rfl rfl 7 (by decide) lk0 (fun _ h9 => h9) rfl dX9_flows_105 ?_
      refine lv_iload hx hb dX9_flows_108 (lv_at hl 1 rfl) ?_
      refine lv_dup2_11 hx hb dX9_flows_110 rfl rfl ?_
      obtain ⟨hb6, H⟩ := gd_some H
      refine g_iald (v := (upd thn (ix z1) ((thn (ix z1)) - (thn (ix z1)))) (ix z2)) hx hb hK G.1 6 1 rfl rfl hb6 rfl dX9_flows_111 ?_
      refine lv_iload_n hx hb dX9_flows_112 rfl (lv_at hl 5 rfl) ?_
      refine lv_ineg hx hb dX9_flows_113 ?_
      refine lv_iload hx hb dX9_flows_114 (lv_at hl 0 rfl) ?_
      refine lv_isub hx hb dX9_flows_116 ?_
      refine lv_iadd hx hb dX9_flows_117 ?_
      refine va_iast hx hb hK G.1 G.2.1 G.2.2 6 1 rfl rfl (inb_in hb6) dX9_flows_118 (fun U locs hP hD hS => ?_)
      have G : Gd D A s (w_M cy mAd thrown status acts taped latest leng cursor token start till fault faultAt gifts traced lane many item bay fresh (upd (upd thn (ix z1) ((thn (ix z1)) - (thn (ix z1)))) (ix z2) (((upd thn (ix z1) ((thn (ix z1)) - (thn (ix z1)))) (ix z2)) + ((-p2) - (thn (ix z1))))) was tape left gift isKept kept trace) U locs := ⟨hP, hD, hS⟩
      obtain rfl := Option.some.inj H
      exact ret_v C G dX9_flows_119
    · have H := if_f H c5
      refine lv_iload_n hx hb dX9_flows_80 rfl (lv_at hl 4 rfl) ?_
      refine lv_ineg hx hb dX9_flows_81 ?_
      refine lv_goto (tgt := 91) hx hb dX9_flows_82 (by decide) ?_
      refine lv_istore (lv' := [(5, .int (-p2)), (4, .int z2), (3, .int z1), (0, .ref (mAd 0)), (1, .int p1), (2, .int p2)]) hx hb dX9_flows_91 hl (by decide) rfl (fun ls hl => ?_)
      refine lv_aload_n hx hb dX9_flows_93 rfl (lv_at hl 3 rfl) ?_
      refine va_get (D := D) (ci := 9) (v := .ref (mAd 6)) (C := RX9) (T := TX9) (N := 27) hx hb hts hiX9 hown hK G.1 0 rfl rfl 7 (by decide) lk0 (fun _ h9 => h9) rfl dX9_flows_94 ?_
      refine lv_iload_n hx hb dX9_flows_97 rfl (lv_at hl 2 rfl) ?_
      refine lv_dup2_11 hx hb dX9_flows_98 rfl rfl ?_
      refine g_iald (v := thn (ix z1)) hx hb hK G.1 6 1 rfl rfl hb4 rfl dX9_flows_99 ?_
      refine lv_iload hx hb dX9_flows_100 (lv_at hl 0 rfl) ?_
      refine lv_isub hx hb dX9_flows_102 ?_
      refine va_iast hx hb hK G.1 G.2.1 G.2.2 6 1 rfl rfl (inb_in hb4) dX9_flows_103 (fun U locs hP hD hS => ?_)
      have G : Gd D A s (w_M cy mAd thrown status acts taped latest leng cursor token start till fault faultAt gifts traced lane many item bay fresh (upd thn (ix z1) ((thn (ix z1)) - (-p2))) was tape left gift isKept kept trace) U locs := ⟨hP, hD, hS⟩
      refine lv_aload_n hx hb dX9_flows_104 rfl (lv_at hl 3 rfl) ?_
      refine va_get (D := D) (ci := 9) (v := .ref (mAd 6)) (C := RX9) (T := TX9) (N := 27) hx hb hts hiX9 hown hK G.1 0 rfl rfl 7 (by decide) lk0 (fun _ h9 => h9) rfl dX9_flows_105 ?_
      refine lv_iload hx hb dX9_flows_108 (lv_at hl 1 rfl) ?_
      refine lv_dup2_11 hx hb dX9_flows_110 rfl rfl ?_
      obtain ⟨hb7, H⟩ := gd_some H
      refine g_iald (v := (upd thn (ix z1) ((thn (ix z1)) - (-p2))) (ix z2)) hx hb hK G.1 6 1 rfl rfl hb7 rfl dX9_flows_111 ?_
      refine lv_iload_n hx hb dX9_flows_112 rfl (lv_at hl 5 rfl) ?_
      refine lv_ineg hx hb dX9_flows_113 ?_
      refine lv_iload hx hb dX9_flows_114 (lv_at hl 0 rfl) ?_
      refine lv_isub hx hb dX9_flows_116 ?_
      refine lv_iadd hx hb dX9_flows_117 ?_
      refine va_iast hx hb hK G.1 G.2.1 G.2.2 6 1 rfl rfl (inb_in hb7) dX9_flows_118 (fun U locs hP hD hS => ?_)
      have G : Gd D A s (w_M cy mAd thrown status acts taped latest leng cursor token start till fault faultAt gifts traced lane many item bay fresh (upd (upd thn (ix z1) ((thn (ix z1)) - (-p2))) (ix z2) (((upd thn (ix z1) ((thn (ix z1)) - (-p2))) (ix z2)) + ((-p2) - (-p2)))) was tape left gift isKept kept trace) U locs := ⟨hP, hD, hS⟩
      obtain rfl := Option.some.inj H
      exact ret_v C G dX9_flows_119
  · have H := if_f H c3
    refine lv_iload_n hx hb dX9_flows_17 rfl (lv_at hl 4 rfl) ?_
    refine lv_aload_n hx hb dX9_flows_18 rfl (lv_at hl 2 rfl) ?_
    refine va_get (D := D) (ci := 9) (v := .ref (mAd 6)) (C := RX9) (T := TX9) (N := 27) hx hb hts hiX9 hown hK G.1 0 rfl rfl 7 (by decide) lk0 (fun _ h9 => h9) rfl dX9_flows_19 ?_
    refine lv_iload hx hb dX9_flows_22 (lv_at hl 0 rfl) ?_
    obtain ⟨hb8, H⟩ := gd_some H
    refine g_iald (v := thn (ix z2)) hx hb hK G.1 6 1 rfl rfl hb8 rfl dX9_flows_24 ?_
    refine lv_icmp_ge (tgt := 32) hx hb dX9_flows_25 (by decide) (fun c9 => ?_) (fun c9 => ?_)
    · have H := if_t H c9
      refine lv_aload_n hx hb dX9_flows_32 rfl (lv_at hl 2 rfl) ?_
      refine va_get (D := D) (ci := 9) (v := .ref (mAd 6)) (C := RX9) (T := TX9) (N := 27) hx hb hts hiX9 hown hK G.1 0 rfl rfl 7 (by decide) lk0 (fun _ h9 => h9) rfl dX9_flows_33 ?_
      refine lv_iload hx hb dX9_flows_36 (lv_at hl 0 rfl) ?_
      refine g_iald (v := thn (ix z2)) hx hb hK G.1 6 1 rfl rfl hb8 rfl dX9_flows_38 ?_
      refine lv_istore (lv' := [(5, .int (thn (ix z2))), (4, .int z2), (3, .int z1), (0, .ref (mAd 0)), (1, .int p1), (2, .int p2)]) hx hb dX9_flows_39 hl (by decide) rfl (fun ls hl => ?_)
      refine lv_aload_n hx hb dX9_flows_41 rfl (lv_at hl 3 rfl) ?_
      refine va_get (D := D) (ci := 9) (v := .ref (mAd 6)) (C := RX9) (T := TX9) (N := 27) hx hb hts hiX9 hown hK G.1 0 rfl rfl 7 (by decide) lk0 (fun _ h9 => h9) rfl dX9_flows_42 ?_
      refine lv_iload hx hb dX9_flows_45 (lv_at hl 1 rfl) ?_
      refine lv_dup2_11 hx hb dX9_flows_47 rfl rfl ?_
      refine g_iald (v := thn (ix z2)) hx hb hK G.1 6 1 rfl rfl hb8 rfl dX9_flows_48 ?_
      refine lv_iload hx hb dX9_flows_49 (lv_at hl 0 rfl) ?_
      refine lv_isub hx hb dX9_flows_51 ?_
      refine va_iast hx hb hK G.1 G.2.1 G.2.2 6 1 rfl rfl (inb_in hb8) dX9_flows_52 (fun U locs hP hD hS => ?_)
      have G : Gd D A s (w_M cy mAd thrown status acts taped latest leng cursor token start till fault faultAt gifts traced lane many item bay fresh (upd thn (ix z2) ((thn (ix z2)) - (thn (ix z2)))) was tape left gift isKept kept trace) U locs := ⟨hP, hD, hS⟩
      refine lv_aload_n hx hb dX9_flows_53 rfl (lv_at hl 3 rfl) ?_
      refine va_get (D := D) (ci := 9) (v := .ref (mAd 6)) (C := RX9) (T := TX9) (N := 27) hx hb hts hiX9 hown hK G.1 0 rfl rfl 7 (by decide) lk0 (fun _ h9 => h9) rfl dX9_flows_54 ?_
      refine lv_iload_n hx hb dX9_flows_57 rfl (lv_at hl 2 rfl) ?_
      refine lv_dup2_11 hx hb dX9_flows_58 rfl rfl ?_
      obtain ⟨hb10, H⟩ := gd_some H
      refine g_iald (v := (upd thn (ix z2) ((thn (ix z2)) - (thn (ix z2)))) (ix z1)) hx hb hK G.1 6 1 rfl rfl hb10 rfl dX9_flows_59 ?_
      refine lv_iload_n hx hb dX9_flows_60 rfl (lv_at hl 5 rfl) ?_
      refine lv_iload hx hb dX9_flows_61 (lv_at hl 0 rfl) ?_
      refine lv_isub hx hb dX9_flows_63 ?_
      refine lv_iadd hx hb dX9_flows_64 ?_
      refine va_iast hx hb hK G.1 G.2.1 G.2.2 6 1 rfl rfl (inb_in hb10) dX9_flows_65 (fun U locs hP hD hS => ?_)
      have G : Gd D A s (w_M cy mAd thrown status acts taped latest leng cursor token start till fault faultAt gifts traced lane many item bay fresh (upd (upd thn (ix z2) ((thn (ix z2)) - (thn (ix z2)))) (ix z1) (((upd thn (ix z2) ((thn (ix z2)) - (thn (ix z2)))) (ix z1)) + (p2 - (thn (ix z2))))) was tape left gift isKept kept trace) U locs := ⟨hP, hD, hS⟩
      refine lv_goto (tgt := 119) hx hb dX9_flows_66 (by decide) ?_
      obtain rfl := Option.some.inj H
      exact ret_v C G dX9_flows_119
    · have H := if_f H c9
      refine lv_iload_n hx hb dX9_flows_28 rfl (lv_at hl 4 rfl) ?_
      refine lv_goto (tgt := 39) hx hb dX9_flows_29 (by decide) ?_
      refine lv_istore (lv' := [(5, .int p2), (4, .int z2), (3, .int z1), (0, .ref (mAd 0)), (1, .int p1), (2, .int p2)]) hx hb dX9_flows_39 hl (by decide) rfl (fun ls hl => ?_)
      refine lv_aload_n hx hb dX9_flows_41 rfl (lv_at hl 3 rfl) ?_
      refine va_get (D := D) (ci := 9) (v := .ref (mAd 6)) (C := RX9) (T := TX9) (N := 27) hx hb hts hiX9 hown hK G.1 0 rfl rfl 7 (by decide) lk0 (fun _ h9 => h9) rfl dX9_flows_42 ?_
      refine lv_iload hx hb dX9_flows_45 (lv_at hl 1 rfl) ?_
      refine lv_dup2_11 hx hb dX9_flows_47 rfl rfl ?_
      refine g_iald (v := thn (ix z2)) hx hb hK G.1 6 1 rfl rfl hb8 rfl dX9_flows_48 ?_
      refine lv_iload hx hb dX9_flows_49 (lv_at hl 0 rfl) ?_
      refine lv_isub hx hb dX9_flows_51 ?_
      refine va_iast hx hb hK G.1 G.2.1 G.2.2 6 1 rfl rfl (inb_in hb8) dX9_flows_52 (fun U locs hP hD hS => ?_)
      have G : Gd D A s (w_M cy mAd thrown status acts taped latest leng cursor token start till fault faultAt gifts traced lane many item bay fresh (upd thn (ix z2) ((thn (ix z2)) - p2)) was tape left gift isKept kept trace) U locs := ⟨hP, hD, hS⟩
      refine lv_aload_n hx hb dX9_flows_53 rfl (lv_at hl 3 rfl) ?_
      refine va_get (D := D) (ci := 9) (v := .ref (mAd 6)) (C := RX9) (T := TX9) (N := 27) hx hb hts hiX9 hown hK G.1 0 rfl rfl 7 (by decide) lk0 (fun _ h9 => h9) rfl dX9_flows_54 ?_
      refine lv_iload_n hx hb dX9_flows_57 rfl (lv_at hl 2 rfl) ?_
      refine lv_dup2_11 hx hb dX9_flows_58 rfl rfl ?_
      obtain ⟨hb11, H⟩ := gd_some H
      refine g_iald (v := (upd thn (ix z2) ((thn (ix z2)) - p2)) (ix z1)) hx hb hK G.1 6 1 rfl rfl hb11 rfl dX9_flows_59 ?_
      refine lv_iload_n hx hb dX9_flows_60 rfl (lv_at hl 5 rfl) ?_
      refine lv_iload hx hb dX9_flows_61 (lv_at hl 0 rfl) ?_
      refine lv_isub hx hb dX9_flows_63 ?_
      refine lv_iadd hx hb dX9_flows_64 ?_
      refine va_iast hx hb hK G.1 G.2.1 G.2.2 6 1 rfl rfl (inb_in hb11) dX9_flows_65 (fun U locs hP hD hS => ?_)
      have G : Gd D A s (w_M cy mAd thrown status acts taped latest leng cursor token start till fault faultAt gifts traced lane many item bay fresh (upd (upd thn (ix z2) ((thn (ix z2)) - p2)) (ix z1) (((upd thn (ix z2) ((thn (ix z2)) - p2)) (ix z1)) + (p2 - p2))) was tape left gift isKept kept trace) U locs := ⟨hP, hD, hS⟩
      refine lv_goto (tgt := 119) hx hb dX9_flows_66 (by decide) ?_
      obtain rfl := Option.some.inj H
      exact ret_v C G dX9_flows_119
def f_X9_goHour_L13 (bay : Nat → Int32) : Nat → (Nat → Int32) → Int32 → Option (Nat → Int32)
  | 0, _, _ => none
  | n + 1, thn, x2 => if (bay 1) ≤ x2 then (some thn) else (bd (f_X9_flowOf bay x2 (thn 2)) (fun z3 => bd (f_X9_flows thn x2 z3) (fun z4 => f_X9_goHour_L13 bay n z4 (x2 + 1))))
theorem f_X9_goHour_L13_z (bay : Nat → Int32) (thn : Nat → Int32) (x2 : Int32) : f_X9_goHour_L13 bay 0 thn x2 = none := rfl
theorem f_X9_goHour_L13_s (bay : Nat → Int32) (n : Nat) (thn : Nat → Int32) (x2 : Int32) : f_X9_goHour_L13 bay (n + 1) thn x2 = if (bay 1) ≤ x2 then (some thn) else (bd (f_X9_flowOf bay x2 (thn 2)) (fun z3 => bd (f_X9_flows thn x2 z3) (fun z4 => f_X9_goHour_L13 bay n z4 (x2 + 1)))) := rfl
set_option maxHeartbeats 4000000 in
set_option maxRecDepth 100000 in
theorem wl_X9_goHour_13 {p : Program} {l : Launch} {e : Env} {s : State} {m : MethodId} {below : List Frame} {meth : Method} {c : Code} {D : va_G} {cy : Nat → ClassId} {A : Nat → Prop} {args : Array Value} {Q : State → Prop} (C : Cx D cy A p s m meth c cX9_goHour 4 none wsX9_goHour RX9 args) (mAd : Nat → Nat) (thrown status acts taped latest leng cursor token start till fault faultAt gifts traced : Int32) (lane many item bay fresh was tape left gift isKept kept trace : Nat → Int32) (x1 : Int32) :
    ∀ (n : Nat) (thn : Nat → Int32) (x2 : Int32) (z : (Nat → Int32)), f_X9_goHour_L13 bay n thn x2 = some z → (∀ (U : Heap) (locs : List Loc) (ls : Array Slot), Gd D A s (w_M cy mAd thrown status acts taped latest leng cursor token start till fault faultAt gifts traced lane many item bay fresh z was tape left gift isKept kept trace) U locs → lv_has ls 4 [(0, .ref (mAd 0)), (1, .int x1)] → W p l e ({ frames := 2, cells := 0, slots := 0, locals := 46 } : Room) s m args below meth c U locs 0 0 Q (F0 m 45 ls [])) → ∀ (U : Heap) (locs : List Loc) (ls : Array Slot), Gd D A s (w_M cy mAd thrown status acts taped latest leng cursor token start till fault faultAt gifts traced lane many item bay fresh thn was tape left gift isKept kept trace) U locs → lv_has ls 4 [(0, .ref (mAd 0)), (1, .int x1), (2, .int x2)] → W p l e ({ frames := 2, cells := 0, slots := 0, locals := 46 } : Room) s m args below meth c U locs 0 0 Q (F0 m 13 ls []) := by
  obtain ⟨hx, hb, hr, hml, hown, hts, hlk, hK, hA, hE⟩ := id C
  have lk0 := hts (Cond.fieldLink RX9 19 "TideDebtsModel" "bay" "[I") (List.mem_of_getElem? (i := 2) rfl)
  have lk1 := hts (Cond.fieldLink RX9 25 "TideDebtsModel" "then" "[I") (List.mem_of_getElem? (i := 1) rfl)
  have hiX9 : ∀ w ∈ u_ws RX9 TX9 27, w ∈ wsX9_goHour := fun _ h => List.mem_cons_of_mem _ (List.mem_append_right _ h)
  intro n
  induction n with
  | zero =>
    intro thn x2 z H
    rw [f_X9_goHour_L13_z] at H
    cases H
  | succ n ih =>
    intro thn x2 z H kk U locs ls G hl
    rw [f_X9_goHour_L13_s] at H
    refine lv_iload_n hx hb dX9_goHour_13 rfl (lv_at hl 2 rfl) ?_
    refine lv_aload_n hx hb dX9_goHour_14 rfl (lv_at hl 0 rfl) ?_
    refine va_get (D := D) (ci := 9) (v := .ref (mAd 4)) (C := RX9) (T := TX9) (N := 27) hx hb hts hiX9 hown hK G.1 0 rfl rfl 5 (by decide) lk0 (fun _ h9 => h9) rfl dX9_goHour_15 ?_
    refine lv_iconst (v := 1) hx hb dX9_goHour_18 (by decide) ?_
    refine g_iald (v := bay 1) hx hb hK G.1 4 1 rfl rfl (by decide) rfl dX9_goHour_19 ?_
    refine lv_icmp_ge (tgt := 45) hx hb dX9_goHour_20 (by decide) (fun c2 => ?_) (fun c2 => ?_)
    · have H := if_t H c2
      obtain rfl := Option.some.inj H
      exact kk _ _ _ G (lv_sub hl [0, 1] rfl)
    · have H := if_f H c2
      refine lv_aload_n hx hb dX9_goHour_23 rfl (lv_at hl 0 rfl) ?_
      refine lv_iload_n hx hb dX9_goHour_24 rfl (lv_at hl 2 rfl) ?_
      refine lv_aload_n hx hb dX9_goHour_25 rfl (lv_at hl 0 rfl) ?_
      refine lv_iload_n hx hb dX9_goHour_26 rfl (lv_at hl 2 rfl) ?_
      refine lv_aload_n hx hb dX9_goHour_27 rfl (lv_at hl 0 rfl) ?_
      refine va_get (D := D) (ci := 9) (v := .ref (mAd 6)) (C := RX9) (T := TX9) (N := 27) hx hb hts hiX9 hown hK G.1 0 rfl rfl 7 (by decide) lk1 (fun _ h9 => h9) rfl dX9_goHour_28 ?_
      refine lv_iconst (v := 2) hx hb dX9_goHour_31 (by decide) ?_
      refine g_iald (v := thn 2) hx hb hK G.1 6 1 rfl rfl (by decide) rfl dX9_goHour_32 ?_
      obtain ⟨z3, hz3, H⟩ := bd_some H
      refine MI.callVw z3 [.int x2, .int (thn 2)] [.int x2, .ref (mAd 0)] C G (c_X9_flowOf l D cy mAd thrown status acts taped latest leng cursor token start till fault faultAt gifts traced lane many item bay fresh thn was tape left gift isKept kept trace x2 (thn 2) z3 hz3) gX9_goHour_X9_flowOf rfl rfl rfl (n := 2) (by decide +kernel) ⟨Nat.le_of_ble_eq_true rfl, Nat.le_of_ble_eq_true rfl⟩ (q0 := 0) (ci := 9) rfl rfl rfl rfl hl.1 rfl (Nat.le_of_ble_eq_true rfl) dX9_goHour_33 ⟨Nat.zero_le _, Nat.zero_le _⟩ (fun U locs G => ?_)
      have G : Gd D A s (w_M cy mAd thrown status acts taped latest leng cursor token start till fault faultAt gifts traced lane many item bay fresh thn was tape left gift isKept kept trace) U locs := G
      obtain ⟨z4, hz4, H⟩ := bd_some H
      refine MV.callVw [.int x2, .int z3] [] C G (c_X9_flows l D cy mAd thrown status acts taped latest leng cursor token start till fault faultAt gifts traced lane many item bay fresh thn was tape left gift isKept kept trace x2 z3 z4 hz4) gX9_goHour_X9_flows rfl rfl rfl (n := 2) (by decide +kernel) ⟨Nat.le_of_ble_eq_true rfl, Nat.le_of_ble_eq_true rfl⟩ (q0 := 0) (ci := 9) rfl rfl rfl rfl hl.1 rfl (Nat.le_of_ble_eq_true rfl) dX9_goHour_36 ⟨Nat.zero_le _, Nat.zero_le _⟩ (fun U locs G => ?_)
      have G : Gd D A s (w_M cy mAd thrown status acts taped latest leng cursor token start till fault faultAt gifts traced lane many item bay fresh z4 was tape left gift isKept kept trace) U locs := G
      refine lv_iinc (v := x2 + 1) (lv' := [(2, .int (x2 + 1)), (0, .ref (mAd 0)), (1, .int x1)]) hx hb dX9_goHour_39 hl (k := 2) rfl rfl (by decide) rfl (fun ls hl => ?_)
      refine lv_goto (tgt := 13) hx hb dX9_goHour_42 (by decide) ?_
      exact ih z4 (x2 + 1) z H kk _ _ _ G (lv_sub hl [1, 2, 0] rfl)
def f_X9_goHour_L60  : Nat → (Nat → Int32) → Int32 → Option (Nat → Int32)
  | 0, _, _ => none
  | n + 1, thn, x2 => if 75 ≤ x2 then (some thn) else (gd (inb x2 75) (if 9999 ≤ ((thn (ix x2)) + ((thn (ix x2)) / 10)) then (f_X9_goHour_L60 n (upd thn (ix x2) 9999) (x2 + 1)) else (f_X9_goHour_L60 n (upd thn (ix x2) ((thn (ix x2)) + ((thn (ix x2)) / 10))) (x2 + 1))))
theorem f_X9_goHour_L60_z  (thn : Nat → Int32) (x2 : Int32) : f_X9_goHour_L60 0 thn x2 = none := rfl
theorem f_X9_goHour_L60_s  (n : Nat) (thn : Nat → Int32) (x2 : Int32) : f_X9_goHour_L60 (n + 1) thn x2 = if 75 ≤ x2 then (some thn) else (gd (inb x2 75) (if 9999 ≤ ((thn (ix x2)) + ((thn (ix x2)) / 10)) then (f_X9_goHour_L60 n (upd thn (ix x2) 9999) (x2 + 1)) else (f_X9_goHour_L60 n (upd thn (ix x2) ((thn (ix x2)) + ((thn (ix x2)) / 10))) (x2 + 1)))) := rfl
set_option maxHeartbeats 4000000 in
set_option maxRecDepth 100000 in
theorem wl_X9_goHour_60 {p : Program} {l : Launch} {e : Env} {s : State} {m : MethodId} {below : List Frame} {meth : Method} {c : Code} {D : va_G} {cy : Nat → ClassId} {A : Nat → Prop} {args : Array Value} {Q : State → Prop} (C : Cx D cy A p s m meth c cX9_goHour 4 none wsX9_goHour RX9 args) (mAd : Nat → Nat) (thrown status acts taped latest leng cursor token start till fault faultAt gifts traced : Int32) (lane many item bay fresh was tape left gift isKept kept trace : Nat → Int32) :
    ∀ (n : Nat) (thn : Nat → Int32) (x2 : Int32) (z : (Nat → Int32)), f_X9_goHour_L60 n thn x2 = some z → (∀ (U : Heap) (locs : List Loc) (ls : Array Slot), Gd D A s (w_M cy mAd thrown status acts taped latest leng cursor token start till fault faultAt gifts traced lane many item bay fresh z was tape left gift isKept kept trace) U locs → lv_has ls 4 [(0, .ref (mAd 0))] → W p l e ({ frames := 2, cells := 0, slots := 0, locals := 46 } : Room) s m args below meth c U locs 0 0 Q (F0 m 109 ls [])) → ∀ (U : Heap) (locs : List Loc) (ls : Array Slot), Gd D A s (w_M cy mAd thrown status acts taped latest leng cursor token start till fault faultAt gifts traced lane many item bay fresh thn was tape left gift isKept kept trace) U locs → lv_has ls 4 [(0, .ref (mAd 0)), (2, .int x2)] → W p l e ({ frames := 2, cells := 0, slots := 0, locals := 46 } : Room) s m args below meth c U locs 0 0 Q (F0 m 60 ls []) := by
  obtain ⟨hx, hb, hr, hml, hown, hts, hlk, hK, hA, hE⟩ := id C
  have lk0 := hts (Cond.fieldLink RX9 25 "TideDebtsModel" "then" "[I") (List.mem_of_getElem? (i := 1) rfl)
  have hiX9 : ∀ w ∈ u_ws RX9 TX9 27, w ∈ wsX9_goHour := fun _ h => List.mem_cons_of_mem _ (List.mem_append_right _ h)
  intro n
  induction n with
  | zero =>
    intro thn x2 z H
    rw [f_X9_goHour_L60_z] at H
    cases H
  | succ n ih =>
    intro thn x2 z H kk U locs ls G hl
    rw [f_X9_goHour_L60_s] at H
    refine lv_iload_n hx hb dX9_goHour_60 rfl (lv_at hl 1 rfl) ?_
    refine lv_bipush (v := 75) hx hb dX9_goHour_61 (by decide) ?_
    refine lv_icmp_ge (tgt := 109) hx hb dX9_goHour_63 (by decide) (fun c8 => ?_) (fun c8 => ?_)
    · have H := if_t H c8
      obtain rfl := Option.some.inj H
      exact kk _ _ _ G (lv_sub hl [0] rfl)
    · have H := if_f H c8
      refine lv_aload_n hx hb dX9_goHour_66 rfl (lv_at hl 0 rfl) ?_
      refine va_get (D := D) (ci := 9) (v := .ref (mAd 6)) (C := RX9) (T := TX9) (N := 27) hx hb hts hiX9 hown hK G.1 0 rfl rfl 7 (by decide) lk0 (fun _ h9 => h9) rfl dX9_goHour_67 ?_
      refine lv_iload_n hx hb dX9_goHour_70 rfl (lv_at hl 1 rfl) ?_
      obtain ⟨hb9, H⟩ := gd_some H
      refine g_iald (v := thn (ix x2)) hx hb hK G.1 6 1 rfl rfl hb9 rfl dX9_goHour_71 ?_
      refine lv_aload_n hx hb dX9_goHour_72 rfl (lv_at hl 0 rfl) ?_
      refine va_get (D := D) (ci := 9) (v := .ref (mAd 6)) (C := RX9) (T := TX9) (N := 27) hx hb hts hiX9 hown hK G.1 0 rfl rfl 7 (by decide) lk0 (fun _ h9 => h9) rfl dX9_goHour_73 ?_
      refine lv_iload_n hx hb dX9_goHour_76 rfl (lv_at hl 1 rfl) ?_
      refine g_iald (v := thn (ix x2)) hx hb hK G.1 6 1 rfl rfl hb9 rfl dX9_goHour_77 ?_
      refine lv_bipush (v := 10) hx hb dX9_goHour_78 (by decide) ?_
      refine lv_idiv hx hb dX9_goHour_80 (by decide) ?_
      refine lv_iadd hx hb dX9_goHour_81 ?_
      refine lv_istore_n (lv' := [(3, .int ((thn (ix x2)) + ((thn (ix x2)) / 10))), (0, .ref (mAd 0)), (2, .int x2)]) hx hb dX9_goHour_82 rfl hl (by decide) rfl (fun ls hl => ?_)
      refine lv_aload_n hx hb dX9_goHour_83 rfl (lv_at hl 1 rfl) ?_
      refine va_get (D := D) (ci := 9) (v := .ref (mAd 6)) (C := RX9) (T := TX9) (N := 27) hx hb hts hiX9 hown hK G.1 0 rfl rfl 7 (by decide) lk0 (fun _ h9 => h9) rfl dX9_goHour_84 ?_
      refine lv_iload_n hx hb dX9_goHour_87 rfl (lv_at hl 2 rfl) ?_
      refine lv_iload_n hx hb dX9_goHour_88 rfl (lv_at hl 0 rfl) ?_
      refine lv_sipush (v := 9999) hx hb dX9_goHour_89 (by decide) ?_
      refine lv_icmp_ge (tgt := 99) hx hb dX9_goHour_92 (by decide) (fun c10 => ?_) (fun c10 => ?_)
      · have H := if_t H c10
        refine lv_sipush (v := 9999) hx hb dX9_goHour_99 (by decide) ?_
        refine va_iast hx hb hK G.1 G.2.1 G.2.2 6 1 rfl rfl (inb_in hb9) dX9_goHour_102 (fun U locs hP hD hS => ?_)
        have G : Gd D A s (w_M cy mAd thrown status acts taped latest leng cursor token start till fault faultAt gifts traced lane many item bay fresh (upd thn (ix x2) 9999) was tape left gift isKept kept trace) U locs := ⟨hP, hD, hS⟩
        refine lv_iinc (v := x2 + 1) (lv' := [(2, .int (x2 + 1)), (3, .int ((thn (ix x2)) + ((thn (ix x2)) / 10))), (0, .ref (mAd 0))]) hx hb dX9_goHour_103 hl (k := 2) rfl rfl (by decide) rfl (fun ls hl => ?_)
        refine lv_goto (tgt := 60) hx hb dX9_goHour_106 (by decide) ?_
        exact ih (upd thn (ix x2) 9999) (x2 + 1) z H kk _ _ _ G (lv_sub hl [2, 0] rfl)
      · have H := if_f H c10
        refine lv_iload_n hx hb dX9_goHour_95 rfl (lv_at hl 0 rfl) ?_
        refine lv_goto (tgt := 102) hx hb dX9_goHour_96 (by decide) ?_
        refine va_iast hx hb hK G.1 G.2.1 G.2.2 6 1 rfl rfl (inb_in hb9) dX9_goHour_102 (fun U locs hP hD hS => ?_)
        have G : Gd D A s (w_M cy mAd thrown status acts taped latest leng cursor token start till fault faultAt gifts traced lane many item bay fresh (upd thn (ix x2) ((thn (ix x2)) + ((thn (ix x2)) / 10))) was tape left gift isKept kept trace) U locs := ⟨hP, hD, hS⟩
        refine lv_iinc (v := x2 + 1) (lv' := [(2, .int (x2 + 1)), (3, .int ((thn (ix x2)) + ((thn (ix x2)) / 10))), (0, .ref (mAd 0))]) hx hb dX9_goHour_103 hl (k := 2) rfl rfl (by decide) rfl (fun ls hl => ?_)
        refine lv_goto (tgt := 60) hx hb dX9_goHour_106 (by decide) ?_
        exact ih (upd thn (ix x2) ((thn (ix x2)) + ((thn (ix x2)) / 10))) (x2 + 1) z H kk _ _ _ G (lv_sub hl [2, 0] rfl)
def f_X9_goHour (bay thn : Nat → Int32) : Option (Nat → Int32) := bd (f_X9_riseAt bay (thn 2)) (fun z1 => bd (f_X9_goHour_L13 bay 2000 thn 0) (fun z5 => bd (f_X9_in z1.toInt64 (-1) 1) (fun z6 => if z6 = 0 then (some (upd z5 2 ((z5 2) + 1))) else (bd (f_X9_goHour_L60 2000 z5 39) (fun z11 => some (upd z11 2 ((z11 2) + 1)))))))
set_option maxHeartbeats 4000000 in
set_option maxRecDepth 100000 in
theorem c_X9_goHour (l : Launch) (D : va_G) (cy : Nat → ClassId) (mAd : Nat → Nat) (thrown status acts taped latest leng cursor token start till fault faultAt gifts traced : Int32) (lane many item bay fresh thn was tape left gift isKept kept trace : Nat → Int32) (z : (Nat → Int32)) (hz : f_X9_goHour bay thn = some z) : MV l yX9_goHour wsX9_goHour ({ frames := 2, cells := 0, slots := 0, locals := 46 } : Room) D cy [.ref (mAd 0)] (w_M cy mAd thrown status acts taped latest leng cursor token start till fault faultAt gifts traced lane many item bay fresh thn was tape left gift isKept kept trace) (w_M cy mAd thrown status acts taped latest leng cursor token start till fault faultAt gifts traced lane many item bay fresh z was tape left gift isKept kept trace) := by
  refine met_start (Qf := fun A => MQv D cy (w_M cy mAd thrown status acts taped latest leng cursor token start till fault faultAt gifts traced lane many item bay fresh z was tape left gift isKept kept trace) A) (cc := cX9_goHour) (nL := 4) (ret := none) RX9 rfl (by decide) rfl (Nat.le_of_ble_eq_true rfl) ?_
  intro p e s m below meth c A ls C G hl
  have hl : lv_has ls 4 [(0, .ref (mAd 0))] := hl
  have H := hz
  unfold f_X9_goHour at H
  obtain ⟨hx, hb, hr, hml, hown, hts, hlk, hK, hA, hE⟩ := id C
  have lk0 := hts (Cond.fieldLink RX9 25 "TideDebtsModel" "then" "[I") (List.mem_of_getElem? (i := 1) rfl)
  have lk1 := hts (Cond.constantLong RX9 190 (-1)) (List.mem_of_getElem? (i := 3) rfl)
  have hiX9 : ∀ w ∈ u_ws RX9 TX9 27, w ∈ wsX9_goHour := fun _ h => List.mem_cons_of_mem _ (List.mem_append_right _ h)
  refine lv_aload_n hx hb dX9_goHour_0 rfl (lv_at hl 0 rfl) ?_
  refine lv_aload_n hx hb dX9_goHour_1 rfl (lv_at hl 0 rfl) ?_
  refine va_get (D := D) (ci := 9) (v := .ref (mAd 6)) (C := RX9) (T := TX9) (N := 27) hx hb hts hiX9 hown hK G.1 0 rfl rfl 7 (by decide) lk0 (fun _ h9 => h9) rfl dX9_goHour_2 ?_
  refine lv_iconst (v := 2) hx hb dX9_goHour_5 (by decide) ?_
  refine g_iald (v := thn 2) hx hb hK G.1 6 1 rfl rfl (by decide) rfl dX9_goHour_6 ?_
  obtain ⟨z1, hz1, H⟩ := bd_some H
  refine MI.callVw z1 [.int (thn 2)] [] C G (c_X9_riseAt l D cy mAd thrown status acts taped latest leng cursor token start till fault faultAt gifts traced lane many item bay fresh thn was tape left gift isKept kept trace (thn 2) z1 hz1) gX9_goHour_X9_riseAt rfl rfl rfl (n := 1) (by decide +kernel) ⟨Nat.le_of_ble_eq_true rfl, Nat.le_of_ble_eq_true rfl⟩ (q0 := 0) (ci := 9) rfl rfl rfl rfl hl.1 rfl (Nat.le_of_ble_eq_true rfl) dX9_goHour_7 ⟨Nat.zero_le _, Nat.zero_le _⟩ (fun U locs G => ?_)
  have G : Gd D A s (w_M cy mAd thrown status acts taped latest leng cursor token start till fault faultAt gifts traced lane many item bay fresh thn was tape left gift isKept kept trace) U locs := G
  refine lv_istore_n (lv' := [(1, .int z1), (0, .ref (mAd 0))]) hx hb dX9_goHour_10 rfl hl (by decide) rfl (fun ls hl => ?_)
  refine lv_iconst (v := 0) hx hb dX9_goHour_11 (by decide) ?_
  refine lv_istore_n (lv' := [(2, .int 0), (1, .int z1), (0, .ref (mAd 0))]) hx hb dX9_goHour_12 rfl hl (by decide) rfl (fun ls hl => ?_)
  obtain ⟨z5, hz5, H⟩ := bd_some H
  refine wl_X9_goHour_13 C mAd thrown status acts taped latest leng cursor token start till fault faultAt gifts traced lane many item bay fresh was tape left gift isKept kept trace z1 _ thn 0 z5 hz5 (fun U locs ls G hl => ?_) _ _ _ G (lv_sub hl [2, 1, 0] rfl)
  have G : Gd D A s (w_M cy mAd thrown status acts taped latest leng cursor token start till fault faultAt gifts traced lane many item bay fresh z5 was tape left gift isKept kept trace) U locs := G
  have hl : lv_has ls 4 [(0, .ref (mAd 0)), (1, .int z1)] := hl
  refine lv_iload_n hx hb dX9_goHour_45 rfl (lv_at hl 1 rfl) ?_
  refine lv_i2l hx hb dX9_goHour_46 rfl ?_
  refine lv_ldc2 hx hb hown lk1 dX9_goHour_47 ?_
  refine lv_lconst (v := 1) hx hb dX9_goHour_50 (by decide) ?_
  obtain ⟨z6, hz6, H⟩ := bd_some H
  refine MI.callS z6 [.long z1.toInt64, .long (-1), .long 1] [] [] C G (c_X9_in l D cy z1.toInt64 (-1) 1 z6 hz6) gX9_goHour_X9_in rfl rfl rfl (n := 3) (by decide +kernel) ⟨Nat.le_of_ble_eq_true rfl, Nat.le_of_ble_eq_true rfl⟩ rfl rfl rfl rfl hl.1 rfl (Nat.le_of_ble_eq_true rfl) dX9_goHour_51 ⟨Nat.zero_le _, Nat.zero_le _⟩ (fun U locs G => ?_)
  have G : Gd D A s (w_M cy mAd thrown status acts taped latest leng cursor token start till fault faultAt gifts traced lane many item bay fresh z5 was tape left gift isKept kept trace) U locs := G
  refine lv_if_eq (tgt := 109) hx hb dX9_goHour_54 (by decide) (fun c7 => ?_) (fun c7 => ?_)
  · have H := if_t H c7
    refine lv_aload_n hx hb dX9_goHour_109 rfl (lv_at hl 0 rfl) ?_
    refine va_get (D := D) (ci := 9) (v := .ref (mAd 6)) (C := RX9) (T := TX9) (N := 27) hx hb hts hiX9 hown hK G.1 0 rfl rfl 7 (by decide) lk0 (fun _ h9 => h9) rfl dX9_goHour_110 ?_
    refine lv_iconst (v := 2) hx hb dX9_goHour_113 (by decide) ?_
    refine lv_dup2_11 hx hb dX9_goHour_114 rfl rfl ?_
    refine g_iald (v := z5 2) hx hb hK G.1 6 1 rfl rfl (by decide) rfl dX9_goHour_115 ?_
    refine lv_iconst (v := 1) hx hb dX9_goHour_116 (by decide) ?_
    refine lv_iadd hx hb dX9_goHour_117 ?_
    refine va_iast hx hb hK G.1 G.2.1 G.2.2 6 1 rfl rfl (inb_in (by decide)) dX9_goHour_118 (fun U locs hP hD hS => ?_)
    have G : Gd D A s (w_M cy mAd thrown status acts taped latest leng cursor token start till fault faultAt gifts traced lane many item bay fresh (upd z5 2 ((z5 2) + 1)) was tape left gift isKept kept trace) U locs := ⟨hP, hD, hS⟩
    obtain rfl := Option.some.inj H
    exact ret_v C G dX9_goHour_119
  · have H := if_f H c7
    refine lv_bipush (v := 39) hx hb dX9_goHour_57 (by decide) ?_
    refine lv_istore_n (lv' := [(2, .int 39), (0, .ref (mAd 0)), (1, .int z1)]) hx hb dX9_goHour_59 rfl hl (by decide) rfl (fun ls hl => ?_)
    obtain ⟨z11, hz11, H⟩ := bd_some H
    refine wl_X9_goHour_60 C mAd thrown status acts taped latest leng cursor token start till fault faultAt gifts traced lane many item bay fresh was tape left gift isKept kept trace _ z5 39 z11 hz11 (fun U locs ls G hl => ?_) _ _ _ G (lv_sub hl [1, 0] rfl)
    have G : Gd D A s (w_M cy mAd thrown status acts taped latest leng cursor token start till fault faultAt gifts traced lane many item bay fresh z11 was tape left gift isKept kept trace) U locs := G
    have hl : lv_has ls 4 [(0, .ref (mAd 0))] := hl
    refine lv_aload_n hx hb dX9_goHour_109 rfl (lv_at hl 0 rfl) ?_
    refine va_get (D := D) (ci := 9) (v := .ref (mAd 6)) (C := RX9) (T := TX9) (N := 27) hx hb hts hiX9 hown hK G.1 0 rfl rfl 7 (by decide) lk0 (fun _ h9 => h9) rfl dX9_goHour_110 ?_
    refine lv_iconst (v := 2) hx hb dX9_goHour_113 (by decide) ?_
    refine lv_dup2_11 hx hb dX9_goHour_114 rfl rfl ?_
    refine g_iald (v := z11 2) hx hb hK G.1 6 1 rfl rfl (by decide) rfl dX9_goHour_115 ?_
    refine lv_iconst (v := 1) hx hb dX9_goHour_116 (by decide) ?_
    refine lv_iadd hx hb dX9_goHour_117 ?_
    refine va_iast hx hb hK G.1 G.2.1 G.2.2 6 1 rfl rfl (inb_in (by decide)) dX9_goHour_118 (fun U locs hP hD hS => ?_)
    have G : Gd D A s (w_M cy mAd thrown status acts taped latest leng cursor token start till fault faultAt gifts traced lane many item bay fresh (upd z11 2 ((z11 2) + 1)) was tape left gift isKept kept trace) U locs := ⟨hP, hD, hS⟩
    obtain rfl := Option.some.inj H
    exact ret_v C G dX9_goHour_119
def f_X9_keep_L51 (acts : Int32) (bay : Nat → Int32) : Nat → (Nat → Int32) → Int32 → Option (Nat → Int32)
  | 0, _, _ => none
  | n + 1, was, x1 => if 75 ≤ x1 then (some was) else (gd (inb x1 75) (gd (inb ((75 * acts) + x1) 1800) (f_X9_keep_L51 acts bay n (upd was (ix ((75 * acts) + x1)) (bay (ix x1))) (x1 + 1))))
theorem f_X9_keep_L51_z (acts : Int32) (bay : Nat → Int32) (was : Nat → Int32) (x1 : Int32) : f_X9_keep_L51 acts bay 0 was x1 = none := rfl
theorem f_X9_keep_L51_s (acts : Int32) (bay : Nat → Int32) (n : Nat) (was : Nat → Int32) (x1 : Int32) : f_X9_keep_L51 acts bay (n + 1) was x1 = if 75 ≤ x1 then (some was) else (gd (inb x1 75) (gd (inb ((75 * acts) + x1) 1800) (f_X9_keep_L51 acts bay n (upd was (ix ((75 * acts) + x1)) (bay (ix x1))) (x1 + 1)))) := rfl
set_option maxHeartbeats 4000000 in
set_option maxRecDepth 100000 in
theorem wl_X9_keep_51 {p : Program} {l : Launch} {e : Env} {s : State} {m : MethodId} {below : List Frame} {meth : Method} {c : Code} {D : va_G} {cy : Nat → ClassId} {A : Nat → Prop} {args : Array Value} {Q : State → Prop} (C : Cx D cy A p s m meth c cX9_keep 2 none wsX9_keep RX9 args) (mAd : Nat → Nat) (thrown status acts taped latest leng cursor token start till fault faultAt gifts traced : Int32) (lane many item bay fresh thn tape left gift isKept kept trace : Nat → Int32) :
    ∀ (n : Nat) (was : Nat → Int32) (x1 : Int32) (z : (Nat → Int32)), f_X9_keep_L51 acts bay n was x1 = some z → (∀ (U : Heap) (locs : List Loc) (ls : Array Slot), Gd D A s (w_M cy mAd thrown status acts taped latest leng cursor token start till fault faultAt gifts traced lane many item bay fresh thn z tape left gift isKept kept trace) U locs → lv_has ls 2 [(0, .ref (mAd 0))] → W p l e ({ frames := 0, cells := 0, slots := 0, locals := 0 } : Room) s m args below meth c U locs 0 0 Q (F0 m 83 ls [])) → ∀ (U : Heap) (locs : List Loc) (ls : Array Slot), Gd D A s (w_M cy mAd thrown status acts taped latest leng cursor token start till fault faultAt gifts traced lane many item bay fresh thn was tape left gift isKept kept trace) U locs → lv_has ls 2 [(0, .ref (mAd 0)), (1, .int x1)] → W p l e ({ frames := 0, cells := 0, slots := 0, locals := 0 } : Room) s m args below meth c U locs 0 0 Q (F0 m 51 ls []) := by
  obtain ⟨hx, hb, hr, hml, hown, hts, hlk, hK, hA, hE⟩ := id C
  have lk0 := hts (Cond.fieldLink RX9 28 "TideDebtsModel" "was" "[I") (List.mem_of_getElem? (i := 2) rfl)
  have lk1 := hts (Cond.fieldLink RX9 171 "TideDebtsModel" "acts" "I") (List.mem_of_getElem? (i := 1) rfl)
  have lk2 := hts (Cond.fieldLink RX9 19 "TideDebtsModel" "bay" "[I") (List.mem_of_getElem? (i := 3) rfl)
  have hiX9 : ∀ w ∈ u_ws RX9 TX9 27, w ∈ wsX9_keep := fun _ h => List.mem_cons_of_mem _ (List.mem_append_right _ h)
  intro n
  induction n with
  | zero =>
    intro was x1 z H
    rw [f_X9_keep_L51_z] at H
    cases H
  | succ n ih =>
    intro was x1 z H kk U locs ls G hl
    rw [f_X9_keep_L51_s] at H
    refine lv_iload_n hx hb dX9_keep_51 rfl (lv_at hl 1 rfl) ?_
    refine lv_bipush (v := 75) hx hb dX9_keep_52 (by decide) ?_
    refine lv_icmp_ge (tgt := 83) hx hb dX9_keep_54 (by decide) (fun c2 => ?_) (fun c2 => ?_)
    · have H := if_t H c2
      obtain rfl := Option.some.inj H
      exact kk _ _ _ G (lv_sub hl [0] rfl)
    · have H := if_f H c2
      refine lv_aload_n hx hb dX9_keep_57 rfl (lv_at hl 0 rfl) ?_
      refine va_get (D := D) (ci := 9) (v := .ref (mAd 7)) (C := RX9) (T := TX9) (N := 27) hx hb hts hiX9 hown hK G.1 0 rfl rfl 8 (by decide) lk0 (fun _ h9 => h9) rfl dX9_keep_58 ?_
      refine lv_bipush (v := 75) hx hb dX9_keep_61 (by decide) ?_
      refine lv_aload_n hx hb dX9_keep_63 rfl (lv_at hl 0 rfl) ?_
      refine va_get (D := D) (ci := 9) (v := .int acts) (C := RX9) (T := TX9) (N := 27) hx hb hts hiX9 hown hK G.1 0 rfl rfl 9 (by decide) lk1 (fun _ h9 => h9) rfl dX9_keep_64 ?_
      refine lv_imul hx hb dX9_keep_67 ?_
      refine lv_iload_n hx hb dX9_keep_68 rfl (lv_at hl 1 rfl) ?_
      refine lv_iadd hx hb dX9_keep_69 ?_
      refine lv_aload_n hx hb dX9_keep_70 rfl (lv_at hl 0 rfl) ?_
      refine va_get (D := D) (ci := 9) (v := .ref (mAd 4)) (C := RX9) (T := TX9) (N := 27) hx hb hts hiX9 hown hK G.1 0 rfl rfl 5 (by decide) lk2 (fun _ h9 => h9) rfl dX9_keep_71 ?_
      refine lv_iload_n hx hb dX9_keep_74 rfl (lv_at hl 1 rfl) ?_
      obtain ⟨hb3, H⟩ := gd_some H
      refine g_iald (v := bay (ix x1)) hx hb hK G.1 4 1 rfl rfl hb3 rfl dX9_keep_75 ?_
      obtain ⟨hb4, H⟩ := gd_some H
      refine va_iast hx hb hK G.1 G.2.1 G.2.2 7 1 rfl rfl (inb_in hb4) dX9_keep_76 (fun U locs hP hD hS => ?_)
      have G : Gd D A s (w_M cy mAd thrown status acts taped latest leng cursor token start till fault faultAt gifts traced lane many item bay fresh thn (upd was (ix ((75 * acts) + x1)) (bay (ix x1))) tape left gift isKept kept trace) U locs := ⟨hP, hD, hS⟩
      refine lv_iinc (v := x1 + 1) (lv' := [(1, .int (x1 + 1)), (0, .ref (mAd 0))]) hx hb dX9_keep_77 hl (k := 1) rfl rfl (by decide) rfl (fun ls hl => ?_)
      refine lv_goto (tgt := 51) hx hb dX9_keep_80 (by decide) ?_
      exact ih (upd was (ix ((75 * acts) + x1)) (bay (ix x1))) (x1 + 1) z H kk _ _ _ G (lv_sub hl [1, 0] rfl)
def f_X9_keep_L11  : Nat → (Nat → Int32) → Int32 → Option (Nat → Int32)
  | 0, _, _ => none
  | n + 1, was, x1 => if 1725 ≤ x1 then (some was) else (gd (inb (x1 + 75) 1800) (gd (inb x1 1800) (f_X9_keep_L11 n (upd was (ix x1) (was (ix (x1 + 75)))) (x1 + 1))))
theorem f_X9_keep_L11_z  (was : Nat → Int32) (x1 : Int32) : f_X9_keep_L11 0 was x1 = none := rfl
theorem f_X9_keep_L11_s  (n : Nat) (was : Nat → Int32) (x1 : Int32) : f_X9_keep_L11 (n + 1) was x1 = if 1725 ≤ x1 then (some was) else (gd (inb (x1 + 75) 1800) (gd (inb x1 1800) (f_X9_keep_L11 n (upd was (ix x1) (was (ix (x1 + 75)))) (x1 + 1)))) := rfl
set_option maxHeartbeats 4000000 in
set_option maxRecDepth 100000 in
theorem wl_X9_keep_11 {p : Program} {l : Launch} {e : Env} {s : State} {m : MethodId} {below : List Frame} {meth : Method} {c : Code} {D : va_G} {cy : Nat → ClassId} {A : Nat → Prop} {args : Array Value} {Q : State → Prop} (C : Cx D cy A p s m meth c cX9_keep 2 none wsX9_keep RX9 args) (mAd : Nat → Nat) (thrown status acts taped latest leng cursor token start till fault faultAt gifts traced : Int32) (lane many item bay fresh thn tape left gift isKept kept trace : Nat → Int32) :
    ∀ (n : Nat) (was : Nat → Int32) (x1 : Int32) (z : (Nat → Int32)), f_X9_keep_L11 n was x1 = some z → (∀ (U : Heap) (locs : List Loc) (ls : Array Slot), Gd D A s (w_M cy mAd thrown status acts taped latest leng cursor token start till fault faultAt gifts traced lane many item bay fresh thn z tape left gift isKept kept trace) U locs → lv_has ls 2 [(0, .ref (mAd 0))] → W p l e ({ frames := 0, cells := 0, slots := 0, locals := 0 } : Room) s m args below meth c U locs 0 0 Q (F0 m 39 ls [])) → ∀ (U : Heap) (locs : List Loc) (ls : Array Slot), Gd D A s (w_M cy mAd thrown status acts taped latest leng cursor token start till fault faultAt gifts traced lane many item bay fresh thn was tape left gift isKept kept trace) U locs → lv_has ls 2 [(0, .ref (mAd 0)), (1, .int x1)] → W p l e ({ frames := 0, cells := 0, slots := 0, locals := 0 } : Room) s m args below meth c U locs 0 0 Q (F0 m 11 ls []) := by
  obtain ⟨hx, hb, hr, hml, hown, hts, hlk, hK, hA, hE⟩ := id C
  have lk0 := hts (Cond.fieldLink RX9 28 "TideDebtsModel" "was" "[I") (List.mem_of_getElem? (i := 2) rfl)
  have hiX9 : ∀ w ∈ u_ws RX9 TX9 27, w ∈ wsX9_keep := fun _ h => List.mem_cons_of_mem _ (List.mem_append_right _ h)
  intro n
  induction n with
  | zero =>
    intro was x1 z H
    rw [f_X9_keep_L11_z] at H
    cases H
  | succ n ih =>
    intro was x1 z H kk U locs ls G hl
    rw [f_X9_keep_L11_s] at H
    refine lv_iload_n hx hb dX9_keep_11 rfl (lv_at hl 1 rfl) ?_
    refine lv_sipush (v := 1725) hx hb dX9_keep_12 (by decide) ?_
    refine lv_icmp_ge (tgt := 39) hx hb dX9_keep_15 (by decide) (fun c6 => ?_) (fun c6 => ?_)
    · have H := if_t H c6
      obtain rfl := Option.some.inj H
      exact kk _ _ _ G (lv_sub hl [0] rfl)
    · have H := if_f H c6
      refine lv_aload_n hx hb dX9_keep_18 rfl (lv_at hl 0 rfl) ?_
      refine va_get (D := D) (ci := 9) (v := .ref (mAd 7)) (C := RX9) (T := TX9) (N := 27) hx hb hts hiX9 hown hK G.1 0 rfl rfl 8 (by decide) lk0 (fun _ h9 => h9) rfl dX9_keep_19 ?_
      refine lv_iload_n hx hb dX9_keep_22 rfl (lv_at hl 1 rfl) ?_
      refine lv_aload_n hx hb dX9_keep_23 rfl (lv_at hl 0 rfl) ?_
      refine va_get (D := D) (ci := 9) (v := .ref (mAd 7)) (C := RX9) (T := TX9) (N := 27) hx hb hts hiX9 hown hK G.1 0 rfl rfl 8 (by decide) lk0 (fun _ h9 => h9) rfl dX9_keep_24 ?_
      refine lv_iload_n hx hb dX9_keep_27 rfl (lv_at hl 1 rfl) ?_
      refine lv_bipush (v := 75) hx hb dX9_keep_28 (by decide) ?_
      refine lv_iadd hx hb dX9_keep_30 ?_
      obtain ⟨hb7, H⟩ := gd_some H
      refine g_iald (v := was (ix (x1 + 75))) hx hb hK G.1 7 1 rfl rfl hb7 rfl dX9_keep_31 ?_
      obtain ⟨hb8, H⟩ := gd_some H
      refine va_iast hx hb hK G.1 G.2.1 G.2.2 7 1 rfl rfl (inb_in hb8) dX9_keep_32 (fun U locs hP hD hS => ?_)
      have G : Gd D A s (w_M cy mAd thrown status acts taped latest leng cursor token start till fault faultAt gifts traced lane many item bay fresh thn (upd was (ix x1) (was (ix (x1 + 75)))) tape left gift isKept kept trace) U locs := ⟨hP, hD, hS⟩
      refine lv_iinc (v := x1 + 1) (lv' := [(1, .int (x1 + 1)), (0, .ref (mAd 0))]) hx hb dX9_keep_33 hl (k := 1) rfl rfl (by decide) rfl (fun ls hl => ?_)
      refine lv_goto (tgt := 11) hx hb dX9_keep_36 (by decide) ?_
      exact ih (upd was (ix x1) (was (ix (x1 + 75)))) (x1 + 1) z H kk _ _ _ G (lv_sub hl [1, 0] rfl)
def f_X9_keep (acts : Int32) (bay was : Nat → Int32) : Option (Int32 × (Nat → Int32)) := if acts = 24 then (bd (f_X9_keep_L11 2000 was 0) (fun z9 => bd (f_X9_keep_L51 (acts - 1) bay 2000 z9 0) (fun z10 => some ((acts - 1) + 1, z10)))) else (bd (f_X9_keep_L51 acts bay 2000 was 0) (fun z5 => some (acts + 1, z5)))
set_option maxHeartbeats 4000000 in
set_option maxRecDepth 100000 in
theorem c_X9_keep (l : Launch) (D : va_G) (cy : Nat → ClassId) (mAd : Nat → Nat) (thrown status acts taped latest leng cursor token start till fault faultAt gifts traced : Int32) (lane many item bay fresh thn was tape left gift isKept kept trace : Nat → Int32) (z : (Int32 × (Nat → Int32))) (hz : f_X9_keep acts bay was = some z) : MV l yX9_keep wsX9_keep ({ frames := 0, cells := 0, slots := 0, locals := 0 } : Room) D cy [.ref (mAd 0)] (w_M cy mAd thrown status acts taped latest leng cursor token start till fault faultAt gifts traced lane many item bay fresh thn was tape left gift isKept kept trace) (w_M cy mAd thrown status z.1 taped latest leng cursor token start till fault faultAt gifts traced lane many item bay fresh thn z.2 tape left gift isKept kept trace) := by
  refine met_start (Qf := fun A => MQv D cy (w_M cy mAd thrown status z.1 taped latest leng cursor token start till fault faultAt gifts traced lane many item bay fresh thn z.2 tape left gift isKept kept trace) A) (cc := cX9_keep) (nL := 2) (ret := none) RX9 rfl (by decide) rfl (Nat.le_of_ble_eq_true rfl) ?_
  intro p e s m below meth c A ls C G hl
  have hl : lv_has ls 2 [(0, .ref (mAd 0))] := hl
  have H := hz
  unfold f_X9_keep at H
  obtain ⟨hx, hb, hr, hml, hown, hts, hlk, hK, hA, hE⟩ := id C
  have lk0 := hts (Cond.fieldLink RX9 171 "TideDebtsModel" "acts" "I") (List.mem_of_getElem? (i := 1) rfl)
  have hiX9 : ∀ w ∈ u_ws RX9 TX9 27, w ∈ wsX9_keep := fun _ h => List.mem_cons_of_mem _ (List.mem_append_right _ h)
  refine lv_aload_n hx hb dX9_keep_0 rfl (lv_at hl 0 rfl) ?_
  refine va_get (D := D) (ci := 9) (v := .int acts) (C := RX9) (T := TX9) (N := 27) hx hb hts hiX9 hown hK G.1 0 rfl rfl 9 (by decide) lk0 (fun _ h9 => h9) rfl dX9_keep_1 ?_
  refine lv_bipush (v := 24) hx hb dX9_keep_4 (by decide) ?_
  refine lv_icmp_ne (tgt := 49) hx hb dX9_keep_6 (by decide) (fun c1 => ?_) (fun c1 => ?_)
  · have H := if_f H c1
    refine lv_iconst (v := 0) hx hb dX9_keep_49 (by decide) ?_
    refine lv_istore_n (lv' := [(1, .int 0), (0, .ref (mAd 0))]) hx hb dX9_keep_50 rfl hl (by decide) rfl (fun ls hl => ?_)
    obtain ⟨z5, hz5, H⟩ := bd_some H
    refine wl_X9_keep_51 C mAd thrown status acts taped latest leng cursor token start till fault faultAt gifts traced lane many item bay fresh thn tape left gift isKept kept trace _ was 0 z5 hz5 (fun U locs ls G hl => ?_) _ _ _ G (lv_sub hl [1, 0] rfl)
    have G : Gd D A s (w_M cy mAd thrown status acts taped latest leng cursor token start till fault faultAt gifts traced lane many item bay fresh thn z5 tape left gift isKept kept trace) U locs := G
    have hl : lv_has ls 2 [(0, .ref (mAd 0))] := hl
    refine lv_aload_n hx hb dX9_keep_83 rfl (lv_at hl 0 rfl) ?_
    refine lv_dup hx hb dX9_keep_84 rfl ?_
    refine va_get (D := D) (ci := 9) (v := .int acts) (C := RX9) (T := TX9) (N := 27) hx hb hts hiX9 hown hK G.1 0 rfl rfl 9 (by decide) lk0 (fun _ h9 => h9) rfl dX9_keep_85 ?_
    refine lv_iconst (v := 1) hx hb dX9_keep_88 (by decide) ?_
    refine lv_iadd hx hb dX9_keep_89 ?_
    refine va_put (D := D) (ci := 9) (v := .int (acts + 1)) (ty := .int) (C := RX9) (T := TX9) (N := 27) hx hb hts hiX9 tyX9 tyX9_ok nmX9 hown hK G.1 G.2.1 G.2.2 0 rfl rfl 9 (by decide) lk0 (fun _ h9 => h9) rfl (tyX9_ok 9 (by decide)) rfl rfl (Nat.le_of_ble_eq_true rfl) dX9_keep_90 (fun U locs hP hD hS => ?_)
    have G : Gd D A s (w_M cy mAd thrown status (acts + 1) taped latest leng cursor token start till fault faultAt gifts traced lane many item bay fresh thn z5 tape left gift isKept kept trace) U locs := ⟨hP, hD, hS⟩
    obtain rfl := Option.some.inj H
    exact ret_v C G dX9_keep_93
  · have H := if_t H c1
    refine lv_iconst (v := 0) hx hb dX9_keep_9 (by decide) ?_
    refine lv_istore_n (lv' := [(1, .int 0), (0, .ref (mAd 0))]) hx hb dX9_keep_10 rfl hl (by decide) rfl (fun ls hl => ?_)
    obtain ⟨z9, hz9, H⟩ := bd_some H
    refine wl_X9_keep_11 C mAd thrown status acts taped latest leng cursor token start till fault faultAt gifts traced lane many item bay fresh thn tape left gift isKept kept trace _ was 0 z9 hz9 (fun U locs ls G hl => ?_) _ _ _ G (lv_sub hl [1, 0] rfl)
    have G : Gd D A s (w_M cy mAd thrown status acts taped latest leng cursor token start till fault faultAt gifts traced lane many item bay fresh thn z9 tape left gift isKept kept trace) U locs := G
    have hl : lv_has ls 2 [(0, .ref (mAd 0))] := hl
    refine lv_aload_n hx hb dX9_keep_39 rfl (lv_at hl 0 rfl) ?_
    refine lv_dup hx hb dX9_keep_40 rfl ?_
    refine va_get (D := D) (ci := 9) (v := .int acts) (C := RX9) (T := TX9) (N := 27) hx hb hts hiX9 hown hK G.1 0 rfl rfl 9 (by decide) lk0 (fun _ h9 => h9) rfl dX9_keep_41 ?_
    refine lv_iconst (v := 1) hx hb dX9_keep_44 (by decide) ?_
    refine lv_isub hx hb dX9_keep_45 ?_
    refine va_put (D := D) (ci := 9) (v := .int (acts - 1)) (ty := .int) (C := RX9) (T := TX9) (N := 27) hx hb hts hiX9 tyX9 tyX9_ok nmX9 hown hK G.1 G.2.1 G.2.2 0 rfl rfl 9 (by decide) lk0 (fun _ h9 => h9) rfl (tyX9_ok 9 (by decide)) rfl rfl (Nat.le_of_ble_eq_true rfl) dX9_keep_46 (fun U locs hP hD hS => ?_)
    have G : Gd D A s (w_M cy mAd thrown status (acts - 1) taped latest leng cursor token start till fault faultAt gifts traced lane many item bay fresh thn z9 tape left gift isKept kept trace) U locs := ⟨hP, hD, hS⟩
    refine lv_iconst (v := 0) hx hb dX9_keep_49 (by decide) ?_
    refine lv_istore_n (lv' := [(1, .int 0), (0, .ref (mAd 0))]) hx hb dX9_keep_50 rfl hl (by decide) rfl (fun ls hl => ?_)
    obtain ⟨z10, hz10, H⟩ := bd_some H
    refine wl_X9_keep_51 C mAd thrown status (acts - 1) taped latest leng cursor token start till fault faultAt gifts traced lane many item bay fresh thn tape left gift isKept kept trace _ z9 0 z10 hz10 (fun U locs ls G hl => ?_) _ _ _ G (lv_sub hl [1, 0] rfl)
    have G : Gd D A s (w_M cy mAd thrown status (acts - 1) taped latest leng cursor token start till fault faultAt gifts traced lane many item bay fresh thn z10 tape left gift isKept kept trace) U locs := G
    have hl : lv_has ls 2 [(0, .ref (mAd 0))] := hl
    refine lv_aload_n hx hb dX9_keep_83 rfl (lv_at hl 0 rfl) ?_
    refine lv_dup hx hb dX9_keep_84 rfl ?_
    refine va_get (D := D) (ci := 9) (v := .int (acts - 1)) (C := RX9) (T := TX9) (N := 27) hx hb hts hiX9 hown hK G.1 0 rfl rfl 9 (by decide) lk0 (fun _ h9 => h9) rfl dX9_keep_85 ?_
    refine lv_iconst (v := 1) hx hb dX9_keep_88 (by decide) ?_
    refine lv_iadd hx hb dX9_keep_89 ?_
    refine va_put (D := D) (ci := 9) (v := .int ((acts - 1) + 1)) (ty := .int) (C := RX9) (T := TX9) (N := 27) hx hb hts hiX9 tyX9 tyX9_ok nmX9 hown hK G.1 G.2.1 G.2.2 0 rfl rfl 9 (by decide) lk0 (fun _ h9 => h9) rfl (tyX9_ok 9 (by decide)) rfl rfl (Nat.le_of_ble_eq_true rfl) dX9_keep_90 (fun U locs hP hD hS => ?_)
    have G : Gd D A s (w_M cy mAd thrown status ((acts - 1) + 1) taped latest leng cursor token start till fault faultAt gifts traced lane many item bay fresh thn z10 tape left gift isKept kept trace) U locs := ⟨hP, hD, hS⟩
    obtain rfl := Option.some.inj H
    exact ret_v C G dX9_keep_93
def f_X9_hours_L68 (thn : Nat → Int32) : Nat → (Nat → Int32) → Int32 → Option (Nat → Int32)
  | 0, _, _ => none
  | n + 1, bay, x3 => if 75 ≤ x3 then (some bay) else (gd (inb x3 75) (f_X9_hours_L68 thn n (upd bay (ix x3) (thn (ix x3))) (x3 + 1)))
theorem f_X9_hours_L68_z (thn : Nat → Int32) (bay : Nat → Int32) (x3 : Int32) : f_X9_hours_L68 thn 0 bay x3 = none := rfl
theorem f_X9_hours_L68_s (thn : Nat → Int32) (n : Nat) (bay : Nat → Int32) (x3 : Int32) : f_X9_hours_L68 thn (n + 1) bay x3 = if 75 ≤ x3 then (some bay) else (gd (inb x3 75) (f_X9_hours_L68 thn n (upd bay (ix x3) (thn (ix x3))) (x3 + 1))) := rfl
set_option maxHeartbeats 4000000 in
set_option maxRecDepth 100000 in
theorem wl_X9_hours_68 {p : Program} {l : Launch} {e : Env} {s : State} {m : MethodId} {below : List Frame} {meth : Method} {c : Code} {D : va_G} {cy : Nat → ClassId} {A : Nat → Prop} {args : Array Value} {Q : State → Prop} (C : Cx D cy A p s m meth c cX9_hours 4 (some .int) wsX9_hours RX9 args) (mAd : Nat → Nat) (thrown status acts taped latest leng cursor token start till fault faultAt gifts traced : Int32) (lane many item fresh thn was tape left gift isKept kept trace : Nat → Int32) (x1 x2 : Int32) :
    ∀ (n : Nat) (bay : Nat → Int32) (x3 : Int32) (z : (Nat → Int32)), f_X9_hours_L68 thn n bay x3 = some z → (∀ (U : Heap) (locs : List Loc) (ls : Array Slot), Gd D A s (w_M cy mAd thrown status acts taped latest leng cursor token start till fault faultAt gifts traced lane many item z fresh thn was tape left gift isKept kept trace) U locs → lv_has ls 4 [(0, .ref (mAd 0)), (1, .int x1), (2, .int x2)] → W p l e ({ frames := 3, cells := 0, slots := 0, locals := 69 } : Room) s m args below meth c U locs 0 0 Q (F0 m 92 ls [])) → ∀ (U : Heap) (locs : List Loc) (ls : Array Slot), Gd D A s (w_M cy mAd thrown status acts taped latest leng cursor token start till fault faultAt gifts traced lane many item bay fresh thn was tape left gift isKept kept trace) U locs → lv_has ls 4 [(0, .ref (mAd 0)), (1, .int x1), (2, .int x2), (3, .int x3)] → W p l e ({ frames := 3, cells := 0, slots := 0, locals := 69 } : Room) s m args below meth c U locs 0 0 Q (F0 m 68 ls []) := by
  obtain ⟨hx, hb, hr, hml, hown, hts, hlk, hK, hA, hE⟩ := id C
  have lk0 := hts (Cond.fieldLink RX9 19 "TideDebtsModel" "bay" "[I") (List.mem_of_getElem? (i := 5) rfl)
  have lk1 := hts (Cond.fieldLink RX9 25 "TideDebtsModel" "then" "[I") (List.mem_of_getElem? (i := 7) rfl)
  have hiX9 : ∀ w ∈ u_ws RX9 TX9 27, w ∈ wsX9_hours := fun _ h => List.mem_cons_of_mem _ (List.mem_append_right _ h)
  intro n
  induction n with
  | zero =>
    intro bay x3 z H
    rw [f_X9_hours_L68_z] at H
    cases H
  | succ n ih =>
    intro bay x3 z H kk U locs ls G hl
    rw [f_X9_hours_L68_s] at H
    refine lv_iload_n hx hb dX9_hours_68 rfl (lv_at hl 3 rfl) ?_
    refine lv_bipush (v := 75) hx hb dX9_hours_69 (by decide) ?_
    refine lv_icmp_ge (tgt := 92) hx hb dX9_hours_71 (by decide) (fun c10 => ?_) (fun c10 => ?_)
    · have H := if_t H c10
      obtain rfl := Option.some.inj H
      exact kk _ _ _ G (lv_sub hl [0, 1, 2] rfl)
    · have H := if_f H c10
      refine lv_aload_n hx hb dX9_hours_74 rfl (lv_at hl 0 rfl) ?_
      refine va_get (D := D) (ci := 9) (v := .ref (mAd 4)) (C := RX9) (T := TX9) (N := 27) hx hb hts hiX9 hown hK G.1 0 rfl rfl 5 (by decide) lk0 (fun _ h9 => h9) rfl dX9_hours_75 ?_
      refine lv_iload_n hx hb dX9_hours_78 rfl (lv_at hl 3 rfl) ?_
      refine lv_aload_n hx hb dX9_hours_79 rfl (lv_at hl 0 rfl) ?_
      refine va_get (D := D) (ci := 9) (v := .ref (mAd 6)) (C := RX9) (T := TX9) (N := 27) hx hb hts hiX9 hown hK G.1 0 rfl rfl 7 (by decide) lk1 (fun _ h9 => h9) rfl dX9_hours_80 ?_
      refine lv_iload_n hx hb dX9_hours_83 rfl (lv_at hl 3 rfl) ?_
      obtain ⟨hb11, H⟩ := gd_some H
      refine g_iald (v := thn (ix x3)) hx hb hK G.1 6 1 rfl rfl hb11 rfl dX9_hours_84 ?_
      refine va_iast hx hb hK G.1 G.2.1 G.2.2 4 1 rfl rfl (inb_in hb11) dX9_hours_85 (fun U locs hP hD hS => ?_)
      have G : Gd D A s (w_M cy mAd thrown status acts taped latest leng cursor token start till fault faultAt gifts traced lane many item (upd bay (ix x3) (thn (ix x3))) fresh thn was tape left gift isKept kept trace) U locs := ⟨hP, hD, hS⟩
      refine lv_iinc (v := x3 + 1) (lv' := [(3, .int (x3 + 1)), (0, .ref (mAd 0)), (1, .int x1), (2, .int x2)]) hx hb dX9_hours_86 hl (k := 3) rfl rfl (by decide) rfl (fun ls hl => ?_)
      refine lv_goto (tgt := 68) hx hb dX9_hours_89 (by decide) ?_
      exact ih (upd bay (ix x3) (thn (ix x3))) (x3 + 1) z H kk _ _ _ G (lv_sub hl [1, 2, 3, 0] rfl)
def f_X9_hours_L49 (x1 : Int32) : Nat → Int32 → (Nat → Int32) → (Nat → Int32) → (Nat → Int32) → Int32 → Option (Int32 × (Nat → Int32) × (Nat → Int32) × (Nat → Int32))
  | 0, _, _, _, _, _ => none
  | n + 1, acts, bay, thn, was, x2 => if x1 ≤ x2 then (some (acts, bay, thn, was)) else (bd (f_X9_keep acts bay was) (fun z7 => bd (f_X9_layNow bay thn) (fun z8 => bd (f_X9_goHour bay z8) (fun z9 => bd (f_X9_hours_L68 z9 2000 bay 0) (fun z12 => f_X9_hours_L49 x1 n z7.1 z12 z9 z7.2 (x2 + 1))))))
theorem f_X9_hours_L49_z (x1 : Int32) (acts : Int32) (bay thn was : Nat → Int32) (x2 : Int32) : f_X9_hours_L49 x1 0 acts bay thn was x2 = none := rfl
theorem f_X9_hours_L49_s (x1 : Int32) (n : Nat) (acts : Int32) (bay thn was : Nat → Int32) (x2 : Int32) : f_X9_hours_L49 x1 (n + 1) acts bay thn was x2 = if x1 ≤ x2 then (some (acts, bay, thn, was)) else (bd (f_X9_keep acts bay was) (fun z7 => bd (f_X9_layNow bay thn) (fun z8 => bd (f_X9_goHour bay z8) (fun z9 => bd (f_X9_hours_L68 z9 2000 bay 0) (fun z12 => f_X9_hours_L49 x1 n z7.1 z12 z9 z7.2 (x2 + 1)))))) := rfl
set_option maxHeartbeats 4000000 in
set_option maxRecDepth 100000 in
theorem wl_X9_hours_49 {p : Program} {l : Launch} {e : Env} {s : State} {m : MethodId} {below : List Frame} {meth : Method} {c : Code} {D : va_G} {cy : Nat → ClassId} {A : Nat → Prop} {args : Array Value} {Q : State → Prop} (C : Cx D cy A p s m meth c cX9_hours 4 (some .int) wsX9_hours RX9 args) (mAd : Nat → Nat) (thrown status taped latest leng cursor token start till fault faultAt gifts traced : Int32) (lane many item fresh tape left gift isKept kept trace : Nat → Int32) (x1 : Int32) :
    ∀ (n : Nat) (acts : Int32) (bay thn was : Nat → Int32) (x2 : Int32) (z : (Int32 × (Nat → Int32) × (Nat → Int32) × (Nat → Int32))), f_X9_hours_L49 x1 n acts bay thn was x2 = some z → (∀ (U : Heap) (locs : List Loc) (ls : Array Slot), Gd D A s (w_M cy mAd thrown status z.1 taped latest leng cursor token start till fault faultAt gifts traced lane many item z.2.1 fresh z.2.2.1 z.2.2.2 tape left gift isKept kept trace) U locs → lv_has ls 4 [(0, .ref (mAd 0))] → W p l e ({ frames := 3, cells := 0, slots := 0, locals := 69 } : Room) s m args below meth c U locs 0 0 Q (F0 m 98 ls [])) → ∀ (U : Heap) (locs : List Loc) (ls : Array Slot), Gd D A s (w_M cy mAd thrown status acts taped latest leng cursor token start till fault faultAt gifts traced lane many item bay fresh thn was tape left gift isKept kept trace) U locs → lv_has ls 4 [(0, .ref (mAd 0)), (1, .int x1), (2, .int x2)] → W p l e ({ frames := 3, cells := 0, slots := 0, locals := 69 } : Room) s m args below meth c U locs 0 0 Q (F0 m 49 ls []) := by
  obtain ⟨hx, hb, hr, hml, hown, hts, hlk, hK, hA, hE⟩ := id C
  intro n
  induction n with
  | zero =>
    intro acts bay thn was x2 z H
    rw [f_X9_hours_L49_z] at H
    cases H
  | succ n ih =>
    intro acts bay thn was x2 z H kk U locs ls G hl
    rw [f_X9_hours_L49_s] at H
    refine lv_iload_n hx hb dX9_hours_49 rfl (lv_at hl 2 rfl) ?_
    refine lv_iload_n hx hb dX9_hours_50 rfl (lv_at hl 1 rfl) ?_
    refine lv_icmp_ge (tgt := 98) hx hb dX9_hours_51 (by decide) (fun c6 => ?_) (fun c6 => ?_)
    · have H := if_t H c6
      obtain rfl := Option.some.inj H
      exact kk _ _ _ G (lv_sub hl [0] rfl)
    · have H := if_f H c6
      refine lv_aload_n hx hb dX9_hours_54 rfl (lv_at hl 0 rfl) ?_
      obtain ⟨z7, hz7, H⟩ := bd_some H
      refine MV.callVw [] [] C G (c_X9_keep l D cy mAd thrown status acts taped latest leng cursor token start till fault faultAt gifts traced lane many item bay fresh thn was tape left gift isKept kept trace z7 hz7) gX9_hours_X9_keep rfl rfl rfl (n := 0) (by decide +kernel) ⟨Nat.le_of_ble_eq_true rfl, Nat.le_of_ble_eq_true rfl⟩ (q0 := 0) (ci := 9) rfl rfl rfl rfl hl.1 rfl (Nat.le_of_ble_eq_true rfl) dX9_hours_55 ⟨Nat.zero_le _, Nat.zero_le _⟩ (fun U locs G => ?_)
      have G : Gd D A s (w_M cy mAd thrown status z7.1 taped latest leng cursor token start till fault faultAt gifts traced lane many item bay fresh thn z7.2 tape left gift isKept kept trace) U locs := G
      refine lv_aload_n hx hb dX9_hours_58 rfl (lv_at hl 0 rfl) ?_
      obtain ⟨z8, hz8, H⟩ := bd_some H
      refine MV.callVw [] [] C G (c_X9_layNow l D cy mAd thrown status z7.1 taped latest leng cursor token start till fault faultAt gifts traced lane many item bay fresh thn z7.2 tape left gift isKept kept trace z8 hz8) gX9_hours_X9_layNow rfl rfl rfl (n := 0) (by decide +kernel) ⟨Nat.le_of_ble_eq_true rfl, Nat.le_of_ble_eq_true rfl⟩ (q0 := 0) (ci := 9) rfl rfl rfl rfl hl.1 rfl (Nat.le_of_ble_eq_true rfl) dX9_hours_59 ⟨Nat.zero_le _, Nat.zero_le _⟩ (fun U locs G => ?_)
      have G : Gd D A s (w_M cy mAd thrown status z7.1 taped latest leng cursor token start till fault faultAt gifts traced lane many item bay fresh z8 z7.2 tape left gift isKept kept trace) U locs := G
      refine lv_aload_n hx hb dX9_hours_62 rfl (lv_at hl 0 rfl) ?_
      obtain ⟨z9, hz9, H⟩ := bd_some H
      refine MV.callVw [] [] C G (c_X9_goHour l D cy mAd thrown status z7.1 taped latest leng cursor token start till fault faultAt gifts traced lane many item bay fresh z8 z7.2 tape left gift isKept kept trace z9 hz9) gX9_hours_X9_goHour rfl rfl rfl (n := 0) (by decide +kernel) ⟨Nat.le_of_ble_eq_true rfl, Nat.le_of_ble_eq_true rfl⟩ (q0 := 0) (ci := 9) rfl rfl rfl rfl hl.1 rfl (Nat.le_of_ble_eq_true rfl) dX9_hours_63 ⟨Nat.zero_le _, Nat.zero_le _⟩ (fun U locs G => ?_)
      have G : Gd D A s (w_M cy mAd thrown status z7.1 taped latest leng cursor token start till fault faultAt gifts traced lane many item bay fresh z9 z7.2 tape left gift isKept kept trace) U locs := G
      refine lv_iconst (v := 0) hx hb dX9_hours_66 (by decide) ?_
      refine lv_istore_n (lv' := [(3, .int 0), (0, .ref (mAd 0)), (1, .int x1), (2, .int x2)]) hx hb dX9_hours_67 rfl hl (by decide) rfl (fun ls hl => ?_)
      obtain ⟨z12, hz12, H⟩ := bd_some H
      refine wl_X9_hours_68 C mAd thrown status z7.1 taped latest leng cursor token start till fault faultAt gifts traced lane many item fresh z9 z7.2 tape left gift isKept kept trace x1 x2 _ bay 0 z12 hz12 (fun U locs ls G hl => ?_) _ _ _ G (lv_sub hl [1, 2, 3, 0] rfl)
      have G : Gd D A s (w_M cy mAd thrown status z7.1 taped latest leng cursor token start till fault faultAt gifts traced lane many item z12 fresh z9 z7.2 tape left gift isKept kept trace) U locs := G
      have hl : lv_has ls 4 [(0, .ref (mAd 0)), (1, .int x1), (2, .int x2)] := hl
      refine lv_iinc (v := x2 + 1) (lv' := [(2, .int (x2 + 1)), (0, .ref (mAd 0)), (1, .int x1)]) hx hb dX9_hours_92 hl (k := 2) rfl rfl (by decide) rfl (fun ls hl => ?_)
      refine lv_goto (tgt := 49) hx hb dX9_hours_95 (by decide) ?_
      exact ih z7.1 z12 z9 z7.2 (x2 + 1) z H kk _ _ _ G (lv_sub hl [1, 2, 0] rfl)
def f_X9_hours (thrown acts : Int32) (bay thn was : Nat → Int32) (p1 : Int32) : Option (Int32 × Int32 × Int32 × (Nat → Int32) × (Nat → Int32) × (Nat → Int32)) := bd (f_X9_isThere bay) (fun z1 => if z1 = 0 then (some ((-1000002), 0, acts, bay, thn, was)) else (bd (f_X9_in p1.toInt64 1 24) (fun z3 => if z3 = 0 then (some ((-1000001), 0, acts, bay, thn, was)) else (if ((bay 2) + p1) ≤ 999 then (bd (f_X9_hours_L49 p1 2000 acts bay thn was 0) (fun z13 => bd (f_X9_riseAt z13.2.1 ((z13.2.1 2) + 11)) (fun z14 => some (z14, 0, z13.1, z13.2.1, z13.2.2.1, z13.2.2.2)))) else (some ((-1000003), 0, acts, bay, thn, was))))))
set_option maxHeartbeats 4000000 in
set_option maxRecDepth 100000 in
theorem c_X9_hours (l : Launch) (D : va_G) (cy : Nat → ClassId) (mAd : Nat → Nat) (thrown status acts taped latest leng cursor token start till fault faultAt gifts traced : Int32) (lane many item bay fresh thn was tape left gift isKept kept trace : Nat → Int32) (p1 : Int32) (z : (Int32 × Int32 × Int32 × (Nat → Int32) × (Nat → Int32) × (Nat → Int32))) (hz : f_X9_hours thrown acts bay thn was p1 = some z) : MI l yX9_hours wsX9_hours ({ frames := 3, cells := 0, slots := 0, locals := 69 } : Room) D cy [.ref (mAd 0), .int p1] (w_M cy mAd thrown status acts taped latest leng cursor token start till fault faultAt gifts traced lane many item bay fresh thn was tape left gift isKept kept trace) z.1 (w_M cy mAd z.2.1 status z.2.2.1 taped latest leng cursor token start till fault faultAt gifts traced lane many item z.2.2.2.1 fresh z.2.2.2.2.1 z.2.2.2.2.2 tape left gift isKept kept trace) := by
  refine met_start (Qf := fun A => MQi D cy z.1 (w_M cy mAd z.2.1 status z.2.2.1 taped latest leng cursor token start till fault faultAt gifts traced lane many item z.2.2.2.1 fresh z.2.2.2.2.1 z.2.2.2.2.2 tape left gift isKept kept trace) A) (cc := cX9_hours) (nL := 4) (ret := (some .int)) RX9 rfl (by decide) rfl (Nat.le_of_ble_eq_true rfl) ?_
  intro p e s m below meth c A ls C G hl
  have hl : lv_has ls 4 [(0, .ref (mAd 0)), (1, .int p1)] := hl
  have H := hz
  unfold f_X9_hours at H
  obtain ⟨hx, hb, hr, hml, hown, hts, hlk, hK, hA, hE⟩ := id C
  have lk0 := hts (Cond.fieldLink RX9 50 "TideDebtsModel" "thrown" "I") (List.mem_of_getElem? (i := 1) rfl)
  have lk1 := hts (Cond.constantLong RX9 197 (24)) (List.mem_of_getElem? (i := 3) rfl)
  have lk2 := hts (Cond.fieldLink RX9 19 "TideDebtsModel" "bay" "[I") (List.mem_of_getElem? (i := 5) rfl)
  have lk3 := hts (Cond.constant RX9 80 (-1000003)) (List.mem_of_getElem? (i := 6) rfl)
  have lk4 := hts (Cond.constant RX9 70 (-1000001)) (List.mem_of_getElem? (i := 4) rfl)
  have lk5 := hts (Cond.constant RX9 196 (-1000002)) (List.mem_of_getElem? (i := 2) rfl)
  have hiX9 : ∀ w ∈ u_ws RX9 TX9 27, w ∈ wsX9_hours := fun _ h => List.mem_cons_of_mem _ (List.mem_append_right _ h)
  refine lv_aload_n hx hb dX9_hours_0 rfl (lv_at hl 0 rfl) ?_
  refine lv_iconst (v := 0) hx hb dX9_hours_1 (by decide) ?_
  refine va_put (D := D) (ci := 9) (v := .int 0) (ty := .int) (C := RX9) (T := TX9) (N := 27) hx hb hts hiX9 tyX9 tyX9_ok nmX9 hown hK G.1 G.2.1 G.2.2 0 rfl rfl 0 (by decide) lk0 (fun _ h9 => h9) rfl (tyX9_ok 0 (by decide)) rfl rfl (Nat.le_of_ble_eq_true rfl) dX9_hours_2 (fun U locs hP hD hS => ?_)
  have G : Gd D A s (w_M cy mAd 0 status acts taped latest leng cursor token start till fault faultAt gifts traced lane many item bay fresh thn was tape left gift isKept kept trace) U locs := ⟨hP, hD, hS⟩
  refine lv_aload_n hx hb dX9_hours_5 rfl (lv_at hl 0 rfl) ?_
  obtain ⟨z1, hz1, H⟩ := bd_some H
  refine MI.callVw z1 [] [] C G (c_X9_isThere l D cy mAd 0 status acts taped latest leng cursor token start till fault faultAt gifts traced lane many item bay fresh thn was tape left gift isKept kept trace z1 hz1) gX9_hours_X9_isThere rfl rfl rfl (n := 0) (by decide +kernel) ⟨Nat.le_of_ble_eq_true rfl, Nat.le_of_ble_eq_true rfl⟩ (q0 := 0) (ci := 9) rfl rfl rfl rfl hl.1 rfl (Nat.le_of_ble_eq_true rfl) dX9_hours_6 ⟨Nat.zero_le _, Nat.zero_le _⟩ (fun U locs G => ?_)
  have G : Gd D A s (w_M cy mAd 0 status acts taped latest leng cursor token start till fault faultAt gifts traced lane many item bay fresh thn was tape left gift isKept kept trace) U locs := G
  refine lv_if_ne (tgt := 15) hx hb dX9_hours_9 (by decide) (fun c2 => ?_) (fun c2 => ?_)
  · have H := if_f H c2
    refine lv_iload_n hx hb dX9_hours_15 rfl (lv_at hl 1 rfl) ?_
    refine lv_i2l hx hb dX9_hours_16 rfl ?_
    refine lv_lconst (v := 1) hx hb dX9_hours_17 (by decide) ?_
    refine lv_ldc2 hx hb hown lk1 dX9_hours_18 ?_
    obtain ⟨z3, hz3, H⟩ := bd_some H
    refine MI.callS z3 [.long p1.toInt64, .long 1, .long 24] [] [] C G (c_X9_in l D cy p1.toInt64 1 24 z3 hz3) gX9_hours_X9_in rfl rfl rfl (n := 3) (by decide +kernel) ⟨Nat.le_of_ble_eq_true rfl, Nat.le_of_ble_eq_true rfl⟩ rfl rfl rfl rfl hl.1 rfl (Nat.le_of_ble_eq_true rfl) dX9_hours_21 ⟨Nat.zero_le _, Nat.zero_le _⟩ (fun U locs G => ?_)
    have G : Gd D A s (w_M cy mAd 0 status acts taped latest leng cursor token start till fault faultAt gifts traced lane many item bay fresh thn was tape left gift isKept kept trace) U locs := G
    refine lv_if_ne (tgt := 30) hx hb dX9_hours_24 (by decide) (fun c4 => ?_) (fun c4 => ?_)
    · have H := if_f H c4
      refine lv_aload_n hx hb dX9_hours_30 rfl (lv_at hl 0 rfl) ?_
      refine va_get (D := D) (ci := 9) (v := .ref (mAd 4)) (C := RX9) (T := TX9) (N := 27) hx hb hts hiX9 hown hK G.1 0 rfl rfl 5 (by decide) lk2 (fun _ h9 => h9) rfl dX9_hours_31 ?_
      refine lv_iconst (v := 2) hx hb dX9_hours_34 (by decide) ?_
      refine g_iald (v := bay 2) hx hb hK G.1 4 1 rfl rfl (by decide) rfl dX9_hours_35 ?_
      refine lv_iload_n hx hb dX9_hours_36 rfl (lv_at hl 1 rfl) ?_
      refine lv_iadd hx hb dX9_hours_37 ?_
      refine lv_sipush (v := 999) hx hb dX9_hours_38 (by decide) ?_
      refine lv_icmp_le (tgt := 47) hx hb dX9_hours_41 (by decide) (fun c5 => ?_) (fun c5 => ?_)
      · have H := if_t H c5
        refine lv_iconst (v := 0) hx hb dX9_hours_47 (by decide) ?_
        refine lv_istore_n (lv' := [(2, .int 0), (0, .ref (mAd 0)), (1, .int p1)]) hx hb dX9_hours_48 rfl hl (by decide) rfl (fun ls hl => ?_)
        obtain ⟨z13, hz13, H⟩ := bd_some H
        refine wl_X9_hours_49 C mAd 0 status taped latest leng cursor token start till fault faultAt gifts traced lane many item fresh tape left gift isKept kept trace p1 _ acts bay thn was 0 z13 hz13 (fun U locs ls G hl => ?_) _ _ _ G (lv_sub hl [1, 2, 0] rfl)
        have G : Gd D A s (w_M cy mAd 0 status z13.1 taped latest leng cursor token start till fault faultAt gifts traced lane many item z13.2.1 fresh z13.2.2.1 z13.2.2.2 tape left gift isKept kept trace) U locs := G
        have hl : lv_has ls 4 [(0, .ref (mAd 0))] := hl
        refine lv_aload_n hx hb dX9_hours_98 rfl (lv_at hl 0 rfl) ?_
        refine lv_aload_n hx hb dX9_hours_99 rfl (lv_at hl 0 rfl) ?_
        refine va_get (D := D) (ci := 9) (v := .ref (mAd 4)) (C := RX9) (T := TX9) (N := 27) hx hb hts hiX9 hown hK G.1 0 rfl rfl 5 (by decide) lk2 (fun _ h9 => h9) rfl dX9_hours_100 ?_
        refine lv_iconst (v := 2) hx hb dX9_hours_103 (by decide) ?_
        refine g_iald (v := z13.2.1 2) hx hb hK G.1 4 1 rfl rfl (by decide) rfl dX9_hours_104 ?_
        refine lv_bipush (v := 11) hx hb dX9_hours_105 (by decide) ?_
        refine lv_iadd hx hb dX9_hours_107 ?_
        obtain ⟨z14, hz14, H⟩ := bd_some H
        refine MI.callVw z14 [.int ((z13.2.1 2) + 11)] [] C G (c_X9_riseAt l D cy mAd 0 status z13.1 taped latest leng cursor token start till fault faultAt gifts traced lane many item z13.2.1 fresh z13.2.2.1 z13.2.2.2 tape left gift isKept kept trace ((z13.2.1 2) + 11) z14 hz14) gX9_hours_X9_riseAt rfl rfl rfl (n := 1) (by decide +kernel) ⟨Nat.le_of_ble_eq_true rfl, Nat.le_of_ble_eq_true rfl⟩ (q0 := 0) (ci := 9) rfl rfl rfl rfl hl.1 rfl (Nat.le_of_ble_eq_true rfl) dX9_hours_108 ⟨Nat.zero_le _, Nat.zero_le _⟩ (fun U locs G => ?_)
        have G : Gd D A s (w_M cy mAd 0 status z13.1 taped latest leng cursor token start till fault faultAt gifts traced lane many item z13.2.1 fresh z13.2.2.1 z13.2.2.2 tape left gift isKept kept trace) U locs := G
        obtain rfl := Option.some.inj H
        exact ret_i C G rfl dX9_hours_111
      · have H := if_f H c5
        refine lv_ldc hx hb hown lk3 dX9_hours_44 ?_
        obtain rfl := Option.some.inj H
        exact ret_i C G rfl dX9_hours_46
    · have H := if_t H c4
      refine lv_ldc hx hb hown lk4 dX9_hours_27 ?_
      obtain rfl := Option.some.inj H
      exact ret_i C G rfl dX9_hours_29
  · have H := if_t H c2
    refine lv_ldc hx hb hown lk5 dX9_hours_12 ?_
    obtain rfl := Option.some.inj H
    exact ret_i C G rfl dX9_hours_14
def f_X9_lend (thrown acts : Int32) (bay was : Nat → Int32) (p1 p2 p3 : Int32) : Option (Int32 × Int32 × Int32 × (Nat → Int32) × (Nat → Int32)) := bd (f_X9_areTwo bay p1 p2) (fun z1 => if z1 = 0 then (some ((-1000001), 0, acts, bay, was)) else (bd (f_X9_in p3.toInt64 1 999) (fun z3 => if z3 = 0 then (some ((-1000001), 0, acts, bay, was)) else (bd (f_X9_at p1 1) (fun z5 => gd (inb z5 75) (if p3 ≤ (bay (ix z5)) then (bd (f_X9_debt p2 p1) (fun z8 => gd (inb z8 75) (if ((bay (ix z8)) + p3) ≤ 9999 then (bd (f_X9_keep acts bay was) (fun z11 => bd (f_X9_at p1 1) (fun z12 => gd (inb z12 75) (bd (f_X9_at p2 1) (fun z14 => gd (inb z14 75) (bd (f_X9_debt p2 p1) (fun z16 => gd (inb z16 75) (bd (f_X9_debt p2 p1) (fun z18 => gd (inb z18 75) (some ((upd (upd (upd bay (ix z12) ((bay (ix z12)) - p3)) (ix z14) (((upd bay (ix z12) ((bay (ix z12)) - p3)) (ix z14)) + p3)) (ix z16) (((upd (upd bay (ix z12) ((bay (ix z12)) - p3)) (ix z14) (((upd bay (ix z12) ((bay (ix z12)) - p3)) (ix z14)) + p3)) (ix z16)) + p3)) (ix z18), 0, z11.1, upd (upd (upd bay (ix z12) ((bay (ix z12)) - p3)) (ix z14) (((upd bay (ix z12) ((bay (ix z12)) - p3)) (ix z14)) + p3)) (ix z16) (((upd (upd bay (ix z12) ((bay (ix z12)) - p3)) (ix z14) (((upd bay (ix z12) ((bay (ix z12)) - p3)) (ix z14)) + p3)) (ix z16)) + p3), z11.2))))))))))) else (some ((-1000003), 0, acts, bay, was))))) else (some ((-1000002), 0, acts, bay, was))))))))
set_option maxHeartbeats 4000000 in
set_option maxRecDepth 100000 in
theorem c_X9_lend (l : Launch) (D : va_G) (cy : Nat → ClassId) (mAd : Nat → Nat) (thrown status acts taped latest leng cursor token start till fault faultAt gifts traced : Int32) (lane many item bay fresh thn was tape left gift isKept kept trace : Nat → Int32) (p1 p2 p3 : Int32) (z : (Int32 × Int32 × Int32 × (Nat → Int32) × (Nat → Int32))) (hz : f_X9_lend thrown acts bay was p1 p2 p3 = some z) : MI l yX9_lend wsX9_lend ({ frames := 3, cells := 0, slots := 0, locals := 68 } : Room) D cy [.ref (mAd 0), .int p1, .int p2, .int p3] (w_M cy mAd thrown status acts taped latest leng cursor token start till fault faultAt gifts traced lane many item bay fresh thn was tape left gift isKept kept trace) z.1 (w_M cy mAd z.2.1 status z.2.2.1 taped latest leng cursor token start till fault faultAt gifts traced lane many item z.2.2.2.1 fresh thn z.2.2.2.2 tape left gift isKept kept trace) := by
  refine met_start (Qf := fun A => MQi D cy z.1 (w_M cy mAd z.2.1 status z.2.2.1 taped latest leng cursor token start till fault faultAt gifts traced lane many item z.2.2.2.1 fresh thn z.2.2.2.2 tape left gift isKept kept trace) A) (cc := cX9_lend) (nL := 4) (ret := (some .int)) RX9 rfl (by decide) rfl (Nat.le_of_ble_eq_true rfl) ?_
  intro p e s m below meth c A ls C G hl
  have hl : lv_has ls 4 [(0, .ref (mAd 0)), (1, .int p1), (2, .int p2), (3, .int p3)] := hl
  have H := hz
  unfold f_X9_lend at H
  obtain ⟨hx, hb, hr, hml, hown, hts, hlk, hK, hA, hE⟩ := id C
  have lk0 := hts (Cond.fieldLink RX9 50 "TideDebtsModel" "thrown" "I") (List.mem_of_getElem? (i := 1) rfl)
  have lk1 := hts (Cond.constant RX9 70 (-1000001)) (List.mem_of_getElem? (i := 3) rfl)
  have lk2 := hts (Cond.constantLong RX9 212 (999)) (List.mem_of_getElem? (i := 2) rfl)
  have lk3 := hts (Cond.fieldLink RX9 19 "TideDebtsModel" "bay" "[I") (List.mem_of_getElem? (i := 4) rfl)
  have lk4 := hts (Cond.constant RX9 80 (-1000003)) (List.mem_of_getElem? (i := 6) rfl)
  have lk5 := hts (Cond.constant RX9 196 (-1000002)) (List.mem_of_getElem? (i := 5) rfl)
  have hiX9 : ∀ w ∈ u_ws RX9 TX9 27, w ∈ wsX9_lend := fun _ h => List.mem_cons_of_mem _ (List.mem_append_right _ h)
  refine lv_aload_n hx hb dX9_lend_0 rfl (lv_at hl 0 rfl) ?_
  refine lv_iconst (v := 0) hx hb dX9_lend_1 (by decide) ?_
  refine va_put (D := D) (ci := 9) (v := .int 0) (ty := .int) (C := RX9) (T := TX9) (N := 27) hx hb hts hiX9 tyX9 tyX9_ok nmX9 hown hK G.1 G.2.1 G.2.2 0 rfl rfl 0 (by decide) lk0 (fun _ h9 => h9) rfl (tyX9_ok 0 (by decide)) rfl rfl (Nat.le_of_ble_eq_true rfl) dX9_lend_2 (fun U locs hP hD hS => ?_)
  have G : Gd D A s (w_M cy mAd 0 status acts taped latest leng cursor token start till fault faultAt gifts traced lane many item bay fresh thn was tape left gift isKept kept trace) U locs := ⟨hP, hD, hS⟩
  refine lv_aload_n hx hb dX9_lend_5 rfl (lv_at hl 0 rfl) ?_
  refine lv_iload_n hx hb dX9_lend_6 rfl (lv_at hl 1 rfl) ?_
  refine lv_iload_n hx hb dX9_lend_7 rfl (lv_at hl 2 rfl) ?_
  obtain ⟨z1, hz1, H⟩ := bd_some H
  refine MI.callVw z1 [.int p1, .int p2] [] C G (c_X9_areTwo l D cy mAd 0 status acts taped latest leng cursor token start till fault faultAt gifts traced lane many item bay fresh thn was tape left gift isKept kept trace p1 p2 z1 hz1) gX9_lend_X9_areTwo rfl rfl rfl (n := 2) (by decide +kernel) ⟨Nat.le_of_ble_eq_true rfl, Nat.le_of_ble_eq_true rfl⟩ (q0 := 0) (ci := 9) rfl rfl rfl rfl hl.1 rfl (Nat.le_of_ble_eq_true rfl) dX9_lend_8 ⟨Nat.zero_le _, Nat.zero_le _⟩ (fun U locs G => ?_)
  have G : Gd D A s (w_M cy mAd 0 status acts taped latest leng cursor token start till fault faultAt gifts traced lane many item bay fresh thn was tape left gift isKept kept trace) U locs := G
  refine lv_if_eq (tgt := 26) hx hb dX9_lend_11 (by decide) (fun c2 => ?_) (fun c2 => ?_)
  · have H := if_t H c2
    refine lv_ldc hx hb hown lk1 dX9_lend_26 ?_
    obtain rfl := Option.some.inj H
    exact ret_i C G rfl dX9_lend_28
  · have H := if_f H c2
    refine lv_iload_n hx hb dX9_lend_14 rfl (lv_at hl 3 rfl) ?_
    refine lv_i2l hx hb dX9_lend_15 rfl ?_
    refine lv_lconst (v := 1) hx hb dX9_lend_16 (by decide) ?_
    refine lv_ldc2 hx hb hown lk2 dX9_lend_17 ?_
    obtain ⟨z3, hz3, H⟩ := bd_some H
    refine MI.callS z3 [.long p3.toInt64, .long 1, .long 999] [] [] C G (c_X9_in l D cy p3.toInt64 1 999 z3 hz3) gX9_lend_X9_in rfl rfl rfl (n := 3) (by decide +kernel) ⟨Nat.le_of_ble_eq_true rfl, Nat.le_of_ble_eq_true rfl⟩ rfl rfl rfl rfl hl.1 rfl (Nat.le_of_ble_eq_true rfl) dX9_lend_20 ⟨Nat.zero_le _, Nat.zero_le _⟩ (fun U locs G => ?_)
    have G : Gd D A s (w_M cy mAd 0 status acts taped latest leng cursor token start till fault faultAt gifts traced lane many item bay fresh thn was tape left gift isKept kept trace) U locs := G
    refine lv_if_ne (tgt := 29) hx hb dX9_lend_23 (by decide) (fun c4 => ?_) (fun c4 => ?_)
    · have H := if_f H c4
      refine lv_aload_n hx hb dX9_lend_29 rfl (lv_at hl 0 rfl) ?_
      refine va_get (D := D) (ci := 9) (v := .ref (mAd 4)) (C := RX9) (T := TX9) (N := 27) hx hb hts hiX9 hown hK G.1 0 rfl rfl 5 (by decide) lk3 (fun _ h9 => h9) rfl dX9_lend_30 ?_
      refine lv_iload_n hx hb dX9_lend_33 rfl (lv_at hl 1 rfl) ?_
      refine lv_iconst (v := 1) hx hb dX9_lend_34 (by decide) ?_
      obtain ⟨z5, hz5, H⟩ := bd_some H
      refine MI.callS z5 [.int p1, .int 1] [.ref (mAd 4)] [] C G (c_X9_at l D cy p1 1 z5 hz5) gX9_lend_X9_at rfl rfl rfl (n := 2) (by decide +kernel) ⟨Nat.le_of_ble_eq_true rfl, Nat.le_of_ble_eq_true rfl⟩ rfl rfl rfl rfl hl.1 rfl (Nat.le_of_ble_eq_true rfl) dX9_lend_35 ⟨Nat.zero_le _, Nat.zero_le _⟩ (fun U locs G => ?_)
      have G : Gd D A s (w_M cy mAd 0 status acts taped latest leng cursor token start till fault faultAt gifts traced lane many item bay fresh thn was tape left gift isKept kept trace) U locs := G
      obtain ⟨hb6, H⟩ := gd_some H
      refine g_iald (v := bay (ix z5)) hx hb hK G.1 4 1 rfl rfl hb6 rfl dX9_lend_38 ?_
      refine lv_iload_n hx hb dX9_lend_39 rfl (lv_at hl 3 rfl) ?_
      refine lv_icmp_ge (tgt := 46) hx hb dX9_lend_40 (by decide) (fun c7 => ?_) (fun c7 => ?_)
      · have H := if_t H c7
        refine lv_aload_n hx hb dX9_lend_46 rfl (lv_at hl 0 rfl) ?_
        refine va_get (D := D) (ci := 9) (v := .ref (mAd 4)) (C := RX9) (T := TX9) (N := 27) hx hb hts hiX9 hown hK G.1 0 rfl rfl 5 (by decide) lk3 (fun _ h9 => h9) rfl dX9_lend_47 ?_
        refine lv_iload_n hx hb dX9_lend_50 rfl (lv_at hl 2 rfl) ?_
        refine lv_iload_n hx hb dX9_lend_51 rfl (lv_at hl 1 rfl) ?_
        obtain ⟨z8, hz8, H⟩ := bd_some H
        refine MI.callS z8 [.int p2, .int p1] [.ref (mAd 4)] [] C G (c_X9_debt l D cy p2 p1 z8 hz8) gX9_lend_X9_debt rfl rfl rfl (n := 2) (by decide +kernel) ⟨Nat.le_of_ble_eq_true rfl, Nat.le_of_ble_eq_true rfl⟩ rfl rfl rfl rfl hl.1 rfl (Nat.le_of_ble_eq_true rfl) dX9_lend_52 ⟨Nat.zero_le _, Nat.zero_le _⟩ (fun U locs G => ?_)
        have G : Gd D A s (w_M cy mAd 0 status acts taped latest leng cursor token start till fault faultAt gifts traced lane many item bay fresh thn was tape left gift isKept kept trace) U locs := G
        obtain ⟨hb9, H⟩ := gd_some H
        refine g_iald (v := bay (ix z8)) hx hb hK G.1 4 1 rfl rfl hb9 rfl dX9_lend_55 ?_
        refine lv_iload_n hx hb dX9_lend_56 rfl (lv_at hl 3 rfl) ?_
        refine lv_iadd hx hb dX9_lend_57 ?_
        refine lv_sipush (v := 9999) hx hb dX9_lend_58 (by decide) ?_
        refine lv_icmp_le (tgt := 67) hx hb dX9_lend_61 (by decide) (fun c10 => ?_) (fun c10 => ?_)
        · have H := if_t H c10
          refine lv_aload_n hx hb dX9_lend_67 rfl (lv_at hl 0 rfl) ?_
          obtain ⟨z11, hz11, H⟩ := bd_some H
          refine MV.callVw [] [] C G (c_X9_keep l D cy mAd 0 status acts taped latest leng cursor token start till fault faultAt gifts traced lane many item bay fresh thn was tape left gift isKept kept trace z11 hz11) gX9_lend_X9_keep rfl rfl rfl (n := 0) (by decide +kernel) ⟨Nat.le_of_ble_eq_true rfl, Nat.le_of_ble_eq_true rfl⟩ (q0 := 0) (ci := 9) rfl rfl rfl rfl hl.1 rfl (Nat.le_of_ble_eq_true rfl) dX9_lend_68 ⟨Nat.zero_le _, Nat.zero_le _⟩ (fun U locs G => ?_)
          have G : Gd D A s (w_M cy mAd 0 status z11.1 taped latest leng cursor token start till fault faultAt gifts traced lane many item bay fresh thn z11.2 tape left gift isKept kept trace) U locs := G
          refine lv_aload_n hx hb dX9_lend_71 rfl (lv_at hl 0 rfl) ?_
          refine va_get (D := D) (ci := 9) (v := .ref (mAd 4)) (C := RX9) (T := TX9) (N := 27) hx hb hts hiX9 hown hK G.1 0 rfl rfl 5 (by decide) lk3 (fun _ h9 => h9) rfl dX9_lend_72 ?_
          refine lv_iload_n hx hb dX9_lend_75 rfl (lv_at hl 1 rfl) ?_
          refine lv_iconst (v := 1) hx hb dX9_lend_76 (by decide) ?_
          obtain ⟨z12, hz12, H⟩ := bd_some H
          refine MI.callS z12 [.int p1, .int 1] [.ref (mAd 4)] [] C G (c_X9_at l D cy p1 1 z12 hz12) gX9_lend_X9_at rfl rfl rfl (n := 2) (by decide +kernel) ⟨Nat.le_of_ble_eq_true rfl, Nat.le_of_ble_eq_true rfl⟩ rfl rfl rfl rfl hl.1 rfl (Nat.le_of_ble_eq_true rfl) dX9_lend_77 ⟨Nat.zero_le _, Nat.zero_le _⟩ (fun U locs G => ?_)
          have G : Gd D A s (w_M cy mAd 0 status z11.1 taped latest leng cursor token start till fault faultAt gifts traced lane many item bay fresh thn z11.2 tape left gift isKept kept trace) U locs := G
          refine lv_dup2_11 hx hb dX9_lend_80 rfl rfl ?_
          obtain ⟨hb13, H⟩ := gd_some H
          refine g_iald (v := bay (ix z12)) hx hb hK G.1 4 1 rfl rfl hb13 rfl dX9_lend_81 ?_
          refine lv_iload_n hx hb dX9_lend_82 rfl (lv_at hl 3 rfl) ?_
          refine lv_isub hx hb dX9_lend_83 ?_
          refine va_iast hx hb hK G.1 G.2.1 G.2.2 4 1 rfl rfl (inb_in hb13) dX9_lend_84 (fun U locs hP hD hS => ?_)
          have G : Gd D A s (w_M cy mAd 0 status z11.1 taped latest leng cursor token start till fault faultAt gifts traced lane many item (upd bay (ix z12) ((bay (ix z12)) - p3)) fresh thn z11.2 tape left gift isKept kept trace) U locs := ⟨hP, hD, hS⟩
          refine lv_aload_n hx hb dX9_lend_85 rfl (lv_at hl 0 rfl) ?_
          refine va_get (D := D) (ci := 9) (v := .ref (mAd 4)) (C := RX9) (T := TX9) (N := 27) hx hb hts hiX9 hown hK G.1 0 rfl rfl 5 (by decide) lk3 (fun _ h9 => h9) rfl dX9_lend_86 ?_
          refine lv_iload_n hx hb dX9_lend_89 rfl (lv_at hl 2 rfl) ?_
          refine lv_iconst (v := 1) hx hb dX9_lend_90 (by decide) ?_
          obtain ⟨z14, hz14, H⟩ := bd_some H
          refine MI.callS z14 [.int p2, .int 1] [.ref (mAd 4)] [] C G (c_X9_at l D cy p2 1 z14 hz14) gX9_lend_X9_at rfl rfl rfl (n := 2) (by decide +kernel) ⟨Nat.le_of_ble_eq_true rfl, Nat.le_of_ble_eq_true rfl⟩ rfl rfl rfl rfl hl.1 rfl (Nat.le_of_ble_eq_true rfl) dX9_lend_91 ⟨Nat.zero_le _, Nat.zero_le _⟩ (fun U locs G => ?_)
          have G : Gd D A s (w_M cy mAd 0 status z11.1 taped latest leng cursor token start till fault faultAt gifts traced lane many item (upd bay (ix z12) ((bay (ix z12)) - p3)) fresh thn z11.2 tape left gift isKept kept trace) U locs := G
          refine lv_dup2_11 hx hb dX9_lend_94 rfl rfl ?_
          obtain ⟨hb15, H⟩ := gd_some H
          refine g_iald (v := (upd bay (ix z12) ((bay (ix z12)) - p3)) (ix z14)) hx hb hK G.1 4 1 rfl rfl hb15 rfl dX9_lend_95 ?_
          refine lv_iload_n hx hb dX9_lend_96 rfl (lv_at hl 3 rfl) ?_
          refine lv_iadd hx hb dX9_lend_97 ?_
          refine va_iast hx hb hK G.1 G.2.1 G.2.2 4 1 rfl rfl (inb_in hb15) dX9_lend_98 (fun U locs hP hD hS => ?_)
          have G : Gd D A s (w_M cy mAd 0 status z11.1 taped latest leng cursor token start till fault faultAt gifts traced lane many item (upd (upd bay (ix z12) ((bay (ix z12)) - p3)) (ix z14) (((upd bay (ix z12) ((bay (ix z12)) - p3)) (ix z14)) + p3)) fresh thn z11.2 tape left gift isKept kept trace) U locs := ⟨hP, hD, hS⟩
          refine lv_aload_n hx hb dX9_lend_99 rfl (lv_at hl 0 rfl) ?_
          refine va_get (D := D) (ci := 9) (v := .ref (mAd 4)) (C := RX9) (T := TX9) (N := 27) hx hb hts hiX9 hown hK G.1 0 rfl rfl 5 (by decide) lk3 (fun _ h9 => h9) rfl dX9_lend_100 ?_
          refine lv_iload_n hx hb dX9_lend_103 rfl (lv_at hl 2 rfl) ?_
          refine lv_iload_n hx hb dX9_lend_104 rfl (lv_at hl 1 rfl) ?_
          obtain ⟨z16, hz16, H⟩ := bd_some H
          refine MI.callS z16 [.int p2, .int p1] [.ref (mAd 4)] [] C G (c_X9_debt l D cy p2 p1 z16 hz16) gX9_lend_X9_debt rfl rfl rfl (n := 2) (by decide +kernel) ⟨Nat.le_of_ble_eq_true rfl, Nat.le_of_ble_eq_true rfl⟩ rfl rfl rfl rfl hl.1 rfl (Nat.le_of_ble_eq_true rfl) dX9_lend_105 ⟨Nat.zero_le _, Nat.zero_le _⟩ (fun U locs G => ?_)
          have G : Gd D A s (w_M cy mAd 0 status z11.1 taped latest leng cursor token start till fault faultAt gifts traced lane many item (upd (upd bay (ix z12) ((bay (ix z12)) - p3)) (ix z14) (((upd bay (ix z12) ((bay (ix z12)) - p3)) (ix z14)) + p3)) fresh thn z11.2 tape left gift isKept kept trace) U locs := G
          refine lv_dup2_11 hx hb dX9_lend_108 rfl rfl ?_
          obtain ⟨hb17, H⟩ := gd_some H
          refine g_iald (v := (upd (upd bay (ix z12) ((bay (ix z12)) - p3)) (ix z14) (((upd bay (ix z12) ((bay (ix z12)) - p3)) (ix z14)) + p3)) (ix z16)) hx hb hK G.1 4 1 rfl rfl hb17 rfl dX9_lend_109 ?_
          refine lv_iload_n hx hb dX9_lend_110 rfl (lv_at hl 3 rfl) ?_
          refine lv_iadd hx hb dX9_lend_111 ?_
          refine va_iast hx hb hK G.1 G.2.1 G.2.2 4 1 rfl rfl (inb_in hb17) dX9_lend_112 (fun U locs hP hD hS => ?_)
          have G : Gd D A s (w_M cy mAd 0 status z11.1 taped latest leng cursor token start till fault faultAt gifts traced lane many item (upd (upd (upd bay (ix z12) ((bay (ix z12)) - p3)) (ix z14) (((upd bay (ix z12) ((bay (ix z12)) - p3)) (ix z14)) + p3)) (ix z16) (((upd (upd bay (ix z12) ((bay (ix z12)) - p3)) (ix z14) (((upd bay (ix z12) ((bay (ix z12)) - p3)) (ix z14)) + p3)) (ix z16)) + p3)) fresh thn z11.2 tape left gift isKept kept trace) U locs := ⟨hP, hD, hS⟩
          refine lv_aload_n hx hb dX9_lend_113 rfl (lv_at hl 0 rfl) ?_
          refine va_get (D := D) (ci := 9) (v := .ref (mAd 4)) (C := RX9) (T := TX9) (N := 27) hx hb hts hiX9 hown hK G.1 0 rfl rfl 5 (by decide) lk3 (fun _ h9 => h9) rfl dX9_lend_114 ?_
          refine lv_iload_n hx hb dX9_lend_117 rfl (lv_at hl 2 rfl) ?_
          refine lv_iload_n hx hb dX9_lend_118 rfl (lv_at hl 1 rfl) ?_
          obtain ⟨z18, hz18, H⟩ := bd_some H
          refine MI.callS z18 [.int p2, .int p1] [.ref (mAd 4)] [] C G (c_X9_debt l D cy p2 p1 z18 hz18) gX9_lend_X9_debt rfl rfl rfl (n := 2) (by decide +kernel) ⟨Nat.le_of_ble_eq_true rfl, Nat.le_of_ble_eq_true rfl⟩ rfl rfl rfl rfl hl.1 rfl (Nat.le_of_ble_eq_true rfl) dX9_lend_119 ⟨Nat.zero_le _, Nat.zero_le _⟩ (fun U locs G => ?_)
          have G : Gd D A s (w_M cy mAd 0 status z11.1 taped latest leng cursor token start till fault faultAt gifts traced lane many item (upd (upd (upd bay (ix z12) ((bay (ix z12)) - p3)) (ix z14) (((upd bay (ix z12) ((bay (ix z12)) - p3)) (ix z14)) + p3)) (ix z16) (((upd (upd bay (ix z12) ((bay (ix z12)) - p3)) (ix z14) (((upd bay (ix z12) ((bay (ix z12)) - p3)) (ix z14)) + p3)) (ix z16)) + p3)) fresh thn z11.2 tape left gift isKept kept trace) U locs := G
          obtain ⟨hb19, H⟩ := gd_some H
          refine g_iald (v := (upd (upd (upd bay (ix z12) ((bay (ix z12)) - p3)) (ix z14) (((upd bay (ix z12) ((bay (ix z12)) - p3)) (ix z14)) + p3)) (ix z16) (((upd (upd bay (ix z12) ((bay (ix z12)) - p3)) (ix z14) (((upd bay (ix z12) ((bay (ix z12)) - p3)) (ix z14)) + p3)) (ix z16)) + p3)) (ix z18)) hx hb hK G.1 4 1 rfl rfl hb19 rfl dX9_lend_122 ?_
          obtain rfl := Option.some.inj H
          exact ret_i C G rfl dX9_lend_123
        · have H := if_f H c10
          refine lv_ldc hx hb hown lk4 dX9_lend_64 ?_
          obtain rfl := Option.some.inj H
          exact ret_i C G rfl dX9_lend_66
      · have H := if_f H c7
        refine lv_ldc hx hb hown lk5 dX9_lend_43 ?_
        obtain rfl := Option.some.inj H
        exact ret_i C G rfl dX9_lend_45
    · have H := if_t H c4
      refine lv_ldc hx hb hown lk1 dX9_lend_26 ?_
      obtain rfl := Option.some.inj H
      exact ret_i C G rfl dX9_lend_28
def f_X9_pay (thrown acts : Int32) (bay was : Nat → Int32) (p1 p2 p3 : Int32) : Option (Int32 × Int32 × Int32 × (Nat → Int32) × (Nat → Int32)) := bd (f_X9_areTwo bay p1 p2) (fun z1 => if z1 = 0 then (some ((-1000001), 0, acts, bay, was)) else (bd (f_X9_in p3.toInt64 1 9999) (fun z3 => if z3 = 0 then (some ((-1000001), 0, acts, bay, was)) else (bd (f_X9_debt p1 p2) (fun z5 => gd (inb z5 75) (if (bay (ix z5)) < p3 then (some ((-1000002), 0, acts, bay, was)) else (bd (f_X9_at p1 1) (fun z8 => gd (inb z8 75) (if p3 ≤ (bay (ix z8)) then (bd (f_X9_keep acts bay was) (fun z11 => bd (f_X9_at p1 1) (fun z12 => gd (inb z12 75) (bd (f_X9_at p2 1) (fun z14 => gd (inb z14 75) (bd (f_X9_debt p1 p2) (fun z16 => gd (inb z16 75) (bd (f_X9_debt p1 p2) (fun z18 => gd (inb z18 75) (some ((upd (upd (upd bay (ix z12) ((bay (ix z12)) - p3)) (ix z14) (((upd bay (ix z12) ((bay (ix z12)) - p3)) (ix z14)) + p3)) (ix z16) (((upd (upd bay (ix z12) ((bay (ix z12)) - p3)) (ix z14) (((upd bay (ix z12) ((bay (ix z12)) - p3)) (ix z14)) + p3)) (ix z16)) - p3)) (ix z18), 0, z11.1, upd (upd (upd bay (ix z12) ((bay (ix z12)) - p3)) (ix z14) (((upd bay (ix z12) ((bay (ix z12)) - p3)) (ix z14)) + p3)) (ix z16) (((upd (upd bay (ix z12) ((bay (ix z12)) - p3)) (ix z14) (((upd bay (ix z12) ((bay (ix z12)) - p3)) (ix z14)) + p3)) (ix z16)) - p3), z11.2))))))))))) else (some ((-1000002), 0, acts, bay, was)))))))))))
set_option maxHeartbeats 4000000 in
set_option maxRecDepth 100000 in
theorem c_X9_pay (l : Launch) (D : va_G) (cy : Nat → ClassId) (mAd : Nat → Nat) (thrown status acts taped latest leng cursor token start till fault faultAt gifts traced : Int32) (lane many item bay fresh thn was tape left gift isKept kept trace : Nat → Int32) (p1 p2 p3 : Int32) (z : (Int32 × Int32 × Int32 × (Nat → Int32) × (Nat → Int32))) (hz : f_X9_pay thrown acts bay was p1 p2 p3 = some z) : MI l yX9_pay wsX9_pay ({ frames := 3, cells := 0, slots := 0, locals := 68 } : Room) D cy [.ref (mAd 0), .int p1, .int p2, .int p3] (w_M cy mAd thrown status acts taped latest leng cursor token start till fault faultAt gifts traced lane many item bay fresh thn was tape left gift isKept kept trace) z.1 (w_M cy mAd z.2.1 status z.2.2.1 taped latest leng cursor token start till fault faultAt gifts traced lane many item z.2.2.2.1 fresh thn z.2.2.2.2 tape left gift isKept kept trace) := by
  refine met_start (Qf := fun A => MQi D cy z.1 (w_M cy mAd z.2.1 status z.2.2.1 taped latest leng cursor token start till fault faultAt gifts traced lane many item z.2.2.2.1 fresh thn z.2.2.2.2 tape left gift isKept kept trace) A) (cc := cX9_pay) (nL := 4) (ret := (some .int)) RX9 rfl (by decide) rfl (Nat.le_of_ble_eq_true rfl) ?_
  intro p e s m below meth c A ls C G hl
  have hl : lv_has ls 4 [(0, .ref (mAd 0)), (1, .int p1), (2, .int p2), (3, .int p3)] := hl
  have H := hz
  unfold f_X9_pay at H
  obtain ⟨hx, hb, hr, hml, hown, hts, hlk, hK, hA, hE⟩ := id C
  have lk0 := hts (Cond.fieldLink RX9 50 "TideDebtsModel" "thrown" "I") (List.mem_of_getElem? (i := 1) rfl)
  have lk1 := hts (Cond.constant RX9 70 (-1000001)) (List.mem_of_getElem? (i := 3) rfl)
  have lk2 := hts (Cond.constantLong RX9 217 (9999)) (List.mem_of_getElem? (i := 2) rfl)
  have lk3 := hts (Cond.fieldLink RX9 19 "TideDebtsModel" "bay" "[I") (List.mem_of_getElem? (i := 4) rfl)
  have lk4 := hts (Cond.constant RX9 196 (-1000002)) (List.mem_of_getElem? (i := 5) rfl)
  have hiX9 : ∀ w ∈ u_ws RX9 TX9 27, w ∈ wsX9_pay := fun _ h => List.mem_cons_of_mem _ (List.mem_append_right _ h)
  refine lv_aload_n hx hb dX9_pay_0 rfl (lv_at hl 0 rfl) ?_
  refine lv_iconst (v := 0) hx hb dX9_pay_1 (by decide) ?_
  refine va_put (D := D) (ci := 9) (v := .int 0) (ty := .int) (C := RX9) (T := TX9) (N := 27) hx hb hts hiX9 tyX9 tyX9_ok nmX9 hown hK G.1 G.2.1 G.2.2 0 rfl rfl 0 (by decide) lk0 (fun _ h9 => h9) rfl (tyX9_ok 0 (by decide)) rfl rfl (Nat.le_of_ble_eq_true rfl) dX9_pay_2 (fun U locs hP hD hS => ?_)
  have G : Gd D A s (w_M cy mAd 0 status acts taped latest leng cursor token start till fault faultAt gifts traced lane many item bay fresh thn was tape left gift isKept kept trace) U locs := ⟨hP, hD, hS⟩
  refine lv_aload_n hx hb dX9_pay_5 rfl (lv_at hl 0 rfl) ?_
  refine lv_iload_n hx hb dX9_pay_6 rfl (lv_at hl 1 rfl) ?_
  refine lv_iload_n hx hb dX9_pay_7 rfl (lv_at hl 2 rfl) ?_
  obtain ⟨z1, hz1, H⟩ := bd_some H
  refine MI.callVw z1 [.int p1, .int p2] [] C G (c_X9_areTwo l D cy mAd 0 status acts taped latest leng cursor token start till fault faultAt gifts traced lane many item bay fresh thn was tape left gift isKept kept trace p1 p2 z1 hz1) gX9_pay_X9_areTwo rfl rfl rfl (n := 2) (by decide +kernel) ⟨Nat.le_of_ble_eq_true rfl, Nat.le_of_ble_eq_true rfl⟩ (q0 := 0) (ci := 9) rfl rfl rfl rfl hl.1 rfl (Nat.le_of_ble_eq_true rfl) dX9_pay_8 ⟨Nat.zero_le _, Nat.zero_le _⟩ (fun U locs G => ?_)
  have G : Gd D A s (w_M cy mAd 0 status acts taped latest leng cursor token start till fault faultAt gifts traced lane many item bay fresh thn was tape left gift isKept kept trace) U locs := G
  refine lv_if_eq (tgt := 26) hx hb dX9_pay_11 (by decide) (fun c2 => ?_) (fun c2 => ?_)
  · have H := if_t H c2
    refine lv_ldc hx hb hown lk1 dX9_pay_26 ?_
    obtain rfl := Option.some.inj H
    exact ret_i C G rfl dX9_pay_28
  · have H := if_f H c2
    refine lv_iload_n hx hb dX9_pay_14 rfl (lv_at hl 3 rfl) ?_
    refine lv_i2l hx hb dX9_pay_15 rfl ?_
    refine lv_lconst (v := 1) hx hb dX9_pay_16 (by decide) ?_
    refine lv_ldc2 hx hb hown lk2 dX9_pay_17 ?_
    obtain ⟨z3, hz3, H⟩ := bd_some H
    refine MI.callS z3 [.long p3.toInt64, .long 1, .long 9999] [] [] C G (c_X9_in l D cy p3.toInt64 1 9999 z3 hz3) gX9_pay_X9_in rfl rfl rfl (n := 3) (by decide +kernel) ⟨Nat.le_of_ble_eq_true rfl, Nat.le_of_ble_eq_true rfl⟩ rfl rfl rfl rfl hl.1 rfl (Nat.le_of_ble_eq_true rfl) dX9_pay_20 ⟨Nat.zero_le _, Nat.zero_le _⟩ (fun U locs G => ?_)
    have G : Gd D A s (w_M cy mAd 0 status acts taped latest leng cursor token start till fault faultAt gifts traced lane many item bay fresh thn was tape left gift isKept kept trace) U locs := G
    refine lv_if_ne (tgt := 29) hx hb dX9_pay_23 (by decide) (fun c4 => ?_) (fun c4 => ?_)
    · have H := if_f H c4
      refine lv_aload_n hx hb dX9_pay_29 rfl (lv_at hl 0 rfl) ?_
      refine va_get (D := D) (ci := 9) (v := .ref (mAd 4)) (C := RX9) (T := TX9) (N := 27) hx hb hts hiX9 hown hK G.1 0 rfl rfl 5 (by decide) lk3 (fun _ h9 => h9) rfl dX9_pay_30 ?_
      refine lv_iload_n hx hb dX9_pay_33 rfl (lv_at hl 1 rfl) ?_
      refine lv_iload_n hx hb dX9_pay_34 rfl (lv_at hl 2 rfl) ?_
      obtain ⟨z5, hz5, H⟩ := bd_some H
      refine MI.callS z5 [.int p1, .int p2] [.ref (mAd 4)] [] C G (c_X9_debt l D cy p1 p2 z5 hz5) gX9_pay_X9_debt rfl rfl rfl (n := 2) (by decide +kernel) ⟨Nat.le_of_ble_eq_true rfl, Nat.le_of_ble_eq_true rfl⟩ rfl rfl rfl rfl hl.1 rfl (Nat.le_of_ble_eq_true rfl) dX9_pay_35 ⟨Nat.zero_le _, Nat.zero_le _⟩ (fun U locs G => ?_)
      have G : Gd D A s (w_M cy mAd 0 status acts taped latest leng cursor token start till fault faultAt gifts traced lane many item bay fresh thn was tape left gift isKept kept trace) U locs := G
      obtain ⟨hb6, H⟩ := gd_some H
      refine g_iald (v := bay (ix z5)) hx hb hK G.1 4 1 rfl rfl hb6 rfl dX9_pay_38 ?_
      refine lv_iload_n hx hb dX9_pay_39 rfl (lv_at hl 3 rfl) ?_
      refine lv_icmp_lt (tgt := 57) hx hb dX9_pay_40 (by decide) (fun c7 => ?_) (fun c7 => ?_)
      · have H := if_t H c7
        refine lv_ldc hx hb hown lk4 dX9_pay_57 ?_
        obtain rfl := Option.some.inj H
        exact ret_i C G rfl dX9_pay_59
      · have H := if_f H c7
        refine lv_aload_n hx hb dX9_pay_43 rfl (lv_at hl 0 rfl) ?_
        refine va_get (D := D) (ci := 9) (v := .ref (mAd 4)) (C := RX9) (T := TX9) (N := 27) hx hb hts hiX9 hown hK G.1 0 rfl rfl 5 (by decide) lk3 (fun _ h9 => h9) rfl dX9_pay_44 ?_
        refine lv_iload_n hx hb dX9_pay_47 rfl (lv_at hl 1 rfl) ?_
        refine lv_iconst (v := 1) hx hb dX9_pay_48 (by decide) ?_
        obtain ⟨z8, hz8, H⟩ := bd_some H
        refine MI.callS z8 [.int p1, .int 1] [.ref (mAd 4)] [] C G (c_X9_at l D cy p1 1 z8 hz8) gX9_pay_X9_at rfl rfl rfl (n := 2) (by decide +kernel) ⟨Nat.le_of_ble_eq_true rfl, Nat.le_of_ble_eq_true rfl⟩ rfl rfl rfl rfl hl.1 rfl (Nat.le_of_ble_eq_true rfl) dX9_pay_49 ⟨Nat.zero_le _, Nat.zero_le _⟩ (fun U locs G => ?_)
        have G : Gd D A s (w_M cy mAd 0 status acts taped latest leng cursor token start till fault faultAt gifts traced lane many item bay fresh thn was tape left gift isKept kept trace) U locs := G
        obtain ⟨hb9, H⟩ := gd_some H
        refine g_iald (v := bay (ix z8)) hx hb hK G.1 4 1 rfl rfl hb9 rfl dX9_pay_52 ?_
        refine lv_iload_n hx hb dX9_pay_53 rfl (lv_at hl 3 rfl) ?_
        refine lv_icmp_ge (tgt := 60) hx hb dX9_pay_54 (by decide) (fun c10 => ?_) (fun c10 => ?_)
        · have H := if_t H c10
          refine lv_aload_n hx hb dX9_pay_60 rfl (lv_at hl 0 rfl) ?_
          obtain ⟨z11, hz11, H⟩ := bd_some H
          refine MV.callVw [] [] C G (c_X9_keep l D cy mAd 0 status acts taped latest leng cursor token start till fault faultAt gifts traced lane many item bay fresh thn was tape left gift isKept kept trace z11 hz11) gX9_pay_X9_keep rfl rfl rfl (n := 0) (by decide +kernel) ⟨Nat.le_of_ble_eq_true rfl, Nat.le_of_ble_eq_true rfl⟩ (q0 := 0) (ci := 9) rfl rfl rfl rfl hl.1 rfl (Nat.le_of_ble_eq_true rfl) dX9_pay_61 ⟨Nat.zero_le _, Nat.zero_le _⟩ (fun U locs G => ?_)
          have G : Gd D A s (w_M cy mAd 0 status z11.1 taped latest leng cursor token start till fault faultAt gifts traced lane many item bay fresh thn z11.2 tape left gift isKept kept trace) U locs := G
          refine lv_aload_n hx hb dX9_pay_64 rfl (lv_at hl 0 rfl) ?_
          refine va_get (D := D) (ci := 9) (v := .ref (mAd 4)) (C := RX9) (T := TX9) (N := 27) hx hb hts hiX9 hown hK G.1 0 rfl rfl 5 (by decide) lk3 (fun _ h9 => h9) rfl dX9_pay_65 ?_
          refine lv_iload_n hx hb dX9_pay_68 rfl (lv_at hl 1 rfl) ?_
          refine lv_iconst (v := 1) hx hb dX9_pay_69 (by decide) ?_
          obtain ⟨z12, hz12, H⟩ := bd_some H
          refine MI.callS z12 [.int p1, .int 1] [.ref (mAd 4)] [] C G (c_X9_at l D cy p1 1 z12 hz12) gX9_pay_X9_at rfl rfl rfl (n := 2) (by decide +kernel) ⟨Nat.le_of_ble_eq_true rfl, Nat.le_of_ble_eq_true rfl⟩ rfl rfl rfl rfl hl.1 rfl (Nat.le_of_ble_eq_true rfl) dX9_pay_70 ⟨Nat.zero_le _, Nat.zero_le _⟩ (fun U locs G => ?_)
          have G : Gd D A s (w_M cy mAd 0 status z11.1 taped latest leng cursor token start till fault faultAt gifts traced lane many item bay fresh thn z11.2 tape left gift isKept kept trace) U locs := G
          refine lv_dup2_11 hx hb dX9_pay_73 rfl rfl ?_
          obtain ⟨hb13, H⟩ := gd_some H
          refine g_iald (v := bay (ix z12)) hx hb hK G.1 4 1 rfl rfl hb13 rfl dX9_pay_74 ?_
          refine lv_iload_n hx hb dX9_pay_75 rfl (lv_at hl 3 rfl) ?_
          refine lv_isub hx hb dX9_pay_76 ?_
          refine va_iast hx hb hK G.1 G.2.1 G.2.2 4 1 rfl rfl (inb_in hb13) dX9_pay_77 (fun U locs hP hD hS => ?_)
          have G : Gd D A s (w_M cy mAd 0 status z11.1 taped latest leng cursor token start till fault faultAt gifts traced lane many item (upd bay (ix z12) ((bay (ix z12)) - p3)) fresh thn z11.2 tape left gift isKept kept trace) U locs := ⟨hP, hD, hS⟩
          refine lv_aload_n hx hb dX9_pay_78 rfl (lv_at hl 0 rfl) ?_
          refine va_get (D := D) (ci := 9) (v := .ref (mAd 4)) (C := RX9) (T := TX9) (N := 27) hx hb hts hiX9 hown hK G.1 0 rfl rfl 5 (by decide) lk3 (fun _ h9 => h9) rfl dX9_pay_79 ?_
          refine lv_iload_n hx hb dX9_pay_82 rfl (lv_at hl 2 rfl) ?_
          refine lv_iconst (v := 1) hx hb dX9_pay_83 (by decide) ?_
          obtain ⟨z14, hz14, H⟩ := bd_some H
          refine MI.callS z14 [.int p2, .int 1] [.ref (mAd 4)] [] C G (c_X9_at l D cy p2 1 z14 hz14) gX9_pay_X9_at rfl rfl rfl (n := 2) (by decide +kernel) ⟨Nat.le_of_ble_eq_true rfl, Nat.le_of_ble_eq_true rfl⟩ rfl rfl rfl rfl hl.1 rfl (Nat.le_of_ble_eq_true rfl) dX9_pay_84 ⟨Nat.zero_le _, Nat.zero_le _⟩ (fun U locs G => ?_)
          have G : Gd D A s (w_M cy mAd 0 status z11.1 taped latest leng cursor token start till fault faultAt gifts traced lane many item (upd bay (ix z12) ((bay (ix z12)) - p3)) fresh thn z11.2 tape left gift isKept kept trace) U locs := G
          refine lv_dup2_11 hx hb dX9_pay_87 rfl rfl ?_
          obtain ⟨hb15, H⟩ := gd_some H
          refine g_iald (v := (upd bay (ix z12) ((bay (ix z12)) - p3)) (ix z14)) hx hb hK G.1 4 1 rfl rfl hb15 rfl dX9_pay_88 ?_
          refine lv_iload_n hx hb dX9_pay_89 rfl (lv_at hl 3 rfl) ?_
          refine lv_iadd hx hb dX9_pay_90 ?_
          refine va_iast hx hb hK G.1 G.2.1 G.2.2 4 1 rfl rfl (inb_in hb15) dX9_pay_91 (fun U locs hP hD hS => ?_)
          have G : Gd D A s (w_M cy mAd 0 status z11.1 taped latest leng cursor token start till fault faultAt gifts traced lane many item (upd (upd bay (ix z12) ((bay (ix z12)) - p3)) (ix z14) (((upd bay (ix z12) ((bay (ix z12)) - p3)) (ix z14)) + p3)) fresh thn z11.2 tape left gift isKept kept trace) U locs := ⟨hP, hD, hS⟩
          refine lv_aload_n hx hb dX9_pay_92 rfl (lv_at hl 0 rfl) ?_
          refine va_get (D := D) (ci := 9) (v := .ref (mAd 4)) (C := RX9) (T := TX9) (N := 27) hx hb hts hiX9 hown hK G.1 0 rfl rfl 5 (by decide) lk3 (fun _ h9 => h9) rfl dX9_pay_93 ?_
          refine lv_iload_n hx hb dX9_pay_96 rfl (lv_at hl 1 rfl) ?_
          refine lv_iload_n hx hb dX9_pay_97 rfl (lv_at hl 2 rfl) ?_
          obtain ⟨z16, hz16, H⟩ := bd_some H
          refine MI.callS z16 [.int p1, .int p2] [.ref (mAd 4)] [] C G (c_X9_debt l D cy p1 p2 z16 hz16) gX9_pay_X9_debt rfl rfl rfl (n := 2) (by decide +kernel) ⟨Nat.le_of_ble_eq_true rfl, Nat.le_of_ble_eq_true rfl⟩ rfl rfl rfl rfl hl.1 rfl (Nat.le_of_ble_eq_true rfl) dX9_pay_98 ⟨Nat.zero_le _, Nat.zero_le _⟩ (fun U locs G => ?_)
          have G : Gd D A s (w_M cy mAd 0 status z11.1 taped latest leng cursor token start till fault faultAt gifts traced lane many item (upd (upd bay (ix z12) ((bay (ix z12)) - p3)) (ix z14) (((upd bay (ix z12) ((bay (ix z12)) - p3)) (ix z14)) + p3)) fresh thn z11.2 tape left gift isKept kept trace) U locs := G
          refine lv_dup2_11 hx hb dX9_pay_101 rfl rfl ?_
          obtain ⟨hb17, H⟩ := gd_some H
          refine g_iald (v := (upd (upd bay (ix z12) ((bay (ix z12)) - p3)) (ix z14) (((upd bay (ix z12) ((bay (ix z12)) - p3)) (ix z14)) + p3)) (ix z16)) hx hb hK G.1 4 1 rfl rfl hb17 rfl dX9_pay_102 ?_
          refine lv_iload_n hx hb dX9_pay_103 rfl (lv_at hl 3 rfl) ?_
          refine lv_isub hx hb dX9_pay_104 ?_
          refine va_iast hx hb hK G.1 G.2.1 G.2.2 4 1 rfl rfl (inb_in hb17) dX9_pay_105 (fun U locs hP hD hS => ?_)
          have G : Gd D A s (w_M cy mAd 0 status z11.1 taped latest leng cursor token start till fault faultAt gifts traced lane many item (upd (upd (upd bay (ix z12) ((bay (ix z12)) - p3)) (ix z14) (((upd bay (ix z12) ((bay (ix z12)) - p3)) (ix z14)) + p3)) (ix z16) (((upd (upd bay (ix z12) ((bay (ix z12)) - p3)) (ix z14) (((upd bay (ix z12) ((bay (ix z12)) - p3)) (ix z14)) + p3)) (ix z16)) - p3)) fresh thn z11.2 tape left gift isKept kept trace) U locs := ⟨hP, hD, hS⟩
          refine lv_aload_n hx hb dX9_pay_106 rfl (lv_at hl 0 rfl) ?_
          refine va_get (D := D) (ci := 9) (v := .ref (mAd 4)) (C := RX9) (T := TX9) (N := 27) hx hb hts hiX9 hown hK G.1 0 rfl rfl 5 (by decide) lk3 (fun _ h9 => h9) rfl dX9_pay_107 ?_
          refine lv_iload_n hx hb dX9_pay_110 rfl (lv_at hl 1 rfl) ?_
          refine lv_iload_n hx hb dX9_pay_111 rfl (lv_at hl 2 rfl) ?_
          obtain ⟨z18, hz18, H⟩ := bd_some H
          refine MI.callS z18 [.int p1, .int p2] [.ref (mAd 4)] [] C G (c_X9_debt l D cy p1 p2 z18 hz18) gX9_pay_X9_debt rfl rfl rfl (n := 2) (by decide +kernel) ⟨Nat.le_of_ble_eq_true rfl, Nat.le_of_ble_eq_true rfl⟩ rfl rfl rfl rfl hl.1 rfl (Nat.le_of_ble_eq_true rfl) dX9_pay_112 ⟨Nat.zero_le _, Nat.zero_le _⟩ (fun U locs G => ?_)
          have G : Gd D A s (w_M cy mAd 0 status z11.1 taped latest leng cursor token start till fault faultAt gifts traced lane many item (upd (upd (upd bay (ix z12) ((bay (ix z12)) - p3)) (ix z14) (((upd bay (ix z12) ((bay (ix z12)) - p3)) (ix z14)) + p3)) (ix z16) (((upd (upd bay (ix z12) ((bay (ix z12)) - p3)) (ix z14) (((upd bay (ix z12) ((bay (ix z12)) - p3)) (ix z14)) + p3)) (ix z16)) - p3)) fresh thn z11.2 tape left gift isKept kept trace) U locs := G
          obtain ⟨hb19, H⟩ := gd_some H
          refine g_iald (v := (upd (upd (upd bay (ix z12) ((bay (ix z12)) - p3)) (ix z14) (((upd bay (ix z12) ((bay (ix z12)) - p3)) (ix z14)) + p3)) (ix z16) (((upd (upd bay (ix z12) ((bay (ix z12)) - p3)) (ix z14) (((upd bay (ix z12) ((bay (ix z12)) - p3)) (ix z14)) + p3)) (ix z16)) - p3)) (ix z18)) hx hb hK G.1 4 1 rfl rfl hb19 rfl dX9_pay_115 ?_
          obtain rfl := Option.some.inj H
          exact ret_i C G rfl dX9_pay_116
        · have H := if_f H c10
          refine lv_ldc hx hb hown lk4 dX9_pay_57 ?_
          obtain rfl := Option.some.inj H
          exact ret_i C G rfl dX9_pay_59
    · have H := if_t H c4
      refine lv_ldc hx hb hown lk1 dX9_pay_26 ?_
      obtain rfl := Option.some.inj H
      exact ret_i C G rfl dX9_pay_28
def f_X9_storm_L43  : Nat → (Nat → Int32) → Int64 → Int32 → Int32 → Option ((Nat → Int32) × Int32)
  | 0, _, _, _, _ => none
  | n + 1, bay, x2, x4, x5 => if (bay 1) ≤ x5 then (some (bay, x4)) else (nm ((x2 * 16807) - (x2 * 16807) / 2147483647 * 2147483647) (fun x2_7 => bd (f_X9_at x5 1) (fun z8 => gd (inb z8 75) (bd (f_X9_at x5 2) (fun z10 => gd (inb z10 75) (f_X9_storm_L43 n (upd (upd bay (ix z8) ((bay (ix z8)) + ((x2_7 - x2_7 / 9 * 9).toInt32))) (ix z10) (((upd bay (ix z8) ((bay (ix z8)) + ((x2_7 - x2_7 / 9 * 9).toInt32))) (ix z10)) + ((x2_7 - x2_7 / 9 * 9).toInt32))) x2_7 (x4 + ((x2_7 - x2_7 / 9 * 9).toInt32)) (x5 + 1)))))))
theorem f_X9_storm_L43_z  (bay : Nat → Int32) (x2 : Int64) (x4 x5 : Int32) : f_X9_storm_L43 0 bay x2 x4 x5 = none := rfl
theorem f_X9_storm_L43_s  (n : Nat) (bay : Nat → Int32) (x2 : Int64) (x4 x5 : Int32) : f_X9_storm_L43 (n + 1) bay x2 x4 x5 = if (bay 1) ≤ x5 then (some (bay, x4)) else (nm ((x2 * 16807) - (x2 * 16807) / 2147483647 * 2147483647) (fun x2_7 => bd (f_X9_at x5 1) (fun z8 => gd (inb z8 75) (bd (f_X9_at x5 2) (fun z10 => gd (inb z10 75) (f_X9_storm_L43 n (upd (upd bay (ix z8) ((bay (ix z8)) + ((x2_7 - x2_7 / 9 * 9).toInt32))) (ix z10) (((upd bay (ix z8) ((bay (ix z8)) + ((x2_7 - x2_7 / 9 * 9).toInt32))) (ix z10)) + ((x2_7 - x2_7 / 9 * 9).toInt32))) x2_7 (x4 + ((x2_7 - x2_7 / 9 * 9).toInt32)) (x5 + 1))))))) := rfl
set_option maxHeartbeats 4000000 in
set_option maxRecDepth 100000 in
theorem wl_X9_storm_43 {p : Program} {l : Launch} {e : Env} {s : State} {m : MethodId} {below : List Frame} {meth : Method} {c : Code} {D : va_G} {cy : Nat → ClassId} {A : Nat → Prop} {args : Array Value} {Q : State → Prop} (C : Cx D cy A p s m meth c cX9_storm 7 (some .int) wsX9_storm RX9 args) (mAd : Nat → Nat) (thrown status acts taped latest leng cursor token start till fault faultAt gifts traced : Int32) (lane many item fresh thn was tape left gift isKept kept trace : Nat → Int32) :
    ∀ (n : Nat) (bay : Nat → Int32) (x2 : Int64) (x4 x5 : Int32) (z : ((Nat → Int32) × Int32)), f_X9_storm_L43 n bay x2 x4 x5 = some z → (∀ (U : Heap) (locs : List Loc) (ls : Array Slot), Gd D A s (w_M cy mAd thrown status acts taped latest leng cursor token start till fault faultAt gifts traced lane many item z.1 fresh thn was tape left gift isKept kept trace) U locs → lv_has ls 7 [(4, .int z.2)] → W p l e ({ frames := 1, cells := 0, slots := 0, locals := 25 } : Room) s m args below meth c U locs 0 0 Q (F0 m 117 ls [])) → ∀ (U : Heap) (locs : List Loc) (ls : Array Slot), Gd D A s (w_M cy mAd thrown status acts taped latest leng cursor token start till fault faultAt gifts traced lane many item bay fresh thn was tape left gift isKept kept trace) U locs → lv_has ls 7 [(0, .ref (mAd 0)), (2, .long x2), (4, .int x4), (5, .int x5)] → W p l e ({ frames := 1, cells := 0, slots := 0, locals := 25 } : Room) s m args below meth c U locs 0 0 Q (F0 m 43 ls []) := by
  obtain ⟨hx, hb, hr, hml, hown, hts, hlk, hK, hA, hE⟩ := id C
  have lk0 := hts (Cond.fieldLink RX9 19 "TideDebtsModel" "bay" "[I") (List.mem_of_getElem? (i := 5) rfl)
  have lk1 := hts (Cond.constantLong RX9 221 (16807)) (List.mem_of_getElem? (i := 6) rfl)
  have lk2 := hts (Cond.constantLong RX9 223 (2147483647)) (List.mem_of_getElem? (i := 7) rfl)
  have lk3 := hts (Cond.constantLong RX9 225 (9)) (List.mem_of_getElem? (i := 8) rfl)
  have hiX9 : ∀ w ∈ u_ws RX9 TX9 27, w ∈ wsX9_storm := fun _ h => List.mem_cons_of_mem _ (List.mem_append_right _ h)
  intro n
  induction n with
  | zero =>
    intro bay x2 x4 x5 z H
    rw [f_X9_storm_L43_z] at H
    cases H
  | succ n ih =>
    intro bay x2 x4 x5 z H kk U locs ls G hl
    rw [f_X9_storm_L43_s] at H
    refine lv_iload hx hb dX9_storm_43 (lv_at hl 3 rfl) ?_
    refine lv_aload_n hx hb dX9_storm_45 rfl (lv_at hl 0 rfl) ?_
    refine va_get (D := D) (ci := 9) (v := .ref (mAd 4)) (C := RX9) (T := TX9) (N := 27) hx hb hts hiX9 hown hK G.1 0 rfl rfl 5 (by decide) lk0 (fun _ h9 => h9) rfl dX9_storm_46 ?_
    refine lv_iconst (v := 1) hx hb dX9_storm_49 (by decide) ?_
    refine g_iald (v := bay 1) hx hb hK G.1 4 1 rfl rfl (by decide) rfl dX9_storm_50 ?_
    refine lv_icmp_ge (tgt := 117) hx hb dX9_storm_51 (by decide) (fun c6 => ?_) (fun c6 => ?_)
    · have H := if_t H c6
      obtain rfl := Option.some.inj H
      exact kk _ _ _ G (lv_sub hl [2] rfl)
    · have H := if_f H c6
      refine lv_lload_n hx hb dX9_storm_54 rfl (lv_at hl 1 rfl) ?_
      refine lv_ldc2 hx hb hown lk1 dX9_storm_55 ?_
      refine lv_lmul hx hb dX9_storm_58 ?_
      refine lv_ldc2 hx hb hown lk2 dX9_storm_59 ?_
      refine lv_lrem hx hb dX9_storm_62 (by decide) ?_
      refine lv_topl (fun x2_7 ex2_7 => ?_)
      have H := nm_h H ex2_7
      refine lv_lstore_n (lv' := [(2, .long x2_7), (0, .ref (mAd 0)), (4, .int x4), (5, .int x5)]) hx hb dX9_storm_63 rfl hl (by decide) rfl (fun ls hl => ?_)
      refine lv_lload_n hx hb dX9_storm_64 rfl (lv_at hl 0 rfl) ?_
      refine lv_ldc2 hx hb hown lk3 dX9_storm_65 ?_
      refine lv_lrem hx hb dX9_storm_68 (by decide) ?_
      refine lv_l2i hx hb dX9_storm_69 rfl ?_
      refine lv_istore (lv' := [(6, .int ((x2_7 - x2_7 / 9 * 9).toInt32)), (2, .long x2_7), (0, .ref (mAd 0)), (4, .int x4), (5, .int x5)]) hx hb dX9_storm_70 hl (by decide) rfl (fun ls hl => ?_)
      refine lv_aload_n hx hb dX9_storm_72 rfl (lv_at hl 2 rfl) ?_
      refine va_get (D := D) (ci := 9) (v := .ref (mAd 4)) (C := RX9) (T := TX9) (N := 27) hx hb hts hiX9 hown hK G.1 0 rfl rfl 5 (by decide) lk0 (fun _ h9 => h9) rfl dX9_storm_73 ?_
      refine lv_iload hx hb dX9_storm_76 (lv_at hl 4 rfl) ?_
      refine lv_iconst (v := 1) hx hb dX9_storm_78 (by decide) ?_
      obtain ⟨z8, hz8, H⟩ := bd_some H
      refine MI.callS z8 [.int x5, .int 1] [.ref (mAd 4)] [] C G (c_X9_at l D cy x5 1 z8 hz8) gX9_storm_X9_at rfl rfl rfl (n := 2) (by decide +kernel) ⟨Nat.le_of_ble_eq_true rfl, Nat.le_of_ble_eq_true rfl⟩ rfl rfl rfl rfl hl.1 rfl (Nat.le_of_ble_eq_true rfl) dX9_storm_79 ⟨Nat.zero_le _, Nat.zero_le _⟩ (fun U locs G => ?_)
      have G : Gd D A s (w_M cy mAd thrown status acts taped latest leng cursor token start till fault faultAt gifts traced lane many item bay fresh thn was tape left gift isKept kept trace) U locs := G
      refine lv_dup2_11 hx hb dX9_storm_82 rfl rfl ?_
      obtain ⟨hb9, H⟩ := gd_some H
      refine g_iald (v := bay (ix z8)) hx hb hK G.1 4 1 rfl rfl hb9 rfl dX9_storm_83 ?_
      refine lv_iload hx hb dX9_storm_84 (lv_at hl 0 rfl) ?_
      refine lv_iadd hx hb dX9_storm_86 ?_
      refine va_iast hx hb hK G.1 G.2.1 G.2.2 4 1 rfl rfl (inb_in hb9) dX9_storm_87 (fun U locs hP hD hS => ?_)
      have G : Gd D A s (w_M cy mAd thrown status acts taped latest leng cursor token start till fault faultAt gifts traced lane many item (upd bay (ix z8) ((bay (ix z8)) + ((x2_7 - x2_7 / 9 * 9).toInt32))) fresh thn was tape left gift isKept kept trace) U locs := ⟨hP, hD, hS⟩
      refine lv_aload_n hx hb dX9_storm_88 rfl (lv_at hl 2 rfl) ?_
      refine va_get (D := D) (ci := 9) (v := .ref (mAd 4)) (C := RX9) (T := TX9) (N := 27) hx hb hts hiX9 hown hK G.1 0 rfl rfl 5 (by decide) lk0 (fun _ h9 => h9) rfl dX9_storm_89 ?_
      refine lv_iload hx hb dX9_storm_92 (lv_at hl 4 rfl) ?_
      refine lv_iconst (v := 2) hx hb dX9_storm_94 (by decide) ?_
      obtain ⟨z10, hz10, H⟩ := bd_some H
      refine MI.callS z10 [.int x5, .int 2] [.ref (mAd 4)] [] C G (c_X9_at l D cy x5 2 z10 hz10) gX9_storm_X9_at rfl rfl rfl (n := 2) (by decide +kernel) ⟨Nat.le_of_ble_eq_true rfl, Nat.le_of_ble_eq_true rfl⟩ rfl rfl rfl rfl hl.1 rfl (Nat.le_of_ble_eq_true rfl) dX9_storm_95 ⟨Nat.zero_le _, Nat.zero_le _⟩ (fun U locs G => ?_)
      have G : Gd D A s (w_M cy mAd thrown status acts taped latest leng cursor token start till fault faultAt gifts traced lane many item (upd bay (ix z8) ((bay (ix z8)) + ((x2_7 - x2_7 / 9 * 9).toInt32))) fresh thn was tape left gift isKept kept trace) U locs := G
      refine lv_dup2_11 hx hb dX9_storm_98 rfl rfl ?_
      obtain ⟨hb11, H⟩ := gd_some H
      refine g_iald (v := (upd bay (ix z8) ((bay (ix z8)) + ((x2_7 - x2_7 / 9 * 9).toInt32))) (ix z10)) hx hb hK G.1 4 1 rfl rfl hb11 rfl dX9_storm_99 ?_
      refine lv_iload hx hb dX9_storm_100 (lv_at hl 0 rfl) ?_
      refine lv_iadd hx hb dX9_storm_102 ?_
      refine va_iast hx hb hK G.1 G.2.1 G.2.2 4 1 rfl rfl (inb_in hb11) dX9_storm_103 (fun U locs hP hD hS => ?_)
      have G : Gd D A s (w_M cy mAd thrown status acts taped latest leng cursor token start till fault faultAt gifts traced lane many item (upd (upd bay (ix z8) ((bay (ix z8)) + ((x2_7 - x2_7 / 9 * 9).toInt32))) (ix z10) (((upd bay (ix z8) ((bay (ix z8)) + ((x2_7 - x2_7 / 9 * 9).toInt32))) (ix z10)) + ((x2_7 - x2_7 / 9 * 9).toInt32))) fresh thn was tape left gift isKept kept trace) U locs := ⟨hP, hD, hS⟩
      refine lv_iload hx hb dX9_storm_104 (lv_at hl 3 rfl) ?_
      refine lv_iload hx hb dX9_storm_106 (lv_at hl 0 rfl) ?_
      refine lv_iadd hx hb dX9_storm_108 ?_
      refine lv_istore (lv' := [(4, .int (x4 + ((x2_7 - x2_7 / 9 * 9).toInt32))), (6, .int ((x2_7 - x2_7 / 9 * 9).toInt32)), (2, .long x2_7), (0, .ref (mAd 0)), (5, .int x5)]) hx hb dX9_storm_109 hl (by decide) rfl (fun ls hl => ?_)
      refine lv_iinc (v := x5 + 1) (lv' := [(5, .int (x5 + 1)), (4, .int (x4 + ((x2_7 - x2_7 / 9 * 9).toInt32))), (6, .int ((x2_7 - x2_7 / 9 * 9).toInt32)), (2, .long x2_7), (0, .ref (mAd 0))]) hx hb dX9_storm_111 hl (k := 4) rfl rfl (by decide) rfl (fun ls hl => ?_)
      refine lv_goto (tgt := 43) hx hb dX9_storm_114 (by decide) ?_
      exact ih (upd (upd bay (ix z8) ((bay (ix z8)) + ((x2_7 - x2_7 / 9 * 9).toInt32))) (ix z10) (((upd bay (ix z8) ((bay (ix z8)) + ((x2_7 - x2_7 / 9 * 9).toInt32))) (ix z10)) + ((x2_7 - x2_7 / 9 * 9).toInt32))) x2_7 (x4 + ((x2_7 - x2_7 / 9 * 9).toInt32)) (x5 + 1) z H kk _ _ _ G (lv_sub hl [4, 3, 1, 0] rfl)
def f_X9_storm (thrown acts : Int32) (bay was : Nat → Int32) (p1 : Int32) : Option (Int32 × Int32 × Int32 × (Nat → Int32) × (Nat → Int32)) := bd (f_X9_isThere bay) (fun z1 => if z1 = 0 then (some ((-1000002), 0, acts, bay, was)) else (bd (f_X9_in p1.toInt64 1 999999) (fun z3 => if z3 = 0 then (some ((-1000001), 0, acts, bay, was)) else (bd (f_X9_keep acts bay was) (fun z5 => bd (f_X9_storm_L43 2000 bay p1.toInt64 0 0) (fun z12 => some (z12.2, 0, z5.1, z12.1, z5.2)))))))
set_option maxHeartbeats 4000000 in
set_option maxRecDepth 100000 in
theorem c_X9_storm (l : Launch) (D : va_G) (cy : Nat → ClassId) (mAd : Nat → Nat) (thrown status acts taped latest leng cursor token start till fault faultAt gifts traced : Int32) (lane many item bay fresh thn was tape left gift isKept kept trace : Nat → Int32) (p1 : Int32) (z : (Int32 × Int32 × Int32 × (Nat → Int32) × (Nat → Int32))) (hz : f_X9_storm thrown acts bay was p1 = some z) : MI l yX9_storm wsX9_storm ({ frames := 1, cells := 0, slots := 0, locals := 25 } : Room) D cy [.ref (mAd 0), .int p1] (w_M cy mAd thrown status acts taped latest leng cursor token start till fault faultAt gifts traced lane many item bay fresh thn was tape left gift isKept kept trace) z.1 (w_M cy mAd z.2.1 status z.2.2.1 taped latest leng cursor token start till fault faultAt gifts traced lane many item z.2.2.2.1 fresh thn z.2.2.2.2 tape left gift isKept kept trace) := by
  refine met_start (Qf := fun A => MQi D cy z.1 (w_M cy mAd z.2.1 status z.2.2.1 taped latest leng cursor token start till fault faultAt gifts traced lane many item z.2.2.2.1 fresh thn z.2.2.2.2 tape left gift isKept kept trace) A) (cc := cX9_storm) (nL := 7) (ret := (some .int)) RX9 rfl (by decide) rfl (Nat.le_of_ble_eq_true rfl) ?_
  intro p e s m below meth c A ls C G hl
  have hl : lv_has ls 7 [(0, .ref (mAd 0)), (1, .int p1)] := hl
  have H := hz
  unfold f_X9_storm at H
  obtain ⟨hx, hb, hr, hml, hown, hts, hlk, hK, hA, hE⟩ := id C
  have lk0 := hts (Cond.fieldLink RX9 50 "TideDebtsModel" "thrown" "I") (List.mem_of_getElem? (i := 1) rfl)
  have lk1 := hts (Cond.constantLong RX9 219 (999999)) (List.mem_of_getElem? (i := 3) rfl)
  have lk2 := hts (Cond.constant RX9 70 (-1000001)) (List.mem_of_getElem? (i := 4) rfl)
  have lk3 := hts (Cond.constant RX9 196 (-1000002)) (List.mem_of_getElem? (i := 2) rfl)
  have hiX9 : ∀ w ∈ u_ws RX9 TX9 27, w ∈ wsX9_storm := fun _ h => List.mem_cons_of_mem _ (List.mem_append_right _ h)
  refine lv_aload_n hx hb dX9_storm_0 rfl (lv_at hl 0 rfl) ?_
  refine lv_iconst (v := 0) hx hb dX9_storm_1 (by decide) ?_
  refine va_put (D := D) (ci := 9) (v := .int 0) (ty := .int) (C := RX9) (T := TX9) (N := 27) hx hb hts hiX9 tyX9 tyX9_ok nmX9 hown hK G.1 G.2.1 G.2.2 0 rfl rfl 0 (by decide) lk0 (fun _ h9 => h9) rfl (tyX9_ok 0 (by decide)) rfl rfl (Nat.le_of_ble_eq_true rfl) dX9_storm_2 (fun U locs hP hD hS => ?_)
  have G : Gd D A s (w_M cy mAd 0 status acts taped latest leng cursor token start till fault faultAt gifts traced lane many item bay fresh thn was tape left gift isKept kept trace) U locs := ⟨hP, hD, hS⟩
  refine lv_aload_n hx hb dX9_storm_5 rfl (lv_at hl 0 rfl) ?_
  obtain ⟨z1, hz1, H⟩ := bd_some H
  refine MI.callVw z1 [] [] C G (c_X9_isThere l D cy mAd 0 status acts taped latest leng cursor token start till fault faultAt gifts traced lane many item bay fresh thn was tape left gift isKept kept trace z1 hz1) gX9_storm_X9_isThere rfl rfl rfl (n := 0) (by decide +kernel) ⟨Nat.le_of_ble_eq_true rfl, Nat.le_of_ble_eq_true rfl⟩ (q0 := 0) (ci := 9) rfl rfl rfl rfl hl.1 rfl (Nat.le_of_ble_eq_true rfl) dX9_storm_6 ⟨Nat.zero_le _, Nat.zero_le _⟩ (fun U locs G => ?_)
  have G : Gd D A s (w_M cy mAd 0 status acts taped latest leng cursor token start till fault faultAt gifts traced lane many item bay fresh thn was tape left gift isKept kept trace) U locs := G
  refine lv_if_ne (tgt := 15) hx hb dX9_storm_9 (by decide) (fun c2 => ?_) (fun c2 => ?_)
  · have H := if_f H c2
    refine lv_iload_n hx hb dX9_storm_15 rfl (lv_at hl 1 rfl) ?_
    refine lv_i2l hx hb dX9_storm_16 rfl ?_
    refine lv_lconst (v := 1) hx hb dX9_storm_17 (by decide) ?_
    refine lv_ldc2 hx hb hown lk1 dX9_storm_18 ?_
    obtain ⟨z3, hz3, H⟩ := bd_some H
    refine MI.callS z3 [.long p1.toInt64, .long 1, .long 999999] [] [] C G (c_X9_in l D cy p1.toInt64 1 999999 z3 hz3) gX9_storm_X9_in rfl rfl rfl (n := 3) (by decide +kernel) ⟨Nat.le_of_ble_eq_true rfl, Nat.le_of_ble_eq_true rfl⟩ rfl rfl rfl rfl hl.1 rfl (Nat.le_of_ble_eq_true rfl) dX9_storm_21 ⟨Nat.zero_le _, Nat.zero_le _⟩ (fun U locs G => ?_)
    have G : Gd D A s (w_M cy mAd 0 status acts taped latest leng cursor token start till fault faultAt gifts traced lane many item bay fresh thn was tape left gift isKept kept trace) U locs := G
    refine lv_if_ne (tgt := 30) hx hb dX9_storm_24 (by decide) (fun c4 => ?_) (fun c4 => ?_)
    · have H := if_f H c4
      refine lv_aload_n hx hb dX9_storm_30 rfl (lv_at hl 0 rfl) ?_
      obtain ⟨z5, hz5, H⟩ := bd_some H
      refine MV.callVw [] [] C G (c_X9_keep l D cy mAd 0 status acts taped latest leng cursor token start till fault faultAt gifts traced lane many item bay fresh thn was tape left gift isKept kept trace z5 hz5) gX9_storm_X9_keep rfl rfl rfl (n := 0) (by decide +kernel) ⟨Nat.le_of_ble_eq_true rfl, Nat.le_of_ble_eq_true rfl⟩ (q0 := 0) (ci := 9) rfl rfl rfl rfl hl.1 rfl (Nat.le_of_ble_eq_true rfl) dX9_storm_31 ⟨Nat.zero_le _, Nat.zero_le _⟩ (fun U locs G => ?_)
      have G : Gd D A s (w_M cy mAd 0 status z5.1 taped latest leng cursor token start till fault faultAt gifts traced lane many item bay fresh thn z5.2 tape left gift isKept kept trace) U locs := G
      refine lv_iload_n hx hb dX9_storm_34 rfl (lv_at hl 1 rfl) ?_
      refine lv_i2l hx hb dX9_storm_35 rfl ?_
      refine lv_lstore_n (lv' := [(2, .long p1.toInt64), (0, .ref (mAd 0)), (1, .int p1)]) hx hb dX9_storm_36 rfl hl (by decide) rfl (fun ls hl => ?_)
      refine lv_iconst (v := 0) hx hb dX9_storm_37 (by decide) ?_
      refine lv_istore (lv' := [(4, .int 0), (2, .long p1.toInt64), (0, .ref (mAd 0)), (1, .int p1)]) hx hb dX9_storm_38 hl (by decide) rfl (fun ls hl => ?_)
      refine lv_iconst (v := 0) hx hb dX9_storm_40 (by decide) ?_
      refine lv_istore (lv' := [(5, .int 0), (4, .int 0), (2, .long p1.toInt64), (0, .ref (mAd 0)), (1, .int p1)]) hx hb dX9_storm_41 hl (by decide) rfl (fun ls hl => ?_)
      obtain ⟨z12, hz12, H⟩ := bd_some H
      refine wl_X9_storm_43 C mAd 0 status z5.1 taped latest leng cursor token start till fault faultAt gifts traced lane many item fresh thn z5.2 tape left gift isKept kept trace _ bay p1.toInt64 0 0 z12 hz12 (fun U locs ls G hl => ?_) _ _ _ G (lv_sub hl [3, 2, 1, 0] rfl)
      have G : Gd D A s (w_M cy mAd 0 status z5.1 taped latest leng cursor token start till fault faultAt gifts traced lane many item z12.1 fresh thn z5.2 tape left gift isKept kept trace) U locs := G
      have hl : lv_has ls 7 [(4, .int z12.2)] := hl
      refine lv_iload hx hb dX9_storm_117 (lv_at hl 0 rfl) ?_
      obtain rfl := Option.some.inj H
      exact ret_i C G rfl dX9_storm_119
    · have H := if_t H c4
      refine lv_ldc hx hb hown lk2 dX9_storm_27 ?_
      obtain rfl := Option.some.inj H
      exact ret_i C G rfl dX9_storm_29
  · have H := if_t H c2
    refine lv_ldc hx hb hown lk3 dX9_storm_12 ?_
    obtain rfl := Option.some.inj H
    exact ret_i C G rfl dX9_storm_14
def f_X9_balanceOf_L4 (bay : Nat → Int32) (x1 : Int32) : Nat → Int32 → Int32 → Option Int32
  | 0, _, _ => none
  | n + 1, x2, x3 => if (bay 1) ≤ x3 then (some x2) else (bd (f_X9_debt x1 x3) (fun z2 => gd (inb z2 75) (bd (f_X9_debt x3 x1) (fun z4 => gd (inb z4 75) (f_X9_balanceOf_L4 bay x1 n (x2 + ((bay (ix z2)) - (bay (ix z4)))) (x3 + 1))))))
theorem f_X9_balanceOf_L4_z (bay : Nat → Int32) (x1 : Int32) (x2 x3 : Int32) : f_X9_balanceOf_L4 bay x1 0 x2 x3 = none := rfl
theorem f_X9_balanceOf_L4_s (bay : Nat → Int32) (x1 : Int32) (n : Nat) (x2 x3 : Int32) : f_X9_balanceOf_L4 bay x1 (n + 1) x2 x3 = if (bay 1) ≤ x3 then (some x2) else (bd (f_X9_debt x1 x3) (fun z2 => gd (inb z2 75) (bd (f_X9_debt x3 x1) (fun z4 => gd (inb z4 75) (f_X9_balanceOf_L4 bay x1 n (x2 + ((bay (ix z2)) - (bay (ix z4)))) (x3 + 1)))))) := rfl
set_option maxHeartbeats 4000000 in
set_option maxRecDepth 100000 in
theorem wl_X9_balanceOf_4 {p : Program} {l : Launch} {e : Env} {s : State} {m : MethodId} {below : List Frame} {meth : Method} {c : Code} {D : va_G} {cy : Nat → ClassId} {A : Nat → Prop} {args : Array Value} {Q : State → Prop} (C : Cx D cy A p s m meth c cX9_balanceOf 4 (some .int) wsX9_balanceOf RX9 args) (mAd : Nat → Nat) (thrown status acts taped latest leng cursor token start till fault faultAt gifts traced : Int32) (lane many item bay fresh thn was tape left gift isKept kept trace : Nat → Int32) (x1 : Int32) :
    ∀ (n : Nat) (x2 x3 : Int32) (z : Int32), f_X9_balanceOf_L4 bay x1 n x2 x3 = some z → (∀ (U : Heap) (locs : List Loc) (ls : Array Slot), Gd D A s (w_M cy mAd thrown status acts taped latest leng cursor token start till fault faultAt gifts traced lane many item bay fresh thn was tape left gift isKept kept trace) U locs → lv_has ls 4 [(2, .int z)] → W p l e ({ frames := 1, cells := 0, slots := 0, locals := 21 } : Room) s m args below meth c U locs 0 0 Q (F0 m 44 ls [])) → ∀ (U : Heap) (locs : List Loc) (ls : Array Slot), Gd D A s (w_M cy mAd thrown status acts taped latest leng cursor token start till fault faultAt gifts traced lane many item bay fresh thn was tape left gift isKept kept trace) U locs → lv_has ls 4 [(0, .ref (mAd 0)), (1, .int x1), (2, .int x2), (3, .int x3)] → W p l e ({ frames := 1, cells := 0, slots := 0, locals := 21 } : Room) s m args below meth c U locs 0 0 Q (F0 m 4 ls []) := by
  obtain ⟨hx, hb, hr, hml, hown, hts, hlk, hK, hA, hE⟩ := id C
  have lk0 := hts (Cond.fieldLink RX9 19 "TideDebtsModel" "bay" "[I") (List.mem_of_getElem? (i := 1) rfl)
  have hiX9 : ∀ w ∈ u_ws RX9 TX9 27, w ∈ wsX9_balanceOf := fun _ h => List.mem_cons_of_mem _ (List.mem_append_right _ h)
  intro n
  induction n with
  | zero =>
    intro x2 x3 z H
    rw [f_X9_balanceOf_L4_z] at H
    cases H
  | succ n ih =>
    intro x2 x3 z H kk U locs ls G hl
    rw [f_X9_balanceOf_L4_s] at H
    refine lv_iload_n hx hb dX9_balanceOf_4 rfl (lv_at hl 3 rfl) ?_
    refine lv_aload_n hx hb dX9_balanceOf_5 rfl (lv_at hl 0 rfl) ?_
    refine va_get (D := D) (ci := 9) (v := .ref (mAd 4)) (C := RX9) (T := TX9) (N := 27) hx hb hts hiX9 hown hK G.1 0 rfl rfl 5 (by decide) lk0 (fun _ h9 => h9) rfl dX9_balanceOf_6 ?_
    refine lv_iconst (v := 1) hx hb dX9_balanceOf_9 (by decide) ?_
    refine g_iald (v := bay 1) hx hb hK G.1 4 1 rfl rfl (by decide) rfl dX9_balanceOf_10 ?_
    refine lv_icmp_ge (tgt := 44) hx hb dX9_balanceOf_11 (by decide) (fun c1 => ?_) (fun c1 => ?_)
    · have H := if_t H c1
      obtain rfl := Option.some.inj H
      exact kk _ _ _ G (lv_sub hl [2] rfl)
    · have H := if_f H c1
      refine lv_iload_n hx hb dX9_balanceOf_14 rfl (lv_at hl 2 rfl) ?_
      refine lv_aload_n hx hb dX9_balanceOf_15 rfl (lv_at hl 0 rfl) ?_
      refine va_get (D := D) (ci := 9) (v := .ref (mAd 4)) (C := RX9) (T := TX9) (N := 27) hx hb hts hiX9 hown hK G.1 0 rfl rfl 5 (by decide) lk0 (fun _ h9 => h9) rfl dX9_balanceOf_16 ?_
      refine lv_iload_n hx hb dX9_balanceOf_19 rfl (lv_at hl 1 rfl) ?_
      refine lv_iload_n hx hb dX9_balanceOf_20 rfl (lv_at hl 3 rfl) ?_
      obtain ⟨z2, hz2, H⟩ := bd_some H
      refine MI.callS z2 [.int x1, .int x3] [.ref (mAd 4), .int x2] [] C G (c_X9_debt l D cy x1 x3 z2 hz2) gX9_balanceOf_X9_debt rfl rfl rfl (n := 2) (by decide +kernel) ⟨Nat.le_of_ble_eq_true rfl, Nat.le_of_ble_eq_true rfl⟩ rfl rfl rfl rfl hl.1 rfl (Nat.le_of_ble_eq_true rfl) dX9_balanceOf_21 ⟨Nat.zero_le _, Nat.zero_le _⟩ (fun U locs G => ?_)
      have G : Gd D A s (w_M cy mAd thrown status acts taped latest leng cursor token start till fault faultAt gifts traced lane many item bay fresh thn was tape left gift isKept kept trace) U locs := G
      obtain ⟨hb3, H⟩ := gd_some H
      refine g_iald (v := bay (ix z2)) hx hb hK G.1 4 1 rfl rfl hb3 rfl dX9_balanceOf_24 ?_
      refine lv_aload_n hx hb dX9_balanceOf_25 rfl (lv_at hl 0 rfl) ?_
      refine va_get (D := D) (ci := 9) (v := .ref (mAd 4)) (C := RX9) (T := TX9) (N := 27) hx hb hts hiX9 hown hK G.1 0 rfl rfl 5 (by decide) lk0 (fun _ h9 => h9) rfl dX9_balanceOf_26 ?_
      refine lv_iload_n hx hb dX9_balanceOf_29 rfl (lv_at hl 3 rfl) ?_
      refine lv_iload_n hx hb dX9_balanceOf_30 rfl (lv_at hl 1 rfl) ?_
      obtain ⟨z4, hz4, H⟩ := bd_some H
      refine MI.callS z4 [.int x3, .int x1] [.ref (mAd 4), .int (bay (ix z2)), .int x2] [] C G (c_X9_debt l D cy x3 x1 z4 hz4) gX9_balanceOf_X9_debt rfl rfl rfl (n := 2) (by decide +kernel) ⟨Nat.le_of_ble_eq_true rfl, Nat.le_of_ble_eq_true rfl⟩ rfl rfl rfl rfl hl.1 rfl (Nat.le_of_ble_eq_true rfl) dX9_balanceOf_31 ⟨Nat.zero_le _, Nat.zero_le _⟩ (fun U locs G => ?_)
      have G : Gd D A s (w_M cy mAd thrown status acts taped latest leng cursor token start till fault faultAt gifts traced lane many item bay fresh thn was tape left gift isKept kept trace) U locs := G
      obtain ⟨hb5, H⟩ := gd_some H
      refine g_iald (v := bay (ix z4)) hx hb hK G.1 4 1 rfl rfl hb5 rfl dX9_balanceOf_34 ?_
      refine lv_isub hx hb dX9_balanceOf_35 ?_
      refine lv_iadd hx hb dX9_balanceOf_36 ?_
      refine lv_istore_n (lv' := [(2, .int (x2 + ((bay (ix z2)) - (bay (ix z4))))), (0, .ref (mAd 0)), (1, .int x1), (3, .int x3)]) hx hb dX9_balanceOf_37 rfl hl (by decide) rfl (fun ls hl => ?_)
      refine lv_iinc (v := x3 + 1) (lv' := [(3, .int (x3 + 1)), (2, .int (x2 + ((bay (ix z2)) - (bay (ix z4))))), (0, .ref (mAd 0)), (1, .int x1)]) hx hb dX9_balanceOf_38 hl (k := 3) rfl rfl (by decide) rfl (fun ls hl => ?_)
      refine lv_goto (tgt := 4) hx hb dX9_balanceOf_41 (by decide) ?_
      exact ih (x2 + ((bay (ix z2)) - (bay (ix z4)))) (x3 + 1) z H kk _ _ _ G (lv_sub hl [2, 3, 1, 0] rfl)
def f_X9_balanceOf (bay : Nat → Int32) (p1 : Int32) : Option Int32 := bd (f_X9_balanceOf_L4 bay p1 2000 0 0) (fun z6 => some z6)
set_option maxHeartbeats 4000000 in
set_option maxRecDepth 100000 in
theorem c_X9_balanceOf (l : Launch) (D : va_G) (cy : Nat → ClassId) (mAd : Nat → Nat) (thrown status acts taped latest leng cursor token start till fault faultAt gifts traced : Int32) (lane many item bay fresh thn was tape left gift isKept kept trace : Nat → Int32) (p1 : Int32) (z : Int32) (hz : f_X9_balanceOf bay p1 = some z) : MI l yX9_balanceOf wsX9_balanceOf ({ frames := 1, cells := 0, slots := 0, locals := 21 } : Room) D cy [.ref (mAd 0), .int p1] (w_M cy mAd thrown status acts taped latest leng cursor token start till fault faultAt gifts traced lane many item bay fresh thn was tape left gift isKept kept trace) z (w_M cy mAd thrown status acts taped latest leng cursor token start till fault faultAt gifts traced lane many item bay fresh thn was tape left gift isKept kept trace) := by
  refine met_start (Qf := fun A => MQi D cy z (w_M cy mAd thrown status acts taped latest leng cursor token start till fault faultAt gifts traced lane many item bay fresh thn was tape left gift isKept kept trace) A) (cc := cX9_balanceOf) (nL := 4) (ret := (some .int)) RX9 rfl (by decide) rfl (Nat.le_of_ble_eq_true rfl) ?_
  intro p e s m below meth c A ls C G hl
  have hl : lv_has ls 4 [(0, .ref (mAd 0)), (1, .int p1)] := hl
  have H := hz
  unfold f_X9_balanceOf at H
  obtain ⟨hx, hb, hr, hml, hown, hts, hlk, hK, hA, hE⟩ := id C
  refine lv_iconst (v := 0) hx hb dX9_balanceOf_0 (by decide) ?_
  refine lv_istore_n (lv' := [(2, .int 0), (0, .ref (mAd 0)), (1, .int p1)]) hx hb dX9_balanceOf_1 rfl hl (by decide) rfl (fun ls hl => ?_)
  refine lv_iconst (v := 0) hx hb dX9_balanceOf_2 (by decide) ?_
  refine lv_istore_n (lv' := [(3, .int 0), (2, .int 0), (0, .ref (mAd 0)), (1, .int p1)]) hx hb dX9_balanceOf_3 rfl hl (by decide) rfl (fun ls hl => ?_)
  obtain ⟨z6, hz6, H⟩ := bd_some H
  refine wl_X9_balanceOf_4 C mAd thrown status acts taped latest leng cursor token start till fault faultAt gifts traced lane many item bay fresh thn was tape left gift isKept kept trace p1 _ 0 0 z6 hz6 (fun U locs ls G hl => ?_) _ _ _ G (lv_sub hl [2, 3, 1, 0] rfl)
  have G : Gd D A s (w_M cy mAd thrown status acts taped latest leng cursor token start till fault faultAt gifts traced lane many item bay fresh thn was tape left gift isKept kept trace) U locs := G
  have hl : lv_has ls 4 [(2, .int z6)] := hl
  refine lv_iload_n hx hb dX9_balanceOf_44 rfl (lv_at hl 0 rfl) ?_
  obtain rfl := Option.some.inj H
  exact ret_i C G rfl dX9_balanceOf_45
def f_X9_canNet_L4 (bay : Nat → Int32) : Nat → Int32 → Int32 → Option Int32
  | 0, _, _ => none
  | n + 1, x1, x2 => if (bay 1) ≤ x2 then (some x1) else (if x1 = 0 then (f_X9_canNet_L4 bay n 0 (x2 + 1)) else (bd (f_X9_at x2 1) (fun z3 => gd (inb z3 75) (bd (f_X9_balanceOf bay x2) (fun z5 => if (bay (ix z3)) < z5 then (f_X9_canNet_L4 bay n 0 (x2 + 1)) else (f_X9_canNet_L4 bay n 1 (x2 + 1)))))))
theorem f_X9_canNet_L4_z (bay : Nat → Int32) (x1 x2 : Int32) : f_X9_canNet_L4 bay 0 x1 x2 = none := rfl
theorem f_X9_canNet_L4_s (bay : Nat → Int32) (n : Nat) (x1 x2 : Int32) : f_X9_canNet_L4 bay (n + 1) x1 x2 = if (bay 1) ≤ x2 then (some x1) else (if x1 = 0 then (f_X9_canNet_L4 bay n 0 (x2 + 1)) else (bd (f_X9_at x2 1) (fun z3 => gd (inb z3 75) (bd (f_X9_balanceOf bay x2) (fun z5 => if (bay (ix z3)) < z5 then (f_X9_canNet_L4 bay n 0 (x2 + 1)) else (f_X9_canNet_L4 bay n 1 (x2 + 1))))))) := rfl
set_option maxHeartbeats 4000000 in
set_option maxRecDepth 100000 in
theorem wl_X9_canNet_4 {p : Program} {l : Launch} {e : Env} {s : State} {m : MethodId} {below : List Frame} {meth : Method} {c : Code} {D : va_G} {cy : Nat → ClassId} {A : Nat → Prop} {args : Array Value} {Q : State → Prop} (C : Cx D cy A p s m meth c cX9_canNet 3 (some .boolean) wsX9_canNet RX9 args) (mAd : Nat → Nat) (thrown status acts taped latest leng cursor token start till fault faultAt gifts traced : Int32) (lane many item bay fresh thn was tape left gift isKept kept trace : Nat → Int32) :
    ∀ (n : Nat) (x1 x2 : Int32) (z : Int32), f_X9_canNet_L4 bay n x1 x2 = some z → (∀ (U : Heap) (locs : List Loc) (ls : Array Slot), Gd D A s (w_M cy mAd thrown status acts taped latest leng cursor token start till fault faultAt gifts traced lane many item bay fresh thn was tape left gift isKept kept trace) U locs → lv_has ls 3 [(1, .int z)] → W p l e ({ frames := 2, cells := 0, slots := 0, locals := 44 } : Room) s m args below meth c U locs 0 0 Q (F0 m 48 ls [])) → ∀ (U : Heap) (locs : List Loc) (ls : Array Slot), Gd D A s (w_M cy mAd thrown status acts taped latest leng cursor token start till fault faultAt gifts traced lane many item bay fresh thn was tape left gift isKept kept trace) U locs → lv_has ls 3 [(0, .ref (mAd 0)), (1, .int x1), (2, .int x2)] → W p l e ({ frames := 2, cells := 0, slots := 0, locals := 44 } : Room) s m args below meth c U locs 0 0 Q (F0 m 4 ls []) := by
  obtain ⟨hx, hb, hr, hml, hown, hts, hlk, hK, hA, hE⟩ := id C
  have lk0 := hts (Cond.fieldLink RX9 19 "TideDebtsModel" "bay" "[I") (List.mem_of_getElem? (i := 1) rfl)
  have hiX9 : ∀ w ∈ u_ws RX9 TX9 27, w ∈ wsX9_canNet := fun _ h => List.mem_cons_of_mem _ (List.mem_append_right _ h)
  intro n
  induction n with
  | zero =>
    intro x1 x2 z H
    rw [f_X9_canNet_L4_z] at H
    cases H
  | succ n ih =>
    intro x1 x2 z H kk U locs ls G hl
    rw [f_X9_canNet_L4_s] at H
    refine lv_iload_n hx hb dX9_canNet_4 rfl (lv_at hl 2 rfl) ?_
    refine lv_aload_n hx hb dX9_canNet_5 rfl (lv_at hl 0 rfl) ?_
    refine va_get (D := D) (ci := 9) (v := .ref (mAd 4)) (C := RX9) (T := TX9) (N := 27) hx hb hts hiX9 hown hK G.1 0 rfl rfl 5 (by decide) lk0 (fun _ h9 => h9) rfl dX9_canNet_6 ?_
    refine lv_iconst (v := 1) hx hb dX9_canNet_9 (by decide) ?_
    refine g_iald (v := bay 1) hx hb hK G.1 4 1 rfl rfl (by decide) rfl dX9_canNet_10 ?_
    refine lv_icmp_ge (tgt := 48) hx hb dX9_canNet_11 (by decide) (fun c1 => ?_) (fun c1 => ?_)
    · have H := if_t H c1
      obtain rfl := Option.some.inj H
      exact kk _ _ _ G (lv_sub hl [1] rfl)
    · have H := if_f H c1
      refine lv_iload_n hx hb dX9_canNet_14 rfl (lv_at hl 1 rfl) ?_
      refine lv_if_eq (tgt := 40) hx hb dX9_canNet_15 (by decide) (fun c2 => ?_) (fun c2 => ?_)
      · have H := if_t H c2
        refine lv_iconst (v := 0) hx hb dX9_canNet_40 (by decide) ?_
        refine lv_istore_n (lv' := [(1, .int 0), (0, .ref (mAd 0)), (2, .int x2)]) hx hb dX9_canNet_41 rfl hl (by decide) rfl (fun ls hl => ?_)
        refine lv_iinc (v := x2 + 1) (lv' := [(2, .int (x2 + 1)), (1, .int 0), (0, .ref (mAd 0))]) hx hb dX9_canNet_42 hl (k := 2) rfl rfl (by decide) rfl (fun ls hl => ?_)
        refine lv_goto (tgt := 4) hx hb dX9_canNet_45 (by decide) ?_
        exact ih 0 (x2 + 1) z H kk _ _ _ G (lv_sub hl [2, 1, 0] rfl)
      · have H := if_f H c2
        refine lv_aload_n hx hb dX9_canNet_18 rfl (lv_at hl 0 rfl) ?_
        refine va_get (D := D) (ci := 9) (v := .ref (mAd 4)) (C := RX9) (T := TX9) (N := 27) hx hb hts hiX9 hown hK G.1 0 rfl rfl 5 (by decide) lk0 (fun _ h9 => h9) rfl dX9_canNet_19 ?_
        refine lv_iload_n hx hb dX9_canNet_22 rfl (lv_at hl 2 rfl) ?_
        refine lv_iconst (v := 1) hx hb dX9_canNet_23 (by decide) ?_
        obtain ⟨z3, hz3, H⟩ := bd_some H
        refine MI.callS z3 [.int x2, .int 1] [.ref (mAd 4)] [] C G (c_X9_at l D cy x2 1 z3 hz3) gX9_canNet_X9_at rfl rfl rfl (n := 2) (by decide +kernel) ⟨Nat.le_of_ble_eq_true rfl, Nat.le_of_ble_eq_true rfl⟩ rfl rfl rfl rfl hl.1 rfl (Nat.le_of_ble_eq_true rfl) dX9_canNet_24 ⟨Nat.zero_le _, Nat.zero_le _⟩ (fun U locs G => ?_)
        have G : Gd D A s (w_M cy mAd thrown status acts taped latest leng cursor token start till fault faultAt gifts traced lane many item bay fresh thn was tape left gift isKept kept trace) U locs := G
        obtain ⟨hb4, H⟩ := gd_some H
        refine g_iald (v := bay (ix z3)) hx hb hK G.1 4 1 rfl rfl hb4 rfl dX9_canNet_27 ?_
        refine lv_aload_n hx hb dX9_canNet_28 rfl (lv_at hl 0 rfl) ?_
        refine lv_iload_n hx hb dX9_canNet_29 rfl (lv_at hl 2 rfl) ?_
        obtain ⟨z5, hz5, H⟩ := bd_some H
        refine MI.callVw z5 [.int x2] [.int (bay (ix z3))] C G (c_X9_balanceOf l D cy mAd thrown status acts taped latest leng cursor token start till fault faultAt gifts traced lane many item bay fresh thn was tape left gift isKept kept trace x2 z5 hz5) gX9_canNet_X9_balanceOf rfl rfl rfl (n := 1) (by decide +kernel) ⟨Nat.le_of_ble_eq_true rfl, Nat.le_of_ble_eq_true rfl⟩ (q0 := 0) (ci := 9) rfl rfl rfl rfl hl.1 rfl (Nat.le_of_ble_eq_true rfl) dX9_canNet_30 ⟨Nat.zero_le _, Nat.zero_le _⟩ (fun U locs G => ?_)
        have G : Gd D A s (w_M cy mAd thrown status acts taped latest leng cursor token start till fault faultAt gifts traced lane many item bay fresh thn was tape left gift isKept kept trace) U locs := G
        refine lv_icmp_lt (tgt := 40) hx hb dX9_canNet_33 (by decide) (fun c6 => ?_) (fun c6 => ?_)
        · have H := if_t H c6
          refine lv_iconst (v := 0) hx hb dX9_canNet_40 (by decide) ?_
          refine lv_istore_n (lv' := [(1, .int 0), (0, .ref (mAd 0)), (2, .int x2)]) hx hb dX9_canNet_41 rfl hl (by decide) rfl (fun ls hl => ?_)
          refine lv_iinc (v := x2 + 1) (lv' := [(2, .int (x2 + 1)), (1, .int 0), (0, .ref (mAd 0))]) hx hb dX9_canNet_42 hl (k := 2) rfl rfl (by decide) rfl (fun ls hl => ?_)
          refine lv_goto (tgt := 4) hx hb dX9_canNet_45 (by decide) ?_
          exact ih 0 (x2 + 1) z H kk _ _ _ G (lv_sub hl [2, 1, 0] rfl)
        · have H := if_f H c6
          refine lv_iconst (v := 1) hx hb dX9_canNet_36 (by decide) ?_
          refine lv_goto (tgt := 41) hx hb dX9_canNet_37 (by decide) ?_
          refine lv_istore_n (lv' := [(1, .int 1), (0, .ref (mAd 0)), (2, .int x2)]) hx hb dX9_canNet_41 rfl hl (by decide) rfl (fun ls hl => ?_)
          refine lv_iinc (v := x2 + 1) (lv' := [(2, .int (x2 + 1)), (1, .int 1), (0, .ref (mAd 0))]) hx hb dX9_canNet_42 hl (k := 2) rfl rfl (by decide) rfl (fun ls hl => ?_)
          refine lv_goto (tgt := 4) hx hb dX9_canNet_45 (by decide) ?_
          exact ih 1 (x2 + 1) z H kk _ _ _ G (lv_sub hl [2, 1, 0] rfl)
def f_X9_canNet (bay : Nat → Int32) : Option Int32 := bd (f_X9_canNet_L4 bay 2000 1 0) (fun z7 => gd (isz z7) (some z7))
set_option maxHeartbeats 4000000 in
set_option maxRecDepth 100000 in
theorem c_X9_canNet (l : Launch) (D : va_G) (cy : Nat → ClassId) (mAd : Nat → Nat) (thrown status acts taped latest leng cursor token start till fault faultAt gifts traced : Int32) (lane many item bay fresh thn was tape left gift isKept kept trace : Nat → Int32) (z : Int32) (hz : f_X9_canNet bay = some z) : MI l yX9_canNet wsX9_canNet ({ frames := 2, cells := 0, slots := 0, locals := 44 } : Room) D cy [.ref (mAd 0)] (w_M cy mAd thrown status acts taped latest leng cursor token start till fault faultAt gifts traced lane many item bay fresh thn was tape left gift isKept kept trace) z (w_M cy mAd thrown status acts taped latest leng cursor token start till fault faultAt gifts traced lane many item bay fresh thn was tape left gift isKept kept trace) := by
  refine met_start (Qf := fun A => MQi D cy z (w_M cy mAd thrown status acts taped latest leng cursor token start till fault faultAt gifts traced lane many item bay fresh thn was tape left gift isKept kept trace) A) (cc := cX9_canNet) (nL := 3) (ret := (some .boolean)) RX9 rfl (by decide) rfl (Nat.le_of_ble_eq_true rfl) ?_
  intro p e s m below meth c A ls C G hl
  have hl : lv_has ls 3 [(0, .ref (mAd 0))] := hl
  have H := hz
  unfold f_X9_canNet at H
  obtain ⟨hx, hb, hr, hml, hown, hts, hlk, hK, hA, hE⟩ := id C
  refine lv_iconst (v := 1) hx hb dX9_canNet_0 (by decide) ?_
  refine lv_istore_n (lv' := [(1, .int 1), (0, .ref (mAd 0))]) hx hb dX9_canNet_1 rfl hl (by decide) rfl (fun ls hl => ?_)
  refine lv_iconst (v := 0) hx hb dX9_canNet_2 (by decide) ?_
  refine lv_istore_n (lv' := [(2, .int 0), (1, .int 1), (0, .ref (mAd 0))]) hx hb dX9_canNet_3 rfl hl (by decide) rfl (fun ls hl => ?_)
  obtain ⟨z7, hz7, H⟩ := bd_some H
  refine wl_X9_canNet_4 C mAd thrown status acts taped latest leng cursor token start till fault faultAt gifts traced lane many item bay fresh thn was tape left gift isKept kept trace _ 1 0 z7 hz7 (fun U locs ls G hl => ?_) _ _ _ G (lv_sub hl [2, 1, 0] rfl)
  have G : Gd D A s (w_M cy mAd thrown status acts taped latest leng cursor token start till fault faultAt gifts traced lane many item bay fresh thn was tape left gift isKept kept trace) U locs := G
  have hl : lv_has ls 3 [(1, .int z7)] := hl
  refine lv_iload_n hx hb dX9_canNet_48 rfl (lv_at hl 0 rfl) ?_
  obtain ⟨hz8, H⟩ := gd_some H
  obtain rfl := Option.some.inj H
  exact ret_z C G rfl (isz_n hz8) dX9_canNet_49
def f_X9_firstWith_L2 (bay left : Nat → Int32) (x1 : Int32) : Nat → Int32 → Option Int32
  | 0, _ => none
  | n + 1, x2 => if (bay 1) ≤ x2 then (some (-1000000)) else (gd (inb x2 6) (if (x1 * (left (ix x2))) ≤ 0 then (f_X9_firstWith_L2 bay left x1 n (x2 + 1)) else (some x2)))
theorem f_X9_firstWith_L2_z (bay left : Nat → Int32) (x1 : Int32) (x2 : Int32) : f_X9_firstWith_L2 bay left x1 0 x2 = none := rfl
theorem f_X9_firstWith_L2_s (bay left : Nat → Int32) (x1 : Int32) (n : Nat) (x2 : Int32) : f_X9_firstWith_L2 bay left x1 (n + 1) x2 = if (bay 1) ≤ x2 then (some (-1000000)) else (gd (inb x2 6) (if (x1 * (left (ix x2))) ≤ 0 then (f_X9_firstWith_L2 bay left x1 n (x2 + 1)) else (some x2))) := rfl
set_option maxHeartbeats 4000000 in
set_option maxRecDepth 100000 in
theorem wl_X9_firstWith_2 {p : Program} {l : Launch} {e : Env} {s : State} {m : MethodId} {below : List Frame} {meth : Method} {c : Code} {D : va_G} {cy : Nat → ClassId} {A : Nat → Prop} {args : Array Value} (C : Cx D cy A p s m meth c cX9_firstWith 3 (some .int) wsX9_firstWith RX9 args) (mAd : Nat → Nat) (thrown status acts taped latest leng cursor token start till fault faultAt gifts traced : Int32) (lane many item bay fresh thn was tape left gift isKept kept trace : Nat → Int32) (x1 : Int32) :
    ∀ (n : Nat) (x2 : Int32) (z : Int32), f_X9_firstWith_L2 bay left x1 n x2 = some z → ∀ (U : Heap) (locs : List Loc) (ls : Array Slot), Gd D A s (w_M cy mAd thrown status acts taped latest leng cursor token start till fault faultAt gifts traced lane many item bay fresh thn was tape left gift isKept kept trace) U locs → lv_has ls 3 [(0, .ref (mAd 0)), (1, .int x1), (2, .int x2)] → W p l e ({ frames := 0, cells := 0, slots := 0, locals := 0 } : Room) s m args below meth c U locs 0 0 (MQ below (MQi D cy z (w_M cy mAd thrown status acts taped latest leng cursor token start till fault faultAt gifts traced lane many item bay fresh thn was tape left gift isKept kept trace) A) args s 0 0 A) (F0 m 2 ls []) := by
  obtain ⟨hx, hb, hr, hml, hown, hts, hlk, hK, hA, hE⟩ := id C
  have lk0 := hts (Cond.fieldLink RX9 19 "TideDebtsModel" "bay" "[I") (List.mem_of_getElem? (i := 1) rfl)
  have lk1 := hts (Cond.constant RX9 86 (-1000000)) (List.mem_of_getElem? (i := 3) rfl)
  have lk2 := hts (Cond.fieldLink RX9 34 "TideDebtsModel" "left" "[I") (List.mem_of_getElem? (i := 2) rfl)
  have hiX9 : ∀ w ∈ u_ws RX9 TX9 27, w ∈ wsX9_firstWith := fun _ h => List.mem_cons_of_mem _ (List.mem_append_right _ h)
  intro n
  induction n with
  | zero =>
    intro x2 z H
    rw [f_X9_firstWith_L2_z] at H
    cases H
  | succ n ih =>
    intro x2 z H U locs ls G hl
    rw [f_X9_firstWith_L2_s] at H
    refine lv_iload_n hx hb dX9_firstWith_2 rfl (lv_at hl 2 rfl) ?_
    refine lv_aload_n hx hb dX9_firstWith_3 rfl (lv_at hl 0 rfl) ?_
    refine va_get (D := D) (ci := 9) (v := .ref (mAd 4)) (C := RX9) (T := TX9) (N := 27) hx hb hts hiX9 hown hK G.1 0 rfl rfl 5 (by decide) lk0 (fun _ h9 => h9) rfl dX9_firstWith_4 ?_
    refine lv_iconst (v := 1) hx hb dX9_firstWith_7 (by decide) ?_
    refine g_iald (v := bay 1) hx hb hK G.1 4 1 rfl rfl (by decide) rfl dX9_firstWith_8 ?_
    refine lv_icmp_ge (tgt := 31) hx hb dX9_firstWith_9 (by decide) (fun c1 => ?_) (fun c1 => ?_)
    · have H := if_t H c1
      refine lv_ldc hx hb hown lk1 dX9_firstWith_31 ?_
      obtain rfl := Option.some.inj H
      exact ret_i C G rfl dX9_firstWith_33
    · have H := if_f H c1
      refine lv_iload_n hx hb dX9_firstWith_12 rfl (lv_at hl 1 rfl) ?_
      refine lv_aload_n hx hb dX9_firstWith_13 rfl (lv_at hl 0 rfl) ?_
      refine va_get (D := D) (ci := 9) (v := .ref (mAd 9)) (C := RX9) (T := TX9) (N := 27) hx hb hts hiX9 hown hK G.1 0 rfl rfl 20 (by decide) lk2 (fun _ h9 => h9) rfl dX9_firstWith_14 ?_
      refine lv_iload_n hx hb dX9_firstWith_17 rfl (lv_at hl 2 rfl) ?_
      obtain ⟨hb2, H⟩ := gd_some H
      refine g_iald (v := left (ix x2)) hx hb hK G.1 9 1 rfl rfl hb2 rfl dX9_firstWith_18 ?_
      refine lv_imul hx hb dX9_firstWith_19 ?_
      refine lv_if_le (tgt := 25) hx hb dX9_firstWith_20 (by decide) (fun c3 => ?_) (fun c3 => ?_)
      · have H := if_t H c3
        refine lv_iinc (v := x2 + 1) (lv' := [(2, .int (x2 + 1)), (0, .ref (mAd 0)), (1, .int x1)]) hx hb dX9_firstWith_25 hl (k := 2) rfl rfl (by decide) rfl (fun ls hl => ?_)
        refine lv_goto (tgt := 2) hx hb dX9_firstWith_28 (by decide) ?_
        exact ih (x2 + 1) z H _ _ _ G (lv_sub hl [1, 2, 0] rfl)
      · have H := if_f H c3
        refine lv_iload_n hx hb dX9_firstWith_23 rfl (lv_at hl 2 rfl) ?_
        obtain rfl := Option.some.inj H
        exact ret_i C G rfl dX9_firstWith_24
def f_X9_firstWith (bay left : Nat → Int32) (p1 : Int32) : Option Int32 := f_X9_firstWith_L2 bay left p1 2000 0
set_option maxHeartbeats 4000000 in
set_option maxRecDepth 100000 in
theorem c_X9_firstWith (l : Launch) (D : va_G) (cy : Nat → ClassId) (mAd : Nat → Nat) (thrown status acts taped latest leng cursor token start till fault faultAt gifts traced : Int32) (lane many item bay fresh thn was tape left gift isKept kept trace : Nat → Int32) (p1 : Int32) (z : Int32) (hz : f_X9_firstWith bay left p1 = some z) : MI l yX9_firstWith wsX9_firstWith ({ frames := 0, cells := 0, slots := 0, locals := 0 } : Room) D cy [.ref (mAd 0), .int p1] (w_M cy mAd thrown status acts taped latest leng cursor token start till fault faultAt gifts traced lane many item bay fresh thn was tape left gift isKept kept trace) z (w_M cy mAd thrown status acts taped latest leng cursor token start till fault faultAt gifts traced lane many item bay fresh thn was tape left gift isKept kept trace) := by
  refine met_start (Qf := fun A => MQi D cy z (w_M cy mAd thrown status acts taped latest leng cursor token start till fault faultAt gifts traced lane many item bay fresh thn was tape left gift isKept kept trace) A) (cc := cX9_firstWith) (nL := 3) (ret := (some .int)) RX9 rfl (by decide) rfl (Nat.le_of_ble_eq_true rfl) ?_
  intro p e s m below meth c A ls C G hl
  have hl : lv_has ls 3 [(0, .ref (mAd 0)), (1, .int p1)] := hl
  have H := hz
  unfold f_X9_firstWith at H
  obtain ⟨hx, hb, hr, hml, hown, hts, hlk, hK, hA, hE⟩ := id C
  refine lv_iconst (v := 0) hx hb dX9_firstWith_0 (by decide) ?_
  refine lv_istore_n (lv' := [(2, .int 0), (0, .ref (mAd 0)), (1, .int p1)]) hx hb dX9_firstWith_1 rfl hl (by decide) rfl (fun ls hl => ?_)
  exact wl_X9_firstWith_2 C mAd thrown status acts taped latest leng cursor token start till fault faultAt gifts traced lane many item bay fresh thn was tape left gift isKept kept trace p1 _ 0 z H _ _ _ G (lv_sub hl [1, 2, 0] rfl)
