def f_X4_addGift (a_gft : Int32) (a_bal a_giv a_tak a_inc : Nat → Int32) (p1 p2 : Int32) : Option (Int32 × (Nat → Int32) × (Nat → Int32) × (Nat → Int32) × (Nat → Int32)) := if p1 = (-1000000) then (some (a_gft, a_bal, a_giv, a_tak, a_inc)) else (if p2 = (-1000000) then (some (a_gft, a_bal, a_giv, a_tak, a_inc)) else (if a_gft < 6 then (gd (inb p1 6) (gd (inb p2 6) (nm (if (-(a_bal (ix p2))) < (a_bal (ix p1)) then -(a_bal (ix p2)) else a_bal (ix p1)) (fun x3_6 => gd (inb a_gft 6) (some (a_gft + 1, upd (upd a_bal (ix p1) ((a_bal (ix p1)) - x3_6)) (ix p2) (((upd a_bal (ix p1) ((a_bal (ix p1)) - x3_6)) (ix p2)) + x3_6), upd a_giv (ix a_gft) p1, upd a_tak (ix a_gft) p2, upd a_inc (ix a_gft) x3_6)))))) else (some (a_gft, a_bal, a_giv, a_tak, a_inc))))
set_option maxHeartbeats 4000000 in
set_option maxRecDepth 100000 in
theorem c_X4_addGift (l : Launch) (D : va_G) (cy : Nat → ClassId) (aAd : Nat → Nat) (a_gft : Int32) (a_bal a_giv a_tak a_inc : Nat → Int32) (p1 p2 : Int32) (z : (Int32 × (Nat → Int32) × (Nat → Int32) × (Nat → Int32) × (Nat → Int32))) (hz : f_X4_addGift a_gft a_bal a_giv a_tak a_inc p1 p2 = some z) : MV l yX4_addGift wsX4_addGift ({ frames := 1, cells := 0, slots := 0, locals := 21 } : Room) D cy [.ref (aAd 0), .int p1, .int p2] (w_Net cy aAd a_gft a_bal a_giv a_tak a_inc) (w_Net cy aAd z.1 z.2.1 z.2.2.1 z.2.2.2.1 z.2.2.2.2) := by
  refine met_start (Qf := fun A => MQv D cy (w_Net cy aAd z.1 z.2.1 z.2.2.1 z.2.2.2.1 z.2.2.2.2) A) (cc := cX4_addGift) (nL := 4) (ret := none) RX4 rfl (by decide) rfl (Nat.le_of_ble_eq_true rfl) ?_
  intro p e s m below meth c A ls C G hl
  have hl : lv_has ls 4 [(0, .ref (aAd 0)), (1, .int p1), (2, .int p2)] := hl
  have H := hz
  unfold f_X4_addGift at H
  obtain ⟨hx, hb, hr, hml, hown, hts, hlk, hK, hA, hE⟩ := id C
  have lk0 := hts (Cond.constant RX4 50 (-1000000)) (List.mem_of_getElem? (i := 1) rfl)
  have lk1 := hts (Cond.fieldLink RX4 39 "TideDebts$Netting" "gifts" "I") (List.mem_of_getElem? (i := 2) rfl)
  have lk2 := hts (Cond.fieldLink RX4 9 "TideDebts$Netting" "balances" "[I") (List.mem_of_getElem? (i := 3) rfl)
  have lk3 := hts (Cond.methodLink RX4 51 Lib.Math.min.name) (List.mem_of_getElem? (i := 4) rfl)
  have lk4 := hts (Cond.static Lib.Math.min.name) (List.mem_of_getElem? (i := 5) rfl)
  have lk5 := hts (Cond.initialized "java/lang/Math") (List.mem_of_getElem? (i := 6) rfl)
  have lk6 := hts (Cond.code Lib.Math.min.name Lib.Math.min.code 2 (some .int)) (List.mem_of_getElem? (i := 7) rfl)
  have lk7 := hts (Cond.fieldLink RX4 15 "TideDebts$Netting" "givers" "[I") (List.mem_of_getElem? (i := 8) rfl)
  have lk8 := hts (Cond.fieldLink RX4 18 "TideDebts$Netting" "takers" "[I") (List.mem_of_getElem? (i := 9) rfl)
  have lk9 := hts (Cond.fieldLink RX4 21 "TideDebts$Netting" "inches" "[I") (List.mem_of_getElem? (i := 10) rfl)
  have hiX4 : ∀ w ∈ u_ws RX4 TX4 5, w ∈ wsX4_addGift := fun _ h => List.mem_cons_of_mem _ (List.mem_append_right _ h)
  refine lv_iload_n hx hb dX4_addGift_0 rfl (lv_at hl 1 rfl) ?_
  refine lv_ldc hx hb hown lk0 dX4_addGift_1 ?_
  refine lv_icmp_eq (tgt := 21) hx hb dX4_addGift_3 (by decide) (fun c1 => ?_) (fun c1 => ?_)
  · have H := if_t H c1
    obtain rfl := Option.some.inj H
    exact ret_v C G dX4_addGift_21
  · have H := if_f H c1
    refine lv_iload_n hx hb dX4_addGift_6 rfl (lv_at hl 2 rfl) ?_
    refine lv_ldc hx hb hown lk0 dX4_addGift_7 ?_
    refine lv_icmp_eq (tgt := 21) hx hb dX4_addGift_9 (by decide) (fun c2 => ?_) (fun c2 => ?_)
    · have H := if_t H c2
      obtain rfl := Option.some.inj H
      exact ret_v C G dX4_addGift_21
    · have H := if_f H c2
      refine lv_aload_n hx hb dX4_addGift_12 rfl (lv_at hl 0 rfl) ?_
      refine va_get (D := D) (ci := 4) (v := .int a_gft) (C := RX4) (T := TX4) (N := 5) hx hb hts hiX4 hown hK G.1 0 rfl rfl 4 (by decide) lk1 (fun _ h9 => h9) rfl dX4_addGift_13 ?_
      refine lv_bipush (v := 6) hx hb dX4_addGift_16 (by decide) ?_
      refine lv_icmp_lt (tgt := 22) hx hb dX4_addGift_18 (by decide) (fun c3 => ?_) (fun c3 => ?_)
      · have H := if_t H c3
        refine lv_aload_n hx hb dX4_addGift_22 rfl (lv_at hl 0 rfl) ?_
        refine va_get (D := D) (ci := 4) (v := .ref (aAd 1)) (C := RX4) (T := TX4) (N := 5) hx hb hts hiX4 hown hK G.1 0 rfl rfl 0 (by decide) lk2 (fun _ h9 => h9) rfl dX4_addGift_23 ?_
        refine lv_iload_n hx hb dX4_addGift_26 rfl (lv_at hl 1 rfl) ?_
        obtain ⟨hb4, H⟩ := gd_some H
        refine g_iald (v := a_bal (ix p1)) hx hb hK G.1 1 1 rfl rfl hb4 rfl dX4_addGift_27 ?_
        refine lv_aload_n hx hb dX4_addGift_28 rfl (lv_at hl 0 rfl) ?_
        refine va_get (D := D) (ci := 4) (v := .ref (aAd 1)) (C := RX4) (T := TX4) (N := 5) hx hb hts hiX4 hown hK G.1 0 rfl rfl 0 (by decide) lk2 (fun _ h9 => h9) rfl dX4_addGift_29 ?_
        refine lv_iload_n hx hb dX4_addGift_32 rfl (lv_at hl 2 rfl) ?_
        obtain ⟨hb5, H⟩ := gd_some H
        refine g_iald (v := a_bal (ix p2)) hx hb hK G.1 1 1 rfl rfl hb5 rfl dX4_addGift_33 ?_
        refine lv_ineg hx hb dX4_addGift_34 ?_
        refine va_mmin hx hb (hml.trans hl.1.symm) hown lk3 lk4 lk5 lk6 (Nat.le_of_ble_eq_true rfl) (Nat.le_of_ble_eq_true rfl) (Nat.zero_le _) (Nat.zero_le _) dX4_addGift_35 ?_
        refine lv_topi (fun x3_6 ex3_6 => ?_)
        have H := nm_h H ex3_6
        refine lv_istore_n (lv' := [(3, .int x3_6), (0, .ref (aAd 0)), (1, .int p1), (2, .int p2)]) hx hb dX4_addGift_38 rfl hl (by decide) rfl (fun ls hl => ?_)
        refine lv_aload_n hx hb dX4_addGift_39 rfl (lv_at hl 1 rfl) ?_
        refine va_get (D := D) (ci := 4) (v := .ref (aAd 1)) (C := RX4) (T := TX4) (N := 5) hx hb hts hiX4 hown hK G.1 0 rfl rfl 0 (by decide) lk2 (fun _ h9 => h9) rfl dX4_addGift_40 ?_
        refine lv_iload_n hx hb dX4_addGift_43 rfl (lv_at hl 2 rfl) ?_
        refine lv_dup2_11 hx hb dX4_addGift_44 rfl rfl ?_
        refine g_iald (v := a_bal (ix p1)) hx hb hK G.1 1 1 rfl rfl hb4 rfl dX4_addGift_45 ?_
        refine lv_iload_n hx hb dX4_addGift_46 rfl (lv_at hl 0 rfl) ?_
        refine lv_isub hx hb dX4_addGift_47 ?_
        refine va_iast hx hb hK G.1 G.2.1 G.2.2 1 1 rfl rfl (inb_in hb4) dX4_addGift_48 (fun U locs hP hD hS => ?_)
        have G : Gd D A s (w_Net cy aAd a_gft (upd a_bal (ix p1) ((a_bal (ix p1)) - x3_6)) a_giv a_tak a_inc) U locs := ⟨hP, hD, hS⟩
        refine lv_aload_n hx hb dX4_addGift_49 rfl (lv_at hl 1 rfl) ?_
        refine va_get (D := D) (ci := 4) (v := .ref (aAd 1)) (C := RX4) (T := TX4) (N := 5) hx hb hts hiX4 hown hK G.1 0 rfl rfl 0 (by decide) lk2 (fun _ h9 => h9) rfl dX4_addGift_50 ?_
        refine lv_iload_n hx hb dX4_addGift_53 rfl (lv_at hl 3 rfl) ?_
        refine lv_dup2_11 hx hb dX4_addGift_54 rfl rfl ?_
        refine g_iald (v := (upd a_bal (ix p1) ((a_bal (ix p1)) - x3_6)) (ix p2)) hx hb hK G.1 1 1 rfl rfl hb5 rfl dX4_addGift_55 ?_
        refine lv_iload_n hx hb dX4_addGift_56 rfl (lv_at hl 0 rfl) ?_
        refine lv_iadd hx hb dX4_addGift_57 ?_
        refine va_iast hx hb hK G.1 G.2.1 G.2.2 1 1 rfl rfl (inb_in hb5) dX4_addGift_58 (fun U locs hP hD hS => ?_)
        have G : Gd D A s (w_Net cy aAd a_gft (upd (upd a_bal (ix p1) ((a_bal (ix p1)) - x3_6)) (ix p2) (((upd a_bal (ix p1) ((a_bal (ix p1)) - x3_6)) (ix p2)) + x3_6)) a_giv a_tak a_inc) U locs := ⟨hP, hD, hS⟩
        refine lv_aload_n hx hb dX4_addGift_59 rfl (lv_at hl 1 rfl) ?_
        refine va_get (D := D) (ci := 4) (v := .ref (aAd 2)) (C := RX4) (T := TX4) (N := 5) hx hb hts hiX4 hown hK G.1 0 rfl rfl 1 (by decide) lk7 (fun _ h9 => h9) rfl dX4_addGift_60 ?_
        refine lv_aload_n hx hb dX4_addGift_63 rfl (lv_at hl 1 rfl) ?_
        refine va_get (D := D) (ci := 4) (v := .int a_gft) (C := RX4) (T := TX4) (N := 5) hx hb hts hiX4 hown hK G.1 0 rfl rfl 4 (by decide) lk1 (fun _ h9 => h9) rfl dX4_addGift_64 ?_
        refine lv_iload_n hx hb dX4_addGift_67 rfl (lv_at hl 2 rfl) ?_
        obtain ⟨hb7, H⟩ := gd_some H
        refine va_iast hx hb hK G.1 G.2.1 G.2.2 2 1 rfl rfl (inb_in hb7) dX4_addGift_68 (fun U locs hP hD hS => ?_)
        have G : Gd D A s (w_Net cy aAd a_gft (upd (upd a_bal (ix p1) ((a_bal (ix p1)) - x3_6)) (ix p2) (((upd a_bal (ix p1) ((a_bal (ix p1)) - x3_6)) (ix p2)) + x3_6)) (upd a_giv (ix a_gft) p1) a_tak a_inc) U locs := ⟨hP, hD, hS⟩
        refine lv_aload_n hx hb dX4_addGift_69 rfl (lv_at hl 1 rfl) ?_
        refine va_get (D := D) (ci := 4) (v := .ref (aAd 3)) (C := RX4) (T := TX4) (N := 5) hx hb hts hiX4 hown hK G.1 0 rfl rfl 2 (by decide) lk8 (fun _ h9 => h9) rfl dX4_addGift_70 ?_
        refine lv_aload_n hx hb dX4_addGift_73 rfl (lv_at hl 1 rfl) ?_
        refine va_get (D := D) (ci := 4) (v := .int a_gft) (C := RX4) (T := TX4) (N := 5) hx hb hts hiX4 hown hK G.1 0 rfl rfl 4 (by decide) lk1 (fun _ h9 => h9) rfl dX4_addGift_74 ?_
        refine lv_iload_n hx hb dX4_addGift_77 rfl (lv_at hl 3 rfl) ?_
        refine va_iast hx hb hK G.1 G.2.1 G.2.2 3 1 rfl rfl (inb_in hb7) dX4_addGift_78 (fun U locs hP hD hS => ?_)
        have G : Gd D A s (w_Net cy aAd a_gft (upd (upd a_bal (ix p1) ((a_bal (ix p1)) - x3_6)) (ix p2) (((upd a_bal (ix p1) ((a_bal (ix p1)) - x3_6)) (ix p2)) + x3_6)) (upd a_giv (ix a_gft) p1) (upd a_tak (ix a_gft) p2) a_inc) U locs := ⟨hP, hD, hS⟩
        refine lv_aload_n hx hb dX4_addGift_79 rfl (lv_at hl 1 rfl) ?_
        refine va_get (D := D) (ci := 4) (v := .ref (aAd 4)) (C := RX4) (T := TX4) (N := 5) hx hb hts hiX4 hown hK G.1 0 rfl rfl 3 (by decide) lk9 (fun _ h9 => h9) rfl dX4_addGift_80 ?_
        refine lv_aload_n hx hb dX4_addGift_83 rfl (lv_at hl 1 rfl) ?_
        refine va_get (D := D) (ci := 4) (v := .int a_gft) (C := RX4) (T := TX4) (N := 5) hx hb hts hiX4 hown hK G.1 0 rfl rfl 4 (by decide) lk1 (fun _ h9 => h9) rfl dX4_addGift_84 ?_
        refine lv_iload_n hx hb dX4_addGift_87 rfl (lv_at hl 0 rfl) ?_
        refine va_iast hx hb hK G.1 G.2.1 G.2.2 4 1 rfl rfl (inb_in hb7) dX4_addGift_88 (fun U locs hP hD hS => ?_)
        have G : Gd D A s (w_Net cy aAd a_gft (upd (upd a_bal (ix p1) ((a_bal (ix p1)) - x3_6)) (ix p2) (((upd a_bal (ix p1) ((a_bal (ix p1)) - x3_6)) (ix p2)) + x3_6)) (upd a_giv (ix a_gft) p1) (upd a_tak (ix a_gft) p2) (upd a_inc (ix a_gft) x3_6)) U locs := ⟨hP, hD, hS⟩
        refine lv_aload_n hx hb dX4_addGift_89 rfl (lv_at hl 1 rfl) ?_
        refine lv_dup hx hb dX4_addGift_90 rfl ?_
        refine va_get (D := D) (ci := 4) (v := .int a_gft) (C := RX4) (T := TX4) (N := 5) hx hb hts hiX4 hown hK G.1 0 rfl rfl 4 (by decide) lk1 (fun _ h9 => h9) rfl dX4_addGift_91 ?_
        refine lv_iconst (v := 1) hx hb dX4_addGift_94 (by decide) ?_
        refine lv_iadd hx hb dX4_addGift_95 ?_
        refine va_put (D := D) (ci := 4) (v := .int (a_gft + 1)) (ty := .int) (C := RX4) (T := TX4) (N := 5) hx hb hts hiX4 tyX4 tyX4_ok nmX4 hown hK G.1 G.2.1 G.2.2 0 rfl rfl 4 (by decide) lk1 (fun _ h9 => h9) rfl (tyX4_ok 4 (by decide)) rfl rfl (Nat.le_of_ble_eq_true rfl) dX4_addGift_96 (fun U locs hP hD hS => ?_)
        have G : Gd D A s (w_Net cy aAd (a_gft + 1) (upd (upd a_bal (ix p1) ((a_bal (ix p1)) - x3_6)) (ix p2) (((upd a_bal (ix p1) ((a_bal (ix p1)) - x3_6)) (ix p2)) + x3_6)) (upd a_giv (ix a_gft) p1) (upd a_tak (ix a_gft) p2) (upd a_inc (ix a_gft) x3_6)) U locs := ⟨hP, hD, hS⟩
        obtain rfl := Option.some.inj H
        exact ret_v C G dX4_addGift_99
      · have H := if_f H c3
        obtain rfl := Option.some.inj H
        exact ret_v C G dX4_addGift_21
def f_X4_firstWithSign_L2 (a_bal : Nat → Int32) (x1 : Int32) : Nat → Int32 → Option Int32
  | 0, _ => none
  | n + 1, x2 => if 6 ≤ x2 then (some (-1000000)) else (gd (inb x2 6) (bd (f_J6_signum_0f7a4 (a_bal (ix x2))) (fun z3 => if z3 = x1 then (some x2) else (f_X4_firstWithSign_L2 a_bal x1 n (x2 + 1)))))
theorem f_X4_firstWithSign_L2_z (a_bal : Nat → Int32) (x1 : Int32) (x2 : Int32) : f_X4_firstWithSign_L2 a_bal x1 0 x2 = none := rfl
theorem f_X4_firstWithSign_L2_s (a_bal : Nat → Int32) (x1 : Int32) (n : Nat) (x2 : Int32) : f_X4_firstWithSign_L2 a_bal x1 (n + 1) x2 = if 6 ≤ x2 then (some (-1000000)) else (gd (inb x2 6) (bd (f_J6_signum_0f7a4 (a_bal (ix x2))) (fun z3 => if z3 = x1 then (some x2) else (f_X4_firstWithSign_L2 a_bal x1 n (x2 + 1))))) := rfl
set_option maxHeartbeats 4000000 in
set_option maxRecDepth 100000 in
theorem wl_X4_firstWithSign_2 {p : Program} {l : Launch} {e : Env} {s : State} {m : MethodId} {below : List Frame} {meth : Method} {c : Code} {D : va_G} {cy : Nat → ClassId} {A : Nat → Prop} {args : Array Value} (C : Cx D cy A p s m meth c cX4_firstWithSign 3 (some .int) wsX4_firstWithSign RX4 args) (aAd : Nat → Nat) (a_gft : Int32) (a_bal a_giv a_tak a_inc : Nat → Int32) (x1 : Int32) :
    ∀ (n : Nat) (x2 : Int32) (z : Int32), f_X4_firstWithSign_L2 a_bal x1 n x2 = some z → ∀ (U : Heap) (locs : List Loc) (ls : Array Slot), Gd D A s (w_Net cy aAd a_gft a_bal a_giv a_tak a_inc) U locs → lv_has ls 3 [(0, .ref (aAd 0)), (1, .int x1), (2, .int x2)] → W p l e ({ frames := 1, cells := 0, slots := 0, locals := 20 } : Room) s m args below meth c U locs 0 0 (MQ below (MQi D cy z (w_Net cy aAd a_gft a_bal a_giv a_tak a_inc) A) args s 0 0 A) (F0 m 2 ls []) := by
  obtain ⟨hx, hb, hr, hml, hown, hts, hlk, hK, hA, hE⟩ := id C
  have lk0 := hts (Cond.constant RX4 50 (-1000000)) (List.mem_of_getElem? (i := 2) rfl)
  have lk1 := hts (Cond.fieldLink RX4 9 "TideDebts$Netting" "balances" "[I") (List.mem_of_getElem? (i := 1) rfl)
  have hiX4 : ∀ w ∈ u_ws RX4 TX4 5, w ∈ wsX4_firstWithSign := fun _ h => List.mem_cons_of_mem _ (List.mem_append_right _ h)
  intro n
  induction n with
  | zero =>
    intro x2 z H
    rw [f_X4_firstWithSign_L2_z] at H
    cases H
  | succ n ih =>
    intro x2 z H U locs ls G hl
    rw [f_X4_firstWithSign_L2_s] at H
    refine lv_iload_n hx hb dX4_firstWithSign_2 rfl (lv_at hl 2 rfl) ?_
    refine lv_bipush (v := 6) hx hb dX4_firstWithSign_3 (by decide) ?_
    refine lv_icmp_ge (tgt := 29) hx hb dX4_firstWithSign_5 (by decide) (fun c1 => ?_) (fun c1 => ?_)
    · have H := if_t H c1
      refine lv_ldc hx hb hown lk0 dX4_firstWithSign_29 ?_
      obtain rfl := Option.some.inj H
      exact ret_i C G rfl dX4_firstWithSign_31
    · have H := if_f H c1
      refine lv_aload_n hx hb dX4_firstWithSign_8 rfl (lv_at hl 0 rfl) ?_
      refine va_get (D := D) (ci := 4) (v := .ref (aAd 1)) (C := RX4) (T := TX4) (N := 5) hx hb hts hiX4 hown hK G.1 0 rfl rfl 0 (by decide) lk1 (fun _ h9 => h9) rfl dX4_firstWithSign_9 ?_
      refine lv_iload_n hx hb dX4_firstWithSign_12 rfl (lv_at hl 2 rfl) ?_
      obtain ⟨hb2, H⟩ := gd_some H
      refine g_iald (v := a_bal (ix x2)) hx hb hK G.1 1 1 rfl rfl hb2 rfl dX4_firstWithSign_13 ?_
      obtain ⟨z3, hz3, H⟩ := bd_some H
      refine MI.callS z3 [.int (a_bal (ix x2))] [] [] C G (c_J6_signum_0f7a4 l D cy (a_bal (ix x2)) z3 hz3) gX4_firstWithSign_J6_signum_0f7a4 rfl rfl rfl (n := 1) (by decide +kernel) ⟨Nat.le_of_ble_eq_true rfl, Nat.le_of_ble_eq_true rfl⟩ rfl rfl rfl rfl hl.1 rfl (Nat.le_of_ble_eq_true rfl) dX4_firstWithSign_14 ⟨Nat.zero_le _, Nat.zero_le _⟩ (fun U locs G => ?_)
      have G : Gd D A s (w_Net cy aAd a_gft a_bal a_giv a_tak a_inc) U locs := G
      refine lv_iload_n hx hb dX4_firstWithSign_17 rfl (lv_at hl 1 rfl) ?_
      refine lv_icmp_ne (tgt := 23) hx hb dX4_firstWithSign_18 (by decide) (fun c4 => ?_) (fun c4 => ?_)
      · have H := if_f H c4
        refine lv_iinc (v := x2 + 1) (lv' := [(2, .int (x2 + 1)), (0, .ref (aAd 0)), (1, .int x1)]) hx hb dX4_firstWithSign_23 hl (k := 2) rfl rfl (by decide) rfl (fun ls hl => ?_)
        refine lv_goto (tgt := 2) hx hb dX4_firstWithSign_26 (by decide) ?_
        exact ih (x2 + 1) z H _ _ _ G (lv_sub hl [1, 2, 0] rfl)
      · have H := if_t H c4
        refine lv_iload_n hx hb dX4_firstWithSign_21 rfl (lv_at hl 2 rfl) ?_
        obtain rfl := Option.some.inj H
        exact ret_i C G rfl dX4_firstWithSign_22
def f_X4_firstWithSign (a_bal : Nat → Int32) (p1 : Int32) : Option Int32 := f_X4_firstWithSign_L2 a_bal p1 2000 0
set_option maxHeartbeats 4000000 in
set_option maxRecDepth 100000 in
theorem c_X4_firstWithSign (l : Launch) (D : va_G) (cy : Nat → ClassId) (aAd : Nat → Nat) (a_gft : Int32) (a_bal a_giv a_tak a_inc : Nat → Int32) (p1 : Int32) (z : Int32) (hz : f_X4_firstWithSign a_bal p1 = some z) : MI l yX4_firstWithSign wsX4_firstWithSign ({ frames := 1, cells := 0, slots := 0, locals := 20 } : Room) D cy [.ref (aAd 0), .int p1] (w_Net cy aAd a_gft a_bal a_giv a_tak a_inc) z (w_Net cy aAd a_gft a_bal a_giv a_tak a_inc) := by
  refine met_start (Qf := fun A => MQi D cy z (w_Net cy aAd a_gft a_bal a_giv a_tak a_inc) A) (cc := cX4_firstWithSign) (nL := 3) (ret := (some .int)) RX4 rfl (by decide) rfl (Nat.le_of_ble_eq_true rfl) ?_
  intro p e s m below meth c A ls C G hl
  have hl : lv_has ls 3 [(0, .ref (aAd 0)), (1, .int p1)] := hl
  have H := hz
  unfold f_X4_firstWithSign at H
  obtain ⟨hx, hb, hr, hml, hown, hts, hlk, hK, hA, hE⟩ := id C
  refine lv_iconst (v := 0) hx hb dX4_firstWithSign_0 (by decide) ?_
  refine lv_istore_n (lv' := [(2, .int 0), (0, .ref (aAd 0)), (1, .int p1)]) hx hb dX4_firstWithSign_1 rfl hl (by decide) rfl (fun ls hl => ?_)
  exact wl_X4_firstWithSign_2 C aAd a_gft a_bal a_giv a_tak a_inc p1 _ 0 z H _ _ _ G (lv_sub hl [1, 2, 0] rfl)
def f_X4_tell (a_gft : Int32) (a_giv a_tak a_inc : Nat → Int32) (p1 p2 : Int32) : Option Int32 := if p1 < 0 then (some (-1000000)) else (if p1 < a_gft then (if p2 = 0 then (gd (inb p1 6) (some (a_giv (ix p1)))) else (if p2 = 1 then (gd (inb p1 6) (some (a_tak (ix p1)))) else (gd (inb p1 6) (some (a_inc (ix p1)))))) else (some (-1000000)))
set_option maxHeartbeats 4000000 in
set_option maxRecDepth 100000 in
theorem c_X4_tell (l : Launch) (D : va_G) (cy : Nat → ClassId) (aAd : Nat → Nat) (a_gft : Int32) (a_bal a_giv a_tak a_inc : Nat → Int32) (p1 p2 : Int32) (z : Int32) (hz : f_X4_tell a_gft a_giv a_tak a_inc p1 p2 = some z) : MI l yX4_tell wsX4_tell ({ frames := 0, cells := 0, slots := 0, locals := 0 } : Room) D cy [.ref (aAd 0), .int p1, .int p2] (w_Net cy aAd a_gft a_bal a_giv a_tak a_inc) z (w_Net cy aAd a_gft a_bal a_giv a_tak a_inc) := by
  refine met_start (Qf := fun A => MQi D cy z (w_Net cy aAd a_gft a_bal a_giv a_tak a_inc) A) (cc := cX4_tell) (nL := 3) (ret := (some .int)) RX4 rfl (by decide) rfl (Nat.le_of_ble_eq_true rfl) ?_
  intro p e s m below meth c A ls C G hl
  have hl : lv_has ls 3 [(0, .ref (aAd 0)), (1, .int p1), (2, .int p2)] := hl
  have H := hz
  unfold f_X4_tell at H
  obtain ⟨hx, hb, hr, hml, hown, hts, hlk, hK, hA, hE⟩ := id C
  have lk0 := hts (Cond.constant RX4 50 (-1000000)) (List.mem_of_getElem? (i := 2) rfl)
  have lk1 := hts (Cond.fieldLink RX4 39 "TideDebts$Netting" "gifts" "I") (List.mem_of_getElem? (i := 1) rfl)
  have lk2 := hts (Cond.fieldLink RX4 21 "TideDebts$Netting" "inches" "[I") (List.mem_of_getElem? (i := 5) rfl)
  have lk3 := hts (Cond.fieldLink RX4 18 "TideDebts$Netting" "takers" "[I") (List.mem_of_getElem? (i := 4) rfl)
  have lk4 := hts (Cond.fieldLink RX4 15 "TideDebts$Netting" "givers" "[I") (List.mem_of_getElem? (i := 3) rfl)
  have hiX4 : ∀ w ∈ u_ws RX4 TX4 5, w ∈ wsX4_tell := fun _ h => List.mem_cons_of_mem _ (List.mem_append_right _ h)
  refine lv_iload_n hx hb dX4_tell_0 rfl (lv_at hl 1 rfl) ?_
  refine lv_if_lt (tgt := 12) hx hb dX4_tell_1 (by decide) (fun c1 => ?_) (fun c1 => ?_)
  · have H := if_t H c1
    refine lv_ldc hx hb hown lk0 dX4_tell_12 ?_
    obtain rfl := Option.some.inj H
    exact ret_i C G rfl dX4_tell_14
  · have H := if_f H c1
    refine lv_iload_n hx hb dX4_tell_4 rfl (lv_at hl 1 rfl) ?_
    refine lv_aload_n hx hb dX4_tell_5 rfl (lv_at hl 0 rfl) ?_
    refine va_get (D := D) (ci := 4) (v := .int a_gft) (C := RX4) (T := TX4) (N := 5) hx hb hts hiX4 hown hK G.1 0 rfl rfl 4 (by decide) lk1 (fun _ h9 => h9) rfl dX4_tell_6 ?_
    refine lv_icmp_lt (tgt := 15) hx hb dX4_tell_9 (by decide) (fun c2 => ?_) (fun c2 => ?_)
    · have H := if_t H c2
      refine lv_iload_n hx hb dX4_tell_15 rfl (lv_at hl 2 rfl) ?_
      refine lv_if_ne (tgt := 26) hx hb dX4_tell_16 (by decide) (fun c3 => ?_) (fun c3 => ?_)
      · have H := if_f H c3
        refine lv_iload_n hx hb dX4_tell_26 rfl (lv_at hl 2 rfl) ?_
        refine lv_iconst (v := 1) hx hb dX4_tell_27 (by decide) ?_
        refine lv_icmp_ne (tgt := 40) hx hb dX4_tell_28 (by decide) (fun c4 => ?_) (fun c4 => ?_)
        · have H := if_f H c4
          refine lv_aload_n hx hb dX4_tell_40 rfl (lv_at hl 0 rfl) ?_
          refine va_get (D := D) (ci := 4) (v := .ref (aAd 4)) (C := RX4) (T := TX4) (N := 5) hx hb hts hiX4 hown hK G.1 0 rfl rfl 3 (by decide) lk2 (fun _ h9 => h9) rfl dX4_tell_41 ?_
          refine lv_iload_n hx hb dX4_tell_44 rfl (lv_at hl 1 rfl) ?_
          obtain ⟨hb5, H⟩ := gd_some H
          refine g_iald (v := a_inc (ix p1)) hx hb hK G.1 4 1 rfl rfl hb5 rfl dX4_tell_45 ?_
          obtain rfl := Option.some.inj H
          exact ret_i C G rfl dX4_tell_46
        · have H := if_t H c4
          refine lv_aload_n hx hb dX4_tell_31 rfl (lv_at hl 0 rfl) ?_
          refine va_get (D := D) (ci := 4) (v := .ref (aAd 3)) (C := RX4) (T := TX4) (N := 5) hx hb hts hiX4 hown hK G.1 0 rfl rfl 2 (by decide) lk3 (fun _ h9 => h9) rfl dX4_tell_32 ?_
          refine lv_iload_n hx hb dX4_tell_35 rfl (lv_at hl 1 rfl) ?_
          obtain ⟨hb6, H⟩ := gd_some H
          refine g_iald (v := a_tak (ix p1)) hx hb hK G.1 3 1 rfl rfl hb6 rfl dX4_tell_36 ?_
          refine lv_goto (tgt := 46) hx hb dX4_tell_37 (by decide) ?_
          obtain rfl := Option.some.inj H
          exact ret_i C G rfl dX4_tell_46
      · have H := if_t H c3
        refine lv_aload_n hx hb dX4_tell_19 rfl (lv_at hl 0 rfl) ?_
        refine va_get (D := D) (ci := 4) (v := .ref (aAd 2)) (C := RX4) (T := TX4) (N := 5) hx hb hts hiX4 hown hK G.1 0 rfl rfl 1 (by decide) lk4 (fun _ h9 => h9) rfl dX4_tell_20 ?_
        refine lv_iload_n hx hb dX4_tell_23 rfl (lv_at hl 1 rfl) ?_
        obtain ⟨hb7, H⟩ := gd_some H
        refine g_iald (v := a_giv (ix p1)) hx hb hK G.1 2 1 rfl rfl hb7 rfl dX4_tell_24 ?_
        obtain rfl := Option.some.inj H
        exact ret_i C G rfl dX4_tell_25
    · have H := if_f H c2
      refine lv_ldc hx hb hown lk0 dX4_tell_12 ?_
      obtain rfl := Option.some.inj H
      exact ret_i C G rfl dX4_tell_14
def f_X4_canBe_L2 (b_dep b_deb : Nat → Int32) (x2 : Int32) : Nat → Int32 → Option Int32
  | 0, _ => none
  | n + 1, x3 => if x2 ≤ x3 then (some 1) else (gd (inb x3 6) (bd (f_X3_balance b_deb x3) (fun z3 => if z3 ≤ (b_dep (ix x3)) then (f_X4_canBe_L2 b_dep b_deb x2 n (x3 + 1)) else (some 0))))
theorem f_X4_canBe_L2_z (b_dep b_deb : Nat → Int32) (x2 : Int32) (x3 : Int32) : f_X4_canBe_L2 b_dep b_deb x2 0 x3 = none := rfl
theorem f_X4_canBe_L2_s (b_dep b_deb : Nat → Int32) (x2 : Int32) (n : Nat) (x3 : Int32) : f_X4_canBe_L2 b_dep b_deb x2 (n + 1) x3 = if x2 ≤ x3 then (some 1) else (gd (inb x3 6) (bd (f_X3_balance b_deb x3) (fun z3 => if z3 ≤ (b_dep (ix x3)) then (f_X4_canBe_L2 b_dep b_deb x2 n (x3 + 1)) else (some 0)))) := rfl
set_option maxHeartbeats 4000000 in
set_option maxRecDepth 100000 in
theorem wl_X4_canBe_2 {p : Program} {l : Launch} {e : Env} {s : State} {m : MethodId} {below : List Frame} {meth : Method} {c : Code} {D : va_G} {cy : Nat → ClassId} {A : Nat → Prop} {args : Array Value} (C : Cx D cy A p s m meth c cX4_canBe 4 (some .boolean) wsX4_canBe RX4 args) (aAd : Nat → Nat) (bAd : Nat → Nat) (a_gft : Int32) (a_bal a_giv a_tak a_inc : Nat → Int32) (b_hour : Int32) (b_dep b_arr b_deb : Nat → Int32) (x2 : Int32) :
    ∀ (n : Nat) (x3 : Int32) (z : Int32), f_X4_canBe_L2 b_dep b_deb x2 n x3 = some z → ∀ (U : Heap) (locs : List Loc) (ls : Array Slot), Gd D A s (w_Net cy aAd a_gft a_bal a_giv a_tak a_inc ++ w_Led cy bAd b_hour b_dep b_arr b_deb) U locs → lv_has ls 4 [(1, .ref (bAd 0)), (2, .int x2), (3, .int x3)] → W p l e ({ frames := 3, cells := 0, slots := 0, locals := 68 } : Room) s m args below meth c U locs 0 0 (MQ below (MQi D cy z (w_Net cy aAd a_gft a_bal a_giv a_tak a_inc ++ w_Led cy bAd b_hour b_dep b_arr b_deb) A) args s 0 0 A) (F0 m 2 ls []) := by
  obtain ⟨hx, hb, hr, hml, hown, hts, hlk, hK, hA, hE⟩ := id C
  have lk0 := hts (Cond.fieldLink RX4 24 "TideDebts$Ledger" "depths" "[I") (List.mem_of_getElem? (i := 1) rfl)
  have hiX3 : ∀ w ∈ u_ws RX3 TX3 4, w ∈ wsX4_canBe := fun _ h => List.mem_cons_of_mem _ (List.mem_append_right _ h)
  intro n
  induction n with
  | zero =>
    intro x3 z H
    rw [f_X4_canBe_L2_z] at H
    cases H
  | succ n ih =>
    intro x3 z H U locs ls G hl
    rw [f_X4_canBe_L2_s] at H
    refine lv_iload_n hx hb dX4_canBe_2 rfl (lv_at hl 2 rfl) ?_
    refine lv_iload_n hx hb dX4_canBe_3 rfl (lv_at hl 1 rfl) ?_
    refine lv_icmp_ge (tgt := 29) hx hb dX4_canBe_4 (by decide) (fun c1 => ?_) (fun c1 => ?_)
    · have H := if_t H c1
      refine lv_iconst (v := 1) hx hb dX4_canBe_29 (by decide) ?_
      obtain rfl := Option.some.inj H
      exact ret_z C G rfl rfl dX4_canBe_30
    · have H := if_f H c1
      refine lv_aload_n hx hb dX4_canBe_7 rfl (lv_at hl 0 rfl) ?_
      refine va_get (D := D) (ci := 3) (v := .ref (bAd 1)) (C := RX3) (T := TX3) (N := 4) hx hb hts hiX3 hown hK G.1 5 rfl rfl 0 (by decide) lk0 (fun _ h9 => h9) rfl dX4_canBe_8 ?_
      refine lv_iload_n hx hb dX4_canBe_11 rfl (lv_at hl 2 rfl) ?_
      obtain ⟨hb2, H⟩ := gd_some H
      refine g_iald (v := b_dep (ix x3)) hx hb hK G.1 6 1 rfl rfl hb2 rfl dX4_canBe_12 ?_
      refine lv_aload_n hx hb dX4_canBe_13 rfl (lv_at hl 0 rfl) ?_
      refine lv_iload_n hx hb dX4_canBe_14 rfl (lv_at hl 2 rfl) ?_
      obtain ⟨z3, hz3, H⟩ := bd_some H
      refine MI.callV z3 [.int x3] [.int (b_dep (ix x3))] [5, 6, 7, 8] C G (c_X3_balance l D cy bAd b_hour b_dep b_arr b_deb x3 z3 hz3) gX4_canBe_X3_balance rfl rfl rfl (n := 1) (by decide +kernel) ⟨Nat.le_of_ble_eq_true rfl, Nat.le_of_ble_eq_true rfl⟩ (q0 := 5) (ci := 3) rfl rfl rfl rfl rfl rfl rfl hl.1 rfl (Nat.le_of_ble_eq_true rfl) dX4_canBe_15 ⟨Nat.zero_le _, Nat.zero_le _⟩ (fun U locs G => ?_)
      have G : Gd D A s (w_Net cy aAd a_gft a_bal a_giv a_tak a_inc ++ w_Led cy bAd b_hour b_dep b_arr b_deb) U locs := G
      refine lv_icmp_ge (tgt := 23) hx hb dX4_canBe_18 (by decide) (fun c4 => ?_) (fun c4 => ?_)
      · have H := if_t H c4
        refine lv_iinc (v := x3 + 1) (lv' := [(3, .int (x3 + 1)), (1, .ref (bAd 0)), (2, .int x2)]) hx hb dX4_canBe_23 hl (k := 2) rfl rfl (by decide) rfl (fun ls hl => ?_)
        refine lv_goto (tgt := 2) hx hb dX4_canBe_26 (by decide) ?_
        exact ih (x3 + 1) z H _ _ _ G (lv_sub hl [1, 2, 0] rfl)
      · have H := if_f H c4
        refine lv_iconst (v := 0) hx hb dX4_canBe_21 (by decide) ?_
        obtain rfl := Option.some.inj H
        exact ret_z C G rfl rfl dX4_canBe_22
def f_X4_canBe (b_dep b_deb : Nat → Int32) (p2 : Int32) : Option Int32 := f_X4_canBe_L2 b_dep b_deb p2 2000 0
set_option maxHeartbeats 4000000 in
set_option maxRecDepth 100000 in
theorem c_X4_canBe (l : Launch) (D : va_G) (cy : Nat → ClassId) (aAd : Nat → Nat) (bAd : Nat → Nat) (a_gft : Int32) (a_bal a_giv a_tak a_inc : Nat → Int32) (b_hour : Int32) (b_dep b_arr b_deb : Nat → Int32) (p2 : Int32) (z : Int32) (hz : f_X4_canBe b_dep b_deb p2 = some z) : MI l yX4_canBe wsX4_canBe ({ frames := 3, cells := 0, slots := 0, locals := 68 } : Room) D cy [.ref (aAd 0), .ref (bAd 0), .int p2] (w_Net cy aAd a_gft a_bal a_giv a_tak a_inc ++ w_Led cy bAd b_hour b_dep b_arr b_deb) z (w_Net cy aAd a_gft a_bal a_giv a_tak a_inc ++ w_Led cy bAd b_hour b_dep b_arr b_deb) := by
  refine met_start (Qf := fun A => MQi D cy z (w_Net cy aAd a_gft a_bal a_giv a_tak a_inc ++ w_Led cy bAd b_hour b_dep b_arr b_deb) A) (cc := cX4_canBe) (nL := 4) (ret := (some .boolean)) RX4 rfl (by decide) rfl (Nat.le_of_ble_eq_true rfl) ?_
  intro p e s m below meth c A ls C G hl
  have hl : lv_has ls 4 [(0, .ref (aAd 0)), (1, .ref (bAd 0)), (2, .int p2)] := hl
  have H := hz
  unfold f_X4_canBe at H
  obtain ⟨hx, hb, hr, hml, hown, hts, hlk, hK, hA, hE⟩ := id C
  refine lv_iconst (v := 0) hx hb dX4_canBe_0 (by decide) ?_
  refine lv_istore_n (lv' := [(3, .int 0), (0, .ref (aAd 0)), (1, .ref (bAd 0)), (2, .int p2)]) hx hb dX4_canBe_1 rfl hl (by decide) rfl (fun ls hl => ?_)
  exact wl_X4_canBe_2 C aAd bAd a_gft a_bal a_giv a_tak a_inc b_hour b_dep b_arr b_deb p2 _ 0 z H _ _ _ G (lv_sub hl [2, 3, 0] rfl)
def f_X4_workOut_L10 (b_deb : Nat → Int32) (x2 : Int32) : Nat → (Nat → Int32) → Int32 → Option (Nat → Int32)
  | 0, _, _ => none
  | n + 1, a_bal, x3 => if x2 ≤ x3 then (some a_bal) else (bd (f_X3_balance b_deb x3) (fun z3 => gd (inb x3 6) (f_X4_workOut_L10 b_deb x2 n (upd a_bal (ix x3) z3) (x3 + 1))))
theorem f_X4_workOut_L10_z (b_deb : Nat → Int32) (x2 : Int32) (a_bal : Nat → Int32) (x3 : Int32) : f_X4_workOut_L10 b_deb x2 0 a_bal x3 = none := rfl
theorem f_X4_workOut_L10_s (b_deb : Nat → Int32) (x2 : Int32) (n : Nat) (a_bal : Nat → Int32) (x3 : Int32) : f_X4_workOut_L10 b_deb x2 (n + 1) a_bal x3 = if x2 ≤ x3 then (some a_bal) else (bd (f_X3_balance b_deb x3) (fun z3 => gd (inb x3 6) (f_X4_workOut_L10 b_deb x2 n (upd a_bal (ix x3) z3) (x3 + 1)))) := rfl
set_option maxHeartbeats 4000000 in
set_option maxRecDepth 100000 in
theorem wl_X4_workOut_10 {p : Program} {l : Launch} {e : Env} {s : State} {m : MethodId} {below : List Frame} {meth : Method} {c : Code} {D : va_G} {cy : Nat → ClassId} {A : Nat → Prop} {args : Array Value} {Q : State → Prop} (C : Cx D cy A p s m meth c cX4_workOut 4 none wsX4_workOut RX4 args) (aAd : Nat → Nat) (bAd : Nat → Nat) (a_gft : Int32) (a_giv a_tak a_inc : Nat → Int32) (b_hour : Int32) (b_dep b_arr b_deb : Nat → Int32) (x2 : Int32) :
    ∀ (n : Nat) (a_bal : Nat → Int32) (x3 : Int32) (z : (Nat → Int32)), f_X4_workOut_L10 b_deb x2 n a_bal x3 = some z → (∀ (U : Heap) (locs : List Loc) (ls : Array Slot), Gd D A s (w_Net cy aAd a_gft z a_giv a_tak a_inc ++ w_Led cy bAd b_hour b_dep b_arr b_deb) U locs → lv_has ls 4 [(0, .ref (aAd 0))] → W p l e ({ frames := 3, cells := 0, slots := 0, locals := 68 } : Room) s m args below meth c U locs 0 0 Q (F0 m 32 ls [])) → ∀ (U : Heap) (locs : List Loc) (ls : Array Slot), Gd D A s (w_Net cy aAd a_gft a_bal a_giv a_tak a_inc ++ w_Led cy bAd b_hour b_dep b_arr b_deb) U locs → lv_has ls 4 [(0, .ref (aAd 0)), (1, .ref (bAd 0)), (2, .int x2), (3, .int x3)] → W p l e ({ frames := 3, cells := 0, slots := 0, locals := 68 } : Room) s m args below meth c U locs 0 0 Q (F0 m 10 ls []) := by
  obtain ⟨hx, hb, hr, hml, hown, hts, hlk, hK, hA, hE⟩ := id C
  have lk0 := hts (Cond.fieldLink RX4 9 "TideDebts$Netting" "balances" "[I") (List.mem_of_getElem? (i := 1) rfl)
  have hiX4 : ∀ w ∈ u_ws RX4 TX4 5, w ∈ wsX4_workOut := fun _ h => List.mem_cons_of_mem _ (List.mem_append_left _ (List.mem_append_right _ h))
  intro n
  induction n with
  | zero =>
    intro a_bal x3 z H
    rw [f_X4_workOut_L10_z] at H
    cases H
  | succ n ih =>
    intro a_bal x3 z H kk U locs ls G hl
    rw [f_X4_workOut_L10_s] at H
    refine lv_iload_n hx hb dX4_workOut_10 rfl (lv_at hl 3 rfl) ?_
    refine lv_iload_n hx hb dX4_workOut_11 rfl (lv_at hl 2 rfl) ?_
    refine lv_icmp_ge (tgt := 32) hx hb dX4_workOut_12 (by decide) (fun c2 => ?_) (fun c2 => ?_)
    · have H := if_t H c2
      obtain rfl := Option.some.inj H
      exact kk _ _ _ G (lv_sub hl [0] rfl)
    · have H := if_f H c2
      refine lv_aload_n hx hb dX4_workOut_15 rfl (lv_at hl 0 rfl) ?_
      refine va_get (D := D) (ci := 4) (v := .ref (aAd 1)) (C := RX4) (T := TX4) (N := 5) hx hb hts hiX4 hown hK G.1 0 rfl rfl 0 (by decide) lk0 (fun _ h9 => h9) rfl dX4_workOut_16 ?_
      refine lv_iload_n hx hb dX4_workOut_19 rfl (lv_at hl 3 rfl) ?_
      refine lv_aload_n hx hb dX4_workOut_20 rfl (lv_at hl 1 rfl) ?_
      refine lv_iload_n hx hb dX4_workOut_21 rfl (lv_at hl 3 rfl) ?_
      obtain ⟨z3, hz3, H⟩ := bd_some H
      refine MI.callV z3 [.int x3] [.int x3, .ref (aAd 1)] [5, 6, 7, 8] C G (c_X3_balance l D cy bAd b_hour b_dep b_arr b_deb x3 z3 hz3) gX4_workOut_X3_balance rfl rfl rfl (n := 1) (by decide +kernel) ⟨Nat.le_of_ble_eq_true rfl, Nat.le_of_ble_eq_true rfl⟩ (q0 := 5) (ci := 3) rfl rfl rfl rfl rfl rfl rfl hl.1 rfl (Nat.le_of_ble_eq_true rfl) dX4_workOut_22 ⟨Nat.zero_le _, Nat.zero_le _⟩ (fun U locs G => ?_)
      have G : Gd D A s (w_Net cy aAd a_gft a_bal a_giv a_tak a_inc ++ w_Led cy bAd b_hour b_dep b_arr b_deb) U locs := G
      obtain ⟨hb4, H⟩ := gd_some H
      refine va_iast hx hb hK G.1 G.2.1 G.2.2 1 1 rfl rfl (inb_in hb4) dX4_workOut_25 (fun U locs hP hD hS => ?_)
      have G : Gd D A s (w_Net cy aAd a_gft (upd a_bal (ix x3) z3) a_giv a_tak a_inc ++ w_Led cy bAd b_hour b_dep b_arr b_deb) U locs := ⟨hP, hD, hS⟩
      refine lv_iinc (v := x3 + 1) (lv' := [(3, .int (x3 + 1)), (0, .ref (aAd 0)), (1, .ref (bAd 0)), (2, .int x2)]) hx hb dX4_workOut_26 hl (k := 3) rfl rfl (by decide) rfl (fun ls hl => ?_)
      refine lv_goto (tgt := 10) hx hb dX4_workOut_29 (by decide) ?_
      exact ih (upd a_bal (ix x3) z3) (x3 + 1) z H kk _ _ _ G (lv_sub hl [1, 2, 3, 0] rfl)
def f_X4_workOut_L39  : Nat → Int32 → (Nat → Int32) → (Nat → Int32) → (Nat → Int32) → (Nat → Int32) → Int32 → Option (Int32 × (Nat → Int32) × (Nat → Int32) × (Nat → Int32) × (Nat → Int32))
  | 0, _, _, _, _, _, _ => none
  | n + 1, a_gft, a_bal, a_giv, a_tak, a_inc, x3 => if 6 ≤ x3 then (some (a_gft, a_bal, a_giv, a_tak, a_inc)) else (bd (f_X4_firstWithSign a_bal 1) (fun z7 => bd (f_X4_firstWithSign a_bal (-1)) (fun z8 => bd (f_X4_addGift a_gft a_bal a_giv a_tak a_inc z7 z8) (fun z9 => f_X4_workOut_L39 n z9.1 z9.2.1 z9.2.2.1 z9.2.2.2.1 z9.2.2.2.2 (x3 + 1)))))
theorem f_X4_workOut_L39_z  (a_gft : Int32) (a_bal a_giv a_tak a_inc : Nat → Int32) (x3 : Int32) : f_X4_workOut_L39 0 a_gft a_bal a_giv a_tak a_inc x3 = none := rfl
theorem f_X4_workOut_L39_s  (n : Nat) (a_gft : Int32) (a_bal a_giv a_tak a_inc : Nat → Int32) (x3 : Int32) : f_X4_workOut_L39 (n + 1) a_gft a_bal a_giv a_tak a_inc x3 = if 6 ≤ x3 then (some (a_gft, a_bal, a_giv, a_tak, a_inc)) else (bd (f_X4_firstWithSign a_bal 1) (fun z7 => bd (f_X4_firstWithSign a_bal (-1)) (fun z8 => bd (f_X4_addGift a_gft a_bal a_giv a_tak a_inc z7 z8) (fun z9 => f_X4_workOut_L39 n z9.1 z9.2.1 z9.2.2.1 z9.2.2.2.1 z9.2.2.2.2 (x3 + 1))))) := rfl
set_option maxHeartbeats 4000000 in
set_option maxRecDepth 100000 in
theorem wl_X4_workOut_39 {p : Program} {l : Launch} {e : Env} {s : State} {m : MethodId} {below : List Frame} {meth : Method} {c : Code} {D : va_G} {cy : Nat → ClassId} {A : Nat → Prop} {args : Array Value} {Q : State → Prop} (C : Cx D cy A p s m meth c cX4_workOut 4 none wsX4_workOut RX4 args) (aAd : Nat → Nat) (bAd : Nat → Nat) (b_hour : Int32) (b_dep b_arr b_deb : Nat → Int32) :
    ∀ (n : Nat) (a_gft : Int32) (a_bal a_giv a_tak a_inc : Nat → Int32) (x3 : Int32) (z : (Int32 × (Nat → Int32) × (Nat → Int32) × (Nat → Int32) × (Nat → Int32))), f_X4_workOut_L39 n a_gft a_bal a_giv a_tak a_inc x3 = some z → (∀ (U : Heap) (locs : List Loc) (ls : Array Slot), Gd D A s (w_Net cy aAd z.1 z.2.1 z.2.2.1 z.2.2.2.1 z.2.2.2.2 ++ w_Led cy bAd b_hour b_dep b_arr b_deb) U locs → lv_has ls 4 [] → W p l e ({ frames := 3, cells := 0, slots := 0, locals := 68 } : Room) s m args below meth c U locs 0 0 Q (F0 m 65 ls [])) → ∀ (U : Heap) (locs : List Loc) (ls : Array Slot), Gd D A s (w_Net cy aAd a_gft a_bal a_giv a_tak a_inc ++ w_Led cy bAd b_hour b_dep b_arr b_deb) U locs → lv_has ls 4 [(0, .ref (aAd 0)), (3, .int x3)] → W p l e ({ frames := 3, cells := 0, slots := 0, locals := 68 } : Room) s m args below meth c U locs 0 0 Q (F0 m 39 ls []) := by
  obtain ⟨hx, hb, hr, hml, hown, hts, hlk, hK, hA, hE⟩ := id C
  intro n
  induction n with
  | zero =>
    intro a_gft a_bal a_giv a_tak a_inc x3 z H
    rw [f_X4_workOut_L39_z] at H
    cases H
  | succ n ih =>
    intro a_gft a_bal a_giv a_tak a_inc x3 z H kk U locs ls G hl
    rw [f_X4_workOut_L39_s] at H
    refine lv_iload_n hx hb dX4_workOut_39 rfl (lv_at hl 1 rfl) ?_
    refine lv_bipush (v := 6) hx hb dX4_workOut_40 (by decide) ?_
    refine lv_icmp_ge (tgt := 65) hx hb dX4_workOut_42 (by decide) (fun c6 => ?_) (fun c6 => ?_)
    · have H := if_t H c6
      obtain rfl := Option.some.inj H
      exact kk _ _ _ G (lv_sub hl [] rfl)
    · have H := if_f H c6
      refine lv_aload_n hx hb dX4_workOut_45 rfl (lv_at hl 0 rfl) ?_
      refine lv_aload_n hx hb dX4_workOut_46 rfl (lv_at hl 0 rfl) ?_
      refine lv_iconst (v := 1) hx hb dX4_workOut_47 (by decide) ?_
      obtain ⟨z7, hz7, H⟩ := bd_some H
      refine MI.callVw z7 [.int 1] [.ref (aAd 0)] C G (MI.tail _ (c_X4_firstWithSign l D cy aAd a_gft a_bal a_giv a_tak a_inc 1 z7 hz7)) gX4_workOut_X4_firstWithSign rfl rfl rfl (n := 1) (by decide +kernel) ⟨Nat.le_of_ble_eq_true rfl, Nat.le_of_ble_eq_true rfl⟩ (q0 := 0) (ci := 4) rfl rfl rfl rfl hl.1 rfl (Nat.le_of_ble_eq_true rfl) dX4_workOut_48 ⟨Nat.zero_le _, Nat.zero_le _⟩ (fun U locs G => ?_)
      have G : Gd D A s (w_Net cy aAd a_gft a_bal a_giv a_tak a_inc ++ w_Led cy bAd b_hour b_dep b_arr b_deb) U locs := G
      refine lv_aload_n hx hb dX4_workOut_51 rfl (lv_at hl 0 rfl) ?_
      refine lv_iconst (v := (-1)) hx hb dX4_workOut_52 (by decide) ?_
      obtain ⟨z8, hz8, H⟩ := bd_some H
      refine MI.callVw z8 [.int (-1)] [.int z7, .ref (aAd 0)] C G (MI.tail _ (c_X4_firstWithSign l D cy aAd a_gft a_bal a_giv a_tak a_inc (-1) z8 hz8)) gX4_workOut_X4_firstWithSign rfl rfl rfl (n := 1) (by decide +kernel) ⟨Nat.le_of_ble_eq_true rfl, Nat.le_of_ble_eq_true rfl⟩ (q0 := 0) (ci := 4) rfl rfl rfl rfl hl.1 rfl (Nat.le_of_ble_eq_true rfl) dX4_workOut_53 ⟨Nat.zero_le _, Nat.zero_le _⟩ (fun U locs G => ?_)
      have G : Gd D A s (w_Net cy aAd a_gft a_bal a_giv a_tak a_inc ++ w_Led cy bAd b_hour b_dep b_arr b_deb) U locs := G
      obtain ⟨z9, hz9, H⟩ := bd_some H
      refine MV.callVw [.int z7, .int z8] [] C G (MV.tail _ (c_X4_addGift l D cy aAd a_gft a_bal a_giv a_tak a_inc z7 z8 z9 hz9)) gX4_workOut_X4_addGift rfl rfl rfl (n := 2) (by decide +kernel) ⟨Nat.le_of_ble_eq_true rfl, Nat.le_of_ble_eq_true rfl⟩ (q0 := 0) (ci := 4) rfl rfl rfl rfl hl.1 rfl (Nat.le_of_ble_eq_true rfl) dX4_workOut_56 ⟨Nat.zero_le _, Nat.zero_le _⟩ (fun U locs G => ?_)
      have G : Gd D A s (w_Net cy aAd z9.1 z9.2.1 z9.2.2.1 z9.2.2.2.1 z9.2.2.2.2 ++ w_Led cy bAd b_hour b_dep b_arr b_deb) U locs := G
      refine lv_iinc (v := x3 + 1) (lv' := [(3, .int (x3 + 1)), (0, .ref (aAd 0))]) hx hb dX4_workOut_59 hl (k := 1) rfl rfl (by decide) rfl (fun ls hl => ?_)
      refine lv_goto (tgt := 39) hx hb dX4_workOut_62 (by decide) ?_
      exact ih z9.1 z9.2.1 z9.2.2.1 z9.2.2.2.1 z9.2.2.2.2 (x3 + 1) z H kk _ _ _ G (lv_sub hl [1, 0] rfl)
def f_X4_workOut (a_gft : Int32) (a_bal a_giv a_tak a_inc b_deb : Nat → Int32) (p2 : Int32) : Option (Int32 × (Nat → Int32) × (Nat → Int32) × (Nat → Int32) × (Nat → Int32)) := bd (f_J7_fill_53178 6 a_bal 0) (fun z1 => bd (f_X4_workOut_L10 b_deb p2 2000 z1 0) (fun z5 => bd (f_X4_workOut_L39 2000 0 z5 a_giv a_tak a_inc 0) (fun z10 => some (z10.1, z10.2.1, z10.2.2.1, z10.2.2.2.1, z10.2.2.2.2))))
set_option maxHeartbeats 4000000 in
set_option maxRecDepth 100000 in
theorem c_X4_workOut (l : Launch) (D : va_G) (cy : Nat → ClassId) (aAd : Nat → Nat) (bAd : Nat → Nat) (a_gft : Int32) (a_bal a_giv a_tak a_inc : Nat → Int32) (b_hour : Int32) (b_dep b_arr b_deb : Nat → Int32) (p2 : Int32) (z : (Int32 × (Nat → Int32) × (Nat → Int32) × (Nat → Int32) × (Nat → Int32))) (hz : f_X4_workOut a_gft a_bal a_giv a_tak a_inc b_deb p2 = some z) : MV l yX4_workOut wsX4_workOut ({ frames := 3, cells := 0, slots := 0, locals := 68 } : Room) D cy [.ref (aAd 0), .ref (bAd 0), .int p2] (w_Net cy aAd a_gft a_bal a_giv a_tak a_inc ++ w_Led cy bAd b_hour b_dep b_arr b_deb) (w_Net cy aAd z.1 z.2.1 z.2.2.1 z.2.2.2.1 z.2.2.2.2 ++ w_Led cy bAd b_hour b_dep b_arr b_deb) := by
  refine met_start (Qf := fun A => MQv D cy (w_Net cy aAd z.1 z.2.1 z.2.2.1 z.2.2.2.1 z.2.2.2.2 ++ w_Led cy bAd b_hour b_dep b_arr b_deb) A) (cc := cX4_workOut) (nL := 4) (ret := none) RX4 rfl (by decide) rfl (Nat.le_of_ble_eq_true rfl) ?_
  intro p e s m below meth c A ls C G hl
  have hl : lv_has ls 4 [(0, .ref (aAd 0)), (1, .ref (bAd 0)), (2, .int p2)] := hl
  have H := hz
  unfold f_X4_workOut at H
  obtain ⟨hx, hb, hr, hml, hown, hts, hlk, hK, hA, hE⟩ := id C
  have lk0 := hts (Cond.fieldLink RX4 9 "TideDebts$Netting" "balances" "[I") (List.mem_of_getElem? (i := 1) rfl)
  have lk1 := hts (Cond.fieldLink RX4 39 "TideDebts$Netting" "gifts" "I") (List.mem_of_getElem? (i := 2) rfl)
  have hiX4 : ∀ w ∈ u_ws RX4 TX4 5, w ∈ wsX4_workOut := fun _ h => List.mem_cons_of_mem _ (List.mem_append_left _ (List.mem_append_right _ h))
  refine lv_aload_n hx hb dX4_workOut_0 rfl (lv_at hl 0 rfl) ?_
  refine va_get (D := D) (ci := 4) (v := .ref (aAd 1)) (C := RX4) (T := TX4) (N := 5) hx hb hts hiX4 hown hK G.1 0 rfl rfl 0 (by decide) lk0 (fun _ h9 => h9) rfl dX4_workOut_1 ?_
  refine lv_iconst (v := 0) hx hb dX4_workOut_4 (by decide) ?_
  obtain ⟨z1, hz1, H⟩ := bd_some H
  refine MV.callS [.ref (aAd 1), .int 0] [] [1] C G (c_J7_fill_53178 l D cy (fun k => aAd (k + 1)) 6 a_bal 0 z1 hz1) gX4_workOut_J7_fill_53178 rfl rfl rfl (n := 2) (by decide +kernel) ⟨Nat.le_of_ble_eq_true rfl, Nat.le_of_ble_eq_true rfl⟩ rfl rfl rfl rfl hl.1 rfl (Nat.le_of_ble_eq_true rfl) dX4_workOut_5 ⟨Nat.zero_le _, Nat.zero_le _⟩ (fun U locs G => ?_)
  have G : Gd D A s (w_Net cy aAd a_gft z1 a_giv a_tak a_inc ++ w_Led cy bAd b_hour b_dep b_arr b_deb) U locs := G
  refine lv_iconst (v := 0) hx hb dX4_workOut_8 (by decide) ?_
  refine lv_istore_n (lv' := [(3, .int 0), (0, .ref (aAd 0)), (1, .ref (bAd 0)), (2, .int p2)]) hx hb dX4_workOut_9 rfl hl (by decide) rfl (fun ls hl => ?_)
  obtain ⟨z5, hz5, H⟩ := bd_some H
  refine wl_X4_workOut_10 C aAd bAd a_gft a_giv a_tak a_inc b_hour b_dep b_arr b_deb p2 _ z1 0 z5 hz5 (fun U locs ls G hl => ?_) _ _ _ G (lv_sub hl [1, 2, 3, 0] rfl)
  have G : Gd D A s (w_Net cy aAd a_gft z5 a_giv a_tak a_inc ++ w_Led cy bAd b_hour b_dep b_arr b_deb) U locs := G
  have hl : lv_has ls 4 [(0, .ref (aAd 0))] := hl
  refine lv_aload_n hx hb dX4_workOut_32 rfl (lv_at hl 0 rfl) ?_
  refine lv_iconst (v := 0) hx hb dX4_workOut_33 (by decide) ?_
  refine va_put (D := D) (ci := 4) (v := .int 0) (ty := .int) (C := RX4) (T := TX4) (N := 5) hx hb hts hiX4 tyX4 tyX4_ok nmX4 hown hK G.1 G.2.1 G.2.2 0 rfl rfl 4 (by decide) lk1 (fun _ h9 => h9) rfl (tyX4_ok 4 (by decide)) rfl rfl (Nat.le_of_ble_eq_true rfl) dX4_workOut_34 (fun U locs hP hD hS => ?_)
  have G : Gd D A s (w_Net cy aAd 0 z5 a_giv a_tak a_inc ++ w_Led cy bAd b_hour b_dep b_arr b_deb) U locs := ⟨hP, hD, hS⟩
  refine lv_iconst (v := 0) hx hb dX4_workOut_37 (by decide) ?_
  refine lv_istore_n (lv' := [(3, .int 0), (0, .ref (aAd 0))]) hx hb dX4_workOut_38 rfl hl (by decide) rfl (fun ls hl => ?_)
  obtain ⟨z10, hz10, H⟩ := bd_some H
  refine wl_X4_workOut_39 C aAd bAd b_hour b_dep b_arr b_deb _ 0 z5 a_giv a_tak a_inc 0 z10 hz10 (fun U locs ls G hl => ?_) _ _ _ G (lv_sub hl [1, 0] rfl)
  have G : Gd D A s (w_Net cy aAd z10.1 z10.2.1 z10.2.2.1 z10.2.2.2.1 z10.2.2.2.2 ++ w_Led cy bAd b_hour b_dep b_arr b_deb) U locs := G
  have hl : lv_has ls 4 [] := hl
  obtain rfl := Option.some.inj H
  exact ret_v C G dX4_workOut_65
def f_X4_moveAll_L4 (a_gft : Int32) (a_giv a_tak a_inc : Nat → Int32) : Nat → (Nat → Int32) → Int32 → Int32 → Option ((Nat → Int32) × Int32)
  | 0, _, _, _ => none
  | n + 1, b_dep, x2, x3 => if a_gft ≤ x3 then (some (b_dep, x2)) else (gd (inb x3 6) (bd (f_X3_move b_dep (a_giv (ix x3)) (a_tak (ix x3)) (a_inc (ix x3))) (fun z3 => f_X4_moveAll_L4 a_gft a_giv a_tak a_inc n z3 (x2 + (a_inc (ix x3))) (x3 + 1))))
theorem f_X4_moveAll_L4_z (a_gft : Int32) (a_giv a_tak a_inc : Nat → Int32) (b_dep : Nat → Int32) (x2 x3 : Int32) : f_X4_moveAll_L4 a_gft a_giv a_tak a_inc 0 b_dep x2 x3 = none := rfl
theorem f_X4_moveAll_L4_s (a_gft : Int32) (a_giv a_tak a_inc : Nat → Int32) (n : Nat) (b_dep : Nat → Int32) (x2 x3 : Int32) : f_X4_moveAll_L4 a_gft a_giv a_tak a_inc (n + 1) b_dep x2 x3 = if a_gft ≤ x3 then (some (b_dep, x2)) else (gd (inb x3 6) (bd (f_X3_move b_dep (a_giv (ix x3)) (a_tak (ix x3)) (a_inc (ix x3))) (fun z3 => f_X4_moveAll_L4 a_gft a_giv a_tak a_inc n z3 (x2 + (a_inc (ix x3))) (x3 + 1)))) := rfl
set_option maxHeartbeats 4000000 in
set_option maxRecDepth 100000 in
theorem wl_X4_moveAll_4 {p : Program} {l : Launch} {e : Env} {s : State} {m : MethodId} {below : List Frame} {meth : Method} {c : Code} {D : va_G} {cy : Nat → ClassId} {A : Nat → Prop} {args : Array Value} {Q : State → Prop} (C : Cx D cy A p s m meth c cX4_moveAll 4 (some .int) wsX4_moveAll RX4 args) (aAd : Nat → Nat) (bAd : Nat → Nat) (a_gft : Int32) (a_bal a_giv a_tak a_inc : Nat → Int32) (b_hour : Int32) (b_arr b_deb : Nat → Int32) :
    ∀ (n : Nat) (b_dep : Nat → Int32) (x2 x3 : Int32) (z : ((Nat → Int32) × Int32)), f_X4_moveAll_L4 a_gft a_giv a_tak a_inc n b_dep x2 x3 = some z → (∀ (U : Heap) (locs : List Loc) (ls : Array Slot), Gd D A s (w_Net cy aAd a_gft a_bal a_giv a_tak a_inc ++ w_Led cy bAd b_hour z.1 b_arr b_deb) U locs → lv_has ls 4 [(1, .ref (bAd 0)), (2, .int z.2)] → W p l e ({ frames := 1, cells := 0, slots := 0, locals := 23 } : Room) s m args below meth c U locs 0 0 Q (F0 m 49 ls [])) → ∀ (U : Heap) (locs : List Loc) (ls : Array Slot), Gd D A s (w_Net cy aAd a_gft a_bal a_giv a_tak a_inc ++ w_Led cy bAd b_hour b_dep b_arr b_deb) U locs → lv_has ls 4 [(0, .ref (aAd 0)), (1, .ref (bAd 0)), (2, .int x2), (3, .int x3)] → W p l e ({ frames := 1, cells := 0, slots := 0, locals := 23 } : Room) s m args below meth c U locs 0 0 Q (F0 m 4 ls []) := by
  obtain ⟨hx, hb, hr, hml, hown, hts, hlk, hK, hA, hE⟩ := id C
  have lk0 := hts (Cond.fieldLink RX4 39 "TideDebts$Netting" "gifts" "I") (List.mem_of_getElem? (i := 1) rfl)
  have lk1 := hts (Cond.fieldLink RX4 15 "TideDebts$Netting" "givers" "[I") (List.mem_of_getElem? (i := 2) rfl)
  have lk2 := hts (Cond.fieldLink RX4 18 "TideDebts$Netting" "takers" "[I") (List.mem_of_getElem? (i := 3) rfl)
  have lk3 := hts (Cond.fieldLink RX4 21 "TideDebts$Netting" "inches" "[I") (List.mem_of_getElem? (i := 4) rfl)
  have hiX4 : ∀ w ∈ u_ws RX4 TX4 5, w ∈ wsX4_moveAll := fun _ h => List.mem_cons_of_mem _ (List.mem_append_left _ (List.mem_append_right _ h))
  intro n
  induction n with
  | zero =>
    intro b_dep x2 x3 z H
    rw [f_X4_moveAll_L4_z] at H
    cases H
  | succ n ih =>
    intro b_dep x2 x3 z H kk U locs ls G hl
    rw [f_X4_moveAll_L4_s] at H
    refine lv_iload_n hx hb dX4_moveAll_4 rfl (lv_at hl 3 rfl) ?_
    refine lv_aload_n hx hb dX4_moveAll_5 rfl (lv_at hl 0 rfl) ?_
    refine va_get (D := D) (ci := 4) (v := .int a_gft) (C := RX4) (T := TX4) (N := 5) hx hb hts hiX4 hown hK G.1 0 rfl rfl 4 (by decide) lk0 (fun _ h9 => h9) rfl dX4_moveAll_6 ?_
    refine lv_icmp_ge (tgt := 49) hx hb dX4_moveAll_9 (by decide) (fun c1 => ?_) (fun c1 => ?_)
    · have H := if_t H c1
      obtain rfl := Option.some.inj H
      exact kk _ _ _ G (lv_sub hl [1, 2] rfl)
    · have H := if_f H c1
      refine lv_aload_n hx hb dX4_moveAll_12 rfl (lv_at hl 1 rfl) ?_
      refine lv_aload_n hx hb dX4_moveAll_13 rfl (lv_at hl 0 rfl) ?_
      refine va_get (D := D) (ci := 4) (v := .ref (aAd 2)) (C := RX4) (T := TX4) (N := 5) hx hb hts hiX4 hown hK G.1 0 rfl rfl 1 (by decide) lk1 (fun _ h9 => h9) rfl dX4_moveAll_14 ?_
      refine lv_iload_n hx hb dX4_moveAll_17 rfl (lv_at hl 3 rfl) ?_
      obtain ⟨hb2, H⟩ := gd_some H
      refine g_iald (v := a_giv (ix x3)) hx hb hK G.1 2 1 rfl rfl hb2 rfl dX4_moveAll_18 ?_
      refine lv_aload_n hx hb dX4_moveAll_19 rfl (lv_at hl 0 rfl) ?_
      refine va_get (D := D) (ci := 4) (v := .ref (aAd 3)) (C := RX4) (T := TX4) (N := 5) hx hb hts hiX4 hown hK G.1 0 rfl rfl 2 (by decide) lk2 (fun _ h9 => h9) rfl dX4_moveAll_20 ?_
      refine lv_iload_n hx hb dX4_moveAll_23 rfl (lv_at hl 3 rfl) ?_
      refine g_iald (v := a_tak (ix x3)) hx hb hK G.1 3 1 rfl rfl hb2 rfl dX4_moveAll_24 ?_
      refine lv_aload_n hx hb dX4_moveAll_25 rfl (lv_at hl 0 rfl) ?_
      refine va_get (D := D) (ci := 4) (v := .ref (aAd 4)) (C := RX4) (T := TX4) (N := 5) hx hb hts hiX4 hown hK G.1 0 rfl rfl 3 (by decide) lk3 (fun _ h9 => h9) rfl dX4_moveAll_26 ?_
      refine lv_iload_n hx hb dX4_moveAll_29 rfl (lv_at hl 3 rfl) ?_
      refine g_iald (v := a_inc (ix x3)) hx hb hK G.1 4 1 rfl rfl hb2 rfl dX4_moveAll_30 ?_
      obtain ⟨z3, hz3, H⟩ := bd_some H
      refine MV.callV [.int (a_giv (ix x3)), .int (a_tak (ix x3)), .int (a_inc (ix x3))] [] [5, 6, 7, 8] C G (c_X3_move l D cy bAd b_hour b_dep b_arr b_deb (a_giv (ix x3)) (a_tak (ix x3)) (a_inc (ix x3)) z3 hz3) gX4_moveAll_X3_move rfl rfl rfl (n := 3) (by decide +kernel) ⟨Nat.le_of_ble_eq_true rfl, Nat.le_of_ble_eq_true rfl⟩ (q0 := 5) (ci := 3) rfl rfl rfl rfl rfl rfl rfl hl.1 rfl (Nat.le_of_ble_eq_true rfl) dX4_moveAll_31 ⟨Nat.zero_le _, Nat.zero_le _⟩ (fun U locs G => ?_)
      have G : Gd D A s (w_Net cy aAd a_gft a_bal a_giv a_tak a_inc ++ w_Led cy bAd b_hour z3 b_arr b_deb) U locs := G
      refine lv_iload_n hx hb dX4_moveAll_34 rfl (lv_at hl 2 rfl) ?_
      refine lv_aload_n hx hb dX4_moveAll_35 rfl (lv_at hl 0 rfl) ?_
      refine va_get (D := D) (ci := 4) (v := .ref (aAd 4)) (C := RX4) (T := TX4) (N := 5) hx hb hts hiX4 hown hK G.1 0 rfl rfl 3 (by decide) lk3 (fun _ h9 => h9) rfl dX4_moveAll_36 ?_
      refine lv_iload_n hx hb dX4_moveAll_39 rfl (lv_at hl 3 rfl) ?_
      refine g_iald (v := a_inc (ix x3)) hx hb hK G.1 4 1 rfl rfl hb2 rfl dX4_moveAll_40 ?_
      refine lv_iadd hx hb dX4_moveAll_41 ?_
      refine lv_istore_n (lv' := [(2, .int (x2 + (a_inc (ix x3)))), (0, .ref (aAd 0)), (1, .ref (bAd 0)), (3, .int x3)]) hx hb dX4_moveAll_42 rfl hl (by decide) rfl (fun ls hl => ?_)
      refine lv_iinc (v := x3 + 1) (lv' := [(3, .int (x3 + 1)), (2, .int (x2 + (a_inc (ix x3)))), (0, .ref (aAd 0)), (1, .ref (bAd 0))]) hx hb dX4_moveAll_43 hl (k := 3) rfl rfl (by decide) rfl (fun ls hl => ?_)
      refine lv_goto (tgt := 4) hx hb dX4_moveAll_46 (by decide) ?_
      exact ih z3 (x2 + (a_inc (ix x3))) (x3 + 1) z H kk _ _ _ G (lv_sub hl [2, 3, 1, 0] rfl)
def f_X4_moveAll (a_gft : Int32) (a_giv a_tak a_inc b_dep b_deb : Nat → Int32) : Option (Int32 × (Nat → Int32) × (Nat → Int32)) := bd (f_X4_moveAll_L4 a_gft a_giv a_tak a_inc 2000 b_dep 0 0) (fun z4 => bd (f_J7_fill_53178 36 b_deb 0) (fun z5 => some (z4.2, z4.1, z5)))
set_option maxHeartbeats 4000000 in
set_option maxRecDepth 100000 in
theorem c_X4_moveAll (l : Launch) (D : va_G) (cy : Nat → ClassId) (aAd : Nat → Nat) (bAd : Nat → Nat) (a_gft : Int32) (a_bal a_giv a_tak a_inc : Nat → Int32) (b_hour : Int32) (b_dep b_arr b_deb : Nat → Int32) (z : (Int32 × (Nat → Int32) × (Nat → Int32))) (hz : f_X4_moveAll a_gft a_giv a_tak a_inc b_dep b_deb = some z) : MI l yX4_moveAll wsX4_moveAll ({ frames := 1, cells := 0, slots := 0, locals := 23 } : Room) D cy [.ref (aAd 0), .ref (bAd 0)] (w_Net cy aAd a_gft a_bal a_giv a_tak a_inc ++ w_Led cy bAd b_hour b_dep b_arr b_deb) z.1 (w_Net cy aAd a_gft a_bal a_giv a_tak a_inc ++ w_Led cy bAd b_hour z.2.1 b_arr z.2.2) := by
  refine met_start (Qf := fun A => MQi D cy z.1 (w_Net cy aAd a_gft a_bal a_giv a_tak a_inc ++ w_Led cy bAd b_hour z.2.1 b_arr z.2.2) A) (cc := cX4_moveAll) (nL := 4) (ret := (some .int)) RX4 rfl (by decide) rfl (Nat.le_of_ble_eq_true rfl) ?_
  intro p e s m below meth c A ls C G hl
  have hl : lv_has ls 4 [(0, .ref (aAd 0)), (1, .ref (bAd 0))] := hl
  have H := hz
  unfold f_X4_moveAll at H
  obtain ⟨hx, hb, hr, hml, hown, hts, hlk, hK, hA, hE⟩ := id C
  have lk0 := hts (Cond.fieldLink RX4 66 "TideDebts$Ledger" "debts" "[I") (List.mem_of_getElem? (i := 5) rfl)
  have hiX3 : ∀ w ∈ u_ws RX3 TX3 4, w ∈ wsX4_moveAll := fun _ h => List.mem_cons_of_mem _ (List.mem_append_right _ h)
  refine lv_iconst (v := 0) hx hb dX4_moveAll_0 (by decide) ?_
  refine lv_istore_n (lv' := [(2, .int 0), (0, .ref (aAd 0)), (1, .ref (bAd 0))]) hx hb dX4_moveAll_1 rfl hl (by decide) rfl (fun ls hl => ?_)
  refine lv_iconst (v := 0) hx hb dX4_moveAll_2 (by decide) ?_
  refine lv_istore_n (lv' := [(3, .int 0), (2, .int 0), (0, .ref (aAd 0)), (1, .ref (bAd 0))]) hx hb dX4_moveAll_3 rfl hl (by decide) rfl (fun ls hl => ?_)
  obtain ⟨z4, hz4, H⟩ := bd_some H
  refine wl_X4_moveAll_4 C aAd bAd a_gft a_bal a_giv a_tak a_inc b_hour b_arr b_deb _ b_dep 0 0 z4 hz4 (fun U locs ls G hl => ?_) _ _ _ G (lv_sub hl [2, 3, 1, 0] rfl)
  have G : Gd D A s (w_Net cy aAd a_gft a_bal a_giv a_tak a_inc ++ w_Led cy bAd b_hour z4.1 b_arr b_deb) U locs := G
  have hl : lv_has ls 4 [(1, .ref (bAd 0)), (2, .int z4.2)] := hl
  refine lv_aload_n hx hb dX4_moveAll_49 rfl (lv_at hl 0 rfl) ?_
  refine va_get (D := D) (ci := 3) (v := .ref (bAd 3)) (C := RX3) (T := TX3) (N := 4) hx hb hts hiX3 hown hK G.1 5 rfl rfl 2 (by decide) lk0 (fun _ h9 => h9) rfl dX4_moveAll_50 ?_
  refine lv_iconst (v := 0) hx hb dX4_moveAll_53 (by decide) ?_
  obtain ⟨z5, hz5, H⟩ := bd_some H
  refine MV.callS [.ref (bAd 3), .int 0] [] [8] C G (c_J7_fill_53178 l D cy (fun k => bAd (k + 3)) 36 b_deb 0 z5 hz5) gX4_moveAll_J7_fill_53178 rfl rfl rfl (n := 2) (by decide +kernel) ⟨Nat.le_of_ble_eq_true rfl, Nat.le_of_ble_eq_true rfl⟩ rfl rfl rfl rfl hl.1 rfl (Nat.le_of_ble_eq_true rfl) dX4_moveAll_54 ⟨Nat.zero_le _, Nat.zero_le _⟩ (fun U locs G => ?_)
  have G : Gd D A s (w_Net cy aAd a_gft a_bal a_giv a_tak a_inc ++ w_Led cy bAd b_hour z4.1 b_arr z5) U locs := G
  refine lv_iload_n hx hb dX4_moveAll_57 rfl (lv_at hl 1 rfl) ?_
  obtain rfl := Option.some.inj H
  exact ret_i C G rfl dX4_moveAll_58
def f_X1_open (a_sta b_wat : Int32) (b_lev b_kin b_cdp b_sil : Nat → Int32) (c_hour : Int32) (c_dep c_arr c_deb : Nat → Int32) (d_wat : Int32) (d_lev d_kin d_cdp d_sil : Nat → Int32) : Option (Int32 × Int32 × (Nat → Int32) × (Nat → Int32) × (Nat → Int32) × (Nat → Int32) × Int32 × (Nat → Int32) × (Nat → Int32) × (Nat → Int32)) := bd (f_X2_takeFrom b_wat b_lev b_kin b_cdp b_sil d_wat d_lev d_kin d_cdp d_sil) (fun z1 => bd (f_X3_open c_hour c_dep c_arr c_deb z1.1 z1.2.2.2.1) (fun z2 => some (1, z1.1, z1.2.1, z1.2.2.1, z1.2.2.2.1, z1.2.2.2.2, z2.1, z2.2.1, z2.2.2.1, z2.2.2.2)))
set_option maxHeartbeats 4000000 in
set_option maxRecDepth 100000 in
theorem c_X1_open (l : Launch) (D : va_G) (cy : Nat → ClassId) (aAd : Nat → Nat) (bAd : Nat → Nat) (cAd : Nat → Nat) (dAd : Nat → Nat) (a_sta b_wat : Int32) (b_lev b_kin b_cdp b_sil : Nat → Int32) (c_hour : Int32) (c_dep c_arr c_deb : Nat → Int32) (d_wat : Int32) (d_lev d_kin d_cdp d_sil : Nat → Int32) (z : (Int32 × Int32 × (Nat → Int32) × (Nat → Int32) × (Nat → Int32) × (Nat → Int32) × Int32 × (Nat → Int32) × (Nat → Int32) × (Nat → Int32))) (hz : f_X1_open a_sta b_wat b_lev b_kin b_cdp b_sil c_hour c_dep c_arr c_deb d_wat d_lev d_kin d_cdp d_sil = some z) : MV l yX1_open wsX1_open ({ frames := 2, cells := 0, slots := 0, locals := 81 } : Room) D cy [.ref (aAd 0), .ref (dAd 0)] (w_Bay cy aAd (bAd 0) (cAd 0) a_sta ++ w_Ch cy bAd b_wat b_lev b_kin b_cdp b_sil ++ w_Led cy cAd c_hour c_dep c_arr c_deb ++ w_Ch cy dAd d_wat d_lev d_kin d_cdp d_sil) (w_Bay cy aAd (bAd 0) (cAd 0) z.1 ++ w_Ch cy bAd z.2.1 z.2.2.1 z.2.2.2.1 z.2.2.2.2.1 z.2.2.2.2.2.1 ++ w_Led cy cAd z.2.2.2.2.2.2.1 z.2.2.2.2.2.2.2.1 z.2.2.2.2.2.2.2.2.1 z.2.2.2.2.2.2.2.2.2 ++ w_Ch cy dAd d_wat d_lev d_kin d_cdp d_sil) := by
  refine met_start (Qf := fun A => MQv D cy (w_Bay cy aAd (bAd 0) (cAd 0) z.1 ++ w_Ch cy bAd z.2.1 z.2.2.1 z.2.2.2.1 z.2.2.2.2.1 z.2.2.2.2.2.1 ++ w_Led cy cAd z.2.2.2.2.2.2.1 z.2.2.2.2.2.2.2.1 z.2.2.2.2.2.2.2.2.1 z.2.2.2.2.2.2.2.2.2 ++ w_Ch cy dAd d_wat d_lev d_kin d_cdp d_sil) A) (cc := cX1_open) (nL := 2) (ret := none) RX1 rfl (by decide) rfl (Nat.le_of_ble_eq_true rfl) ?_
  intro p e s m below meth c A ls C G hl
  have hl : lv_has ls 2 [(0, .ref (aAd 0)), (1, .ref (dAd 0))] := hl
  have H := hz
  unfold f_X1_open at H
  obtain ⟨hx, hb, hr, hml, hown, hts, hlk, hK, hA, hE⟩ := id C
  have lk0 := hts (Cond.fieldLink RX1 10 "TideDebts$Bay" "chart" "LTideDebts$Chart;") (List.mem_of_getElem? (i := 1) rfl)
  have lk1 := hts (Cond.fieldLink RX1 19 "TideDebts$Bay" "ledger" "LTideDebts$Ledger;") (List.mem_of_getElem? (i := 2) rfl)
  have lk2 := hts (Cond.fieldLink RX1 30 "TideDebts$Bay" "stands" "Z") (List.mem_of_getElem? (i := 3) rfl)
  have hiX1 : ∀ w ∈ u_ws RX1 TX1 3, w ∈ wsX1_open := fun _ h => List.mem_cons_of_mem _ (List.mem_append_left _ (List.mem_append_left _ (List.mem_append_right _ h)))
  refine lv_aload_n hx hb dX1_open_0 rfl (lv_at hl 0 rfl) ?_
  refine va_get (D := D) (ci := 1) (v := .ref (bAd 0)) (C := RX1) (T := TX1) (N := 3) hx hb hts hiX1 hown hK G.1 0 rfl rfl 0 (by decide) lk0 (fun _ h9 => h9) rfl dX1_open_1 ?_
  refine lv_aload_n hx hb dX1_open_4 rfl (lv_at hl 1 rfl) ?_
  obtain ⟨z1, hz1, H⟩ := bd_some H
  refine MV.callV [.ref (dAd 0)] [] [1, 2, 3, 4, 5, 10, 11, 12, 13, 14] C G (c_X2_takeFrom l D cy bAd dAd b_wat b_lev b_kin b_cdp b_sil d_wat d_lev d_kin d_cdp d_sil z1 hz1) gX1_open_X2_takeFrom rfl rfl rfl (n := 1) (by decide +kernel) ⟨Nat.le_of_ble_eq_true rfl, Nat.le_of_ble_eq_true rfl⟩ (q0 := 1) (ci := 2) rfl rfl rfl rfl rfl rfl rfl hl.1 rfl (Nat.le_of_ble_eq_true rfl) dX1_open_5 ⟨Nat.zero_le _, Nat.zero_le _⟩ (fun U locs G => ?_)
  have G : Gd D A s (w_Bay cy aAd (bAd 0) (cAd 0) a_sta ++ w_Ch cy bAd z1.1 z1.2.1 z1.2.2.1 z1.2.2.2.1 z1.2.2.2.2 ++ w_Led cy cAd c_hour c_dep c_arr c_deb ++ w_Ch cy dAd d_wat d_lev d_kin d_cdp d_sil) U locs := G
  refine lv_aload_n hx hb dX1_open_8 rfl (lv_at hl 0 rfl) ?_
  refine va_get (D := D) (ci := 1) (v := .ref (cAd 0)) (C := RX1) (T := TX1) (N := 3) hx hb hts hiX1 hown hK G.1 0 rfl rfl 1 (by decide) lk1 (fun _ h9 => h9) rfl dX1_open_9 ?_
  refine lv_aload_n hx hb dX1_open_12 rfl (lv_at hl 0 rfl) ?_
  refine va_get (D := D) (ci := 1) (v := .ref (bAd 0)) (C := RX1) (T := TX1) (N := 3) hx hb hts hiX1 hown hK G.1 0 rfl rfl 0 (by decide) lk0 (fun _ h9 => h9) rfl dX1_open_13 ?_
  obtain ⟨z2, hz2, H⟩ := bd_some H
  refine MV.callV [.ref (bAd 0)] [] [6, 7, 8, 9, 1, 2, 3, 4, 5] C G (c_X3_open l D cy cAd bAd c_hour c_dep c_arr c_deb z1.1 z1.2.1 z1.2.2.1 z1.2.2.2.1 z1.2.2.2.2 z2 hz2) gX1_open_X3_open rfl rfl rfl (n := 1) (by decide +kernel) ⟨Nat.le_of_ble_eq_true rfl, Nat.le_of_ble_eq_true rfl⟩ (q0 := 6) (ci := 3) rfl rfl rfl rfl rfl rfl rfl hl.1 rfl (Nat.le_of_ble_eq_true rfl) dX1_open_16 ⟨Nat.zero_le _, Nat.zero_le _⟩ (fun U locs G => ?_)
  have G : Gd D A s (w_Bay cy aAd (bAd 0) (cAd 0) a_sta ++ w_Ch cy bAd z1.1 z1.2.1 z1.2.2.1 z1.2.2.2.1 z1.2.2.2.2 ++ w_Led cy cAd z2.1 z2.2.1 z2.2.2.1 z2.2.2.2 ++ w_Ch cy dAd d_wat d_lev d_kin d_cdp d_sil) U locs := G
  refine lv_aload_n hx hb dX1_open_19 rfl (lv_at hl 0 rfl) ?_
  refine lv_iconst (v := 1) hx hb dX1_open_20 (by decide) ?_
  refine va_put (D := D) (ci := 1) (v := .int 1) (ty := .boolean) (C := RX1) (T := TX1) (N := 3) hx hb hts hiX1 tyX1 tyX1_ok nmX1 hown hK G.1 G.2.1 G.2.2 0 rfl rfl 2 (by decide) lk2 (fun _ h9 => h9) rfl (tyX1_ok 2 (by decide)) rfl rfl (Nat.le_of_ble_eq_true rfl) dX1_open_21 (fun U locs hP hD hS => ?_)
  have G : Gd D A s (w_Bay cy aAd (bAd 0) (cAd 0) 1 ++ w_Ch cy bAd z1.1 z1.2.1 z1.2.2.1 z1.2.2.2.1 z1.2.2.2.2 ++ w_Led cy cAd z2.1 z2.2.1 z2.2.2.1 z2.2.2.2 ++ w_Ch cy dAd d_wat d_lev d_kin d_cdp d_sil) U locs := ⟨hP, hD, hS⟩
  obtain rfl := Option.some.inj H
  exact ret_v C G dX1_open_24
def f_X1_takeFrom (a_sta b_wat : Int32) (b_lev b_kin b_cdp b_sil : Nat → Int32) (c_hour : Int32) (c_dep c_arr c_deb : Nat → Int32) (d_sta e_wat : Int32) (e_lev e_kin e_cdp e_sil : Nat → Int32) (f_hour : Int32) (f_dep f_arr f_deb : Nat → Int32) : Option (Int32 × Int32 × (Nat → Int32) × (Nat → Int32) × (Nat → Int32) × (Nat → Int32) × Int32 × (Nat → Int32) × (Nat → Int32) × (Nat → Int32)) := bd (f_X2_takeFrom b_wat b_lev b_kin b_cdp b_sil e_wat e_lev e_kin e_cdp e_sil) (fun z1 => bd (f_X3_takeFrom c_hour c_dep c_arr c_deb f_hour f_dep f_arr f_deb) (fun z2 => gd (isz d_sta) (some (d_sta, z1.1, z1.2.1, z1.2.2.1, z1.2.2.2.1, z1.2.2.2.2, z2.1, z2.2.1, z2.2.2.1, z2.2.2.2))))
set_option maxHeartbeats 4000000 in
set_option maxRecDepth 100000 in
theorem c_X1_takeFrom (l : Launch) (D : va_G) (cy : Nat → ClassId) (aAd : Nat → Nat) (bAd : Nat → Nat) (cAd : Nat → Nat) (dAd : Nat → Nat) (eAd : Nat → Nat) (fAd : Nat → Nat) (a_sta b_wat : Int32) (b_lev b_kin b_cdp b_sil : Nat → Int32) (c_hour : Int32) (c_dep c_arr c_deb : Nat → Int32) (d_sta e_wat : Int32) (e_lev e_kin e_cdp e_sil : Nat → Int32) (f_hour : Int32) (f_dep f_arr f_deb : Nat → Int32) (z : (Int32 × Int32 × (Nat → Int32) × (Nat → Int32) × (Nat → Int32) × (Nat → Int32) × Int32 × (Nat → Int32) × (Nat → Int32) × (Nat → Int32))) (hz : f_X1_takeFrom a_sta b_wat b_lev b_kin b_cdp b_sil c_hour c_dep c_arr c_deb d_sta e_wat e_lev e_kin e_cdp e_sil f_hour f_dep f_arr f_deb = some z) : MV l yX1_takeFrom wsX1_takeFrom ({ frames := 2, cells := 0, slots := 0, locals := 81 } : Room) D cy [.ref (aAd 0), .ref (dAd 0)] (w_Bay cy aAd (bAd 0) (cAd 0) a_sta ++ w_Ch cy bAd b_wat b_lev b_kin b_cdp b_sil ++ w_Led cy cAd c_hour c_dep c_arr c_deb ++ w_Bay cy dAd (eAd 0) (fAd 0) d_sta ++ w_Ch cy eAd e_wat e_lev e_kin e_cdp e_sil ++ w_Led cy fAd f_hour f_dep f_arr f_deb) (w_Bay cy aAd (bAd 0) (cAd 0) z.1 ++ w_Ch cy bAd z.2.1 z.2.2.1 z.2.2.2.1 z.2.2.2.2.1 z.2.2.2.2.2.1 ++ w_Led cy cAd z.2.2.2.2.2.2.1 z.2.2.2.2.2.2.2.1 z.2.2.2.2.2.2.2.2.1 z.2.2.2.2.2.2.2.2.2 ++ w_Bay cy dAd (eAd 0) (fAd 0) d_sta ++ w_Ch cy eAd e_wat e_lev e_kin e_cdp e_sil ++ w_Led cy fAd f_hour f_dep f_arr f_deb) := by
  refine met_start (Qf := fun A => MQv D cy (w_Bay cy aAd (bAd 0) (cAd 0) z.1 ++ w_Ch cy bAd z.2.1 z.2.2.1 z.2.2.2.1 z.2.2.2.2.1 z.2.2.2.2.2.1 ++ w_Led cy cAd z.2.2.2.2.2.2.1 z.2.2.2.2.2.2.2.1 z.2.2.2.2.2.2.2.2.1 z.2.2.2.2.2.2.2.2.2 ++ w_Bay cy dAd (eAd 0) (fAd 0) d_sta ++ w_Ch cy eAd e_wat e_lev e_kin e_cdp e_sil ++ w_Led cy fAd f_hour f_dep f_arr f_deb) A) (cc := cX1_takeFrom) (nL := 2) (ret := none) RX1 rfl (by decide) rfl (Nat.le_of_ble_eq_true rfl) ?_
  intro p e s m below meth c A ls C G hl
  have hl : lv_has ls 2 [(0, .ref (aAd 0)), (1, .ref (dAd 0))] := hl
  have H := hz
  unfold f_X1_takeFrom at H
  obtain ⟨hx, hb, hr, hml, hown, hts, hlk, hK, hA, hE⟩ := id C
  have lk0 := hts (Cond.fieldLink RX1 10 "TideDebts$Bay" "chart" "LTideDebts$Chart;") (List.mem_of_getElem? (i := 1) rfl)
  have lk1 := hts (Cond.fieldLink RX1 19 "TideDebts$Bay" "ledger" "LTideDebts$Ledger;") (List.mem_of_getElem? (i := 2) rfl)
  have lk2 := hts (Cond.fieldLink RX1 30 "TideDebts$Bay" "stands" "Z") (List.mem_of_getElem? (i := 3) rfl)
  have hiX1 : ∀ w ∈ u_ws RX1 TX1 3, w ∈ wsX1_takeFrom := fun _ h => List.mem_cons_of_mem _ (List.mem_append_left _ (List.mem_append_left _ (List.mem_append_right _ h)))
  refine lv_aload_n hx hb dX1_takeFrom_0 rfl (lv_at hl 0 rfl) ?_
  refine va_get (D := D) (ci := 1) (v := .ref (bAd 0)) (C := RX1) (T := TX1) (N := 3) hx hb hts hiX1 hown hK G.1 0 rfl rfl 0 (by decide) lk0 (fun _ h9 => h9) rfl dX1_takeFrom_1 ?_
  refine lv_aload_n hx hb dX1_takeFrom_4 rfl (lv_at hl 1 rfl) ?_
  refine va_get (D := D) (ci := 1) (v := .ref (eAd 0)) (C := RX1) (T := TX1) (N := 3) hx hb hts hiX1 hown hK G.1 10 rfl rfl 0 (by decide) lk0 (fun _ h9 => h9) rfl dX1_takeFrom_5 ?_
  obtain ⟨z1, hz1, H⟩ := bd_some H
  refine MV.callV [.ref (eAd 0)] [] [1, 2, 3, 4, 5, 11, 12, 13, 14, 15] C G (c_X2_takeFrom l D cy bAd eAd b_wat b_lev b_kin b_cdp b_sil e_wat e_lev e_kin e_cdp e_sil z1 hz1) gX1_takeFrom_X2_takeFrom rfl rfl rfl (n := 1) (by decide +kernel) ⟨Nat.le_of_ble_eq_true rfl, Nat.le_of_ble_eq_true rfl⟩ (q0 := 1) (ci := 2) rfl rfl rfl rfl rfl rfl rfl hl.1 rfl (Nat.le_of_ble_eq_true rfl) dX1_takeFrom_8 ⟨Nat.zero_le _, Nat.zero_le _⟩ (fun U locs G => ?_)
  have G : Gd D A s (w_Bay cy aAd (bAd 0) (cAd 0) a_sta ++ w_Ch cy bAd z1.1 z1.2.1 z1.2.2.1 z1.2.2.2.1 z1.2.2.2.2 ++ w_Led cy cAd c_hour c_dep c_arr c_deb ++ w_Bay cy dAd (eAd 0) (fAd 0) d_sta ++ w_Ch cy eAd e_wat e_lev e_kin e_cdp e_sil ++ w_Led cy fAd f_hour f_dep f_arr f_deb) U locs := G
  refine lv_aload_n hx hb dX1_takeFrom_11 rfl (lv_at hl 0 rfl) ?_
  refine va_get (D := D) (ci := 1) (v := .ref (cAd 0)) (C := RX1) (T := TX1) (N := 3) hx hb hts hiX1 hown hK G.1 0 rfl rfl 1 (by decide) lk1 (fun _ h9 => h9) rfl dX1_takeFrom_12 ?_
  refine lv_aload_n hx hb dX1_takeFrom_15 rfl (lv_at hl 1 rfl) ?_
  refine va_get (D := D) (ci := 1) (v := .ref (fAd 0)) (C := RX1) (T := TX1) (N := 3) hx hb hts hiX1 hown hK G.1 10 rfl rfl 1 (by decide) lk1 (fun _ h9 => h9) rfl dX1_takeFrom_16 ?_
  obtain ⟨z2, hz2, H⟩ := bd_some H
  refine MV.callV [.ref (fAd 0)] [] [6, 7, 8, 9, 16, 17, 18, 19] C G (c_X3_takeFrom l D cy cAd fAd c_hour c_dep c_arr c_deb f_hour f_dep f_arr f_deb z2 hz2) gX1_takeFrom_X3_takeFrom rfl rfl rfl (n := 1) (by decide +kernel) ⟨Nat.le_of_ble_eq_true rfl, Nat.le_of_ble_eq_true rfl⟩ (q0 := 6) (ci := 3) rfl rfl rfl rfl rfl rfl rfl hl.1 rfl (Nat.le_of_ble_eq_true rfl) dX1_takeFrom_19 ⟨Nat.zero_le _, Nat.zero_le _⟩ (fun U locs G => ?_)
  have G : Gd D A s (w_Bay cy aAd (bAd 0) (cAd 0) a_sta ++ w_Ch cy bAd z1.1 z1.2.1 z1.2.2.1 z1.2.2.2.1 z1.2.2.2.2 ++ w_Led cy cAd z2.1 z2.2.1 z2.2.2.1 z2.2.2.2 ++ w_Bay cy dAd (eAd 0) (fAd 0) d_sta ++ w_Ch cy eAd e_wat e_lev e_kin e_cdp e_sil ++ w_Led cy fAd f_hour f_dep f_arr f_deb) U locs := G
  refine lv_aload_n hx hb dX1_takeFrom_22 rfl (lv_at hl 0 rfl) ?_
  refine lv_aload_n hx hb dX1_takeFrom_23 rfl (lv_at hl 1 rfl) ?_
  refine va_get (D := D) (ci := 1) (v := .int d_sta) (C := RX1) (T := TX1) (N := 3) hx hb hts hiX1 hown hK G.1 10 rfl rfl 2 (by decide) lk2 (fun _ h9 => h9) rfl dX1_takeFrom_24 ?_
  obtain ⟨hz3, H⟩ := gd_some H
  refine va_put (D := D) (ci := 1) (v := .int d_sta) (ty := .boolean) (C := RX1) (T := TX1) (N := 3) hx hb hts hiX1 tyX1 tyX1_ok nmX1 hown hK G.1 G.2.1 G.2.2 0 rfl rfl 2 (by decide) lk2 (fun _ h9 => h9) rfl (tyX1_ok 2 (by decide)) (isz_n hz3) (isz_f hz3) (Nat.le_of_ble_eq_true rfl) dX1_takeFrom_27 (fun U locs hP hD hS => ?_)
  have G : Gd D A s (w_Bay cy aAd (bAd 0) (cAd 0) d_sta ++ w_Ch cy bAd z1.1 z1.2.1 z1.2.2.1 z1.2.2.2.1 z1.2.2.2.2 ++ w_Led cy cAd z2.1 z2.2.1 z2.2.2.1 z2.2.2.2 ++ w_Bay cy dAd (eAd 0) (fAd 0) d_sta ++ w_Ch cy eAd e_wat e_lev e_kin e_cdp e_sil ++ w_Led cy fAd f_hour f_dep f_arr f_deb) U locs := ⟨hP, hD, hS⟩
  obtain rfl := Option.some.inj H
  exact ret_v C G dX1_takeFrom_30
def f_X5_forget (a_kep : Int32) : Option Int32 := some 0
set_option maxHeartbeats 4000000 in
set_option maxRecDepth 100000 in
theorem c_X5_forget (l : Launch) (D : va_G) (cy : Nat → ClassId) (aAd : Nat → Nat) (a_GR : Nat → Option Nat) (a_nxt a_kep : Int32) (z : Int32) (hz : f_X5_forget a_kep = some z) : MV l yX5_forget wsX5_forget ({ frames := 0, cells := 0, slots := 0, locals := 0 } : Room) D cy [.ref (aAd 0)] (w_Past cy aAd a_GR a_nxt a_kep) (w_Past cy aAd a_GR a_nxt z) := by
  refine met_start (Qf := fun A => MQv D cy (w_Past cy aAd a_GR a_nxt z) A) (cc := cX5_forget) (nL := 1) (ret := none) RX5 rfl (by decide) rfl (Nat.le_of_ble_eq_true rfl) ?_
  intro p e s m below meth c A ls C G hl
  have hl : lv_has ls 1 [(0, .ref (aAd 0))] := hl
  have H := hz
  unfold f_X5_forget at H
  obtain ⟨hx, hb, hr, hml, hown, hts, hlk, hK, hA, hE⟩ := id C
  have lk0 := hts (Cond.fieldLink RX5 26 "TideDebts$Past" "kept" "I") (List.mem_of_getElem? (i := 1) rfl)
  have hiX5 : ∀ w ∈ u_ws RX5 TX5 3, w ∈ wsX5_forget := fun _ h => List.mem_cons_of_mem _ (List.mem_append_right _ h)
  refine lv_aload_n hx hb dX5_forget_0 rfl (lv_at hl 0 rfl) ?_
  refine lv_iconst (v := 0) hx hb dX5_forget_1 (by decide) ?_
  refine va_put (D := D) (ci := 5) (v := .int 0) (ty := .int) (C := RX5) (T := TX5) (N := 3) hx hb hts hiX5 tyX5 tyX5_ok nmX5 hown hK G.1 G.2.1 G.2.2 0 rfl rfl 2 (by decide) lk0 (fun _ h9 => h9) rfl (tyX5_ok 2 (by decide)) rfl rfl (Nat.le_of_ble_eq_true rfl) dX5_forget_2 (fun U locs hP hD hS => ?_)
  have G : Gd D A s (w_Past cy aAd a_GR a_nxt 0) U locs := ⟨hP, hD, hS⟩
  obtain rfl := Option.some.inj H
  exact ret_v C G dX5_forget_5
def f_X6_isMissing (a_lan : Nat → Int32) (p1 : Int32) : Option Int32 := gd (inb p1 8) (if (a_lan (ix p1)) = (-1) then (some 1) else (some 0))
set_option maxHeartbeats 4000000 in
set_option maxRecDepth 100000 in
theorem c_X6_isMissing (l : Launch) (D : va_G) (cy : Nat → ClassId) (aAd : Nat → Nat) (a_GI : Nat → Option Nat) (a_lan a_siz : Nat → Int32) (p1 : Int32) (z : Int32) (hz : f_X6_isMissing a_lan p1 = some z) : MI l yX6_isMissing wsX6_isMissing ({ frames := 0, cells := 0, slots := 0, locals := 0 } : Room) D cy [.ref (aAd 0), .int p1] (w_Rows cy aAd a_GI a_lan a_siz) z (w_Rows cy aAd a_GI a_lan a_siz) := by
  refine met_start (Qf := fun A => MQi D cy z (w_Rows cy aAd a_GI a_lan a_siz) A) (cc := cX6_isMissing) (nL := 2) (ret := (some .boolean)) RX6 rfl (by decide) rfl (Nat.le_of_ble_eq_true rfl) ?_
  intro p e s m below meth c A ls C G hl
  have hl : lv_has ls 2 [(0, .ref (aAd 0)), (1, .int p1)] := hl
  have H := hz
  unfold f_X6_isMissing at H
  obtain ⟨hx, hb, hr, hml, hown, hts, hlk, hK, hA, hE⟩ := id C
  have lk0 := hts (Cond.fieldLink RX6 16 "TideDebts$Rows" "lanes" "[I") (List.mem_of_getElem? (i := 1) rfl)
  have hiX6 : ∀ w ∈ u_ws RX6 TX6 3, w ∈ wsX6_isMissing := fun _ h => List.mem_cons_of_mem _ (List.mem_append_right _ h)
  refine lv_aload_n hx hb dX6_isMissing_0 rfl (lv_at hl 0 rfl) ?_
  refine va_get (D := D) (ci := 6) (v := .ref (aAd 1)) (C := RX6) (T := TX6) (N := 3) hx hb hts hiX6 hown hK G.1 0 rfl rfl 1 (by decide) lk0 (fun _ h9 => h9) rfl dX6_isMissing_1 ?_
  refine lv_iload_n hx hb dX6_isMissing_4 rfl (lv_at hl 1 rfl) ?_
  obtain ⟨hb1, H⟩ := gd_some H
  refine g_iald (v := a_lan (ix p1)) hx hb hK G.1 1 1 rfl rfl hb1 rfl dX6_isMissing_5 ?_
  refine lv_iconst (v := (-1)) hx hb dX6_isMissing_6 (by decide) ?_
  refine lv_icmp_ne (tgt := 14) hx hb dX6_isMissing_7 (by decide) (fun c2 => ?_) (fun c2 => ?_)
  · have H := if_f H c2
    refine lv_iconst (v := 0) hx hb dX6_isMissing_14 (by decide) ?_
    obtain rfl := Option.some.inj H
    exact ret_z C G rfl rfl dX6_isMissing_15
  · have H := if_t H c2
    refine lv_iconst (v := 1) hx hb dX6_isMissing_10 (by decide) ?_
    refine lv_goto (tgt := 15) hx hb dX6_isMissing_11 (by decide) ?_
    obtain rfl := Option.some.inj H
    exact ret_z C G rfl rfl dX6_isMissing_15
def f_X6_remove (a_lan a_siz : Nat → Int32) (p1 : Int32) : Option (Int32 × (Nat → Int32)) := gd (inb p1 8) (some (a_siz (ix p1), upd a_lan (ix p1) (-1)))
set_option maxHeartbeats 4000000 in
set_option maxRecDepth 100000 in
theorem c_X6_remove (l : Launch) (D : va_G) (cy : Nat → ClassId) (aAd : Nat → Nat) (a_GI : Nat → Option Nat) (a_lan a_siz : Nat → Int32) (p1 : Int32) (z : (Int32 × (Nat → Int32))) (hz : f_X6_remove a_lan a_siz p1 = some z) : MI l yX6_remove wsX6_remove ({ frames := 0, cells := 0, slots := 0, locals := 0 } : Room) D cy [.ref (aAd 0), .int p1] (w_Rows cy aAd a_GI a_lan a_siz) z.1 (w_Rows cy aAd a_GI z.2 a_siz) := by
  refine met_start (Qf := fun A => MQi D cy z.1 (w_Rows cy aAd a_GI z.2 a_siz) A) (cc := cX6_remove) (nL := 2) (ret := (some .int)) RX6 rfl (by decide) rfl (Nat.le_of_ble_eq_true rfl) ?_
  intro p e s m below meth c A ls C G hl
  have hl : lv_has ls 2 [(0, .ref (aAd 0)), (1, .int p1)] := hl
  have H := hz
  unfold f_X6_remove at H
  obtain ⟨hx, hb, hr, hml, hown, hts, hlk, hK, hA, hE⟩ := id C
  have lk0 := hts (Cond.fieldLink RX6 16 "TideDebts$Rows" "lanes" "[I") (List.mem_of_getElem? (i := 1) rfl)
  have lk1 := hts (Cond.fieldLink RX6 20 "TideDebts$Rows" "sizes" "[I") (List.mem_of_getElem? (i := 2) rfl)
  have hiX6 : ∀ w ∈ u_ws RX6 TX6 3, w ∈ wsX6_remove := fun _ h => List.mem_cons_of_mem _ (List.mem_append_right _ h)
  refine lv_aload_n hx hb dX6_remove_0 rfl (lv_at hl 0 rfl) ?_
  refine va_get (D := D) (ci := 6) (v := .ref (aAd 1)) (C := RX6) (T := TX6) (N := 3) hx hb hts hiX6 hown hK G.1 0 rfl rfl 1 (by decide) lk0 (fun _ h9 => h9) rfl dX6_remove_1 ?_
  refine lv_iload_n hx hb dX6_remove_4 rfl (lv_at hl 1 rfl) ?_
  refine lv_iconst (v := (-1)) hx hb dX6_remove_5 (by decide) ?_
  obtain ⟨hb1, H⟩ := gd_some H
  refine va_iast hx hb hK G.1 G.2.1 G.2.2 1 1 rfl rfl (inb_in hb1) dX6_remove_6 (fun U locs hP hD hS => ?_)
  have G : Gd D A s (w_Rows cy aAd a_GI (upd a_lan (ix p1) (-1)) a_siz) U locs := ⟨hP, hD, hS⟩
  refine lv_aload_n hx hb dX6_remove_7 rfl (lv_at hl 0 rfl) ?_
  refine va_get (D := D) (ci := 6) (v := .ref (aAd 2)) (C := RX6) (T := TX6) (N := 3) hx hb hts hiX6 hown hK G.1 0 rfl rfl 2 (by decide) lk1 (fun _ h9 => h9) rfl dX6_remove_8 ?_
  refine lv_iload_n hx hb dX6_remove_11 rfl (lv_at hl 1 rfl) ?_
  refine g_iald (v := a_siz (ix p1)) hx hb hK G.1 2 1 rfl rfl hb1 rfl dX6_remove_12 ?_
  obtain rfl := Option.some.inj H
  exact ret_i C G rfl dX6_remove_13
def f_X6_hasPlaces (a_siz : Nat → Int32) (p1 p2 p3 : Int32) : Option Int32 := if p2 < 0 then (some 0) else (if p3 < 0 then (some 0) else (gd (inb p1 8) (if (a_siz (ix p1)) < p3 then (some 0) else (if ((a_siz (ix p1)) - p3) < p2 then (some 0) else (some 1)))))
set_option maxHeartbeats 4000000 in
set_option maxRecDepth 100000 in
theorem c_X6_hasPlaces (l : Launch) (D : va_G) (cy : Nat → ClassId) (aAd : Nat → Nat) (a_GI : Nat → Option Nat) (a_lan a_siz : Nat → Int32) (p1 p2 p3 : Int32) (z : Int32) (hz : f_X6_hasPlaces a_siz p1 p2 p3 = some z) : MI l yX6_hasPlaces wsX6_hasPlaces ({ frames := 0, cells := 0, slots := 0, locals := 0 } : Room) D cy [.ref (aAd 0), .int p1, .int p2, .int p3] (w_Rows cy aAd a_GI a_lan a_siz) z (w_Rows cy aAd a_GI a_lan a_siz) := by
  refine met_start (Qf := fun A => MQi D cy z (w_Rows cy aAd a_GI a_lan a_siz) A) (cc := cX6_hasPlaces) (nL := 4) (ret := (some .boolean)) RX6 rfl (by decide) rfl (Nat.le_of_ble_eq_true rfl) ?_
  intro p e s m below meth c A ls C G hl
  have hl : lv_has ls 4 [(0, .ref (aAd 0)), (1, .int p1), (2, .int p2), (3, .int p3)] := hl
  have H := hz
  unfold f_X6_hasPlaces at H
  obtain ⟨hx, hb, hr, hml, hown, hts, hlk, hK, hA, hE⟩ := id C
  have lk0 := hts (Cond.fieldLink RX6 20 "TideDebts$Rows" "sizes" "[I") (List.mem_of_getElem? (i := 1) rfl)
  have hiX6 : ∀ w ∈ u_ws RX6 TX6 3, w ∈ wsX6_hasPlaces := fun _ h => List.mem_cons_of_mem _ (List.mem_append_right _ h)
  refine lv_iload_n hx hb dX6_hasPlaces_0 rfl (lv_at hl 2 rfl) ?_
  refine lv_if_lt (tgt := 34) hx hb dX6_hasPlaces_1 (by decide) (fun c1 => ?_) (fun c1 => ?_)
  · have H := if_t H c1
    refine lv_iconst (v := 0) hx hb dX6_hasPlaces_34 (by decide) ?_
    obtain rfl := Option.some.inj H
    exact ret_z C G rfl rfl dX6_hasPlaces_35
  · have H := if_f H c1
    refine lv_iload_n hx hb dX6_hasPlaces_4 rfl (lv_at hl 3 rfl) ?_
    refine lv_if_lt (tgt := 34) hx hb dX6_hasPlaces_5 (by decide) (fun c2 => ?_) (fun c2 => ?_)
    · have H := if_t H c2
      refine lv_iconst (v := 0) hx hb dX6_hasPlaces_34 (by decide) ?_
      obtain rfl := Option.some.inj H
      exact ret_z C G rfl rfl dX6_hasPlaces_35
    · have H := if_f H c2
      refine lv_iload_n hx hb dX6_hasPlaces_8 rfl (lv_at hl 3 rfl) ?_
      refine lv_aload_n hx hb dX6_hasPlaces_9 rfl (lv_at hl 0 rfl) ?_
      refine va_get (D := D) (ci := 6) (v := .ref (aAd 2)) (C := RX6) (T := TX6) (N := 3) hx hb hts hiX6 hown hK G.1 0 rfl rfl 2 (by decide) lk0 (fun _ h9 => h9) rfl dX6_hasPlaces_10 ?_
      refine lv_iload_n hx hb dX6_hasPlaces_13 rfl (lv_at hl 1 rfl) ?_
      obtain ⟨hb3, H⟩ := gd_some H
      refine g_iald (v := a_siz (ix p1)) hx hb hK G.1 2 1 rfl rfl hb3 rfl dX6_hasPlaces_14 ?_
      refine lv_icmp_gt (tgt := 34) hx hb dX6_hasPlaces_15 (by decide) (fun c4 => ?_) (fun c4 => ?_)
      · have H := if_t H c4
        refine lv_iconst (v := 0) hx hb dX6_hasPlaces_34 (by decide) ?_
        obtain rfl := Option.some.inj H
        exact ret_z C G rfl rfl dX6_hasPlaces_35
      · have H := if_f H c4
        refine lv_iload_n hx hb dX6_hasPlaces_18 rfl (lv_at hl 2 rfl) ?_
        refine lv_aload_n hx hb dX6_hasPlaces_19 rfl (lv_at hl 0 rfl) ?_
        refine va_get (D := D) (ci := 6) (v := .ref (aAd 2)) (C := RX6) (T := TX6) (N := 3) hx hb hts hiX6 hown hK G.1 0 rfl rfl 2 (by decide) lk0 (fun _ h9 => h9) rfl dX6_hasPlaces_20 ?_
        refine lv_iload_n hx hb dX6_hasPlaces_23 rfl (lv_at hl 1 rfl) ?_
        refine g_iald (v := a_siz (ix p1)) hx hb hK G.1 2 1 rfl rfl hb3 rfl dX6_hasPlaces_24 ?_
        refine lv_iload_n hx hb dX6_hasPlaces_25 rfl (lv_at hl 3 rfl) ?_
        refine lv_isub hx hb dX6_hasPlaces_26 ?_
        refine lv_icmp_gt (tgt := 34) hx hb dX6_hasPlaces_27 (by decide) (fun c5 => ?_) (fun c5 => ?_)
        · have H := if_t H c5
          refine lv_iconst (v := 0) hx hb dX6_hasPlaces_34 (by decide) ?_
          obtain rfl := Option.some.inj H
          exact ret_z C G rfl rfl dX6_hasPlaces_35
        · have H := if_f H c5
          refine lv_iconst (v := 1) hx hb dX6_hasPlaces_30 (by decide) ?_
          refine lv_goto (tgt := 35) hx hb dX6_hasPlaces_31 (by decide) ?_
          obtain rfl := Option.some.inj H
          exact ret_z C G rfl rfl dX6_hasPlaces_35
def f_X6_present_L4 (a_lan : Nat → Int32) : Nat → Int32 → Int32 → Option Int32
  | 0, _, _ => none
  | n + 1, x1, x2 => if 8 ≤ x2 then (some x1) else (bd (f_X6_isMissing a_lan x2) (fun z2 => if z2 = 0 then (f_X6_present_L4 a_lan n (x1 + 1) (x2 + 1)) else (f_X6_present_L4 a_lan n x1 (x2 + 1))))
theorem f_X6_present_L4_z (a_lan : Nat → Int32) (x1 x2 : Int32) : f_X6_present_L4 a_lan 0 x1 x2 = none := rfl
theorem f_X6_present_L4_s (a_lan : Nat → Int32) (n : Nat) (x1 x2 : Int32) : f_X6_present_L4 a_lan (n + 1) x1 x2 = if 8 ≤ x2 then (some x1) else (bd (f_X6_isMissing a_lan x2) (fun z2 => if z2 = 0 then (f_X6_present_L4 a_lan n (x1 + 1) (x2 + 1)) else (f_X6_present_L4 a_lan n x1 (x2 + 1)))) := rfl
set_option maxHeartbeats 4000000 in
set_option maxRecDepth 100000 in
theorem wl_X6_present_4 {p : Program} {l : Launch} {e : Env} {s : State} {m : MethodId} {below : List Frame} {meth : Method} {c : Code} {D : va_G} {cy : Nat → ClassId} {A : Nat → Prop} {args : Array Value} {Q : State → Prop} (C : Cx D cy A p s m meth c cX6_present 3 (some .int) wsX6_present RX6 args) (aAd : Nat → Nat) (a_GI : Nat → Option Nat) (a_lan a_siz : Nat → Int32) :
    ∀ (n : Nat) (x1 x2 : Int32) (z : Int32), f_X6_present_L4 a_lan n x1 x2 = some z → (∀ (U : Heap) (locs : List Loc) (ls : Array Slot), Gd D A s (w_Rows cy aAd a_GI a_lan a_siz) U locs → lv_has ls 3 [(1, .int z)] → W p l e ({ frames := 1, cells := 0, slots := 0, locals := 21 } : Room) s m args below meth c U locs 0 0 Q (F0 m 27 ls [])) → ∀ (U : Heap) (locs : List Loc) (ls : Array Slot), Gd D A s (w_Rows cy aAd a_GI a_lan a_siz) U locs → lv_has ls 3 [(0, .ref (aAd 0)), (1, .int x1), (2, .int x2)] → W p l e ({ frames := 1, cells := 0, slots := 0, locals := 21 } : Room) s m args below meth c U locs 0 0 Q (F0 m 4 ls []) := by
  obtain ⟨hx, hb, hr, hml, hown, hts, hlk, hK, hA, hE⟩ := id C
  intro n
  induction n with
  | zero =>
    intro x1 x2 z H
    rw [f_X6_present_L4_z] at H
    cases H
  | succ n ih =>
    intro x1 x2 z H kk U locs ls G hl
    rw [f_X6_present_L4_s] at H
    refine lv_iload_n hx hb dX6_present_4 rfl (lv_at hl 2 rfl) ?_
    refine lv_bipush (v := 8) hx hb dX6_present_5 (by decide) ?_
    refine lv_icmp_ge (tgt := 27) hx hb dX6_present_7 (by decide) (fun c1 => ?_) (fun c1 => ?_)
    · have H := if_t H c1
      obtain rfl := Option.some.inj H
      exact kk _ _ _ G (lv_sub hl [1] rfl)
    · have H := if_f H c1
      refine lv_aload_n hx hb dX6_present_10 rfl (lv_at hl 0 rfl) ?_
      refine lv_iload_n hx hb dX6_present_11 rfl (lv_at hl 2 rfl) ?_
      obtain ⟨z2, hz2, H⟩ := bd_some H
      refine MI.callVw z2 [.int x2] [] C G (c_X6_isMissing l D cy aAd a_GI a_lan a_siz x2 z2 hz2) gX6_present_X6_isMissing rfl rfl rfl (n := 1) (by decide +kernel) ⟨Nat.le_of_ble_eq_true rfl, Nat.le_of_ble_eq_true rfl⟩ (q0 := 0) (ci := 6) rfl rfl rfl rfl hl.1 rfl (Nat.le_of_ble_eq_true rfl) dX6_present_12 ⟨Nat.zero_le _, Nat.zero_le _⟩ (fun U locs G => ?_)
      have G : Gd D A s (w_Rows cy aAd a_GI a_lan a_siz) U locs := G
      refine lv_if_ne (tgt := 21) hx hb dX6_present_15 (by decide) (fun c3 => ?_) (fun c3 => ?_)
      · have H := if_f H c3
        refine lv_iinc (v := x2 + 1) (lv' := [(2, .int (x2 + 1)), (0, .ref (aAd 0)), (1, .int x1)]) hx hb dX6_present_21 hl (k := 2) rfl rfl (by decide) rfl (fun ls hl => ?_)
        refine lv_goto (tgt := 4) hx hb dX6_present_24 (by decide) ?_
        exact ih x1 (x2 + 1) z H kk _ _ _ G (lv_sub hl [1, 2, 0] rfl)
      · have H := if_t H c3
        refine lv_iinc (v := x1 + 1) (lv' := [(1, .int (x1 + 1)), (0, .ref (aAd 0)), (2, .int x2)]) hx hb dX6_present_18 hl (k := 1) rfl rfl (by decide) rfl (fun ls hl => ?_)
        refine lv_iinc (v := x2 + 1) (lv' := [(2, .int (x2 + 1)), (1, .int (x1 + 1)), (0, .ref (aAd 0))]) hx hb dX6_present_21 hl (k := 2) rfl rfl (by decide) rfl (fun ls hl => ?_)
        refine lv_goto (tgt := 4) hx hb dX6_present_24 (by decide) ?_
        exact ih (x1 + 1) (x2 + 1) z H kk _ _ _ G (lv_sub hl [2, 1, 0] rfl)
def f_X6_present (a_lan : Nat → Int32) : Option Int32 := bd (f_X6_present_L4 a_lan 2000 0 0) (fun z4 => some z4)
set_option maxHeartbeats 4000000 in
set_option maxRecDepth 100000 in
theorem c_X6_present (l : Launch) (D : va_G) (cy : Nat → ClassId) (aAd : Nat → Nat) (a_GI : Nat → Option Nat) (a_lan a_siz : Nat → Int32) (z : Int32) (hz : f_X6_present a_lan = some z) : MI l yX6_present wsX6_present ({ frames := 1, cells := 0, slots := 0, locals := 21 } : Room) D cy [.ref (aAd 0)] (w_Rows cy aAd a_GI a_lan a_siz) z (w_Rows cy aAd a_GI a_lan a_siz) := by
  refine met_start (Qf := fun A => MQi D cy z (w_Rows cy aAd a_GI a_lan a_siz) A) (cc := cX6_present) (nL := 3) (ret := (some .int)) RX6 rfl (by decide) rfl (Nat.le_of_ble_eq_true rfl) ?_
  intro p e s m below meth c A ls C G hl
  have hl : lv_has ls 3 [(0, .ref (aAd 0))] := hl
  have H := hz
  unfold f_X6_present at H
  obtain ⟨hx, hb, hr, hml, hown, hts, hlk, hK, hA, hE⟩ := id C
  refine lv_iconst (v := 0) hx hb dX6_present_0 (by decide) ?_
  refine lv_istore_n (lv' := [(1, .int 0), (0, .ref (aAd 0))]) hx hb dX6_present_1 rfl hl (by decide) rfl (fun ls hl => ?_)
  refine lv_iconst (v := 0) hx hb dX6_present_2 (by decide) ?_
  refine lv_istore_n (lv' := [(2, .int 0), (1, .int 0), (0, .ref (aAd 0))]) hx hb dX6_present_3 rfl hl (by decide) rfl (fun ls hl => ?_)
  obtain ⟨z4, hz4, H⟩ := bd_some H
  refine wl_X6_present_4 C aAd a_GI a_lan a_siz _ 0 0 z4 hz4 (fun U locs ls G hl => ?_) _ _ _ G (lv_sub hl [2, 1, 0] rfl)
  have G : Gd D A s (w_Rows cy aAd a_GI a_lan a_siz) U locs := G
  have hl : lv_has ls 3 [(1, .int z4)] := hl
  refine lv_iload_n hx hb dX6_present_27 rfl (lv_at hl 0 rfl) ?_
  obtain rfl := Option.some.inj H
  exact ret_i C G rfl dX6_present_28
