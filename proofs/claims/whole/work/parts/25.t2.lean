def f_X8_least_L71 (wat : Int32) (lev kin sil : Nat → Int32) (hour : Int32) (dep arr deb : Nat → Int32) (x1 x3 x4 : Int32) : Nat → Int32 → (Nat → Int32) → (Nat → Int32) → (Nat → Int32) → Int32 → Int32 → Int32 → Option (Int32 × (Nat → Int32) × (Nat → Int32) × (Nat → Int32) × Int32)
  | 0, _, _, _, _, _, _, _ => none
  | n + 1, fhour, fdep, farr, fdeb, x5, x6, x7 => if 32 ≤ x7 then (some (fhour, fdep, farr, fdeb, x5)) else (if x5 ≤ x6 then (some (fhour, fdep, farr, fdeb, x5)) else (bd (f_X8_depthByLoan wat lev kin sil hour dep arr deb fhour fdep farr fdeb x1 (x6 + ((x5 - x6) / 2)) x4) (fun z12 => if z12.1 < x3 then (f_X8_least_L71 wat lev kin sil hour dep arr deb x1 x3 x4 n z12.2.1 z12.2.2.1 z12.2.2.2.1 z12.2.2.2.2 x5 ((x6 + ((x5 - x6) / 2)) + 1) (x7 + 1)) else (f_X8_least_L71 wat lev kin sil hour dep arr deb x1 x3 x4 n z12.2.1 z12.2.2.1 z12.2.2.2.1 z12.2.2.2.2 (x6 + ((x5 - x6) / 2)) x6 (x7 + 1)))))
theorem f_X8_least_L71_z (wat : Int32) (lev kin sil : Nat → Int32) (hour : Int32) (dep arr deb : Nat → Int32) (x1 x3 x4 : Int32) (fhour : Int32) (fdep farr fdeb : Nat → Int32) (x5 x6 x7 : Int32) : f_X8_least_L71 wat lev kin sil hour dep arr deb x1 x3 x4 0 fhour fdep farr fdeb x5 x6 x7 = none := rfl
theorem f_X8_least_L71_s (wat : Int32) (lev kin sil : Nat → Int32) (hour : Int32) (dep arr deb : Nat → Int32) (x1 x3 x4 : Int32) (n : Nat) (fhour : Int32) (fdep farr fdeb : Nat → Int32) (x5 x6 x7 : Int32) : f_X8_least_L71 wat lev kin sil hour dep arr deb x1 x3 x4 (n + 1) fhour fdep farr fdeb x5 x6 x7 = if 32 ≤ x7 then (some (fhour, fdep, farr, fdeb, x5)) else (if x5 ≤ x6 then (some (fhour, fdep, farr, fdeb, x5)) else (bd (f_X8_depthByLoan wat lev kin sil hour dep arr deb fhour fdep farr fdeb x1 (x6 + ((x5 - x6) / 2)) x4) (fun z12 => if z12.1 < x3 then (f_X8_least_L71 wat lev kin sil hour dep arr deb x1 x3 x4 n z12.2.1 z12.2.2.1 z12.2.2.2.1 z12.2.2.2.2 x5 ((x6 + ((x5 - x6) / 2)) + 1) (x7 + 1)) else (f_X8_least_L71 wat lev kin sil hour dep arr deb x1 x3 x4 n z12.2.1 z12.2.2.1 z12.2.2.2.1 z12.2.2.2.2 (x6 + ((x5 - x6) / 2)) x6 (x7 + 1))))) := rfl
set_option maxHeartbeats 4000000 in
set_option maxRecDepth 100000 in
theorem wl_X8_least_71 {p : Program} {l : Launch} {e : Env} {s : State} {m : MethodId} {below : List Frame} {meth : Method} {c : Code} {D : va_G} {cy : Nat → ClassId} {A : Nat → Prop} {args : Array Value} {Q : State → Prop} (C : Cx D cy A p s m meth c cX8_least 9 (some .int) wsX8_least RX8 args) (mAd : Nat → Nat) (GI GM GR : Nat → Option Nat) (lfa lfi : Int32) (lan siz : Nat → Int32) (len tok stt fin num flw : Int32) (byt : Nat → Int32) (dwat : Int32) (dlev dkin dcdp dsil : Nat → Int32) (sta wat : Int32) (lev kin cdp sil : Nat → Int32) (hour : Int32) (dep arr deb : Nat → Int32) (nxt kep gft : Int32) (bal giv tak inc : Nat → Int32) (trc : Int32) (nrs : Nat → Int32) (x1 x3 x4 : Int32) :
    ∀ (n : Nat) (fhour : Int32) (fdep farr fdeb : Nat → Int32) (x5 x6 x7 : Int32) (z : (Int32 × (Nat → Int32) × (Nat → Int32) × (Nat → Int32) × Int32)), f_X8_least_L71 wat lev kin sil hour dep arr deb x1 x3 x4 n fhour fdep farr fdeb x5 x6 x7 = some z → (∀ (U : Heap) (locs : List Loc) (ls : Array Slot), Gd D A s (w_Top cy mAd GI GM GR lfa lfi lan siz len tok stt fin num flw byt dwat dlev dkin dcdp dsil sta wat lev kin cdp sil hour dep arr deb nxt kep z.1 z.2.1 z.2.2.1 z.2.2.2.1 gft bal giv tak inc trc nrs) U locs → lv_has ls 9 [(5, .int z.2.2.2.2)] → W p l e ({ frames := 7, cells := 0, slots := 0, locals := 155 } : Room) s m args below meth c U locs 0 0 Q (F0 m 129 ls [])) → ∀ (U : Heap) (locs : List Loc) (ls : Array Slot), Gd D A s (w_Top cy mAd GI GM GR lfa lfi lan siz len tok stt fin num flw byt dwat dlev dkin dcdp dsil sta wat lev kin cdp sil hour dep arr deb nxt kep fhour fdep farr fdeb gft bal giv tak inc trc nrs) U locs → lv_has ls 9 [(0, .ref (mAd 0)), (1, .int x1), (3, .int x3), (4, .int x4), (5, .int x5), (6, .int x6), (7, .int x7)] → W p l e ({ frames := 7, cells := 0, slots := 0, locals := 155 } : Room) s m args below meth c U locs 0 0 Q (F0 m 71 ls []) := by
  obtain ⟨hx, hb, hr, hml, hown, hts, hlk, hK, hA, hE⟩ := id C
  intro n
  induction n with
  | zero =>
    intro fhour fdep farr fdeb x5 x6 x7 z H
    rw [f_X8_least_L71_z] at H
    cases H
  | succ n ih =>
    intro fhour fdep farr fdeb x5 x6 x7 z H kk U locs ls G hl
    rw [f_X8_least_L71_s] at H
    refine lv_iload hx hb dX8_least_71 (lv_at hl 6 rfl) ?_
    refine lv_bipush (v := 32) hx hb dX8_least_73 (by decide) ?_
    refine lv_icmp_ge (tgt := 129) hx hb dX8_least_75 (by decide) (fun c10 => ?_) (fun c10 => ?_)
    · have H := if_t H c10
      obtain rfl := Option.some.inj H
      exact kk _ _ _ G (lv_sub hl [4] rfl)
    · have H := if_f H c10
      refine lv_iload hx hb dX8_least_78 (lv_at hl 5 rfl) ?_
      refine lv_iload hx hb dX8_least_80 (lv_at hl 4 rfl) ?_
      refine lv_icmp_ge (tgt := 129) hx hb dX8_least_82 (by decide) (fun c11 => ?_) (fun c11 => ?_)
      · have H := if_t H c11
        obtain rfl := Option.some.inj H
        exact kk _ _ _ G (lv_sub hl [4] rfl)
      · have H := if_f H c11
        refine lv_iload hx hb dX8_least_85 (lv_at hl 5 rfl) ?_
        refine lv_iload hx hb dX8_least_87 (lv_at hl 4 rfl) ?_
        refine lv_iload hx hb dX8_least_89 (lv_at hl 5 rfl) ?_
        refine lv_isub hx hb dX8_least_91 ?_
        refine lv_iconst (v := 2) hx hb dX8_least_92 (by decide) ?_
        refine lv_idiv hx hb dX8_least_93 (by decide) ?_
        refine lv_iadd hx hb dX8_least_94 ?_
        refine lv_istore (lv' := [(8, .int (x6 + ((x5 - x6) / 2))), (0, .ref (mAd 0)), (1, .int x1), (3, .int x3), (4, .int x4), (5, .int x5), (6, .int x6), (7, .int x7)]) hx hb dX8_least_95 hl (by decide) rfl (fun ls hl => ?_)
        refine lv_aload_n hx hb dX8_least_97 rfl (lv_at hl 1 rfl) ?_
        refine lv_iload_n hx hb dX8_least_98 rfl (lv_at hl 2 rfl) ?_
        refine lv_iload hx hb dX8_least_99 (lv_at hl 0 rfl) ?_
        refine lv_iload hx hb dX8_least_101 (lv_at hl 4 rfl) ?_
        obtain ⟨z12, hz12, H⟩ := bd_some H
        refine MI.callVw z12.1 [.int x1, .int (x6 + ((x5 - x6) / 2)), .int x4] [] C G (c_X8_depthByLoan l D cy mAd GI GM GR lfa lfi lan siz len tok stt fin num flw byt dwat dlev dkin dcdp dsil sta wat lev kin cdp sil hour dep arr deb nxt kep fhour fdep farr fdeb gft bal giv tak inc trc nrs x1 (x6 + ((x5 - x6) / 2)) x4 z12 hz12) gX8_least_X8_depthByLoan rfl rfl rfl (n := 3) (by decide +kernel) ⟨Nat.le_of_ble_eq_true rfl, Nat.le_of_ble_eq_true rfl⟩ (q0 := 0) (ci := 8) rfl rfl rfl rfl hl.1 rfl (Nat.le_of_ble_eq_true rfl) dX8_least_103 ⟨Nat.zero_le _, Nat.zero_le _⟩ (fun U locs G => ?_)
        have G : Gd D A s (w_Top cy mAd GI GM GR lfa lfi lan siz len tok stt fin num flw byt dwat dlev dkin dcdp dsil sta wat lev kin cdp sil hour dep arr deb nxt kep z12.2.1 z12.2.2.1 z12.2.2.2.1 z12.2.2.2.2 gft bal giv tak inc trc nrs) U locs := G
        refine lv_iload_n hx hb dX8_least_106 rfl (lv_at hl 3 rfl) ?_
        refine lv_icmp_lt (tgt := 117) hx hb dX8_least_107 (by decide) (fun c13 => ?_) (fun c13 => ?_)
        · have H := if_t H c13
          refine lv_iload hx hb dX8_least_117 (lv_at hl 0 rfl) ?_
          refine lv_iconst (v := 1) hx hb dX8_least_119 (by decide) ?_
          refine lv_iadd hx hb dX8_least_120 ?_
          refine lv_istore (lv' := [(6, .int ((x6 + ((x5 - x6) / 2)) + 1)), (8, .int (x6 + ((x5 - x6) / 2))), (0, .ref (mAd 0)), (1, .int x1), (3, .int x3), (4, .int x4), (5, .int x5), (7, .int x7)]) hx hb dX8_least_121 hl (by decide) rfl (fun ls hl => ?_)
          refine lv_iinc (v := x7 + 1) (lv' := [(7, .int (x7 + 1)), (6, .int ((x6 + ((x5 - x6) / 2)) + 1)), (8, .int (x6 + ((x5 - x6) / 2))), (0, .ref (mAd 0)), (1, .int x1), (3, .int x3), (4, .int x4), (5, .int x5)]) hx hb dX8_least_123 hl (k := 7) rfl rfl (by decide) rfl (fun ls hl => ?_)
          refine lv_goto (tgt := 71) hx hb dX8_least_126 (by decide) ?_
          exact ih z12.2.1 z12.2.2.1 z12.2.2.2.1 z12.2.2.2.2 x5 ((x6 + ((x5 - x6) / 2)) + 1) (x7 + 1) z H kk _ _ _ G (lv_sub hl [3, 4, 5, 6, 7, 1, 0] rfl)
        · have H := if_f H c13
          refine lv_iload hx hb dX8_least_110 (lv_at hl 0 rfl) ?_
          refine lv_istore (lv' := [(5, .int (x6 + ((x5 - x6) / 2))), (8, .int (x6 + ((x5 - x6) / 2))), (0, .ref (mAd 0)), (1, .int x1), (3, .int x3), (4, .int x4), (6, .int x6), (7, .int x7)]) hx hb dX8_least_112 hl (by decide) rfl (fun ls hl => ?_)
          refine lv_goto (tgt := 123) hx hb dX8_least_114 (by decide) ?_
          refine lv_iinc (v := x7 + 1) (lv' := [(7, .int (x7 + 1)), (5, .int (x6 + ((x5 - x6) / 2))), (8, .int (x6 + ((x5 - x6) / 2))), (0, .ref (mAd 0)), (1, .int x1), (3, .int x3), (4, .int x4), (6, .int x6)]) hx hb dX8_least_123 hl (k := 7) rfl rfl (by decide) rfl (fun ls hl => ?_)
          refine lv_goto (tgt := 71) hx hb dX8_least_126 (by decide) ?_
          exact ih z12.2.1 z12.2.2.1 z12.2.2.2.1 z12.2.2.2.2 (x6 + ((x5 - x6) / 2)) x6 (x7 + 1) z H kk _ _ _ G (lv_sub hl [3, 4, 5, 6, 1, 7, 0] rfl)
def f_X8_least (wat : Int32) (lev kin sil : Nat → Int32) (hour : Int32) (dep arr deb : Nat → Int32) (fhour : Int32) (fdep farr fdeb : Nat → Int32) (p1 p2 p3 p4 : Int32) : Option (Int32 × Int32 × (Nat → Int32) × (Nat → Int32) × (Nat → Int32)) := bd (f_X8_areTwoWaters wat p1 p2) (fun z1 => if z1 = 0 then (some ((-1000001), fhour, fdep, farr, fdeb)) else (if p3 < 0 then (some ((-1000001), fhour, fdep, farr, fdeb)) else (if 999 < p3 then (some ((-1000001), fhour, fdep, farr, fdeb)) else (if p4 < 0 then (some ((-1000001), fhour, fdep, farr, fdeb)) else (if p4 ≤ 24 then (gd (inb p2 6) (bd (f_X8_depthByLoan wat lev kin sil hour dep arr deb fhour fdep farr fdeb p1 (dep (ix p2)) p4) (fun z8 => if p3 ≤ z8.1 then (bd (f_X8_least_L71 wat lev kin sil hour dep arr deb p1 p3 p4 2000 z8.2.1 z8.2.2.1 z8.2.2.2.1 z8.2.2.2.2 (dep (ix p2)) 0 0) (fun z14 => some (z14.2.2.2.2, z14.1, z14.2.1, z14.2.2.1, z14.2.2.2.1))) else (some ((-1000000), z8.2.1, z8.2.2.1, z8.2.2.2.1, z8.2.2.2.2))))) else (some ((-1000001), fhour, fdep, farr, fdeb)))))))
set_option maxHeartbeats 4000000 in
set_option maxRecDepth 100000 in
theorem c_X8_least (l : Launch) (D : va_G) (cy : Nat → ClassId) (mAd : Nat → Nat) (GI GM GR : Nat → Option Nat) (lfa lfi : Int32) (lan siz : Nat → Int32) (len tok stt fin num flw : Int32) (byt : Nat → Int32) (dwat : Int32) (dlev dkin dcdp dsil : Nat → Int32) (sta wat : Int32) (lev kin cdp sil : Nat → Int32) (hour : Int32) (dep arr deb : Nat → Int32) (nxt kep fhour : Int32) (fdep farr fdeb : Nat → Int32) (gft : Int32) (bal giv tak inc : Nat → Int32) (trc : Int32) (nrs : Nat → Int32) (p1 p2 p3 p4 : Int32) (z : (Int32 × Int32 × (Nat → Int32) × (Nat → Int32) × (Nat → Int32))) (hz : f_X8_least wat lev kin sil hour dep arr deb fhour fdep farr fdeb p1 p2 p3 p4 = some z) : MI l yX8_least wsX8_least ({ frames := 7, cells := 0, slots := 0, locals := 155 } : Room) D cy [.ref (mAd 0), .int p1, .int p2, .int p3, .int p4] (w_Top cy mAd GI GM GR lfa lfi lan siz len tok stt fin num flw byt dwat dlev dkin dcdp dsil sta wat lev kin cdp sil hour dep arr deb nxt kep fhour fdep farr fdeb gft bal giv tak inc trc nrs) z.1 (w_Top cy mAd GI GM GR lfa lfi lan siz len tok stt fin num flw byt dwat dlev dkin dcdp dsil sta wat lev kin cdp sil hour dep arr deb nxt kep z.2.1 z.2.2.1 z.2.2.2.1 z.2.2.2.2 gft bal giv tak inc trc nrs) := by
  refine met_start (Qf := fun A => MQi D cy z.1 (w_Top cy mAd GI GM GR lfa lfi lan siz len tok stt fin num flw byt dwat dlev dkin dcdp dsil sta wat lev kin cdp sil hour dep arr deb nxt kep z.2.1 z.2.2.1 z.2.2.2.1 z.2.2.2.2 gft bal giv tak inc trc nrs) A) (cc := cX8_least) (nL := 9) (ret := (some .int)) RX8 rfl (by decide) rfl (Nat.le_of_ble_eq_true rfl) ?_
  intro p e s m below meth c A ls C G hl
  have hl : lv_has ls 9 [(0, .ref (mAd 0)), (1, .int p1), (2, .int p2), (3, .int p3), (4, .int p4)] := hl
  have H := hz
  unfold f_X8_least at H
  obtain ⟨hx, hb, hr, hml, hown, hts, hlk, hK, hA, hE⟩ := id C
  have lk0 := hts (Cond.constant RX8 73 (-1000001)) (List.mem_of_getElem? (i := 1) rfl)
  have lk1 := hts (Cond.fieldLink RX8 33 "TideDebts" "now" "LTideDebts$Bay;") (List.mem_of_getElem? (i := 2) rfl)
  have lk2 := hts (Cond.fieldLink RX8 151 "TideDebts$Bay" "ledger" "LTideDebts$Ledger;") (List.mem_of_getElem? (i := 3) rfl)
  have lk3 := hts (Cond.fieldLink RX8 168 "TideDebts$Ledger" "depths" "[I") (List.mem_of_getElem? (i := 4) rfl)
  have lk4 := hts (Cond.constant RX8 229 (-1000000)) (List.mem_of_getElem? (i := 5) rfl)
  have hiX1 : ∀ w ∈ u_ws RX1 TX1 3, w ∈ wsX8_least := fun _ h => List.mem_cons_of_mem _ (List.mem_append_left _ (List.mem_append_left _ (List.mem_append_right _ h)))
  have hiX3 : ∀ w ∈ u_ws RX3 TX3 4, w ∈ wsX8_least := fun _ h => List.mem_cons_of_mem _ (List.mem_append_left _ (List.mem_append_right _ h))
  have hiX8 : ∀ w ∈ u_ws RX8 TX8 11, w ∈ wsX8_least := fun _ h => List.mem_cons_of_mem _ (List.mem_append_left _ (List.mem_append_left _ (List.mem_append_left _ (List.mem_append_right _ h))))
  refine lv_aload_n hx hb dX8_least_0 rfl (lv_at hl 0 rfl) ?_
  refine lv_iload_n hx hb dX8_least_1 rfl (lv_at hl 1 rfl) ?_
  refine lv_iload_n hx hb dX8_least_2 rfl (lv_at hl 2 rfl) ?_
  obtain ⟨z1, hz1, H⟩ := bd_some H
  refine MI.callVw z1 [.int p1, .int p2] [] C G (c_X8_areTwoWaters l D cy mAd GI GM GR lfa lfi lan siz len tok stt fin num flw byt dwat dlev dkin dcdp dsil sta wat lev kin cdp sil hour dep arr deb nxt kep fhour fdep farr fdeb gft bal giv tak inc trc nrs p1 p2 z1 hz1) gX8_least_X8_areTwoWaters rfl rfl rfl (n := 2) (by decide +kernel) ⟨Nat.le_of_ble_eq_true rfl, Nat.le_of_ble_eq_true rfl⟩ (q0 := 0) (ci := 8) rfl rfl rfl rfl hl.1 rfl (Nat.le_of_ble_eq_true rfl) dX8_least_3 ⟨Nat.zero_le _, Nat.zero_le _⟩ (fun U locs G => ?_)
  have G : Gd D A s (w_Top cy mAd GI GM GR lfa lfi lan siz len tok stt fin num flw byt dwat dlev dkin dcdp dsil sta wat lev kin cdp sil hour dep arr deb nxt kep fhour fdep farr fdeb gft bal giv tak inc trc nrs) U locs := G
  refine lv_if_eq (tgt := 32) hx hb dX8_least_6 (by decide) (fun c2 => ?_) (fun c2 => ?_)
  · have H := if_t H c2
    refine lv_ldc hx hb hown lk0 dX8_least_32 ?_
    obtain rfl := Option.some.inj H
    exact ret_i C G rfl dX8_least_34
  · have H := if_f H c2
    refine lv_iload_n hx hb dX8_least_9 rfl (lv_at hl 3 rfl) ?_
    refine lv_if_lt (tgt := 32) hx hb dX8_least_10 (by decide) (fun c3 => ?_) (fun c3 => ?_)
    · have H := if_t H c3
      refine lv_ldc hx hb hown lk0 dX8_least_32 ?_
      obtain rfl := Option.some.inj H
      exact ret_i C G rfl dX8_least_34
    · have H := if_f H c3
      refine lv_iload_n hx hb dX8_least_13 rfl (lv_at hl 3 rfl) ?_
      refine lv_sipush (v := 999) hx hb dX8_least_14 (by decide) ?_
      refine lv_icmp_gt (tgt := 32) hx hb dX8_least_17 (by decide) (fun c4 => ?_) (fun c4 => ?_)
      · have H := if_t H c4
        refine lv_ldc hx hb hown lk0 dX8_least_32 ?_
        obtain rfl := Option.some.inj H
        exact ret_i C G rfl dX8_least_34
      · have H := if_f H c4
        refine lv_iload hx hb dX8_least_20 (lv_at hl 4 rfl) ?_
        refine lv_if_lt (tgt := 32) hx hb dX8_least_22 (by decide) (fun c5 => ?_) (fun c5 => ?_)
        · have H := if_t H c5
          refine lv_ldc hx hb hown lk0 dX8_least_32 ?_
          obtain rfl := Option.some.inj H
          exact ret_i C G rfl dX8_least_34
        · have H := if_f H c5
          refine lv_iload hx hb dX8_least_25 (lv_at hl 4 rfl) ?_
          refine lv_bipush (v := 24) hx hb dX8_least_27 (by decide) ?_
          refine lv_icmp_le (tgt := 35) hx hb dX8_least_29 (by decide) (fun c6 => ?_) (fun c6 => ?_)
          · have H := if_t H c6
            refine lv_aload_n hx hb dX8_least_35 rfl (lv_at hl 0 rfl) ?_
            refine va_get (D := D) (ci := 8) (v := .ref (mAd 12)) (C := RX8) (T := TX8) (N := 11) hx hb hts hiX8 hown hK G.1 0 rfl rfl 3 (by decide) lk1 (fun _ h9 => h9) rfl dX8_least_36 ?_
            refine va_get (D := D) (ci := 1) (v := .ref (mAd 18)) (C := RX1) (T := TX1) (N := 3) hx hb hts hiX1 hown hK G.1 12 rfl rfl 1 (by decide) lk2 (fun _ h9 => h9) rfl dX8_least_39 ?_
            refine va_get (D := D) (ci := 3) (v := .ref (mAd 19)) (C := RX3) (T := TX3) (N := 4) hx hb hts hiX3 hown hK G.1 18 rfl rfl 0 (by decide) lk3 (fun _ h9 => h9) rfl dX8_least_42 ?_
            refine lv_iload_n hx hb dX8_least_45 rfl (lv_at hl 2 rfl) ?_
            obtain ⟨hb7, H⟩ := gd_some H
            refine g_iald (v := dep (ix p2)) hx hb hK G.1 19 1 rfl rfl hb7 rfl dX8_least_46 ?_
            refine lv_istore (lv' := [(5, .int (dep (ix p2))), (0, .ref (mAd 0)), (1, .int p1), (2, .int p2), (3, .int p3), (4, .int p4)]) hx hb dX8_least_47 hl (by decide) rfl (fun ls hl => ?_)
            refine lv_aload_n hx hb dX8_least_49 rfl (lv_at hl 1 rfl) ?_
            refine lv_iload_n hx hb dX8_least_50 rfl (lv_at hl 2 rfl) ?_
            refine lv_iload hx hb dX8_least_51 (lv_at hl 0 rfl) ?_
            refine lv_iload hx hb dX8_least_53 (lv_at hl 5 rfl) ?_
            obtain ⟨z8, hz8, H⟩ := bd_some H
            refine MI.callVw z8.1 [.int p1, .int (dep (ix p2)), .int p4] [] C G (c_X8_depthByLoan l D cy mAd GI GM GR lfa lfi lan siz len tok stt fin num flw byt dwat dlev dkin dcdp dsil sta wat lev kin cdp sil hour dep arr deb nxt kep fhour fdep farr fdeb gft bal giv tak inc trc nrs p1 (dep (ix p2)) p4 z8 hz8) gX8_least_X8_depthByLoan rfl rfl rfl (n := 3) (by decide +kernel) ⟨Nat.le_of_ble_eq_true rfl, Nat.le_of_ble_eq_true rfl⟩ (q0 := 0) (ci := 8) rfl rfl rfl rfl hl.1 rfl (Nat.le_of_ble_eq_true rfl) dX8_least_55 ⟨Nat.zero_le _, Nat.zero_le _⟩ (fun U locs G => ?_)
            have G : Gd D A s (w_Top cy mAd GI GM GR lfa lfi lan siz len tok stt fin num flw byt dwat dlev dkin dcdp dsil sta wat lev kin cdp sil hour dep arr deb nxt kep z8.2.1 z8.2.2.1 z8.2.2.2.1 z8.2.2.2.2 gft bal giv tak inc trc nrs) U locs := G
            refine lv_iload_n hx hb dX8_least_58 rfl (lv_at hl 4 rfl) ?_
            refine lv_icmp_ge (tgt := 65) hx hb dX8_least_59 (by decide) (fun c9 => ?_) (fun c9 => ?_)
            · have H := if_t H c9
              refine lv_iconst (v := 0) hx hb dX8_least_65 (by decide) ?_
              refine lv_istore (lv' := [(6, .int 0), (5, .int (dep (ix p2))), (0, .ref (mAd 0)), (1, .int p1), (2, .int p2), (3, .int p3), (4, .int p4)]) hx hb dX8_least_66 hl (by decide) rfl (fun ls hl => ?_)
              refine lv_iconst (v := 0) hx hb dX8_least_68 (by decide) ?_
              refine lv_istore (lv' := [(7, .int 0), (6, .int 0), (5, .int (dep (ix p2))), (0, .ref (mAd 0)), (1, .int p1), (2, .int p2), (3, .int p3), (4, .int p4)]) hx hb dX8_least_69 hl (by decide) rfl (fun ls hl => ?_)
              obtain ⟨z14, hz14, H⟩ := bd_some H
              refine wl_X8_least_71 C mAd GI GM GR lfa lfi lan siz len tok stt fin num flw byt dwat dlev dkin dcdp dsil sta wat lev kin cdp sil hour dep arr deb nxt kep gft bal giv tak inc trc nrs p1 p3 p4 _ z8.2.1 z8.2.2.1 z8.2.2.2.1 z8.2.2.2.2 (dep (ix p2)) 0 0 z14 hz14 (fun U locs ls G hl => ?_) _ _ _ G (lv_sub hl [3, 4, 6, 7, 2, 1, 0] rfl)
              have G : Gd D A s (w_Top cy mAd GI GM GR lfa lfi lan siz len tok stt fin num flw byt dwat dlev dkin dcdp dsil sta wat lev kin cdp sil hour dep arr deb nxt kep z14.1 z14.2.1 z14.2.2.1 z14.2.2.2.1 gft bal giv tak inc trc nrs) U locs := G
              have hl : lv_has ls 9 [(5, .int z14.2.2.2.2)] := hl
              refine lv_iload hx hb dX8_least_129 (lv_at hl 0 rfl) ?_
              obtain rfl := Option.some.inj H
              exact ret_i C G rfl dX8_least_131
            · have H := if_f H c9
              refine lv_ldc hx hb hown lk4 dX8_least_62 ?_
              obtain rfl := Option.some.inj H
              exact ret_i C G rfl dX8_least_64
          · have H := if_f H c6
            refine lv_ldc hx hb hown lk0 dX8_least_32 ?_
            obtain rfl := Option.some.inj H
            exact ret_i C G rfl dX8_least_34
def f_X8_run (sta wat hour : Int32) (dep arr deb : Nat → Int32) (fhour : Int32) (fdep farr fdeb : Nat → Int32) : Option (Int32 × Int32 × (Nat → Int32) × (Nat → Int32) × (Nat → Int32)) := if sta = 0 then (some ((-1000002), fhour, fdep, farr, fdeb)) else (bd (f_X3_takeFrom fhour fdep farr fdeb hour dep arr deb) (fun z2 => bd (f_X3_payAll z2.2.1 z2.2.2.2 wat) (fun z3 => some (z3.1, z2.1, z3.2, z2.2.2.1, z2.2.2.2))))
set_option maxHeartbeats 4000000 in
set_option maxRecDepth 100000 in
theorem c_X8_run (l : Launch) (D : va_G) (cy : Nat → ClassId) (mAd : Nat → Nat) (GI GM GR : Nat → Option Nat) (lfa lfi : Int32) (lan siz : Nat → Int32) (len tok stt fin num flw : Int32) (byt : Nat → Int32) (dwat : Int32) (dlev dkin dcdp dsil : Nat → Int32) (sta wat : Int32) (lev kin cdp sil : Nat → Int32) (hour : Int32) (dep arr deb : Nat → Int32) (nxt kep fhour : Int32) (fdep farr fdeb : Nat → Int32) (gft : Int32) (bal giv tak inc : Nat → Int32) (trc : Int32) (nrs : Nat → Int32) (z : (Int32 × Int32 × (Nat → Int32) × (Nat → Int32) × (Nat → Int32))) (hz : f_X8_run sta wat hour dep arr deb fhour fdep farr fdeb = some z) : MI l yX8_run wsX8_run ({ frames := 3, cells := 0, slots := 0, locals := 81 } : Room) D cy [.ref (mAd 0)] (w_Top cy mAd GI GM GR lfa lfi lan siz len tok stt fin num flw byt dwat dlev dkin dcdp dsil sta wat lev kin cdp sil hour dep arr deb nxt kep fhour fdep farr fdeb gft bal giv tak inc trc nrs) z.1 (w_Top cy mAd GI GM GR lfa lfi lan siz len tok stt fin num flw byt dwat dlev dkin dcdp dsil sta wat lev kin cdp sil hour dep arr deb nxt kep z.2.1 z.2.2.1 z.2.2.2.1 z.2.2.2.2 gft bal giv tak inc trc nrs) := by
  refine met_start (Qf := fun A => MQi D cy z.1 (w_Top cy mAd GI GM GR lfa lfi lan siz len tok stt fin num flw byt dwat dlev dkin dcdp dsil sta wat lev kin cdp sil hour dep arr deb nxt kep z.2.1 z.2.2.1 z.2.2.2.1 z.2.2.2.2 gft bal giv tak inc trc nrs) A) (cc := cX8_run) (nL := 1) (ret := (some .int)) RX8 rfl (by decide) rfl (Nat.le_of_ble_eq_true rfl) ?_
  intro p e s m below meth c A ls C G hl
  have hl : lv_has ls 1 [(0, .ref (mAd 0))] := hl
  have H := hz
  unfold f_X8_run at H
  obtain ⟨hx, hb, hr, hml, hown, hts, hlk, hK, hA, hE⟩ := id C
  have lk0 := hts (Cond.fieldLink RX8 33 "TideDebts" "now" "LTideDebts$Bay;") (List.mem_of_getElem? (i := 1) rfl)
  have lk1 := hts (Cond.fieldLink RX8 146 "TideDebts$Bay" "stands" "Z") (List.mem_of_getElem? (i := 2) rfl)
  have lk2 := hts (Cond.fieldLink RX8 51 "TideDebts" "foretold" "LTideDebts$Ledger;") (List.mem_of_getElem? (i := 4) rfl)
  have lk3 := hts (Cond.fieldLink RX8 151 "TideDebts$Bay" "ledger" "LTideDebts$Ledger;") (List.mem_of_getElem? (i := 5) rfl)
  have lk4 := hts (Cond.fieldLink RX8 140 "TideDebts$Bay" "chart" "LTideDebts$Chart;") (List.mem_of_getElem? (i := 6) rfl)
  have lk5 := hts (Cond.fieldLink RX8 143 "TideDebts$Chart" "waters" "I") (List.mem_of_getElem? (i := 7) rfl)
  have lk6 := hts (Cond.constant RX8 150 (-1000002)) (List.mem_of_getElem? (i := 3) rfl)
  have hiX1 : ∀ w ∈ u_ws RX1 TX1 3, w ∈ wsX8_run := fun _ h => List.mem_cons_of_mem _ (List.mem_append_left _ (List.mem_append_left _ (List.mem_append_right _ h)))
  have hiX2 : ∀ w ∈ u_ws RX2 TX2 5, w ∈ wsX8_run := fun _ h => List.mem_cons_of_mem _ (List.mem_append_left _ (List.mem_append_right _ h))
  have hiX8 : ∀ w ∈ u_ws RX8 TX8 11, w ∈ wsX8_run := fun _ h => List.mem_cons_of_mem _ (List.mem_append_left _ (List.mem_append_left _ (List.mem_append_left _ (List.mem_append_right _ h))))
  refine lv_aload_n hx hb dX8_run_0 rfl (lv_at hl 0 rfl) ?_
  refine va_get (D := D) (ci := 8) (v := .ref (mAd 12)) (C := RX8) (T := TX8) (N := 11) hx hb hts hiX8 hown hK G.1 0 rfl rfl 3 (by decide) lk0 (fun _ h9 => h9) rfl dX8_run_1 ?_
  refine va_get (D := D) (ci := 1) (v := .int sta) (C := RX1) (T := TX1) (N := 3) hx hb hts hiX1 hown hK G.1 12 rfl rfl 2 (by decide) lk1 (fun _ h9 => h9) rfl dX8_run_4 ?_
  refine lv_if_ne (tgt := 13) hx hb dX8_run_7 (by decide) (fun c1 => ?_) (fun c1 => ?_)
  · have H := if_f H c1
    refine lv_aload_n hx hb dX8_run_13 rfl (lv_at hl 0 rfl) ?_
    refine va_get (D := D) (ci := 8) (v := .ref (mAd 25)) (C := RX8) (T := TX8) (N := 11) hx hb hts hiX8 hown hK G.1 0 rfl rfl 6 (by decide) lk2 (fun _ h9 => h9) rfl dX8_run_14 ?_
    refine lv_aload_n hx hb dX8_run_17 rfl (lv_at hl 0 rfl) ?_
    refine va_get (D := D) (ci := 8) (v := .ref (mAd 12)) (C := RX8) (T := TX8) (N := 11) hx hb hts hiX8 hown hK G.1 0 rfl rfl 3 (by decide) lk0 (fun _ h9 => h9) rfl dX8_run_18 ?_
    refine va_get (D := D) (ci := 1) (v := .ref (mAd 18)) (C := RX1) (T := TX1) (N := 3) hx hb hts hiX1 hown hK G.1 12 rfl rfl 1 (by decide) lk3 (fun _ h9 => h9) rfl dX8_run_21 ?_
    obtain ⟨z2, hz2, H⟩ := bd_some H
    refine MV.callV [.ref (mAd 18)] [] [25, 26, 27, 28, 18, 19, 20, 21] C G (c_X3_takeFrom l D cy (fun k => mAd (k + 25)) (fun k => mAd (k + 18)) fhour fdep farr fdeb hour dep arr deb z2 hz2) gX8_run_X3_takeFrom rfl rfl rfl (n := 1) (by decide +kernel) ⟨Nat.le_of_ble_eq_true rfl, Nat.le_of_ble_eq_true rfl⟩ (q0 := 25) (ci := 3) rfl rfl rfl rfl rfl rfl rfl hl.1 rfl (Nat.le_of_ble_eq_true rfl) dX8_run_24 ⟨Nat.zero_le _, Nat.zero_le _⟩ (fun U locs G => ?_)
    have G : Gd D A s (w_Top cy mAd GI GM GR lfa lfi lan siz len tok stt fin num flw byt dwat dlev dkin dcdp dsil sta wat lev kin cdp sil hour dep arr deb nxt kep z2.1 z2.2.1 z2.2.2.1 z2.2.2.2 gft bal giv tak inc trc nrs) U locs := G
    refine lv_aload_n hx hb dX8_run_27 rfl (lv_at hl 0 rfl) ?_
    refine va_get (D := D) (ci := 8) (v := .ref (mAd 25)) (C := RX8) (T := TX8) (N := 11) hx hb hts hiX8 hown hK G.1 0 rfl rfl 6 (by decide) lk2 (fun _ h9 => h9) rfl dX8_run_28 ?_
    refine lv_aload_n hx hb dX8_run_31 rfl (lv_at hl 0 rfl) ?_
    refine va_get (D := D) (ci := 8) (v := .ref (mAd 12)) (C := RX8) (T := TX8) (N := 11) hx hb hts hiX8 hown hK G.1 0 rfl rfl 3 (by decide) lk0 (fun _ h9 => h9) rfl dX8_run_32 ?_
    refine va_get (D := D) (ci := 1) (v := .ref (mAd 13)) (C := RX1) (T := TX1) (N := 3) hx hb hts hiX1 hown hK G.1 12 rfl rfl 0 (by decide) lk4 (fun _ h9 => h9) rfl dX8_run_35 ?_
    refine va_get (D := D) (ci := 2) (v := .int wat) (C := RX2) (T := TX2) (N := 5) hx hb hts hiX2 hown hK G.1 13 rfl rfl 4 (by decide) lk5 (fun _ h9 => h9) rfl dX8_run_38 ?_
    obtain ⟨z3, hz3, H⟩ := bd_some H
    refine MI.callV z3.1 [.int wat] [] [25, 26, 27, 28] C G (c_X3_payAll l D cy (fun k => mAd (k + 25)) z2.1 z2.2.1 z2.2.2.1 z2.2.2.2 wat z3 hz3) gX8_run_X3_payAll rfl rfl rfl (n := 1) (by decide +kernel) ⟨Nat.le_of_ble_eq_true rfl, Nat.le_of_ble_eq_true rfl⟩ (q0 := 25) (ci := 3) rfl rfl rfl rfl rfl rfl rfl hl.1 rfl (Nat.le_of_ble_eq_true rfl) dX8_run_41 ⟨Nat.zero_le _, Nat.zero_le _⟩ (fun U locs G => ?_)
    have G : Gd D A s (w_Top cy mAd GI GM GR lfa lfi lan siz len tok stt fin num flw byt dwat dlev dkin dcdp dsil sta wat lev kin cdp sil hour dep arr deb nxt kep z2.1 z3.2 z2.2.2.1 z2.2.2.2 gft bal giv tak inc trc nrs) U locs := G
    obtain rfl := Option.some.inj H
    exact ret_i C G rfl dX8_run_44
  · have H := if_t H c1
    refine lv_ldc hx hb hown lk6 dX8_run_10 ?_
    obtain rfl := Option.some.inj H
    exact ret_i C G rfl dX8_run_12
def f_X8_kind (wat : Int32) (kin : Nat → Int32) (p1 : Int32) : Option Int32 := bd (f_X8_isWater wat p1) (fun z1 => if z1 = 0 then (some (-1000001)) else (gd (inb p1 6) (some (kin (ix p1)))))
set_option maxHeartbeats 4000000 in
set_option maxRecDepth 100000 in
theorem c_X8_kind (l : Launch) (D : va_G) (cy : Nat → ClassId) (mAd : Nat → Nat) (GI GM GR : Nat → Option Nat) (lfa lfi : Int32) (lan siz : Nat → Int32) (len tok stt fin num flw : Int32) (byt : Nat → Int32) (dwat : Int32) (dlev dkin dcdp dsil : Nat → Int32) (sta wat : Int32) (lev kin cdp sil : Nat → Int32) (hour : Int32) (dep arr deb : Nat → Int32) (nxt kep fhour : Int32) (fdep farr fdeb : Nat → Int32) (gft : Int32) (bal giv tak inc : Nat → Int32) (trc : Int32) (nrs : Nat → Int32) (p1 : Int32) (z : Int32) (hz : f_X8_kind wat kin p1 = some z) : MI l yX8_kind wsX8_kind ({ frames := 1, cells := 0, slots := 0, locals := 21 } : Room) D cy [.ref (mAd 0), .int p1] (w_Top cy mAd GI GM GR lfa lfi lan siz len tok stt fin num flw byt dwat dlev dkin dcdp dsil sta wat lev kin cdp sil hour dep arr deb nxt kep fhour fdep farr fdeb gft bal giv tak inc trc nrs) z (w_Top cy mAd GI GM GR lfa lfi lan siz len tok stt fin num flw byt dwat dlev dkin dcdp dsil sta wat lev kin cdp sil hour dep arr deb nxt kep fhour fdep farr fdeb gft bal giv tak inc trc nrs) := by
  refine met_start (Qf := fun A => MQi D cy z (w_Top cy mAd GI GM GR lfa lfi lan siz len tok stt fin num flw byt dwat dlev dkin dcdp dsil sta wat lev kin cdp sil hour dep arr deb nxt kep fhour fdep farr fdeb gft bal giv tak inc trc nrs) A) (cc := cX8_kind) (nL := 2) (ret := (some .int)) RX8 rfl (by decide) rfl (Nat.le_of_ble_eq_true rfl) ?_
  intro p e s m below meth c A ls C G hl
  have hl : lv_has ls 2 [(0, .ref (mAd 0)), (1, .int p1)] := hl
  have H := hz
  unfold f_X8_kind at H
  obtain ⟨hx, hb, hr, hml, hown, hts, hlk, hK, hA, hE⟩ := id C
  have lk0 := hts (Cond.constant RX8 73 (-1000001)) (List.mem_of_getElem? (i := 4) rfl)
  have lk1 := hts (Cond.fieldLink RX8 33 "TideDebts" "now" "LTideDebts$Bay;") (List.mem_of_getElem? (i := 1) rfl)
  have lk2 := hts (Cond.fieldLink RX8 140 "TideDebts$Bay" "chart" "LTideDebts$Chart;") (List.mem_of_getElem? (i := 2) rfl)
  have lk3 := hts (Cond.fieldLink RX8 252 "TideDebts$Chart" "kinds" "[I") (List.mem_of_getElem? (i := 3) rfl)
  have hiX1 : ∀ w ∈ u_ws RX1 TX1 3, w ∈ wsX8_kind := fun _ h => List.mem_cons_of_mem _ (List.mem_append_left _ (List.mem_append_right _ h))
  have hiX2 : ∀ w ∈ u_ws RX2 TX2 5, w ∈ wsX8_kind := fun _ h => List.mem_cons_of_mem _ (List.mem_append_right _ h)
  have hiX8 : ∀ w ∈ u_ws RX8 TX8 11, w ∈ wsX8_kind := fun _ h => List.mem_cons_of_mem _ (List.mem_append_left _ (List.mem_append_left _ (List.mem_append_right _ h)))
  refine lv_aload_n hx hb dX8_kind_0 rfl (lv_at hl 0 rfl) ?_
  refine lv_iload_n hx hb dX8_kind_1 rfl (lv_at hl 1 rfl) ?_
  obtain ⟨z1, hz1, H⟩ := bd_some H
  refine MI.callVw z1 [.int p1] [] C G (c_X8_isWater l D cy mAd GI GM GR lfa lfi lan siz len tok stt fin num flw byt dwat dlev dkin dcdp dsil sta wat lev kin cdp sil hour dep arr deb nxt kep fhour fdep farr fdeb gft bal giv tak inc trc nrs p1 z1 hz1) gX8_kind_X8_isWater rfl rfl rfl (n := 1) (by decide +kernel) ⟨Nat.le_of_ble_eq_true rfl, Nat.le_of_ble_eq_true rfl⟩ (q0 := 0) (ci := 8) rfl rfl rfl rfl hl.1 rfl (Nat.le_of_ble_eq_true rfl) dX8_kind_2 ⟨Nat.zero_le _, Nat.zero_le _⟩ (fun U locs G => ?_)
  have G : Gd D A s (w_Top cy mAd GI GM GR lfa lfi lan siz len tok stt fin num flw byt dwat dlev dkin dcdp dsil sta wat lev kin cdp sil hour dep arr deb nxt kep fhour fdep farr fdeb gft bal giv tak inc trc nrs) U locs := G
  refine lv_if_eq (tgt := 23) hx hb dX8_kind_5 (by decide) (fun c2 => ?_) (fun c2 => ?_)
  · have H := if_t H c2
    refine lv_ldc hx hb hown lk0 dX8_kind_23 ?_
    obtain rfl := Option.some.inj H
    exact ret_i C G rfl dX8_kind_25
  · have H := if_f H c2
    refine lv_aload_n hx hb dX8_kind_8 rfl (lv_at hl 0 rfl) ?_
    refine va_get (D := D) (ci := 8) (v := .ref (mAd 12)) (C := RX8) (T := TX8) (N := 11) hx hb hts hiX8 hown hK G.1 0 rfl rfl 3 (by decide) lk1 (fun _ h9 => h9) rfl dX8_kind_9 ?_
    refine va_get (D := D) (ci := 1) (v := .ref (mAd 13)) (C := RX1) (T := TX1) (N := 3) hx hb hts hiX1 hown hK G.1 12 rfl rfl 0 (by decide) lk2 (fun _ h9 => h9) rfl dX8_kind_12 ?_
    refine va_get (D := D) (ci := 2) (v := .ref (mAd 15)) (C := RX2) (T := TX2) (N := 5) hx hb hts hiX2 hown hK G.1 13 rfl rfl 1 (by decide) lk3 (fun _ h9 => h9) rfl dX8_kind_15 ?_
    refine lv_iload_n hx hb dX8_kind_18 rfl (lv_at hl 1 rfl) ?_
    obtain ⟨hb3, H⟩ := gd_some H
    refine g_iald (v := kin (ix p1)) hx hb hK G.1 15 1 rfl rfl hb3 rfl dX8_kind_19 ?_
    refine lv_goto (tgt := 25) hx hb dX8_kind_20 (by decide) ?_
    obtain rfl := Option.some.inj H
    exact ret_i C G rfl dX8_kind_25
def f_X8_as (lfi wat : Int32) (kin : Nat → Int32) (p1 p2 : Int32) : Option (Int32 × Int32) := bd (f_X8_isWater wat p1) (fun z1 => if z1 = 0 then (some ((-1000001), lfi)) else (if p2 < 0 then (some ((-1000001), lfi)) else (if p2 < 6 then (gd (inb p1 6) (bd (f_X2_isOne (kin (ix p1)) p2) (fun z6 => if z6 = 0 then (bd (f_X8_found lfi 3) (fun z8 => some (z8.1, z8.2))) else (bd (f_X8_fine lfi p1) (fun z9 => some (z9.1, z9.2)))))) else (some ((-1000001), lfi)))))
set_option maxHeartbeats 4000000 in
set_option maxRecDepth 100000 in
theorem c_X8_as (l : Launch) (D : va_G) (cy : Nat → ClassId) (mAd : Nat → Nat) (GI GM GR : Nat → Option Nat) (lfa lfi : Int32) (lan siz : Nat → Int32) (len tok stt fin num flw : Int32) (byt : Nat → Int32) (dwat : Int32) (dlev dkin dcdp dsil : Nat → Int32) (sta wat : Int32) (lev kin cdp sil : Nat → Int32) (hour : Int32) (dep arr deb : Nat → Int32) (nxt kep fhour : Int32) (fdep farr fdeb : Nat → Int32) (gft : Int32) (bal giv tak inc : Nat → Int32) (trc : Int32) (nrs : Nat → Int32) (p1 p2 : Int32) (z : (Int32 × Int32)) (hz : f_X8_as lfi wat kin p1 p2 = some z) : MI l yX8_as wsX8_as ({ frames := 1, cells := 0, slots := 0, locals := 23 } : Room) D cy [.ref (mAd 0), .int p1, .int p2] (w_Top cy mAd GI GM GR lfa lfi lan siz len tok stt fin num flw byt dwat dlev dkin dcdp dsil sta wat lev kin cdp sil hour dep arr deb nxt kep fhour fdep farr fdeb gft bal giv tak inc trc nrs) z.1 (w_Top cy mAd GI GM GR lfa z.2 lan siz len tok stt fin num flw byt dwat dlev dkin dcdp dsil sta wat lev kin cdp sil hour dep arr deb nxt kep fhour fdep farr fdeb gft bal giv tak inc trc nrs) := by
  refine met_start (Qf := fun A => MQi D cy z.1 (w_Top cy mAd GI GM GR lfa z.2 lan siz len tok stt fin num flw byt dwat dlev dkin dcdp dsil sta wat lev kin cdp sil hour dep arr deb nxt kep fhour fdep farr fdeb gft bal giv tak inc trc nrs) A) (cc := cX8_as) (nL := 3) (ret := (some .int)) RX8 rfl (by decide) rfl (Nat.le_of_ble_eq_true rfl) ?_
  intro p e s m below meth c A ls C G hl
  have hl : lv_has ls 3 [(0, .ref (mAd 0)), (1, .int p1), (2, .int p2)] := hl
  have H := hz
  unfold f_X8_as at H
  obtain ⟨hx, hb, hr, hml, hown, hts, hlk, hK, hA, hE⟩ := id C
  have lk0 := hts (Cond.constant RX8 73 (-1000001)) (List.mem_of_getElem? (i := 1) rfl)
  have lk1 := hts (Cond.fieldLink RX8 33 "TideDebts" "now" "LTideDebts$Bay;") (List.mem_of_getElem? (i := 2) rfl)
  have lk2 := hts (Cond.fieldLink RX8 140 "TideDebts$Bay" "chart" "LTideDebts$Chart;") (List.mem_of_getElem? (i := 3) rfl)
  have lk3 := hts (Cond.fieldLink RX8 252 "TideDebts$Chart" "kinds" "[I") (List.mem_of_getElem? (i := 4) rfl)
  have hiX1 : ∀ w ∈ u_ws RX1 TX1 3, w ∈ wsX8_as := fun _ h => List.mem_cons_of_mem _ (List.mem_append_left _ (List.mem_append_right _ h))
  have hiX2 : ∀ w ∈ u_ws RX2 TX2 5, w ∈ wsX8_as := fun _ h => List.mem_cons_of_mem _ (List.mem_append_right _ h)
  have hiX8 : ∀ w ∈ u_ws RX8 TX8 11, w ∈ wsX8_as := fun _ h => List.mem_cons_of_mem _ (List.mem_append_left _ (List.mem_append_left _ (List.mem_append_right _ h)))
  refine lv_aload_n hx hb dX8_as_0 rfl (lv_at hl 0 rfl) ?_
  refine lv_iload_n hx hb dX8_as_1 rfl (lv_at hl 1 rfl) ?_
  obtain ⟨z1, hz1, H⟩ := bd_some H
  refine MI.callVw z1 [.int p1] [] C G (c_X8_isWater l D cy mAd GI GM GR lfa lfi lan siz len tok stt fin num flw byt dwat dlev dkin dcdp dsil sta wat lev kin cdp sil hour dep arr deb nxt kep fhour fdep farr fdeb gft bal giv tak inc trc nrs p1 z1 hz1) gX8_as_X8_isWater rfl rfl rfl (n := 1) (by decide +kernel) ⟨Nat.le_of_ble_eq_true rfl, Nat.le_of_ble_eq_true rfl⟩ (q0 := 0) (ci := 8) rfl rfl rfl rfl hl.1 rfl (Nat.le_of_ble_eq_true rfl) dX8_as_2 ⟨Nat.zero_le _, Nat.zero_le _⟩ (fun U locs G => ?_)
  have G : Gd D A s (w_Top cy mAd GI GM GR lfa lfi lan siz len tok stt fin num flw byt dwat dlev dkin dcdp dsil sta wat lev kin cdp sil hour dep arr deb nxt kep fhour fdep farr fdeb gft bal giv tak inc trc nrs) U locs := G
  refine lv_if_eq (tgt := 18) hx hb dX8_as_5 (by decide) (fun c2 => ?_) (fun c2 => ?_)
  · have H := if_t H c2
    refine lv_ldc hx hb hown lk0 dX8_as_18 ?_
    obtain rfl := Option.some.inj H
    exact ret_i C G rfl dX8_as_20
  · have H := if_f H c2
    refine lv_iload_n hx hb dX8_as_8 rfl (lv_at hl 2 rfl) ?_
    refine lv_if_lt (tgt := 18) hx hb dX8_as_9 (by decide) (fun c3 => ?_) (fun c3 => ?_)
    · have H := if_t H c3
      refine lv_ldc hx hb hown lk0 dX8_as_18 ?_
      obtain rfl := Option.some.inj H
      exact ret_i C G rfl dX8_as_20
    · have H := if_f H c3
      refine lv_iload_n hx hb dX8_as_12 rfl (lv_at hl 2 rfl) ?_
      refine lv_bipush (v := 6) hx hb dX8_as_13 (by decide) ?_
      refine lv_icmp_lt (tgt := 21) hx hb dX8_as_15 (by decide) (fun c4 => ?_) (fun c4 => ?_)
      · have H := if_t H c4
        refine lv_aload_n hx hb dX8_as_21 rfl (lv_at hl 0 rfl) ?_
        refine va_get (D := D) (ci := 8) (v := .ref (mAd 12)) (C := RX8) (T := TX8) (N := 11) hx hb hts hiX8 hown hK G.1 0 rfl rfl 3 (by decide) lk1 (fun _ h9 => h9) rfl dX8_as_22 ?_
        refine va_get (D := D) (ci := 1) (v := .ref (mAd 13)) (C := RX1) (T := TX1) (N := 3) hx hb hts hiX1 hown hK G.1 12 rfl rfl 0 (by decide) lk2 (fun _ h9 => h9) rfl dX8_as_25 ?_
        refine va_get (D := D) (ci := 2) (v := .ref (mAd 15)) (C := RX2) (T := TX2) (N := 5) hx hb hts hiX2 hown hK G.1 13 rfl rfl 1 (by decide) lk3 (fun _ h9 => h9) rfl dX8_as_28 ?_
        refine lv_iload_n hx hb dX8_as_31 rfl (lv_at hl 1 rfl) ?_
        obtain ⟨hb5, H⟩ := gd_some H
        refine g_iald (v := kin (ix p1)) hx hb hK G.1 15 1 rfl rfl hb5 rfl dX8_as_32 ?_
        refine lv_iload_n hx hb dX8_as_33 rfl (lv_at hl 2 rfl) ?_
        obtain ⟨z6, hz6, H⟩ := bd_some H
        refine MI.callS z6 [.int (kin (ix p1)), .int p2] [] [] C G (c_X2_isOne l D cy (kin (ix p1)) p2 z6 hz6) gX8_as_X2_isOne rfl rfl rfl (n := 2) (by decide +kernel) ⟨Nat.le_of_ble_eq_true rfl, Nat.le_of_ble_eq_true rfl⟩ rfl rfl rfl rfl hl.1 rfl (Nat.le_of_ble_eq_true rfl) dX8_as_34 ⟨Nat.zero_le _, Nat.zero_le _⟩ (fun U locs G => ?_)
        have G : Gd D A s (w_Top cy mAd GI GM GR lfa lfi lan siz len tok stt fin num flw byt dwat dlev dkin dcdp dsil sta wat lev kin cdp sil hour dep arr deb nxt kep fhour fdep farr fdeb gft bal giv tak inc trc nrs) U locs := G
        refine lv_if_eq (tgt := 48) hx hb dX8_as_37 (by decide) (fun c7 => ?_) (fun c7 => ?_)
        · have H := if_t H c7
          refine lv_aload_n hx hb dX8_as_48 rfl (lv_at hl 0 rfl) ?_
          refine lv_iconst (v := 3) hx hb dX8_as_49 (by decide) ?_
          obtain ⟨z8, hz8, H⟩ := bd_some H
          refine MI.callVw z8.1 [.int 3] [] C G (c_X8_found l D cy mAd GI GM GR lfa lfi lan siz len tok stt fin num flw byt dwat dlev dkin dcdp dsil sta wat lev kin cdp sil hour dep arr deb nxt kep fhour fdep farr fdeb gft bal giv tak inc trc nrs 3 z8 hz8) gX8_as_X8_found rfl rfl rfl (n := 1) (by decide +kernel) ⟨Nat.le_of_ble_eq_true rfl, Nat.le_of_ble_eq_true rfl⟩ (q0 := 0) (ci := 8) rfl rfl rfl rfl hl.1 rfl (Nat.le_of_ble_eq_true rfl) dX8_as_50 ⟨Nat.zero_le _, Nat.zero_le _⟩ (fun U locs G => ?_)
          have G : Gd D A s (w_Top cy mAd GI GM GR lfa z8.2 lan siz len tok stt fin num flw byt dwat dlev dkin dcdp dsil sta wat lev kin cdp sil hour dep arr deb nxt kep fhour fdep farr fdeb gft bal giv tak inc trc nrs) U locs := G
          obtain rfl := Option.some.inj H
          exact ret_i C G rfl dX8_as_53
        · have H := if_f H c7
          refine lv_aload_n hx hb dX8_as_40 rfl (lv_at hl 0 rfl) ?_
          refine lv_iload_n hx hb dX8_as_41 rfl (lv_at hl 1 rfl) ?_
          obtain ⟨z9, hz9, H⟩ := bd_some H
          refine MI.callVw z9.1 [.int p1] [] C G (c_X8_fine l D cy mAd GI GM GR lfa lfi lan siz len tok stt fin num flw byt dwat dlev dkin dcdp dsil sta wat lev kin cdp sil hour dep arr deb nxt kep fhour fdep farr fdeb gft bal giv tak inc trc nrs p1 z9 hz9) gX8_as_X8_fine rfl rfl rfl (n := 1) (by decide +kernel) ⟨Nat.le_of_ble_eq_true rfl, Nat.le_of_ble_eq_true rfl⟩ (q0 := 0) (ci := 8) rfl rfl rfl rfl hl.1 rfl (Nat.le_of_ble_eq_true rfl) dX8_as_42 ⟨Nat.zero_le _, Nat.zero_le _⟩ (fun U locs G => ?_)
          have G : Gd D A s (w_Top cy mAd GI GM GR lfa z9.2 lan siz len tok stt fin num flw byt dwat dlev dkin dcdp dsil sta wat lev kin cdp sil hour dep arr deb nxt kep fhour fdep farr fdeb gft bal giv tak inc trc nrs) U locs := G
          refine lv_goto (tgt := 53) hx hb dX8_as_45 (by decide) ?_
          obtain rfl := Option.some.inj H
          exact ret_i C G rfl dX8_as_53
      · have H := if_f H c4
        refine lv_ldc hx hb hown lk0 dX8_as_18 ?_
        obtain rfl := Option.some.inj H
        exact ret_i C G rfl dX8_as_20
def f_X8_trace (trc : Int32) (nrs : Nat → Int32) (p1 : Int32) : Option Int32 := if p1 < 0 then (some (-1000000)) else (if trc ≤ p1 then (some (-1000000)) else (gd (inb p1 16) (some (nrs (ix p1)))))
set_option maxHeartbeats 4000000 in
set_option maxRecDepth 100000 in
theorem c_X8_trace (l : Launch) (D : va_G) (cy : Nat → ClassId) (mAd : Nat → Nat) (GI GM GR : Nat → Option Nat) (lfa lfi : Int32) (lan siz : Nat → Int32) (len tok stt fin num flw : Int32) (byt : Nat → Int32) (dwat : Int32) (dlev dkin dcdp dsil : Nat → Int32) (sta wat : Int32) (lev kin cdp sil : Nat → Int32) (hour : Int32) (dep arr deb : Nat → Int32) (nxt kep fhour : Int32) (fdep farr fdeb : Nat → Int32) (gft : Int32) (bal giv tak inc : Nat → Int32) (trc : Int32) (nrs : Nat → Int32) (p1 : Int32) (z : Int32) (hz : f_X8_trace trc nrs p1 = some z) : MI l yX8_trace wsX8_trace ({ frames := 0, cells := 0, slots := 0, locals := 0 } : Room) D cy [.ref (mAd 0), .int p1] (w_Top cy mAd GI GM GR lfa lfi lan siz len tok stt fin num flw byt dwat dlev dkin dcdp dsil sta wat lev kin cdp sil hour dep arr deb nxt kep fhour fdep farr fdeb gft bal giv tak inc trc nrs) z (w_Top cy mAd GI GM GR lfa lfi lan siz len tok stt fin num flw byt dwat dlev dkin dcdp dsil sta wat lev kin cdp sil hour dep arr deb nxt kep fhour fdep farr fdeb gft bal giv tak inc trc nrs) := by
  refine met_start (Qf := fun A => MQi D cy z (w_Top cy mAd GI GM GR lfa lfi lan siz len tok stt fin num flw byt dwat dlev dkin dcdp dsil sta wat lev kin cdp sil hour dep arr deb nxt kep fhour fdep farr fdeb gft bal giv tak inc trc nrs) A) (cc := cX8_trace) (nL := 2) (ret := (some .int)) RX8 rfl (by decide) rfl (Nat.le_of_ble_eq_true rfl) ?_
  intro p e s m below meth c A ls C G hl
  have hl : lv_has ls 2 [(0, .ref (mAd 0)), (1, .int p1)] := hl
  have H := hz
  unfold f_X8_trace at H
  obtain ⟨hx, hb, hr, hml, hown, hts, hlk, hK, hA, hE⟩ := id C
  have lk0 := hts (Cond.constant RX8 229 (-1000000)) (List.mem_of_getElem? (i := 4) rfl)
  have lk1 := hts (Cond.fieldLink RX8 65 "TideDebts" "asker" "LTideDebts$Asker;") (List.mem_of_getElem? (i := 1) rfl)
  have lk2 := hts (Cond.fieldLink RX8 258 "TideDebts$Asker" "traced" "I") (List.mem_of_getElem? (i := 2) rfl)
  have lk3 := hts (Cond.fieldLink RX8 268 "TideDebts$Asker" "numbers" "[I") (List.mem_of_getElem? (i := 3) rfl)
  have hiX0 : ∀ w ∈ u_ws RX0 TX0 2, w ∈ wsX8_trace := fun _ h => List.mem_cons_of_mem _ (List.mem_append_right _ h)
  have hiX8 : ∀ w ∈ u_ws RX8 TX8 11, w ∈ wsX8_trace := fun _ h => List.mem_cons_of_mem _ (List.mem_append_left _ (List.mem_append_right _ h))
  refine lv_iload_n hx hb dX8_trace_0 rfl (lv_at hl 1 rfl) ?_
  refine lv_if_lt (tgt := 27) hx hb dX8_trace_1 (by decide) (fun c1 => ?_) (fun c1 => ?_)
  · have H := if_t H c1
    refine lv_ldc hx hb hown lk0 dX8_trace_27 ?_
    obtain rfl := Option.some.inj H
    exact ret_i C G rfl dX8_trace_29
  · have H := if_f H c1
    refine lv_iload_n hx hb dX8_trace_4 rfl (lv_at hl 1 rfl) ?_
    refine lv_aload_n hx hb dX8_trace_5 rfl (lv_at hl 0 rfl) ?_
    refine va_get (D := D) (ci := 8) (v := .ref (mAd 34)) (C := RX8) (T := TX8) (N := 11) hx hb hts hiX8 hown hK G.1 0 rfl rfl 8 (by decide) lk1 (fun _ h9 => h9) rfl dX8_trace_6 ?_
    refine va_get (D := D) (ci := 0) (v := .int trc) (C := RX0) (T := TX0) (N := 2) hx hb hts hiX0 hown hK G.1 34 rfl rfl 1 (by decide) lk2 (fun _ h9 => h9) rfl dX8_trace_9 ?_
    refine lv_icmp_ge (tgt := 27) hx hb dX8_trace_12 (by decide) (fun c2 => ?_) (fun c2 => ?_)
    · have H := if_t H c2
      refine lv_ldc hx hb hown lk0 dX8_trace_27 ?_
      obtain rfl := Option.some.inj H
      exact ret_i C G rfl dX8_trace_29
    · have H := if_f H c2
      refine lv_aload_n hx hb dX8_trace_15 rfl (lv_at hl 0 rfl) ?_
      refine va_get (D := D) (ci := 8) (v := .ref (mAd 34)) (C := RX8) (T := TX8) (N := 11) hx hb hts hiX8 hown hK G.1 0 rfl rfl 8 (by decide) lk1 (fun _ h9 => h9) rfl dX8_trace_16 ?_
      refine va_get (D := D) (ci := 0) (v := .ref (mAd 35)) (C := RX0) (T := TX0) (N := 2) hx hb hts hiX0 hown hK G.1 34 rfl rfl 0 (by decide) lk3 (fun _ h9 => h9) rfl dX8_trace_19 ?_
      refine lv_iload_n hx hb dX8_trace_22 rfl (lv_at hl 1 rfl) ?_
      obtain ⟨hb3, H⟩ := gd_some H
      refine g_iald (v := nrs (ix p1)) hx hb hK G.1 35 1 rfl rfl hb3 rfl dX8_trace_23 ?_
      refine lv_goto (tgt := 29) hx hb dX8_trace_24 (by decide) ?_
      obtain rfl := Option.some.inj H
      exact ret_i C G rfl dX8_trace_29
def f_X8_count (lan : Nat → Int32) (len wat hour : Int32) (dep deb : Nat → Int32) (kep p1 : Int32) : Option Int32 := if p1 = 0 then (bd (f_X6_present lan) (fun z2 => some z2)) else (if p1 = 1 then (some wat) else (if p1 = 2 then (some hour) else (if p1 = 3 then (bd (f_X3_depthInAll dep) (fun z6 => some z6)) else (if p1 = 4 then (some kep) else (if p1 = 5 then (bd (f_X3_debtsAboveNone deb) (fun z9 => some z9)) else (if p1 = 6 then (some len) else (some (-1000001))))))))
set_option maxHeartbeats 4000000 in
set_option maxRecDepth 100000 in
theorem c_X8_count (l : Launch) (D : va_G) (cy : Nat → ClassId) (mAd : Nat → Nat) (GI GM GR : Nat → Option Nat) (lfa lfi : Int32) (lan siz : Nat → Int32) (len tok stt fin num flw : Int32) (byt : Nat → Int32) (dwat : Int32) (dlev dkin dcdp dsil : Nat → Int32) (sta wat : Int32) (lev kin cdp sil : Nat → Int32) (hour : Int32) (dep arr deb : Nat → Int32) (nxt kep fhour : Int32) (fdep farr fdeb : Nat → Int32) (gft : Int32) (bal giv tak inc : Nat → Int32) (trc : Int32) (nrs : Nat → Int32) (p1 : Int32) (z : Int32) (hz : f_X8_count lan len wat hour dep deb kep p1 = some z) : MI l yX8_count wsX8_count ({ frames := 2, cells := 0, slots := 0, locals := 43 } : Room) D cy [.ref (mAd 0), .int p1] (w_Top cy mAd GI GM GR lfa lfi lan siz len tok stt fin num flw byt dwat dlev dkin dcdp dsil sta wat lev kin cdp sil hour dep arr deb nxt kep fhour fdep farr fdeb gft bal giv tak inc trc nrs) z (w_Top cy mAd GI GM GR lfa lfi lan siz len tok stt fin num flw byt dwat dlev dkin dcdp dsil sta wat lev kin cdp sil hour dep arr deb nxt kep fhour fdep farr fdeb gft bal giv tak inc trc nrs) := by
  refine met_start (Qf := fun A => MQi D cy z (w_Top cy mAd GI GM GR lfa lfi lan siz len tok stt fin num flw byt dwat dlev dkin dcdp dsil sta wat lev kin cdp sil hour dep arr deb nxt kep fhour fdep farr fdeb gft bal giv tak inc trc nrs) A) (cc := cX8_count) (nL := 2) (ret := (some .int)) RX8 rfl (by decide) rfl (Nat.le_of_ble_eq_true rfl) ?_
  intro p e s m below meth c A ls C G hl
  have hl : lv_has ls 2 [(0, .ref (mAd 0)), (1, .int p1)] := hl
  have H := hz
  unfold f_X8_count at H
  obtain ⟨hx, hb, hr, hml, hown, hts, hlk, hK, hA, hE⟩ := id C
  have lk0 := hts (Cond.fieldLink RX8 10 "TideDebts" "rows" "LTideDebts$Rows;") (List.mem_of_getElem? (i := 1) rfl)
  have lk1 := hts (Cond.fieldLink RX8 33 "TideDebts" "now" "LTideDebts$Bay;") (List.mem_of_getElem? (i := 2) rfl)
  have lk2 := hts (Cond.fieldLink RX8 140 "TideDebts$Bay" "chart" "LTideDebts$Chart;") (List.mem_of_getElem? (i := 3) rfl)
  have lk3 := hts (Cond.fieldLink RX8 143 "TideDebts$Chart" "waters" "I") (List.mem_of_getElem? (i := 4) rfl)
  have lk4 := hts (Cond.fieldLink RX8 151 "TideDebts$Bay" "ledger" "LTideDebts$Ledger;") (List.mem_of_getElem? (i := 5) rfl)
  have lk5 := hts (Cond.fieldLink RX8 154 "TideDebts$Ledger" "hour" "I") (List.mem_of_getElem? (i := 6) rfl)
  have lk6 := hts (Cond.fieldLink RX8 44 "TideDebts" "past" "LTideDebts$Past;") (List.mem_of_getElem? (i := 7) rfl)
  have lk7 := hts (Cond.fieldLink RX8 197 "TideDebts$Past" "kept" "I") (List.mem_of_getElem? (i := 8) rfl)
  have lk8 := hts (Cond.fieldLink RX8 19 "TideDebts" "tape" "LTideDebts$Tape;") (List.mem_of_getElem? (i := 9) rfl)
  have lk9 := hts (Cond.fieldLink RX8 113 "TideDebts$Tape" "length" "I") (List.mem_of_getElem? (i := 10) rfl)
  have lk10 := hts (Cond.constant RX8 73 (-1000001)) (List.mem_of_getElem? (i := 11) rfl)
  have hiX1 : ∀ w ∈ u_ws RX1 TX1 3, w ∈ wsX8_count := fun _ h => List.mem_cons_of_mem _ (List.mem_append_left _ (List.mem_append_left _ (List.mem_append_left _ (List.mem_append_left _ (List.mem_append_left _ (List.mem_append_right _ h))))))
  have hiX2 : ∀ w ∈ u_ws RX2 TX2 5, w ∈ wsX8_count := fun _ h => List.mem_cons_of_mem _ (List.mem_append_left _ (List.mem_append_left _ (List.mem_append_left _ (List.mem_append_left _ (List.mem_append_right _ h)))))
  have hiX3 : ∀ w ∈ u_ws RX3 TX3 4, w ∈ wsX8_count := fun _ h => List.mem_cons_of_mem _ (List.mem_append_left _ (List.mem_append_left _ (List.mem_append_left _ (List.mem_append_right _ h))))
  have hiX5 : ∀ w ∈ u_ws RX5 TX5 3, w ∈ wsX8_count := fun _ h => List.mem_cons_of_mem _ (List.mem_append_left _ (List.mem_append_left _ (List.mem_append_right _ h)))
  have hiX7 : ∀ w ∈ u_ws RX7 TX7 7, w ∈ wsX8_count := fun _ h => List.mem_cons_of_mem _ (List.mem_append_left _ (List.mem_append_right _ h))
  have hiX8 : ∀ w ∈ u_ws RX8 TX8 11, w ∈ wsX8_count := fun _ h => List.mem_cons_of_mem _ (List.mem_append_left _ (List.mem_append_left _ (List.mem_append_left _ (List.mem_append_left _ (List.mem_append_left _ (List.mem_append_left _ (List.mem_append_right _ h)))))))
  refine lv_iload_n hx hb dX8_count_0 rfl (lv_at hl 1 rfl) ?_
  by_cases c1 : p1 = 0
  · have H := if_t H c1
    refine lv_tableIn (off := 43) (tgt := 44) hx hb dX8_count_1 (by rw [c1]; decide) (by rw [c1]; decide) (by rw [c1]; decide) (by decide) ?_
    refine lv_aload_n hx hb dX8_count_44 rfl (lv_at hl 0 rfl) ?_
    refine va_get (D := D) (ci := 8) (v := .ref (mAd 1)) (C := RX8) (T := TX8) (N := 11) hx hb hts hiX8 hown hK G.1 0 rfl rfl 0 (by decide) lk0 (fun _ h9 => h9) rfl dX8_count_45 ?_
    obtain ⟨z2, hz2, H⟩ := bd_some H
    refine MI.callV z2 [] [] [1, 2, 3, 4] C G (c_X6_present l D cy (fun k => mAd (k + 1)) GI lan siz z2 hz2) gX8_count_X6_present rfl rfl rfl (n := 0) (by decide +kernel) ⟨Nat.le_of_ble_eq_true rfl, Nat.le_of_ble_eq_true rfl⟩ (q0 := 1) (ci := 6) rfl rfl rfl rfl rfl rfl rfl hl.1 rfl (Nat.le_of_ble_eq_true rfl) dX8_count_48 ⟨Nat.zero_le _, Nat.zero_le _⟩ (fun U locs G => ?_)
    have G : Gd D A s (w_Top cy mAd GI GM GR lfa lfi lan siz len tok stt fin num flw byt dwat dlev dkin dcdp dsil sta wat lev kin cdp sil hour dep arr deb nxt kep fhour fdep farr fdeb gft bal giv tak inc trc nrs) U locs := G
    obtain rfl := Option.some.inj H
    exact ret_i C G rfl dX8_count_51
  · have H := if_f H c1
    by_cases c3 : p1 = 1
    · have H := if_t H c3
      refine lv_tableIn (off := 51) (tgt := 52) hx hb dX8_count_1 (by rw [c3]; decide) (by rw [c3]; decide) (by rw [c3]; decide) (by decide) ?_
      refine lv_aload_n hx hb dX8_count_52 rfl (lv_at hl 0 rfl) ?_
      refine va_get (D := D) (ci := 8) (v := .ref (mAd 12)) (C := RX8) (T := TX8) (N := 11) hx hb hts hiX8 hown hK G.1 0 rfl rfl 3 (by decide) lk1 (fun _ h9 => h9) rfl dX8_count_53 ?_
      refine va_get (D := D) (ci := 1) (v := .ref (mAd 13)) (C := RX1) (T := TX1) (N := 3) hx hb hts hiX1 hown hK G.1 12 rfl rfl 0 (by decide) lk2 (fun _ h9 => h9) rfl dX8_count_56 ?_
      refine va_get (D := D) (ci := 2) (v := .int wat) (C := RX2) (T := TX2) (N := 5) hx hb hts hiX2 hown hK G.1 13 rfl rfl 4 (by decide) lk3 (fun _ h9 => h9) rfl dX8_count_59 ?_
      obtain rfl := Option.some.inj H
      exact ret_i C G rfl dX8_count_62
    · have H := if_f H c3
      by_cases c4 : p1 = 2
      · have H := if_t H c4
        refine lv_tableIn (off := 62) (tgt := 63) hx hb dX8_count_1 (by rw [c4]; decide) (by rw [c4]; decide) (by rw [c4]; decide) (by decide) ?_
        refine lv_aload_n hx hb dX8_count_63 rfl (lv_at hl 0 rfl) ?_
        refine va_get (D := D) (ci := 8) (v := .ref (mAd 12)) (C := RX8) (T := TX8) (N := 11) hx hb hts hiX8 hown hK G.1 0 rfl rfl 3 (by decide) lk1 (fun _ h9 => h9) rfl dX8_count_64 ?_
        refine va_get (D := D) (ci := 1) (v := .ref (mAd 18)) (C := RX1) (T := TX1) (N := 3) hx hb hts hiX1 hown hK G.1 12 rfl rfl 1 (by decide) lk4 (fun _ h9 => h9) rfl dX8_count_67 ?_
        refine va_get (D := D) (ci := 3) (v := .int hour) (C := RX3) (T := TX3) (N := 4) hx hb hts hiX3 hown hK G.1 18 rfl rfl 3 (by decide) lk5 (fun _ h9 => h9) rfl dX8_count_70 ?_
        obtain rfl := Option.some.inj H
        exact ret_i C G rfl dX8_count_73
      · have H := if_f H c4
        by_cases c5 : p1 = 3
        · have H := if_t H c5
          refine lv_tableIn (off := 73) (tgt := 74) hx hb dX8_count_1 (by rw [c5]; decide) (by rw [c5]; decide) (by rw [c5]; decide) (by decide) ?_
          refine lv_aload_n hx hb dX8_count_74 rfl (lv_at hl 0 rfl) ?_
          refine va_get (D := D) (ci := 8) (v := .ref (mAd 12)) (C := RX8) (T := TX8) (N := 11) hx hb hts hiX8 hown hK G.1 0 rfl rfl 3 (by decide) lk1 (fun _ h9 => h9) rfl dX8_count_75 ?_
          refine va_get (D := D) (ci := 1) (v := .ref (mAd 18)) (C := RX1) (T := TX1) (N := 3) hx hb hts hiX1 hown hK G.1 12 rfl rfl 1 (by decide) lk4 (fun _ h9 => h9) rfl dX8_count_78 ?_
          obtain ⟨z6, hz6, H⟩ := bd_some H
          refine MI.callV z6 [] [] [18, 19, 20, 21] C G (c_X3_depthInAll l D cy (fun k => mAd (k + 18)) hour dep arr deb z6 hz6) gX8_count_X3_depthInAll rfl rfl rfl (n := 0) (by decide +kernel) ⟨Nat.le_of_ble_eq_true rfl, Nat.le_of_ble_eq_true rfl⟩ (q0 := 18) (ci := 3) rfl rfl rfl rfl rfl rfl rfl hl.1 rfl (Nat.le_of_ble_eq_true rfl) dX8_count_81 ⟨Nat.zero_le _, Nat.zero_le _⟩ (fun U locs G => ?_)
          have G : Gd D A s (w_Top cy mAd GI GM GR lfa lfi lan siz len tok stt fin num flw byt dwat dlev dkin dcdp dsil sta wat lev kin cdp sil hour dep arr deb nxt kep fhour fdep farr fdeb gft bal giv tak inc trc nrs) U locs := G
          obtain rfl := Option.some.inj H
          exact ret_i C G rfl dX8_count_84
        · have H := if_f H c5
          by_cases c7 : p1 = 4
          · have H := if_t H c7
            refine lv_tableIn (off := 84) (tgt := 85) hx hb dX8_count_1 (by rw [c7]; decide) (by rw [c7]; decide) (by rw [c7]; decide) (by decide) ?_
            refine lv_aload_n hx hb dX8_count_85 rfl (lv_at hl 0 rfl) ?_
            refine va_get (D := D) (ci := 8) (v := .ref (mAd 23)) (C := RX8) (T := TX8) (N := 11) hx hb hts hiX8 hown hK G.1 0 rfl rfl 5 (by decide) lk6 (fun _ h9 => h9) rfl dX8_count_86 ?_
            refine va_get (D := D) (ci := 5) (v := .int kep) (C := RX5) (T := TX5) (N := 3) hx hb hts hiX5 hown hK G.1 23 rfl rfl 2 (by decide) lk7 (fun _ h9 => h9) rfl dX8_count_89 ?_
            obtain rfl := Option.some.inj H
            exact ret_i C G rfl dX8_count_92
          · have H := if_f H c7
            by_cases c8 : p1 = 5
            · have H := if_t H c8
              refine lv_tableIn (off := 92) (tgt := 93) hx hb dX8_count_1 (by rw [c8]; decide) (by rw [c8]; decide) (by rw [c8]; decide) (by decide) ?_
              refine lv_aload_n hx hb dX8_count_93 rfl (lv_at hl 0 rfl) ?_
              refine va_get (D := D) (ci := 8) (v := .ref (mAd 12)) (C := RX8) (T := TX8) (N := 11) hx hb hts hiX8 hown hK G.1 0 rfl rfl 3 (by decide) lk1 (fun _ h9 => h9) rfl dX8_count_94 ?_
              refine va_get (D := D) (ci := 1) (v := .ref (mAd 18)) (C := RX1) (T := TX1) (N := 3) hx hb hts hiX1 hown hK G.1 12 rfl rfl 1 (by decide) lk4 (fun _ h9 => h9) rfl dX8_count_97 ?_
              obtain ⟨z9, hz9, H⟩ := bd_some H
              refine MI.callV z9 [] [] [18, 19, 20, 21] C G (c_X3_debtsAboveNone l D cy (fun k => mAd (k + 18)) hour dep arr deb z9 hz9) gX8_count_X3_debtsAboveNone rfl rfl rfl (n := 0) (by decide +kernel) ⟨Nat.le_of_ble_eq_true rfl, Nat.le_of_ble_eq_true rfl⟩ (q0 := 18) (ci := 3) rfl rfl rfl rfl rfl rfl rfl hl.1 rfl (Nat.le_of_ble_eq_true rfl) dX8_count_100 ⟨Nat.zero_le _, Nat.zero_le _⟩ (fun U locs G => ?_)
              have G : Gd D A s (w_Top cy mAd GI GM GR lfa lfi lan siz len tok stt fin num flw byt dwat dlev dkin dcdp dsil sta wat lev kin cdp sil hour dep arr deb nxt kep fhour fdep farr fdeb gft bal giv tak inc trc nrs) U locs := G
              obtain rfl := Option.some.inj H
              exact ret_i C G rfl dX8_count_103
            · have H := if_f H c8
              by_cases c10 : p1 = 6
              · have H := if_t H c10
                refine lv_tableIn (off := 103) (tgt := 104) hx hb dX8_count_1 (by rw [c10]; decide) (by rw [c10]; decide) (by rw [c10]; decide) (by decide) ?_
                refine lv_aload_n hx hb dX8_count_104 rfl (lv_at hl 0 rfl) ?_
                refine va_get (D := D) (ci := 8) (v := .ref (mAd 5)) (C := RX8) (T := TX8) (N := 11) hx hb hts hiX8 hown hK G.1 0 rfl rfl 1 (by decide) lk8 (fun _ h9 => h9) rfl dX8_count_105 ?_
                refine va_get (D := D) (ci := 7) (v := .int len) (C := RX7) (T := TX7) (N := 7) hx hb hts hiX7 hown hK G.1 5 rfl rfl 1 (by decide) lk9 (fun _ h9 => h9) rfl dX8_count_108 ?_
                obtain rfl := Option.some.inj H
                exact ret_i C G rfl dX8_count_111
              · have H := if_f H c10
                have hout := sw_out (x := p1) (lo := 0) (hi := 6) (fun k h1 h2 => by
                    have hk : k = 0 ∨ k = 1 ∨ k = 2 ∨ k = 3 ∨ k = 4 ∨ k = 5 ∨ k = 6 := by omega
                    rcases hk with rfl | rfl | rfl | rfl | rfl | rfl | rfl
                    · exact c1
                    · exact c3
                    · exact c4
                    · exact c5
                    · exact c7
                    · exact c8
                    · exact c10)
                refine lv_tableOut (tgt := 112) hx hb dX8_count_1 hout (by decide) ?_
                refine lv_ldc hx hb hown lk10 dX8_count_112 ?_
                obtain rfl := Option.some.inj H
                exact ret_i C G rfl dX8_count_114
def f_X8_status (lfi : Int32) : Option Int32 := some lfi
set_option maxHeartbeats 4000000 in
set_option maxRecDepth 100000 in
theorem c_X8_status (l : Launch) (D : va_G) (cy : Nat → ClassId) (mAd : Nat → Nat) (GI GM GR : Nat → Option Nat) (lfa lfi : Int32) (lan siz : Nat → Int32) (len tok stt fin num flw : Int32) (byt : Nat → Int32) (dwat : Int32) (dlev dkin dcdp dsil : Nat → Int32) (sta wat : Int32) (lev kin cdp sil : Nat → Int32) (hour : Int32) (dep arr deb : Nat → Int32) (nxt kep fhour : Int32) (fdep farr fdeb : Nat → Int32) (gft : Int32) (bal giv tak inc : Nat → Int32) (trc : Int32) (nrs : Nat → Int32) (z : Int32) (hz : f_X8_status lfi = some z) : MI l yX8_status wsX8_status ({ frames := 0, cells := 0, slots := 0, locals := 0 } : Room) D cy [.ref (mAd 0)] (w_Top cy mAd GI GM GR lfa lfi lan siz len tok stt fin num flw byt dwat dlev dkin dcdp dsil sta wat lev kin cdp sil hour dep arr deb nxt kep fhour fdep farr fdeb gft bal giv tak inc trc nrs) z (w_Top cy mAd GI GM GR lfa lfi lan siz len tok stt fin num flw byt dwat dlev dkin dcdp dsil sta wat lev kin cdp sil hour dep arr deb nxt kep fhour fdep farr fdeb gft bal giv tak inc trc nrs) := by
  refine met_start (Qf := fun A => MQi D cy z (w_Top cy mAd GI GM GR lfa lfi lan siz len tok stt fin num flw byt dwat dlev dkin dcdp dsil sta wat lev kin cdp sil hour dep arr deb nxt kep fhour fdep farr fdeb gft bal giv tak inc trc nrs) A) (cc := cX8_status) (nL := 1) (ret := (some .int)) RX8 rfl (by decide) rfl (Nat.le_of_ble_eq_true rfl) ?_
  intro p e s m below meth c A ls C G hl
  have hl : lv_has ls 1 [(0, .ref (mAd 0))] := hl
  have H := hz
  unfold f_X8_status at H
  obtain ⟨hx, hb, hr, hml, hown, hts, hlk, hK, hA, hE⟩ := id C
  have lk0 := hts (Cond.fieldLink RX8 281 "TideDebts" "latestFinding" "I") (List.mem_of_getElem? (i := 1) rfl)
  have hiX8 : ∀ w ∈ u_ws RX8 TX8 11, w ∈ wsX8_status := fun _ h => List.mem_cons_of_mem _ (List.mem_append_right _ h)
  refine lv_aload_n hx hb dX8_status_0 rfl (lv_at hl 0 rfl) ?_
  refine va_get (D := D) (ci := 8) (v := .int lfi) (C := RX8) (T := TX8) (N := 11) hx hb hts hiX8 hown hK G.1 0 rfl rfl 10 (by decide) lk0 (fun _ h9 => h9) rfl dX8_status_1 ?_
  obtain rfl := Option.some.inj H
  exact ret_i C G rfl dX8_status_4
def f_X8_watersToldWrong_L34 (wat : Int32) (fdep b_itm : Nat → Int32) (x2 : Int32) : Nat → Int32 → Int32 → Option Int32
  | 0, _, _ => none
  | n + 1, x3, x4 => if wat ≤ x4 then (some x3) else (gd (inb (x2 + x4) 40) (gd (inb x4 6) (if (b_itm (ix (x2 + x4))) = (fdep (ix x4)) then (f_X8_watersToldWrong_L34 wat fdep b_itm x2 n x3 (x4 + 1)) else (f_X8_watersToldWrong_L34 wat fdep b_itm x2 n (x3 ||| (1 <<< (x4 &&& 31))) (x4 + 1)))))
theorem f_X8_watersToldWrong_L34_z (wat : Int32) (fdep b_itm : Nat → Int32) (x2 : Int32) (x3 x4 : Int32) : f_X8_watersToldWrong_L34 wat fdep b_itm x2 0 x3 x4 = none := rfl
theorem f_X8_watersToldWrong_L34_s (wat : Int32) (fdep b_itm : Nat → Int32) (x2 : Int32) (n : Nat) (x3 x4 : Int32) : f_X8_watersToldWrong_L34 wat fdep b_itm x2 (n + 1) x3 x4 = if wat ≤ x4 then (some x3) else (gd (inb (x2 + x4) 40) (gd (inb x4 6) (if (b_itm (ix (x2 + x4))) = (fdep (ix x4)) then (f_X8_watersToldWrong_L34 wat fdep b_itm x2 n x3 (x4 + 1)) else (f_X8_watersToldWrong_L34 wat fdep b_itm x2 n (x3 ||| (1 <<< (x4 &&& 31))) (x4 + 1))))) := rfl
set_option maxHeartbeats 4000000 in
set_option maxRecDepth 100000 in
theorem wl_X8_watersToldWrong_34 {p : Program} {l : Launch} {e : Env} {s : State} {m : MethodId} {below : List Frame} {meth : Method} {c : Code} {D : va_G} {cy : Nat → ClassId} {A : Nat → Prop} {args : Array Value} {Q : State → Prop} (C : Cx D cy A p s m meth c cX8_watersToldWrong 5 (some .int) wsX8_watersToldWrong RX8 args) (mAd : Nat → Nat) (bAd : Nat → Nat) (GI GM GR : Nat → Option Nat) (lfa lfi : Int32) (lan siz : Nat → Int32) (len tok stt fin num flw : Int32) (byt : Nat → Int32) (dwat : Int32) (dlev dkin dcdp dsil : Nat → Int32) (sta wat : Int32) (lev kin cdp sil : Nat → Int32) (hour : Int32) (dep arr deb : Nat → Int32) (nxt kep fhour : Int32) (fdep farr fdeb : Nat → Int32) (gft : Int32) (bal giv tak inc : Nat → Int32) (trc : Int32) (nrs b_itm : Nat → Int32) (x2 : Int32) :
    ∀ (n : Nat) (x3 x4 : Int32) (z : Int32), f_X8_watersToldWrong_L34 wat fdep b_itm x2 n x3 x4 = some z → (∀ (U : Heap) (locs : List Loc) (ls : Array Slot), Gd D A s (w_Top cy mAd GI GM GR lfa lfi lan siz len tok stt fin num flw byt dwat dlev dkin dcdp dsil sta wat lev kin cdp sil hour dep arr deb nxt kep fhour fdep farr fdeb gft bal giv tak inc trc nrs ++ w_Itm cy bAd b_itm) U locs → lv_has ls 5 [(3, .int z)] → W p l e ({ frames := 5, cells := 0, slots := 0, locals := 109 } : Room) s m args below meth c U locs 0 0 Q (F0 m 81 ls [])) → ∀ (U : Heap) (locs : List Loc) (ls : Array Slot), Gd D A s (w_Top cy mAd GI GM GR lfa lfi lan siz len tok stt fin num flw byt dwat dlev dkin dcdp dsil sta wat lev kin cdp sil hour dep arr deb nxt kep fhour fdep farr fdeb gft bal giv tak inc trc nrs ++ w_Itm cy bAd b_itm) U locs → lv_has ls 5 [(0, .ref (mAd 0)), (1, .ref (bAd 0)), (2, .int x2), (3, .int x3), (4, .int x4)] → W p l e ({ frames := 5, cells := 0, slots := 0, locals := 109 } : Room) s m args below meth c U locs 0 0 Q (F0 m 34 ls []) := by
  obtain ⟨hx, hb, hr, hml, hown, hts, hlk, hK, hA, hE⟩ := id C
  have lk0 := hts (Cond.fieldLink RX8 33 "TideDebts" "now" "LTideDebts$Bay;") (List.mem_of_getElem? (i := 2) rfl)
  have lk1 := hts (Cond.fieldLink RX8 140 "TideDebts$Bay" "chart" "LTideDebts$Chart;") (List.mem_of_getElem? (i := 4) rfl)
  have lk2 := hts (Cond.fieldLink RX8 143 "TideDebts$Chart" "waters" "I") (List.mem_of_getElem? (i := 5) rfl)
  have lk3 := hts (Cond.fieldLink RX8 51 "TideDebts" "foretold" "LTideDebts$Ledger;") (List.mem_of_getElem? (i := 1) rfl)
  have lk4 := hts (Cond.fieldLink RX8 168 "TideDebts$Ledger" "depths" "[I") (List.mem_of_getElem? (i := 6) rfl)
  have hiX1 : ∀ w ∈ u_ws RX1 TX1 3, w ∈ wsX8_watersToldWrong := fun _ h => List.mem_cons_of_mem _ (List.mem_append_left _ (List.mem_append_left _ (List.mem_append_right _ h)))
  have hiX2 : ∀ w ∈ u_ws RX2 TX2 5, w ∈ wsX8_watersToldWrong := fun _ h => List.mem_cons_of_mem _ (List.mem_append_left _ (List.mem_append_right _ h))
  have hiX3 : ∀ w ∈ u_ws RX3 TX3 4, w ∈ wsX8_watersToldWrong := fun _ h => List.mem_cons_of_mem _ (List.mem_append_right _ h)
  have hiX8 : ∀ w ∈ u_ws RX8 TX8 11, w ∈ wsX8_watersToldWrong := fun _ h => List.mem_cons_of_mem _ (List.mem_append_left _ (List.mem_append_left _ (List.mem_append_left _ (List.mem_append_right _ h))))
  intro n
  induction n with
  | zero =>
    intro x3 x4 z H
    rw [f_X8_watersToldWrong_L34_z] at H
    cases H
  | succ n ih =>
    intro x3 x4 z H kk U locs ls G hl
    rw [f_X8_watersToldWrong_L34_s] at H
    refine lv_iload hx hb dX8_watersToldWrong_34 (lv_at hl 4 rfl) ?_
    refine lv_aload_n hx hb dX8_watersToldWrong_36 rfl (lv_at hl 0 rfl) ?_
    refine va_get (D := D) (ci := 8) (v := .ref (mAd 12)) (C := RX8) (T := TX8) (N := 11) hx hb hts hiX8 hown hK G.1 0 rfl rfl 3 (by decide) lk0 (fun _ h9 => h9) rfl dX8_watersToldWrong_37 ?_
    refine va_get (D := D) (ci := 1) (v := .ref (mAd 13)) (C := RX1) (T := TX1) (N := 3) hx hb hts hiX1 hown hK G.1 12 rfl rfl 0 (by decide) lk1 (fun _ h9 => h9) rfl dX8_watersToldWrong_40 ?_
    refine va_get (D := D) (ci := 2) (v := .int wat) (C := RX2) (T := TX2) (N := 5) hx hb hts hiX2 hown hK G.1 13 rfl rfl 4 (by decide) lk2 (fun _ h9 => h9) rfl dX8_watersToldWrong_43 ?_
    refine lv_icmp_ge (tgt := 81) hx hb dX8_watersToldWrong_46 (by decide) (fun c3 => ?_) (fun c3 => ?_)
    · have H := if_t H c3
      obtain rfl := Option.some.inj H
      exact kk _ _ _ G (lv_sub hl [3] rfl)
    · have H := if_f H c3
      refine lv_aload_n hx hb dX8_watersToldWrong_49 rfl (lv_at hl 1 rfl) ?_
      refine lv_iload_n hx hb dX8_watersToldWrong_50 rfl (lv_at hl 2 rfl) ?_
      refine lv_iload hx hb dX8_watersToldWrong_51 (lv_at hl 4 rfl) ?_
      refine lv_iadd hx hb dX8_watersToldWrong_53 ?_
      obtain ⟨hb4, H⟩ := gd_some H
      refine g_iald (v := b_itm (ix (x2 + x4))) hx hb hK G.1 36 1 rfl rfl hb4 rfl dX8_watersToldWrong_54 ?_
      refine lv_aload_n hx hb dX8_watersToldWrong_55 rfl (lv_at hl 0 rfl) ?_
      refine va_get (D := D) (ci := 8) (v := .ref (mAd 25)) (C := RX8) (T := TX8) (N := 11) hx hb hts hiX8 hown hK G.1 0 rfl rfl 6 (by decide) lk3 (fun _ h9 => h9) rfl dX8_watersToldWrong_56 ?_
      refine va_get (D := D) (ci := 3) (v := .ref (mAd 26)) (C := RX3) (T := TX3) (N := 4) hx hb hts hiX3 hown hK G.1 25 rfl rfl 0 (by decide) lk4 (fun _ h9 => h9) rfl dX8_watersToldWrong_59 ?_
      refine lv_iload hx hb dX8_watersToldWrong_62 (lv_at hl 4 rfl) ?_
      obtain ⟨hb5, H⟩ := gd_some H
      refine g_iald (v := fdep (ix x4)) hx hb hK G.1 26 1 rfl rfl hb5 rfl dX8_watersToldWrong_64 ?_
      refine lv_icmp_eq (tgt := 75) hx hb dX8_watersToldWrong_65 (by decide) (fun c6 => ?_) (fun c6 => ?_)
      · have H := if_t H c6
        refine lv_iinc (v := x4 + 1) (lv' := [(4, .int (x4 + 1)), (0, .ref (mAd 0)), (1, .ref (bAd 0)), (2, .int x2), (3, .int x3)]) hx hb dX8_watersToldWrong_75 hl (k := 4) rfl rfl (by decide) rfl (fun ls hl => ?_)
        refine lv_goto (tgt := 34) hx hb dX8_watersToldWrong_78 (by decide) ?_
        exact ih x3 (x4 + 1) z H kk _ _ _ G (lv_sub hl [1, 2, 3, 4, 0] rfl)
      · have H := if_f H c6
        refine lv_iload_n hx hb dX8_watersToldWrong_68 rfl (lv_at hl 3 rfl) ?_
        refine lv_iconst (v := 1) hx hb dX8_watersToldWrong_69 (by decide) ?_
        refine lv_iload hx hb dX8_watersToldWrong_70 (lv_at hl 4 rfl) ?_
        refine lv_ishl hx hb dX8_watersToldWrong_72 ?_
        refine lv_ior hx hb dX8_watersToldWrong_73 ?_
        refine lv_istore_n (lv' := [(3, .int (x3 ||| (1 <<< (x4 &&& 31)))), (0, .ref (mAd 0)), (1, .ref (bAd 0)), (2, .int x2), (4, .int x4)]) hx hb dX8_watersToldWrong_74 rfl hl (by decide) rfl (fun ls hl => ?_)
        refine lv_iinc (v := x4 + 1) (lv' := [(4, .int (x4 + 1)), (3, .int (x3 ||| (1 <<< (x4 &&& 31)))), (0, .ref (mAd 0)), (1, .ref (bAd 0)), (2, .int x2)]) hx hb dX8_watersToldWrong_75 hl (k := 4) rfl rfl (by decide) rfl (fun ls hl => ?_)
        refine lv_goto (tgt := 34) hx hb dX8_watersToldWrong_78 (by decide) ?_
        exact ih (x3 ||| (1 <<< (x4 &&& 31))) (x4 + 1) z H kk _ _ _ G (lv_sub hl [2, 3, 4, 1, 0] rfl)
def f_X8_watersToldWrong (wat : Int32) (lev kin sil : Nat → Int32) (hour : Int32) (dep arr deb : Nat → Int32) (fhour : Int32) (fdep farr fdeb b_itm : Nat → Int32) (p2 : Int32) : Option (Int32 × Int32 × (Nat → Int32) × (Nat → Int32) × (Nat → Int32)) := bd (f_X3_takeFrom fhour fdep farr fdeb hour dep arr deb) (fun z1 => bd (f_X3_passHour z1.1 z1.2.1 z1.2.2.1 z1.2.2.2 wat lev kin sil) (fun z2 => bd (f_X8_watersToldWrong_L34 wat z2.2.2.1 b_itm p2 2000 0 0) (fun z7 => some (z7, z2.2.1, z2.2.2.1, z2.2.2.2.1, z2.2.2.2.2))))
set_option maxHeartbeats 4000000 in
set_option maxRecDepth 100000 in
theorem c_X8_watersToldWrong (l : Launch) (D : va_G) (cy : Nat → ClassId) (mAd : Nat → Nat) (bAd : Nat → Nat) (GI GM GR : Nat → Option Nat) (lfa lfi : Int32) (lan siz : Nat → Int32) (len tok stt fin num flw : Int32) (byt : Nat → Int32) (dwat : Int32) (dlev dkin dcdp dsil : Nat → Int32) (sta wat : Int32) (lev kin cdp sil : Nat → Int32) (hour : Int32) (dep arr deb : Nat → Int32) (nxt kep fhour : Int32) (fdep farr fdeb : Nat → Int32) (gft : Int32) (bal giv tak inc : Nat → Int32) (trc : Int32) (nrs b_itm : Nat → Int32) (p2 : Int32) (z : (Int32 × Int32 × (Nat → Int32) × (Nat → Int32) × (Nat → Int32))) (hz : f_X8_watersToldWrong wat lev kin sil hour dep arr deb fhour fdep farr fdeb b_itm p2 = some z) : MI l yX8_watersToldWrong wsX8_watersToldWrong ({ frames := 5, cells := 0, slots := 0, locals := 109 } : Room) D cy [.ref (mAd 0), .ref (bAd 0), .int p2] (w_Top cy mAd GI GM GR lfa lfi lan siz len tok stt fin num flw byt dwat dlev dkin dcdp dsil sta wat lev kin cdp sil hour dep arr deb nxt kep fhour fdep farr fdeb gft bal giv tak inc trc nrs ++ w_Itm cy bAd b_itm) z.1 (w_Top cy mAd GI GM GR lfa lfi lan siz len tok stt fin num flw byt dwat dlev dkin dcdp dsil sta wat lev kin cdp sil hour dep arr deb nxt kep z.2.1 z.2.2.1 z.2.2.2.1 z.2.2.2.2 gft bal giv tak inc trc nrs ++ w_Itm cy bAd b_itm) := by
  refine met_start (Qf := fun A => MQi D cy z.1 (w_Top cy mAd GI GM GR lfa lfi lan siz len tok stt fin num flw byt dwat dlev dkin dcdp dsil sta wat lev kin cdp sil hour dep arr deb nxt kep z.2.1 z.2.2.1 z.2.2.2.1 z.2.2.2.2 gft bal giv tak inc trc nrs ++ w_Itm cy bAd b_itm) A) (cc := cX8_watersToldWrong) (nL := 5) (ret := (some .int)) RX8 rfl (by decide) rfl (Nat.le_of_ble_eq_true rfl) ?_
  intro p e s m below meth c A ls C G hl
  have hl : lv_has ls 5 [(0, .ref (mAd 0)), (1, .ref (bAd 0)), (2, .int p2)] := hl
  have H := hz
  unfold f_X8_watersToldWrong at H
  obtain ⟨hx, hb, hr, hml, hown, hts, hlk, hK, hA, hE⟩ := id C
  have lk0 := hts (Cond.fieldLink RX8 51 "TideDebts" "foretold" "LTideDebts$Ledger;") (List.mem_of_getElem? (i := 1) rfl)
  have lk1 := hts (Cond.fieldLink RX8 33 "TideDebts" "now" "LTideDebts$Bay;") (List.mem_of_getElem? (i := 2) rfl)
  have lk2 := hts (Cond.fieldLink RX8 151 "TideDebts$Bay" "ledger" "LTideDebts$Ledger;") (List.mem_of_getElem? (i := 3) rfl)
  have lk3 := hts (Cond.fieldLink RX8 140 "TideDebts$Bay" "chart" "LTideDebts$Chart;") (List.mem_of_getElem? (i := 4) rfl)
  have hiX1 : ∀ w ∈ u_ws RX1 TX1 3, w ∈ wsX8_watersToldWrong := fun _ h => List.mem_cons_of_mem _ (List.mem_append_left _ (List.mem_append_left _ (List.mem_append_right _ h)))
  have hiX8 : ∀ w ∈ u_ws RX8 TX8 11, w ∈ wsX8_watersToldWrong := fun _ h => List.mem_cons_of_mem _ (List.mem_append_left _ (List.mem_append_left _ (List.mem_append_left _ (List.mem_append_right _ h))))
  refine lv_aload_n hx hb dX8_watersToldWrong_0 rfl (lv_at hl 0 rfl) ?_
  refine va_get (D := D) (ci := 8) (v := .ref (mAd 25)) (C := RX8) (T := TX8) (N := 11) hx hb hts hiX8 hown hK G.1 0 rfl rfl 6 (by decide) lk0 (fun _ h9 => h9) rfl dX8_watersToldWrong_1 ?_
  refine lv_aload_n hx hb dX8_watersToldWrong_4 rfl (lv_at hl 0 rfl) ?_
  refine va_get (D := D) (ci := 8) (v := .ref (mAd 12)) (C := RX8) (T := TX8) (N := 11) hx hb hts hiX8 hown hK G.1 0 rfl rfl 3 (by decide) lk1 (fun _ h9 => h9) rfl dX8_watersToldWrong_5 ?_
  refine va_get (D := D) (ci := 1) (v := .ref (mAd 18)) (C := RX1) (T := TX1) (N := 3) hx hb hts hiX1 hown hK G.1 12 rfl rfl 1 (by decide) lk2 (fun _ h9 => h9) rfl dX8_watersToldWrong_8 ?_
  obtain ⟨z1, hz1, H⟩ := bd_some H
  refine MV.callV [.ref (mAd 18)] [] [25, 26, 27, 28, 18, 19, 20, 21] C G (c_X3_takeFrom l D cy (fun k => mAd (k + 25)) (fun k => mAd (k + 18)) fhour fdep farr fdeb hour dep arr deb z1 hz1) gX8_watersToldWrong_X3_takeFrom rfl rfl rfl (n := 1) (by decide +kernel) ⟨Nat.le_of_ble_eq_true rfl, Nat.le_of_ble_eq_true rfl⟩ (q0 := 25) (ci := 3) rfl rfl rfl rfl rfl rfl rfl hl.1 rfl (Nat.le_of_ble_eq_true rfl) dX8_watersToldWrong_11 ⟨Nat.zero_le _, Nat.zero_le _⟩ (fun U locs G => ?_)
  have G : Gd D A s (w_Top cy mAd GI GM GR lfa lfi lan siz len tok stt fin num flw byt dwat dlev dkin dcdp dsil sta wat lev kin cdp sil hour dep arr deb nxt kep z1.1 z1.2.1 z1.2.2.1 z1.2.2.2 gft bal giv tak inc trc nrs ++ w_Itm cy bAd b_itm) U locs := G
  refine lv_aload_n hx hb dX8_watersToldWrong_14 rfl (lv_at hl 0 rfl) ?_
  refine va_get (D := D) (ci := 8) (v := .ref (mAd 25)) (C := RX8) (T := TX8) (N := 11) hx hb hts hiX8 hown hK G.1 0 rfl rfl 6 (by decide) lk0 (fun _ h9 => h9) rfl dX8_watersToldWrong_15 ?_
  refine lv_aload_n hx hb dX8_watersToldWrong_18 rfl (lv_at hl 0 rfl) ?_
  refine va_get (D := D) (ci := 8) (v := .ref (mAd 12)) (C := RX8) (T := TX8) (N := 11) hx hb hts hiX8 hown hK G.1 0 rfl rfl 3 (by decide) lk1 (fun _ h9 => h9) rfl dX8_watersToldWrong_19 ?_
  refine va_get (D := D) (ci := 1) (v := .ref (mAd 13)) (C := RX1) (T := TX1) (N := 3) hx hb hts hiX1 hown hK G.1 12 rfl rfl 0 (by decide) lk3 (fun _ h9 => h9) rfl dX8_watersToldWrong_22 ?_
  obtain ⟨z2, hz2, H⟩ := bd_some H
  refine MI.callV z2.1 [.ref (mAd 13)] [] [25, 26, 27, 28, 13, 14, 15, 16, 17] C G (c_X3_passHour l D cy (fun k => mAd (k + 25)) (fun k => mAd (k + 13)) z1.1 z1.2.1 z1.2.2.1 z1.2.2.2 wat lev kin cdp sil z2 hz2) gX8_watersToldWrong_X3_passHour rfl rfl rfl (n := 1) (by decide +kernel) ⟨Nat.le_of_ble_eq_true rfl, Nat.le_of_ble_eq_true rfl⟩ (q0 := 25) (ci := 3) rfl rfl rfl rfl rfl rfl rfl hl.1 rfl (Nat.le_of_ble_eq_true rfl) dX8_watersToldWrong_25 ⟨Nat.zero_le _, Nat.zero_le _⟩ (fun U locs G => ?_)
  have G : Gd D A s (w_Top cy mAd GI GM GR lfa lfi lan siz len tok stt fin num flw byt dwat dlev dkin dcdp dsil sta wat lev kin cdp sil hour dep arr deb nxt kep z2.2.1 z2.2.2.1 z2.2.2.2.1 z2.2.2.2.2 gft bal giv tak inc trc nrs ++ w_Itm cy bAd b_itm) U locs := G
  refine lv_pop hx hb dX8_watersToldWrong_28 rfl ?_
  refine lv_iconst (v := 0) hx hb dX8_watersToldWrong_29 (by decide) ?_
  refine lv_istore_n (lv' := [(3, .int 0), (0, .ref (mAd 0)), (1, .ref (bAd 0)), (2, .int p2)]) hx hb dX8_watersToldWrong_30 rfl hl (by decide) rfl (fun ls hl => ?_)
  refine lv_iconst (v := 0) hx hb dX8_watersToldWrong_31 (by decide) ?_
  refine lv_istore (lv' := [(4, .int 0), (3, .int 0), (0, .ref (mAd 0)), (1, .ref (bAd 0)), (2, .int p2)]) hx hb dX8_watersToldWrong_32 hl (by decide) rfl (fun ls hl => ?_)
  obtain ⟨z7, hz7, H⟩ := bd_some H
  refine wl_X8_watersToldWrong_34 C mAd bAd GI GM GR lfa lfi lan siz len tok stt fin num flw byt dwat dlev dkin dcdp dsil sta wat lev kin cdp sil hour dep arr deb nxt kep z2.2.1 z2.2.2.1 z2.2.2.2.1 z2.2.2.2.2 gft bal giv tak inc trc nrs b_itm p2 _ 0 0 z7 hz7 (fun U locs ls G hl => ?_) _ _ _ G (lv_sub hl [2, 3, 4, 1, 0] rfl)
  have G : Gd D A s (w_Top cy mAd GI GM GR lfa lfi lan siz len tok stt fin num flw byt dwat dlev dkin dcdp dsil sta wat lev kin cdp sil hour dep arr deb nxt kep z2.2.1 z2.2.2.1 z2.2.2.2.1 z2.2.2.2.2 gft bal giv tak inc trc nrs ++ w_Itm cy bAd b_itm) U locs := G
  have hl : lv_has ls 5 [(3, .int z7)] := hl
  refine lv_iload_n hx hb dX8_watersToldWrong_81 rfl (lv_at hl 0 rfl) ?_
  obtain rfl := Option.some.inj H
  exact ret_i C G rfl dX8_watersToldWrong_82
