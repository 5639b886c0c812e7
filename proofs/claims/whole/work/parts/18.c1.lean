abbrev w_Arr (cy : Nat → ClassId) (a : Nat → Nat) (n : Nat) (f : Nat → Int32) : va_W := [(a 0, .inl (cy 1, n, .inl f))]
abbrev w_Led (cy : Nat → ClassId) (a : Nat → Nat) (hour : Int32) (dep : Nat → Int32) (arr : Nat → Int32) (deb : Nat → Int32) : va_W := [(a 0, .inr (3, [.ref (a 1), .ref (a 2), .ref (a 3), .int hour])), (a 1, .inl (cy 1, 6, .inl dep)), (a 2, .inl (cy 1, 6, .inl arr)), (a 3, .inl (cy 1, 36, .inl deb))]
abbrev w_Ch (cy : Nat → ClassId) (a : Nat → Nat) (wat : Int32) (lev : Nat → Int32) (kin : Nat → Int32) (cdp : Nat → Int32) (sil : Nat → Int32) : va_W := [(a 0, .inr (2, [.ref (a 1), .ref (a 2), .ref (a 3), .ref (a 4), .int wat])), (a 1, .inl (cy 1, 12, .inl lev)), (a 2, .inl (cy 1, 6, .inl kin)), (a 3, .inl (cy 1, 6, .inl cdp)), (a 4, .inl (cy 1, 6, .inl sil))]
abbrev w_Net (cy : Nat → ClassId) (a : Nat → Nat) (gft : Int32) (bal : Nat → Int32) (giv : Nat → Int32) (tak : Nat → Int32) (inc : Nat → Int32) : va_W := [(a 0, .inr (4, [.ref (a 1), .ref (a 2), .ref (a 3), .ref (a 4), .int gft])), (a 1, .inl (cy 1, 6, .inl bal)), (a 2, .inl (cy 1, 6, .inl giv)), (a 3, .inl (cy 1, 6, .inl tak)), (a 4, .inl (cy 1, 6, .inl inc))]
abbrev w_Bay (cy : Nat → ClassId) (a : Nat → Nat) (ch : Nat) (le : Nat) (sta : Int32) : va_W := [(a 0, .inr (1, [.ref ch, .ref le, .int sta]))]
abbrev w_Tape (cy : Nat → ClassId) (a : Nat → Nat) (len : Int32) (tok : Int32) (stt : Int32) (fin : Int32) (num : Int32) (flw : Int32) (byt : Nat → Int32) : va_W := [(a 0, .inr (7, [.ref (a 1), .int len, .int tok, .int stt, .int fin, .int num, .int flw])), (a 1, .inl (cy 0, 400, .inl byt))]
abbrev w_Ask (cy : Nat → ClassId) (a : Nat → Nat) (trc : Int32) (nrs : Nat → Int32) : va_W := [(a 0, .inr (0, [.ref (a 1), .int trc])), (a 1, .inl (cy 1, 16, .inl nrs))]
abbrev w_Rows (cy : Nat → ClassId) (a : Nat → Nat) (GI : Nat → Option Nat) (lan : Nat → Int32) (siz : Nat → Int32) : va_W := [(a 0, .inr (6, [.ref (a 3), .ref (a 1), .ref (a 2)])), (a 1, .inl (cy 1, 8, .inl lan)), (a 2, .inl (cy 1, 8, .inl siz)), (a 3, .inl (cy 5, 8, .inr (.inr (.inr (.inr GI)))))]
abbrev w_Past (cy : Nat → ClassId) (a : Nat → Nat) (GR : Nat → Option Nat) (nxt : Int32) (kep : Int32) : va_W := [(a 0, .inr (5, [.ref (a 1), .int nxt, .int kep])), (a 1, .inl (cy 4, 24, .inr (.inr (.inr (.inr GR)))))]
abbrev w_BA (cy : Nat → ClassId) (a : Nat → Nat) (sta : Int32) (wat : Int32) (lev : Nat → Int32) (kin : Nat → Int32) (cdp : Nat → Int32) (sil : Nat → Int32) (hour : Int32) (dep : Nat → Int32) (arr : Nat → Int32) (deb : Nat → Int32) : va_W := [(a 0, .inr (1, [.ref (a 1), .ref (a 6), .int sta])), (a 1, .inr (2, [.ref (a 2), .ref (a 3), .ref (a 4), .ref (a 5), .int wat])), (a 2, .inl (cy 1, 12, .inl lev)), (a 3, .inl (cy 1, 6, .inl kin)), (a 4, .inl (cy 1, 6, .inl cdp)), (a 5, .inl (cy 1, 6, .inl sil)), (a 6, .inr (3, [.ref (a 7), .ref (a 8), .ref (a 9), .int hour])), (a 7, .inl (cy 1, 6, .inl dep)), (a 8, .inl (cy 1, 6, .inl arr)), (a 9, .inl (cy 1, 36, .inl deb))]
abbrev w_Itm (cy : Nat → ClassId) (a : Nat → Nat) (itm : Nat → Int32) : va_W := [(a 0, .inl (cy 1, 40, .inl itm))]
abbrev w_Top (cy : Nat → ClassId) (a : Nat → Nat) (GI : Nat → Option Nat) (GM : Nat → Option Nat) (GR : Nat → Option Nat) (lfa : Int32) (lfi : Int32) (lan : Nat → Int32) (siz : Nat → Int32) (len : Int32) (tok : Int32) (stt : Int32) (fin : Int32) (num : Int32) (flw : Int32) (byt : Nat → Int32) (dwat : Int32) (dlev : Nat → Int32) (dkin : Nat → Int32) (dcdp : Nat → Int32) (dsil : Nat → Int32) (sta : Int32) (wat : Int32) (lev : Nat → Int32) (kin : Nat → Int32) (cdp : Nat → Int32) (sil : Nat → Int32) (hour : Int32) (dep : Nat → Int32) (arr : Nat → Int32) (deb : Nat → Int32) (nxt : Int32) (kep : Int32) (fhour : Int32) (fdep : Nat → Int32) (farr : Nat → Int32) (fdeb : Nat → Int32) (gft : Int32) (bal : Nat → Int32) (giv : Nat → Int32) (tak : Nat → Int32) (inc : Nat → Int32) (trc : Int32) (nrs : Nat → Int32) : va_W := [(a 0, .inr (8, [.ref (a 1), .ref (a 5), .ref (a 7), .ref (a 12), .ref (a 22), .ref (a 23), .ref (a 25), .ref (a 29), .ref (a 34), .int lfa, .int lfi])), (a 1, .inr (6, [.ref (a 4), .ref (a 2), .ref (a 3)])), (a 2, .inl (cy 1, 8, .inl lan)), (a 3, .inl (cy 1, 8, .inl siz)), (a 4, .inl (cy 5, 8, .inr (.inr (.inr (.inr GI))))), (a 5, .inr (7, [.ref (a 6), .int len, .int tok, .int stt, .int fin, .int num, .int flw])), (a 6, .inl (cy 0, 400, .inl byt)), (a 7, .inr (2, [.ref (a 8), .ref (a 9), .ref (a 10), .ref (a 11), .int dwat])), (a 8, .inl (cy 1, 12, .inl dlev)), (a 9, .inl (cy 1, 6, .inl dkin)), (a 10, .inl (cy 1, 6, .inl dcdp)), (a 11, .inl (cy 1, 6, .inl dsil)), (a 12, .inr (1, [.ref (a 13), .ref (a 18), .int sta])), (a 13, .inr (2, [.ref (a 14), .ref (a 15), .ref (a 16), .ref (a 17), .int wat])), (a 14, .inl (cy 1, 12, .inl lev)), (a 15, .inl (cy 1, 6, .inl kin)), (a 16, .inl (cy 1, 6, .inl cdp)), (a 17, .inl (cy 1, 6, .inl sil)), (a 18, .inr (3, [.ref (a 19), .ref (a 20), .ref (a 21), .int hour])), (a 19, .inl (cy 1, 6, .inl dep)), (a 20, .inl (cy 1, 6, .inl arr)), (a 21, .inl (cy 1, 36, .inl deb)), (a 22, .inl (cy 3, 2, .inr (.inr (.inr (.inr GM))))), (a 23, .inr (5, [.ref (a 24), .int nxt, .int kep])), (a 24, .inl (cy 4, 24, .inr (.inr (.inr (.inr GR))))), (a 25, .inr (3, [.ref (a 26), .ref (a 27), .ref (a 28), .int fhour])), (a 26, .inl (cy 1, 6, .inl fdep)), (a 27, .inl (cy 1, 6, .inl farr)), (a 28, .inl (cy 1, 36, .inl fdeb)), (a 29, .inr (4, [.ref (a 30), .ref (a 31), .ref (a 32), .ref (a 33), .int gft])), (a 30, .inl (cy 1, 6, .inl bal)), (a 31, .inl (cy 1, 6, .inl giv)), (a 32, .inl (cy 1, 6, .inl tak)), (a 33, .inl (cy 1, 6, .inl inc)), (a 34, .inr (0, [.ref (a 35), .int trc])), (a 35, .inl (cy 1, 16, .inl nrs))]
abbrev w_FItm (cy : Nat → ClassId) (a : Nat → Nat → Nat) (itm : Nat → Nat → Int32) : va_W := fam 8 (fun k => w_Itm cy (a k) (itm k))
abbrev w_FImg (cy : Nat → ClassId) (a : Nat → Nat → Nat) (sta : Nat → Int32) (wat : Nat → Int32) (lev : Nat → Nat → Int32) (kin : Nat → Nat → Int32) (cdp : Nat → Nat → Int32) (sil : Nat → Nat → Int32) (hour : Nat → Int32) (dep : Nat → Nat → Int32) (arr : Nat → Nat → Int32) (deb : Nat → Nat → Int32) : va_W := fam 2 (fun k => w_BA cy (a k) (sta k) (wat k) (lev k) (kin k) (cdp k) (sil k) (hour k) (dep k) (arr k) (deb k))
abbrev w_FRing (cy : Nat → ClassId) (a : Nat → Nat → Nat) (hour : Nat → Int32) (dep : Nat → Nat → Int32) (arr : Nat → Nat → Int32) (deb : Nat → Nat → Int32) : va_W := fam 24 (fun k => w_Led cy (a k) (hour k) (dep k) (arr k) (deb k))
def f_J9_floorMod_7cf53 (p0 p1 : Int32) : Option Int32 := gd (decide (¬ p1 = 0)) (if 0 ≤ (p0 ^^^ p1) then (some (p0 - p0 / p1 * p1)) else (if (p0 - p0 / p1 * p1) = 0 then (some (p0 - p0 / p1 * p1)) else (some ((p0 - p0 / p1 * p1) + p1))))
set_option maxHeartbeats 4000000 in
set_option maxRecDepth 100000 in
theorem c_J9_floorMod_7cf53 (l : Launch) (D : va_G) (cy : Nat → ClassId) (p0 p1 : Int32) (z : Int32) (hz : f_J9_floorMod_7cf53 p0 p1 = some z) : MI l yJ9_floorMod_7cf53 wsJ9_floorMod_7cf53 ({ frames := 0, cells := 0, slots := 0, locals := 0 } : Room) D cy [.int p0, .int p1] [] z [] := by
  refine met_startF (Qf := fun A => MQi D cy z [] A) (cc := cJ9_floorMod_7cf53) (nL := 3) (ret := (some .int)) RJ9 rfl (by decide +kernel) rfl (Nat.le_of_ble_eq_true rfl) ?_
  intro p e s m below meth c A ls C G hl
  have hl : lv_has ls 3 [(0, .int p0), (1, .int p1)] := hl
  have H := hz
  unfold f_J9_floorMod_7cf53 at H
  obtain ⟨hx, hb, hr, hml, hown, hts, hlk, hK, hA, hE⟩ := id C
  refine lv_iload_n hx hb dJ9_floorMod_7cf53_0 rfl (lv_at hl 0 rfl) ?_
  refine lv_iload_n hx hb dJ9_floorMod_7cf53_1 rfl (lv_at hl 1 rfl) ?_
  obtain ⟨hd1, H⟩ := gd_some H
  refine lv_irem hx hb dJ9_floorMod_7cf53_2 (of_decide_eq_true hd1) ?_
  refine lv_istore_n (lv' := [(2, .int (p0 - p0 / p1 * p1)), (0, .int p0), (1, .int p1)]) hx hb dJ9_floorMod_7cf53_3 rfl hl (by decide) rfl (fun ls hl => ?_)
  refine lv_iload_n hx hb dJ9_floorMod_7cf53_4 rfl (lv_at hl 1 rfl) ?_
  refine lv_iload_n hx hb dJ9_floorMod_7cf53_5 rfl (lv_at hl 2 rfl) ?_
  refine lv_ixor hx hb dJ9_floorMod_7cf53_6 ?_
  refine lv_if_ge (tgt := 18) hx hb dJ9_floorMod_7cf53_7 (by decide) (fun c2 => ?_) (fun c2 => ?_)
  · have H := if_t H c2
    refine lv_iload_n hx hb dJ9_floorMod_7cf53_18 rfl (lv_at hl 0 rfl) ?_
    obtain rfl := Option.some.inj H
    exact ret_i C G rfl dJ9_floorMod_7cf53_19
  · have H := if_f H c2
    refine lv_iload_n hx hb dJ9_floorMod_7cf53_10 rfl (lv_at hl 0 rfl) ?_
    refine lv_if_eq (tgt := 18) hx hb dJ9_floorMod_7cf53_11 (by decide) (fun c3 => ?_) (fun c3 => ?_)
    · have H := if_t H c3
      refine lv_iload_n hx hb dJ9_floorMod_7cf53_18 rfl (lv_at hl 0 rfl) ?_
      obtain rfl := Option.some.inj H
      exact ret_i C G rfl dJ9_floorMod_7cf53_19
    · have H := if_f H c3
      refine lv_iload_n hx hb dJ9_floorMod_7cf53_14 rfl (lv_at hl 0 rfl) ?_
      refine lv_iload_n hx hb dJ9_floorMod_7cf53_15 rfl (lv_at hl 2 rfl) ?_
      refine lv_iadd hx hb dJ9_floorMod_7cf53_16 ?_
      obtain rfl := Option.some.inj H
      exact ret_i C G rfl dJ9_floorMod_7cf53_17
def f_J6_signum_0f7a4 (p0 : Int32) : Option Int32 := some ((p0 >>> (31 &&& 31)) ||| (((-p0).toUInt32 >>> ((31 : Int32).toUInt32 &&& Int32.toUInt32 31)).toInt32))
set_option maxHeartbeats 4000000 in
set_option maxRecDepth 100000 in
theorem c_J6_signum_0f7a4 (l : Launch) (D : va_G) (cy : Nat → ClassId) (p0 : Int32) (z : Int32) (hz : f_J6_signum_0f7a4 p0 = some z) : MI l yJ6_signum_0f7a4 wsJ6_signum_0f7a4 ({ frames := 0, cells := 0, slots := 0, locals := 0 } : Room) D cy [.int p0] [] z [] := by
  refine met_startF (Qf := fun A => MQi D cy z [] A) (cc := cJ6_signum_0f7a4) (nL := 1) (ret := (some .int)) RJ6 rfl (by decide +kernel) rfl (Nat.le_of_ble_eq_true rfl) ?_
  intro p e s m below meth c A ls C G hl
  have hl : lv_has ls 1 [(0, .int p0)] := hl
  have H := hz
  unfold f_J6_signum_0f7a4 at H
  obtain ⟨hx, hb, hr, hml, hown, hts, hlk, hK, hA, hE⟩ := id C
  refine lv_iload_n hx hb dJ6_signum_0f7a4_0 rfl (lv_at hl 0 rfl) ?_
  refine lv_bipush (v := 31) hx hb dJ6_signum_0f7a4_1 (by decide) ?_
  refine lv_ishr hx hb dJ6_signum_0f7a4_3 ?_
  refine lv_iload_n hx hb dJ6_signum_0f7a4_4 rfl (lv_at hl 0 rfl) ?_
  refine lv_ineg hx hb dJ6_signum_0f7a4_5 ?_
  refine lv_bipush (v := 31) hx hb dJ6_signum_0f7a4_6 (by decide) ?_
  refine lv_iushr hx hb dJ6_signum_0f7a4_8 rfl ?_
  refine lv_ior hx hb dJ6_signum_0f7a4_9 ?_
  obtain rfl := Option.some.inj H
  exact ret_i C G rfl dJ6_signum_0f7a4_10
def f_J7_fill_53178_L5 (a_n : Nat) (x1 x3 : Int32) : Nat → (Nat → Int32) → Int32 → Option (Nat → Int32)
  | 0, _, _ => none
  | n + 1, a_f, x2 => if x3 ≤ x2 then (some a_f) else (gd (inb x2 a_n) (f_J7_fill_53178_L5 a_n x1 x3 n (upd a_f (ix x2) x1) (x2 + 1)))
theorem f_J7_fill_53178_L5_z (a_n : Nat) (x1 x3 : Int32) (a_f : Nat → Int32) (x2 : Int32) : f_J7_fill_53178_L5 a_n x1 x3 0 a_f x2 = none := rfl
theorem f_J7_fill_53178_L5_s (a_n : Nat) (x1 x3 : Int32) (n : Nat) (a_f : Nat → Int32) (x2 : Int32) : f_J7_fill_53178_L5 a_n x1 x3 (n + 1) a_f x2 = if x3 ≤ x2 then (some a_f) else (gd (inb x2 a_n) (f_J7_fill_53178_L5 a_n x1 x3 n (upd a_f (ix x2) x1) (x2 + 1))) := rfl
set_option maxHeartbeats 4000000 in
set_option maxRecDepth 100000 in
theorem wl_J7_fill_53178_5 {p : Program} {l : Launch} {e : Env} {s : State} {m : MethodId} {below : List Frame} {meth : Method} {c : Code} {D : va_G} {cy : Nat → ClassId} {A : Nat → Prop} {args : Array Value} {Q : State → Prop} (C : Cx D cy A p s m meth c cJ7_fill_53178 4 none wsJ7_fill_53178 RJ7 args) (aAd : Nat → Nat) (a_n : Nat) (x1 x3 : Int32) :
    ∀ (n : Nat) (a_f : Nat → Int32) (x2 : Int32) (z : (Nat → Int32)), f_J7_fill_53178_L5 a_n x1 x3 n a_f x2 = some z → (∀ (U : Heap) (locs : List Loc) (ls : Array Slot), Gd D A s (w_Arr cy aAd a_n z) U locs → lv_has ls 4 [] → W p l e ({ frames := 0, cells := 0, slots := 0, locals := 0 } : Room) s m args below meth c U locs 0 0 Q (F0 m 20 ls [])) → ∀ (U : Heap) (locs : List Loc) (ls : Array Slot), Gd D A s (w_Arr cy aAd a_n a_f) U locs → lv_has ls 4 [(0, .ref (aAd 0)), (1, .int x1), (2, .int x2), (3, .int x3)] → W p l e ({ frames := 0, cells := 0, slots := 0, locals := 0 } : Room) s m args below meth c U locs 0 0 Q (F0 m 5 ls []) := by
  obtain ⟨hx, hb, hr, hml, hown, hts, hlk, hK, hA, hE⟩ := id C
  intro n
  induction n with
  | zero =>
    intro a_f x2 z H
    rw [f_J7_fill_53178_L5_z] at H
    cases H
  | succ n ih =>
    intro a_f x2 z H kk U locs ls G hl
    rw [f_J7_fill_53178_L5_s] at H
    refine lv_iload_n hx hb dJ7_fill_53178_5 rfl (lv_at hl 2 rfl) ?_
    refine lv_iload_n hx hb dJ7_fill_53178_6 rfl (lv_at hl 3 rfl) ?_
    refine lv_icmp_ge (tgt := 20) hx hb dJ7_fill_53178_7 (by decide) (fun c1 => ?_) (fun c1 => ?_)
    · have H := if_t H c1
      obtain rfl := Option.some.inj H
      exact kk _ _ _ G (lv_sub hl [] rfl)
    · have H := if_f H c1
      refine lv_aload_n hx hb dJ7_fill_53178_10 rfl (lv_at hl 0 rfl) ?_
      refine lv_iload_n hx hb dJ7_fill_53178_11 rfl (lv_at hl 2 rfl) ?_
      refine lv_iload_n hx hb dJ7_fill_53178_12 rfl (lv_at hl 1 rfl) ?_
      obtain ⟨hb2, H⟩ := gd_some H
      refine va_iast hx hb hK G.1 G.2.1 G.2.2 0 1 rfl rfl (inb_in hb2) dJ7_fill_53178_13 (fun U locs hP hD hS => ?_)
      have G : Gd D A s (w_Arr cy aAd a_n (upd a_f (ix x2) x1)) U locs := ⟨hP, hD, hS⟩
      refine lv_iinc (v := x2 + 1) (lv' := [(2, .int (x2 + 1)), (0, .ref (aAd 0)), (1, .int x1), (3, .int x3)]) hx hb dJ7_fill_53178_14 hl (k := 2) rfl rfl (by decide) rfl (fun ls hl => ?_)
      refine lv_goto (tgt := 5) hx hb dJ7_fill_53178_17 (by decide) ?_
      exact ih (upd a_f (ix x2) x1) (x2 + 1) z H kk _ _ _ G (lv_sub hl [1, 2, 0, 3] rfl)
def f_J7_fill_53178 (a_n : Nat) (a_f : Nat → Int32) (p1 : Int32) : Option (Nat → Int32) := bd (f_J7_fill_53178_L5 a_n p1 (Int32.ofNat a_n) 2000 a_f 0) (fun z3 => some z3)
set_option maxHeartbeats 4000000 in
set_option maxRecDepth 100000 in
theorem c_J7_fill_53178 (l : Launch) (D : va_G) (cy : Nat → ClassId) (aAd : Nat → Nat) (a_n : Nat) (a_f : Nat → Int32) (p1 : Int32) (z : (Nat → Int32)) (hz : f_J7_fill_53178 a_n a_f p1 = some z) : MV l yJ7_fill_53178 wsJ7_fill_53178 ({ frames := 0, cells := 0, slots := 0, locals := 0 } : Room) D cy [.ref (aAd 0), .int p1] (w_Arr cy aAd a_n a_f) (w_Arr cy aAd a_n z) := by
  refine met_startF (Qf := fun A => MQv D cy (w_Arr cy aAd a_n z) A) (cc := cJ7_fill_53178) (nL := 4) (ret := none) RJ7 rfl (by decide +kernel) rfl (Nat.le_of_ble_eq_true rfl) ?_
  intro p e s m below meth c A ls C G hl
  have hl : lv_has ls 4 [(0, .ref (aAd 0)), (1, .int p1)] := hl
  have H := hz
  unfold f_J7_fill_53178 at H
  obtain ⟨hx, hb, hr, hml, hown, hts, hlk, hK, hA, hE⟩ := id C
  refine lv_iconst (v := 0) hx hb dJ7_fill_53178_0 (by decide) ?_
  refine lv_istore_n (lv' := [(2, .int 0), (0, .ref (aAd 0)), (1, .int p1)]) hx hb dJ7_fill_53178_1 rfl hl (by decide) rfl (fun ls hl => ?_)
  refine lv_aload_n hx hb dJ7_fill_53178_2 rfl (lv_at hl 1 rfl) ?_
  refine va_alen hx hb hK G.1 0 1 rfl rfl (v := Int32.ofNat a_n) rfl dJ7_fill_53178_3 ?_
  refine lv_istore_n (lv' := [(3, .int (Int32.ofNat a_n)), (2, .int 0), (0, .ref (aAd 0)), (1, .int p1)]) hx hb dJ7_fill_53178_4 rfl hl (by decide) rfl (fun ls hl => ?_)
  obtain ⟨z3, hz3, H⟩ := bd_some H
  refine wl_J7_fill_53178_5 C aAd a_n p1 (Int32.ofNat a_n) _ a_f 0 z3 hz3 (fun U locs ls G hl => ?_) _ _ _ G (lv_sub hl [2, 3, 1, 0] rfl)
  have G : Gd D A s (w_Arr cy aAd a_n z3) U locs := G
  have hl : lv_has ls 4 [] := hl
  obtain rfl := Option.some.inj H
  exact ret_v C G dJ7_fill_53178_20
def f_X2_level (a_lev : Nat → Int32) (p1 : Int32) : Option Int32 := bd (f_J9_floorMod_7cf53 p1 12) (fun z1 => gd (inb z1 12) (some (a_lev (ix z1))))
set_option maxHeartbeats 4000000 in
set_option maxRecDepth 100000 in
theorem c_X2_level (l : Launch) (D : va_G) (cy : Nat → ClassId) (aAd : Nat → Nat) (a_wat : Int32) (a_lev a_kin a_cdp a_sil : Nat → Int32) (p1 : Int32) (z : Int32) (hz : f_X2_level a_lev p1 = some z) : MI l yX2_level wsX2_level ({ frames := 1, cells := 0, slots := 0, locals := 22 } : Room) D cy [.ref (aAd 0), .int p1] (w_Ch cy aAd a_wat a_lev a_kin a_cdp a_sil) z (w_Ch cy aAd a_wat a_lev a_kin a_cdp a_sil) := by
  refine met_start (Qf := fun A => MQi D cy z (w_Ch cy aAd a_wat a_lev a_kin a_cdp a_sil) A) (cc := cX2_level) (nL := 2) (ret := (some .int)) RX2 rfl (by decide) rfl (Nat.le_of_ble_eq_true rfl) ?_
  intro p e s m below meth c A ls C G hl
  have hl : lv_has ls 2 [(0, .ref (aAd 0)), (1, .int p1)] := hl
  have H := hz
  unfold f_X2_level at H
  obtain ⟨hx, hb, hr, hml, hown, hts, hlk, hK, hA, hE⟩ := id C
  have lk0 := hts (Cond.fieldLink RX2 9 "TideDebts$Chart" "levels" "[I") (List.mem_of_getElem? (i := 1) rfl)
  have hiX2 : ∀ w ∈ u_ws RX2 TX2 5, w ∈ wsX2_level := fun _ h => List.mem_cons_of_mem _ (List.mem_append_right _ h)
  refine lv_aload_n hx hb dX2_level_0 rfl (lv_at hl 0 rfl) ?_
  refine va_get (D := D) (ci := 2) (v := .ref (aAd 1)) (C := RX2) (T := TX2) (N := 5) hx hb hts hiX2 hown hK G.1 0 rfl rfl 0 (by decide) lk0 (fun _ h9 => h9) rfl dX2_level_1 ?_
  refine lv_iload_n hx hb dX2_level_4 rfl (lv_at hl 1 rfl) ?_
  refine lv_bipush (v := 12) hx hb dX2_level_5 (by decide) ?_
  obtain ⟨z1, hz1, H⟩ := bd_some H
  refine MI.callS z1 [.int p1, .int 12] [.ref (aAd 1)] [] C G (c_J9_floorMod_7cf53 l D cy p1 12 z1 hz1) gX2_level_J9_floorMod_7cf53 rfl rfl rfl (n := 2) (by decide +kernel) ⟨Nat.le_of_ble_eq_true rfl, Nat.le_of_ble_eq_true rfl⟩ rfl rfl rfl rfl hl.1 rfl (Nat.le_of_ble_eq_true rfl) dX2_level_7 ⟨Nat.zero_le _, Nat.zero_le _⟩ (fun U locs G => ?_)
  have G : Gd D A s (w_Ch cy aAd a_wat a_lev a_kin a_cdp a_sil) U locs := G
  obtain ⟨hb2, H⟩ := gd_some H
  refine g_iald (v := a_lev (ix z1)) hx hb hK G.1 1 1 rfl rfl hb2 rfl dX2_level_10 ?_
  obtain rfl := Option.some.inj H
  exact ret_i C G rfl dX2_level_11
def f_X2_rise (a_lev : Nat → Int32) (p1 : Int32) : Option Int32 := bd (f_X2_level a_lev (p1 + 1)) (fun z1 => bd (f_X2_level a_lev p1) (fun z2 => some (z1 - z2)))
set_option maxHeartbeats 4000000 in
set_option maxRecDepth 100000 in
theorem c_X2_rise (l : Launch) (D : va_G) (cy : Nat → ClassId) (aAd : Nat → Nat) (a_wat : Int32) (a_lev a_kin a_cdp a_sil : Nat → Int32) (p1 : Int32) (z : Int32) (hz : f_X2_rise a_lev p1 = some z) : MI l yX2_rise wsX2_rise ({ frames := 2, cells := 0, slots := 0, locals := 43 } : Room) D cy [.ref (aAd 0), .int p1] (w_Ch cy aAd a_wat a_lev a_kin a_cdp a_sil) z (w_Ch cy aAd a_wat a_lev a_kin a_cdp a_sil) := by
  refine met_start (Qf := fun A => MQi D cy z (w_Ch cy aAd a_wat a_lev a_kin a_cdp a_sil) A) (cc := cX2_rise) (nL := 2) (ret := (some .int)) RX2 rfl (by decide) rfl (Nat.le_of_ble_eq_true rfl) ?_
  intro p e s m below meth c A ls C G hl
  have hl : lv_has ls 2 [(0, .ref (aAd 0)), (1, .int p1)] := hl
  have H := hz
  unfold f_X2_rise at H
  obtain ⟨hx, hb, hr, hml, hown, hts, hlk, hK, hA, hE⟩ := id C
  refine lv_aload_n hx hb dX2_rise_0 rfl (lv_at hl 0 rfl) ?_
  refine lv_iload_n hx hb dX2_rise_1 rfl (lv_at hl 1 rfl) ?_
  refine lv_iconst (v := 1) hx hb dX2_rise_2 (by decide) ?_
  refine lv_iadd hx hb dX2_rise_3 ?_
  obtain ⟨z1, hz1, H⟩ := bd_some H
  refine MI.callVw z1 [.int (p1 + 1)] [] C G (c_X2_level l D cy aAd a_wat a_lev a_kin a_cdp a_sil (p1 + 1) z1 hz1) gX2_rise_X2_level rfl rfl rfl (n := 1) (by decide +kernel) ⟨Nat.le_of_ble_eq_true rfl, Nat.le_of_ble_eq_true rfl⟩ (q0 := 0) (ci := 2) rfl rfl rfl rfl hl.1 rfl (Nat.le_of_ble_eq_true rfl) dX2_rise_4 ⟨Nat.zero_le _, Nat.zero_le _⟩ (fun U locs G => ?_)
  have G : Gd D A s (w_Ch cy aAd a_wat a_lev a_kin a_cdp a_sil) U locs := G
  refine lv_aload_n hx hb dX2_rise_7 rfl (lv_at hl 0 rfl) ?_
  refine lv_iload_n hx hb dX2_rise_8 rfl (lv_at hl 1 rfl) ?_
  obtain ⟨z2, hz2, H⟩ := bd_some H
  refine MI.callVw z2 [.int p1] [.int z1] C G (c_X2_level l D cy aAd a_wat a_lev a_kin a_cdp a_sil p1 z2 hz2) gX2_rise_X2_level rfl rfl rfl (n := 1) (by decide +kernel) ⟨Nat.le_of_ble_eq_true rfl, Nat.le_of_ble_eq_true rfl⟩ (q0 := 0) (ci := 2) rfl rfl rfl rfl hl.1 rfl (Nat.le_of_ble_eq_true rfl) dX2_rise_9 ⟨Nat.zero_le _, Nat.zero_le _⟩ (fun U locs G => ?_)
  have G : Gd D A s (w_Ch cy aAd a_wat a_lev a_kin a_cdp a_sil) U locs := G
  refine lv_isub hx hb dX2_rise_12 ?_
  obtain rfl := Option.some.inj H
  exact ret_i C G rfl dX2_rise_13
def f_X2_flow (a_lev a_kin a_sil : Nat → Int32) (p1 p2 : Int32) : Option Int32 := gd (inb p1 6) (if (a_kin (ix p1)) = 1 then (bd (f_X2_rise a_lev p2) (fun z3 => some z3)) else (if (a_kin (ix p1)) = 2 then (bd (f_X2_rise a_lev p2) (fun z5 => some (z5 / 2))) else (if (a_kin (ix p1)) = 3 then (bd (f_X2_level a_lev (p2 + 1)) (fun z7 => if z7 < (a_sil (ix p1)) then (some 0) else (bd (f_X2_rise a_lev p2) (fun z9 => some z9)))) else (if (a_kin (ix p1)) = 5 then (bd (f_X2_rise a_lev (p2 - 1)) (fun z11 => some z11)) else (some 0)))))
set_option maxHeartbeats 4000000 in
set_option maxRecDepth 100000 in
theorem c_X2_flow (l : Launch) (D : va_G) (cy : Nat → ClassId) (aAd : Nat → Nat) (a_wat : Int32) (a_lev a_kin a_cdp a_sil : Nat → Int32) (p1 p2 : Int32) (z : Int32) (hz : f_X2_flow a_lev a_kin a_sil p1 p2 = some z) : MI l yX2_flow wsX2_flow ({ frames := 3, cells := 0, slots := 0, locals := 64 } : Room) D cy [.ref (aAd 0), .int p1, .int p2] (w_Ch cy aAd a_wat a_lev a_kin a_cdp a_sil) z (w_Ch cy aAd a_wat a_lev a_kin a_cdp a_sil) := by
  refine met_start (Qf := fun A => MQi D cy z (w_Ch cy aAd a_wat a_lev a_kin a_cdp a_sil) A) (cc := cX2_flow) (nL := 3) (ret := (some .int)) RX2 rfl (by decide) rfl (Nat.le_of_ble_eq_true rfl) ?_
  intro p e s m below meth c A ls C G hl
  have hl : lv_has ls 3 [(0, .ref (aAd 0)), (1, .int p1), (2, .int p2)] := hl
  have H := hz
  unfold f_X2_flow at H
  obtain ⟨hx, hb, hr, hml, hown, hts, hlk, hK, hA, hE⟩ := id C
  have lk0 := hts (Cond.fieldLink RX2 15 "TideDebts$Chart" "kinds" "[I") (List.mem_of_getElem? (i := 1) rfl)
  have lk1 := hts (Cond.fieldLink RX2 21 "TideDebts$Chart" "sills" "[I") (List.mem_of_getElem? (i := 2) rfl)
  have hiX2 : ∀ w ∈ u_ws RX2 TX2 5, w ∈ wsX2_flow := fun _ h => List.mem_cons_of_mem _ (List.mem_append_right _ h)
  refine lv_aload_n hx hb dX2_flow_0 rfl (lv_at hl 0 rfl) ?_
  refine va_get (D := D) (ci := 2) (v := .ref (aAd 2)) (C := RX2) (T := TX2) (N := 5) hx hb hts hiX2 hown hK G.1 0 rfl rfl 1 (by decide) lk0 (fun _ h9 => h9) rfl dX2_flow_1 ?_
  refine lv_iload_n hx hb dX2_flow_4 rfl (lv_at hl 1 rfl) ?_
  obtain ⟨hb1, H⟩ := gd_some H
  refine g_iald (v := a_kin (ix p1)) hx hb hK G.1 2 1 rfl rfl hb1 rfl dX2_flow_5 ?_
  by_cases c2 : a_kin (ix p1) = 1
  · have H := if_t H c2
    refine lv_tableIn (off := 34) (tgt := 40) hx hb dX2_flow_6 (by rw [c2]; decide) (by rw [c2]; decide) (by rw [c2]; decide) (by decide) ?_
    refine lv_aload_n hx hb dX2_flow_40 rfl (lv_at hl 0 rfl) ?_
    refine lv_iload_n hx hb dX2_flow_41 rfl (lv_at hl 2 rfl) ?_
    obtain ⟨z3, hz3, H⟩ := bd_some H
    refine MI.callVw z3 [.int p2] [] C G (c_X2_rise l D cy aAd a_wat a_lev a_kin a_cdp a_sil p2 z3 hz3) gX2_flow_X2_rise rfl rfl rfl (n := 1) (by decide +kernel) ⟨Nat.le_of_ble_eq_true rfl, Nat.le_of_ble_eq_true rfl⟩ (q0 := 0) (ci := 2) rfl rfl rfl rfl hl.1 rfl (Nat.le_of_ble_eq_true rfl) dX2_flow_42 ⟨Nat.zero_le _, Nat.zero_le _⟩ (fun U locs G => ?_)
    have G : Gd D A s (w_Ch cy aAd a_wat a_lev a_kin a_cdp a_sil) U locs := G
    obtain rfl := Option.some.inj H
    exact ret_i C G rfl dX2_flow_45
  · have H := if_f H c2
    by_cases c4 : a_kin (ix p1) = 2
    · have H := if_t H c4
      refine lv_tableIn (off := 40) (tgt := 46) hx hb dX2_flow_6 (by rw [c4]; decide) (by rw [c4]; decide) (by rw [c4]; decide) (by decide) ?_
      refine lv_aload_n hx hb dX2_flow_46 rfl (lv_at hl 0 rfl) ?_
      refine lv_iload_n hx hb dX2_flow_47 rfl (lv_at hl 2 rfl) ?_
      obtain ⟨z5, hz5, H⟩ := bd_some H
      refine MI.callVw z5 [.int p2] [] C G (c_X2_rise l D cy aAd a_wat a_lev a_kin a_cdp a_sil p2 z5 hz5) gX2_flow_X2_rise rfl rfl rfl (n := 1) (by decide +kernel) ⟨Nat.le_of_ble_eq_true rfl, Nat.le_of_ble_eq_true rfl⟩ (q0 := 0) (ci := 2) rfl rfl rfl rfl hl.1 rfl (Nat.le_of_ble_eq_true rfl) dX2_flow_48 ⟨Nat.zero_le _, Nat.zero_le _⟩ (fun U locs G => ?_)
      have G : Gd D A s (w_Ch cy aAd a_wat a_lev a_kin a_cdp a_sil) U locs := G
      refine lv_iconst (v := 2) hx hb dX2_flow_51 (by decide) ?_
      refine lv_idiv hx hb dX2_flow_52 (by decide) ?_
      obtain rfl := Option.some.inj H
      exact ret_i C G rfl dX2_flow_53
    · have H := if_f H c4
      by_cases c6 : a_kin (ix p1) = 3
      · have H := if_t H c6
        refine lv_tableIn (off := 48) (tgt := 54) hx hb dX2_flow_6 (by rw [c6]; decide) (by rw [c6]; decide) (by rw [c6]; decide) (by decide) ?_
        refine lv_aload_n hx hb dX2_flow_54 rfl (lv_at hl 0 rfl) ?_
        refine lv_iload_n hx hb dX2_flow_55 rfl (lv_at hl 2 rfl) ?_
        refine lv_iconst (v := 1) hx hb dX2_flow_56 (by decide) ?_
        refine lv_iadd hx hb dX2_flow_57 ?_
        obtain ⟨z7, hz7, H⟩ := bd_some H
        refine MI.callVw z7 [.int (p2 + 1)] [] C G (c_X2_level l D cy aAd a_wat a_lev a_kin a_cdp a_sil (p2 + 1) z7 hz7) gX2_flow_X2_level rfl rfl rfl (n := 1) (by decide +kernel) ⟨Nat.le_of_ble_eq_true rfl, Nat.le_of_ble_eq_true rfl⟩ (q0 := 0) (ci := 2) rfl rfl rfl rfl hl.1 rfl (Nat.le_of_ble_eq_true rfl) dX2_flow_58 ⟨Nat.zero_le _, Nat.zero_le _⟩ (fun U locs G => ?_)
        have G : Gd D A s (w_Ch cy aAd a_wat a_lev a_kin a_cdp a_sil) U locs := G
        refine lv_aload_n hx hb dX2_flow_61 rfl (lv_at hl 0 rfl) ?_
        refine va_get (D := D) (ci := 2) (v := .ref (aAd 4)) (C := RX2) (T := TX2) (N := 5) hx hb hts hiX2 hown hK G.1 0 rfl rfl 3 (by decide) lk1 (fun _ h9 => h9) rfl dX2_flow_62 ?_
        refine lv_iload_n hx hb dX2_flow_65 rfl (lv_at hl 1 rfl) ?_
        refine g_iald (v := a_sil (ix p1)) hx hb hK G.1 4 1 rfl rfl hb1 rfl dX2_flow_66 ?_
        refine lv_icmp_lt (tgt := 78) hx hb dX2_flow_67 (by decide) (fun c8 => ?_) (fun c8 => ?_)
        · have H := if_t H c8
          refine lv_iconst (v := 0) hx hb dX2_flow_78 (by decide) ?_
          obtain rfl := Option.some.inj H
          exact ret_i C G rfl dX2_flow_79
        · have H := if_f H c8
          refine lv_aload_n hx hb dX2_flow_70 rfl (lv_at hl 0 rfl) ?_
          refine lv_iload_n hx hb dX2_flow_71 rfl (lv_at hl 2 rfl) ?_
          obtain ⟨z9, hz9, H⟩ := bd_some H
          refine MI.callVw z9 [.int p2] [] C G (c_X2_rise l D cy aAd a_wat a_lev a_kin a_cdp a_sil p2 z9 hz9) gX2_flow_X2_rise rfl rfl rfl (n := 1) (by decide +kernel) ⟨Nat.le_of_ble_eq_true rfl, Nat.le_of_ble_eq_true rfl⟩ (q0 := 0) (ci := 2) rfl rfl rfl rfl hl.1 rfl (Nat.le_of_ble_eq_true rfl) dX2_flow_72 ⟨Nat.zero_le _, Nat.zero_le _⟩ (fun U locs G => ?_)
          have G : Gd D A s (w_Ch cy aAd a_wat a_lev a_kin a_cdp a_sil) U locs := G
          refine lv_goto (tgt := 79) hx hb dX2_flow_75 (by decide) ?_
          obtain rfl := Option.some.inj H
          exact ret_i C G rfl dX2_flow_79
      · have H := if_f H c6
        by_cases c10 : a_kin (ix p1) = 5
        · have H := if_t H c10
          refine lv_tableIn (off := 74) (tgt := 80) hx hb dX2_flow_6 (by rw [c10]; decide) (by rw [c10]; decide) (by rw [c10]; decide) (by decide) ?_
          refine lv_aload_n hx hb dX2_flow_80 rfl (lv_at hl 0 rfl) ?_
          refine lv_iload_n hx hb dX2_flow_81 rfl (lv_at hl 2 rfl) ?_
          refine lv_iconst (v := 1) hx hb dX2_flow_82 (by decide) ?_
          refine lv_isub hx hb dX2_flow_83 ?_
          obtain ⟨z11, hz11, H⟩ := bd_some H
          refine MI.callVw z11 [.int (p2 - 1)] [] C G (c_X2_rise l D cy aAd a_wat a_lev a_kin a_cdp a_sil (p2 - 1) z11 hz11) gX2_flow_X2_rise rfl rfl rfl (n := 1) (by decide +kernel) ⟨Nat.le_of_ble_eq_true rfl, Nat.le_of_ble_eq_true rfl⟩ (q0 := 0) (ci := 2) rfl rfl rfl rfl hl.1 rfl (Nat.le_of_ble_eq_true rfl) dX2_flow_84 ⟨Nat.zero_le _, Nat.zero_le _⟩ (fun U locs G => ?_)
          have G : Gd D A s (w_Ch cy aAd a_wat a_lev a_kin a_cdp a_sil) U locs := G
          obtain rfl := Option.some.inj H
          exact ret_i C G rfl dX2_flow_87
        · have H := if_f H c10
          by_cases c12 : a_kin (ix p1) = 4
          · refine lv_tableIn (off := 82) (tgt := 88) hx hb dX2_flow_6 (by rw [c12]; decide) (by rw [c12]; decide) (by rw [c12]; decide) (by decide) ?_
            refine lv_iconst (v := 0) hx hb dX2_flow_88 (by decide) ?_
            obtain rfl := Option.some.inj H
            exact ret_i C G rfl dX2_flow_89
          have hout := sw_out (x := a_kin (ix p1)) (lo := 1) (hi := 5) (fun k h1 h2 => by
              have hk : k = 1 ∨ k = 2 ∨ k = 3 ∨ k = 4 ∨ k = 5 := by omega
              rcases hk with rfl | rfl | rfl | rfl | rfl
              · exact c2
              · exact c4
              · exact c6
              · exact c12
              · exact c10)
          refine lv_tableOut (tgt := 88) hx hb dX2_flow_6 hout (by decide) ?_
          refine lv_iconst (v := 0) hx hb dX2_flow_88 (by decide) ?_
          obtain rfl := Option.some.inj H
          exact ret_i C G rfl dX2_flow_89
def f_X2_add (a_wat : Int32) (a_kin a_cdp a_sil : Nat → Int32) (p1 p2 p3 : Int32) : Option (Int32 × (Nat → Int32) × (Nat → Int32) × (Nat → Int32)) := if a_wat < 6 then (gd (inb a_wat 6) (some (a_wat + 1, upd a_kin (ix a_wat) p1, upd a_cdp (ix a_wat) p2, upd a_sil (ix a_wat) p3))) else (some (a_wat, a_kin, a_cdp, a_sil))
set_option maxHeartbeats 4000000 in
set_option maxRecDepth 100000 in
theorem c_X2_add (l : Launch) (D : va_G) (cy : Nat → ClassId) (aAd : Nat → Nat) (a_wat : Int32) (a_lev a_kin a_cdp a_sil : Nat → Int32) (p1 p2 p3 : Int32) (z : (Int32 × (Nat → Int32) × (Nat → Int32) × (Nat → Int32))) (hz : f_X2_add a_wat a_kin a_cdp a_sil p1 p2 p3 = some z) : MV l yX2_add wsX2_add ({ frames := 0, cells := 0, slots := 0, locals := 0 } : Room) D cy [.ref (aAd 0), .int p1, .int p2, .int p3] (w_Ch cy aAd a_wat a_lev a_kin a_cdp a_sil) (w_Ch cy aAd z.1 a_lev z.2.1 z.2.2.1 z.2.2.2) := by
  refine met_start (Qf := fun A => MQv D cy (w_Ch cy aAd z.1 a_lev z.2.1 z.2.2.1 z.2.2.2) A) (cc := cX2_add) (nL := 4) (ret := none) RX2 rfl (by decide) rfl (Nat.le_of_ble_eq_true rfl) ?_
  intro p e s m below meth c A ls C G hl
  have hl : lv_has ls 4 [(0, .ref (aAd 0)), (1, .int p1), (2, .int p2), (3, .int p3)] := hl
  have H := hz
  unfold f_X2_add at H
  obtain ⟨hx, hb, hr, hml, hown, hts, hlk, hK, hA, hE⟩ := id C
  have lk0 := hts (Cond.fieldLink RX2 24 "TideDebts$Chart" "waters" "I") (List.mem_of_getElem? (i := 1) rfl)
  have lk1 := hts (Cond.fieldLink RX2 15 "TideDebts$Chart" "kinds" "[I") (List.mem_of_getElem? (i := 2) rfl)
  have lk2 := hts (Cond.fieldLink RX2 18 "TideDebts$Chart" "depths" "[I") (List.mem_of_getElem? (i := 3) rfl)
  have lk3 := hts (Cond.fieldLink RX2 21 "TideDebts$Chart" "sills" "[I") (List.mem_of_getElem? (i := 4) rfl)
  have hiX2 : ∀ w ∈ u_ws RX2 TX2 5, w ∈ wsX2_add := fun _ h => List.mem_cons_of_mem _ (List.mem_append_right _ h)
  refine lv_aload_n hx hb dX2_add_0 rfl (lv_at hl 0 rfl) ?_
  refine va_get (D := D) (ci := 2) (v := .int a_wat) (C := RX2) (T := TX2) (N := 5) hx hb hts hiX2 hown hK G.1 0 rfl rfl 4 (by decide) lk0 (fun _ h9 => h9) rfl dX2_add_1 ?_
  refine lv_bipush (v := 6) hx hb dX2_add_4 (by decide) ?_
  refine lv_icmp_lt (tgt := 10) hx hb dX2_add_6 (by decide) (fun c1 => ?_) (fun c1 => ?_)
  · have H := if_t H c1
    refine lv_aload_n hx hb dX2_add_10 rfl (lv_at hl 0 rfl) ?_
    refine va_get (D := D) (ci := 2) (v := .ref (aAd 2)) (C := RX2) (T := TX2) (N := 5) hx hb hts hiX2 hown hK G.1 0 rfl rfl 1 (by decide) lk1 (fun _ h9 => h9) rfl dX2_add_11 ?_
    refine lv_aload_n hx hb dX2_add_14 rfl (lv_at hl 0 rfl) ?_
    refine va_get (D := D) (ci := 2) (v := .int a_wat) (C := RX2) (T := TX2) (N := 5) hx hb hts hiX2 hown hK G.1 0 rfl rfl 4 (by decide) lk0 (fun _ h9 => h9) rfl dX2_add_15 ?_
    refine lv_iload_n hx hb dX2_add_18 rfl (lv_at hl 1 rfl) ?_
    obtain ⟨hb2, H⟩ := gd_some H
    refine va_iast hx hb hK G.1 G.2.1 G.2.2 2 1 rfl rfl (inb_in hb2) dX2_add_19 (fun U locs hP hD hS => ?_)
    have G : Gd D A s (w_Ch cy aAd a_wat a_lev (upd a_kin (ix a_wat) p1) a_cdp a_sil) U locs := ⟨hP, hD, hS⟩
    refine lv_aload_n hx hb dX2_add_20 rfl (lv_at hl 0 rfl) ?_
    refine va_get (D := D) (ci := 2) (v := .ref (aAd 3)) (C := RX2) (T := TX2) (N := 5) hx hb hts hiX2 hown hK G.1 0 rfl rfl 2 (by decide) lk2 (fun _ h9 => h9) rfl dX2_add_21 ?_
    refine lv_aload_n hx hb dX2_add_24 rfl (lv_at hl 0 rfl) ?_
    refine va_get (D := D) (ci := 2) (v := .int a_wat) (C := RX2) (T := TX2) (N := 5) hx hb hts hiX2 hown hK G.1 0 rfl rfl 4 (by decide) lk0 (fun _ h9 => h9) rfl dX2_add_25 ?_
    refine lv_iload_n hx hb dX2_add_28 rfl (lv_at hl 2 rfl) ?_
    refine va_iast hx hb hK G.1 G.2.1 G.2.2 3 1 rfl rfl (inb_in hb2) dX2_add_29 (fun U locs hP hD hS => ?_)
    have G : Gd D A s (w_Ch cy aAd a_wat a_lev (upd a_kin (ix a_wat) p1) (upd a_cdp (ix a_wat) p2) a_sil) U locs := ⟨hP, hD, hS⟩
    refine lv_aload_n hx hb dX2_add_30 rfl (lv_at hl 0 rfl) ?_
    refine va_get (D := D) (ci := 2) (v := .ref (aAd 4)) (C := RX2) (T := TX2) (N := 5) hx hb hts hiX2 hown hK G.1 0 rfl rfl 3 (by decide) lk3 (fun _ h9 => h9) rfl dX2_add_31 ?_
    refine lv_aload_n hx hb dX2_add_34 rfl (lv_at hl 0 rfl) ?_
    refine va_get (D := D) (ci := 2) (v := .int a_wat) (C := RX2) (T := TX2) (N := 5) hx hb hts hiX2 hown hK G.1 0 rfl rfl 4 (by decide) lk0 (fun _ h9 => h9) rfl dX2_add_35 ?_
    refine lv_iload_n hx hb dX2_add_38 rfl (lv_at hl 3 rfl) ?_
    refine va_iast hx hb hK G.1 G.2.1 G.2.2 4 1 rfl rfl (inb_in hb2) dX2_add_39 (fun U locs hP hD hS => ?_)
    have G : Gd D A s (w_Ch cy aAd a_wat a_lev (upd a_kin (ix a_wat) p1) (upd a_cdp (ix a_wat) p2) (upd a_sil (ix a_wat) p3)) U locs := ⟨hP, hD, hS⟩
    refine lv_aload_n hx hb dX2_add_40 rfl (lv_at hl 0 rfl) ?_
    refine lv_dup hx hb dX2_add_41 rfl ?_
    refine va_get (D := D) (ci := 2) (v := .int a_wat) (C := RX2) (T := TX2) (N := 5) hx hb hts hiX2 hown hK G.1 0 rfl rfl 4 (by decide) lk0 (fun _ h9 => h9) rfl dX2_add_42 ?_
    refine lv_iconst (v := 1) hx hb dX2_add_45 (by decide) ?_
    refine lv_iadd hx hb dX2_add_46 ?_
    refine va_put (D := D) (ci := 2) (v := .int (a_wat + 1)) (ty := .int) (C := RX2) (T := TX2) (N := 5) hx hb hts hiX2 tyX2 tyX2_ok nmX2 hown hK G.1 G.2.1 G.2.2 0 rfl rfl 4 (by decide) lk0 (fun _ h9 => h9) rfl (tyX2_ok 4 (by decide)) rfl rfl (Nat.le_of_ble_eq_true rfl) dX2_add_47 (fun U locs hP hD hS => ?_)
    have G : Gd D A s (w_Ch cy aAd (a_wat + 1) a_lev (upd a_kin (ix a_wat) p1) (upd a_cdp (ix a_wat) p2) (upd a_sil (ix a_wat) p3)) U locs := ⟨hP, hD, hS⟩
    obtain rfl := Option.some.inj H
    exact ret_v C G dX2_add_50
  · have H := if_f H c1
    obtain rfl := Option.some.inj H
    exact ret_v C G dX2_add_9
def f_X2_takeFrom (a_wat : Int32) (a_lev a_kin a_cdp a_sil : Nat → Int32) (b_wat : Int32) (b_lev b_kin b_cdp b_sil : Nat → Int32) : Option (Int32 × (Nat → Int32) × (Nat → Int32) × (Nat → Int32) × (Nat → Int32)) := some (b_wat, va_cpy b_lev a_lev 0 0 12, va_cpy b_kin a_kin 0 0 6, va_cpy b_cdp a_cdp 0 0 6, va_cpy b_sil a_sil 0 0 6)
set_option maxHeartbeats 4000000 in
set_option maxRecDepth 100000 in
theorem c_X2_takeFrom (l : Launch) (D : va_G) (cy : Nat → ClassId) (aAd : Nat → Nat) (bAd : Nat → Nat) (a_wat : Int32) (a_lev a_kin a_cdp a_sil : Nat → Int32) (b_wat : Int32) (b_lev b_kin b_cdp b_sil : Nat → Int32) (z : (Int32 × (Nat → Int32) × (Nat → Int32) × (Nat → Int32) × (Nat → Int32))) (hz : f_X2_takeFrom a_wat a_lev a_kin a_cdp a_sil b_wat b_lev b_kin b_cdp b_sil = some z) : MV l yX2_takeFrom wsX2_takeFrom ({ frames := 1, cells := 0, slots := 0, locals := 60 } : Room) D cy [.ref (aAd 0), .ref (bAd 0)] (w_Ch cy aAd a_wat a_lev a_kin a_cdp a_sil ++ w_Ch cy bAd b_wat b_lev b_kin b_cdp b_sil) (w_Ch cy aAd z.1 z.2.1 z.2.2.1 z.2.2.2.1 z.2.2.2.2 ++ w_Ch cy bAd b_wat b_lev b_kin b_cdp b_sil) := by
  refine met_start (Qf := fun A => MQv D cy (w_Ch cy aAd z.1 z.2.1 z.2.2.1 z.2.2.2.1 z.2.2.2.2 ++ w_Ch cy bAd b_wat b_lev b_kin b_cdp b_sil) A) (cc := cX2_takeFrom) (nL := 2) (ret := none) RX2 rfl (by decide) rfl (Nat.le_of_ble_eq_true rfl) ?_
  intro p e s m below meth c A ls C G hl
  have hl : lv_has ls 2 [(0, .ref (aAd 0)), (1, .ref (bAd 0))] := hl
  have H := hz
  unfold f_X2_takeFrom at H
  obtain ⟨hx, hb, hr, hml, hown, hts, hlk, hK, hA, hE⟩ := id C
  have lk0 := hts (Cond.fieldLink RX2 9 "TideDebts$Chart" "levels" "[I") (List.mem_of_getElem? (i := 1) rfl)
  have lk1 := hts (Cond.methodLink RX2 28 arraycopyName) (List.mem_of_getElem? (i := 2) rfl)
  have lk2 := hts (Cond.native arraycopyName) (List.mem_of_getElem? (i := 3) rfl)
  have lk3 := hts (Cond.static arraycopyName) (List.mem_of_getElem? (i := 4) rfl)
  have lk4 := hts (Cond.initialized "java/lang/System") (List.mem_of_getElem? (i := 5) rfl)
  have lk5 := hts (Cond.fieldLink RX2 15 "TideDebts$Chart" "kinds" "[I") (List.mem_of_getElem? (i := 6) rfl)
  have lk6 := hts (Cond.fieldLink RX2 18 "TideDebts$Chart" "depths" "[I") (List.mem_of_getElem? (i := 7) rfl)
  have lk7 := hts (Cond.fieldLink RX2 21 "TideDebts$Chart" "sills" "[I") (List.mem_of_getElem? (i := 8) rfl)
  have lk8 := hts (Cond.fieldLink RX2 24 "TideDebts$Chart" "waters" "I") (List.mem_of_getElem? (i := 9) rfl)
  have hiX2 : ∀ w ∈ u_ws RX2 TX2 5, w ∈ wsX2_takeFrom := fun _ h => List.mem_cons_of_mem _ (List.mem_append_right _ h)
  refine lv_aload_n hx hb dX2_takeFrom_0 rfl (lv_at hl 1 rfl) ?_
  refine va_get (D := D) (ci := 2) (v := .ref (bAd 1)) (C := RX2) (T := TX2) (N := 5) hx hb hts hiX2 hown hK G.1 5 rfl rfl 0 (by decide) lk0 (fun _ h9 => h9) rfl dX2_takeFrom_1 ?_
  refine lv_iconst (v := 0) hx hb dX2_takeFrom_4 (by decide) ?_
  refine lv_aload_n hx hb dX2_takeFrom_5 rfl (lv_at hl 0 rfl) ?_
  refine va_get (D := D) (ci := 2) (v := .ref (aAd 1)) (C := RX2) (T := TX2) (N := 5) hx hb hts hiX2 hown hK G.1 0 rfl rfl 0 (by decide) lk0 (fun _ h9 => h9) rfl dX2_takeFrom_6 ?_
  refine lv_iconst (v := 0) hx hb dX2_takeFrom_9 (by decide) ?_
  refine lv_bipush (v := 12) hx hb dX2_takeFrom_10 (by decide) ?_
  refine va_copyi hx hb (hml.trans hl.1.symm) hown lk1 lk2 lk3 lk4 hK G.1 G.2.1 G.2.2 6 1 1 1 rfl rfl rfl rfl rfl (by decide) (by decide) (by decide) (by decide) (by decide) (fun _ _ => rfl) (Nat.le_of_ble_eq_true rfl) (Nat.le_of_ble_eq_true rfl) dX2_takeFrom_12 (fun U locs hP hD hS => ?_)
  have G : Gd D A s (w_Ch cy aAd a_wat (va_cpy b_lev a_lev 0 0 12) a_kin a_cdp a_sil ++ w_Ch cy bAd b_wat b_lev b_kin b_cdp b_sil) U locs := ⟨hP, hD, hS⟩
  refine lv_aload_n hx hb dX2_takeFrom_15 rfl (lv_at hl 1 rfl) ?_
  refine va_get (D := D) (ci := 2) (v := .ref (bAd 2)) (C := RX2) (T := TX2) (N := 5) hx hb hts hiX2 hown hK G.1 5 rfl rfl 1 (by decide) lk5 (fun _ h9 => h9) rfl dX2_takeFrom_16 ?_
  refine lv_iconst (v := 0) hx hb dX2_takeFrom_19 (by decide) ?_
  refine lv_aload_n hx hb dX2_takeFrom_20 rfl (lv_at hl 0 rfl) ?_
  refine va_get (D := D) (ci := 2) (v := .ref (aAd 2)) (C := RX2) (T := TX2) (N := 5) hx hb hts hiX2 hown hK G.1 0 rfl rfl 1 (by decide) lk5 (fun _ h9 => h9) rfl dX2_takeFrom_21 ?_
  refine lv_iconst (v := 0) hx hb dX2_takeFrom_24 (by decide) ?_
  refine lv_bipush (v := 6) hx hb dX2_takeFrom_25 (by decide) ?_
  refine va_copyi hx hb (hml.trans hl.1.symm) hown lk1 lk2 lk3 lk4 hK G.1 G.2.1 G.2.2 7 2 1 1 rfl rfl rfl rfl rfl (by decide) (by decide) (by decide) (by decide) (by decide) (fun _ _ => rfl) (Nat.le_of_ble_eq_true rfl) (Nat.le_of_ble_eq_true rfl) dX2_takeFrom_27 (fun U locs hP hD hS => ?_)
  have G : Gd D A s (w_Ch cy aAd a_wat (va_cpy b_lev a_lev 0 0 12) (va_cpy b_kin a_kin 0 0 6) a_cdp a_sil ++ w_Ch cy bAd b_wat b_lev b_kin b_cdp b_sil) U locs := ⟨hP, hD, hS⟩
  refine lv_aload_n hx hb dX2_takeFrom_30 rfl (lv_at hl 1 rfl) ?_
  refine va_get (D := D) (ci := 2) (v := .ref (bAd 3)) (C := RX2) (T := TX2) (N := 5) hx hb hts hiX2 hown hK G.1 5 rfl rfl 2 (by decide) lk6 (fun _ h9 => h9) rfl dX2_takeFrom_31 ?_
  refine lv_iconst (v := 0) hx hb dX2_takeFrom_34 (by decide) ?_
  refine lv_aload_n hx hb dX2_takeFrom_35 rfl (lv_at hl 0 rfl) ?_
  refine va_get (D := D) (ci := 2) (v := .ref (aAd 3)) (C := RX2) (T := TX2) (N := 5) hx hb hts hiX2 hown hK G.1 0 rfl rfl 2 (by decide) lk6 (fun _ h9 => h9) rfl dX2_takeFrom_36 ?_
  refine lv_iconst (v := 0) hx hb dX2_takeFrom_39 (by decide) ?_
  refine lv_bipush (v := 6) hx hb dX2_takeFrom_40 (by decide) ?_
  refine va_copyi hx hb (hml.trans hl.1.symm) hown lk1 lk2 lk3 lk4 hK G.1 G.2.1 G.2.2 8 3 1 1 rfl rfl rfl rfl rfl (by decide) (by decide) (by decide) (by decide) (by decide) (fun _ _ => rfl) (Nat.le_of_ble_eq_true rfl) (Nat.le_of_ble_eq_true rfl) dX2_takeFrom_42 (fun U locs hP hD hS => ?_)
  have G : Gd D A s (w_Ch cy aAd a_wat (va_cpy b_lev a_lev 0 0 12) (va_cpy b_kin a_kin 0 0 6) (va_cpy b_cdp a_cdp 0 0 6) a_sil ++ w_Ch cy bAd b_wat b_lev b_kin b_cdp b_sil) U locs := ⟨hP, hD, hS⟩
  refine lv_aload_n hx hb dX2_takeFrom_45 rfl (lv_at hl 1 rfl) ?_
  refine va_get (D := D) (ci := 2) (v := .ref (bAd 4)) (C := RX2) (T := TX2) (N := 5) hx hb hts hiX2 hown hK G.1 5 rfl rfl 3 (by decide) lk7 (fun _ h9 => h9) rfl dX2_takeFrom_46 ?_
  refine lv_iconst (v := 0) hx hb dX2_takeFrom_49 (by decide) ?_
  refine lv_aload_n hx hb dX2_takeFrom_50 rfl (lv_at hl 0 rfl) ?_
  refine va_get (D := D) (ci := 2) (v := .ref (aAd 4)) (C := RX2) (T := TX2) (N := 5) hx hb hts hiX2 hown hK G.1 0 rfl rfl 3 (by decide) lk7 (fun _ h9 => h9) rfl dX2_takeFrom_51 ?_
  refine lv_iconst (v := 0) hx hb dX2_takeFrom_54 (by decide) ?_
  refine lv_bipush (v := 6) hx hb dX2_takeFrom_55 (by decide) ?_
  refine va_copyi hx hb (hml.trans hl.1.symm) hown lk1 lk2 lk3 lk4 hK G.1 G.2.1 G.2.2 9 4 1 1 rfl rfl rfl rfl rfl (by decide) (by decide) (by decide) (by decide) (by decide) (fun _ _ => rfl) (Nat.le_of_ble_eq_true rfl) (Nat.le_of_ble_eq_true rfl) dX2_takeFrom_57 (fun U locs hP hD hS => ?_)
  have G : Gd D A s (w_Ch cy aAd a_wat (va_cpy b_lev a_lev 0 0 12) (va_cpy b_kin a_kin 0 0 6) (va_cpy b_cdp a_cdp 0 0 6) (va_cpy b_sil a_sil 0 0 6) ++ w_Ch cy bAd b_wat b_lev b_kin b_cdp b_sil) U locs := ⟨hP, hD, hS⟩
  refine lv_aload_n hx hb dX2_takeFrom_60 rfl (lv_at hl 0 rfl) ?_
  refine lv_aload_n hx hb dX2_takeFrom_61 rfl (lv_at hl 1 rfl) ?_
  refine va_get (D := D) (ci := 2) (v := .int b_wat) (C := RX2) (T := TX2) (N := 5) hx hb hts hiX2 hown hK G.1 5 rfl rfl 4 (by decide) lk8 (fun _ h9 => h9) rfl dX2_takeFrom_62 ?_
  refine va_put (D := D) (ci := 2) (v := .int b_wat) (ty := .int) (C := RX2) (T := TX2) (N := 5) hx hb hts hiX2 tyX2 tyX2_ok nmX2 hown hK G.1 G.2.1 G.2.2 0 rfl rfl 4 (by decide) lk8 (fun _ h9 => h9) rfl (tyX2_ok 4 (by decide)) rfl rfl (Nat.le_of_ble_eq_true rfl) dX2_takeFrom_65 (fun U locs hP hD hS => ?_)
  have G : Gd D A s (w_Ch cy aAd b_wat (va_cpy b_lev a_lev 0 0 12) (va_cpy b_kin a_kin 0 0 6) (va_cpy b_cdp a_cdp 0 0 6) (va_cpy b_sil a_sil 0 0 6) ++ w_Ch cy bAd b_wat b_lev b_kin b_cdp b_sil) U locs := ⟨hP, hD, hS⟩
  obtain rfl := Option.some.inj H
  exact ret_v C G dX2_takeFrom_68
def f_X3_debt (a_deb : Nat → Int32) (p1 p2 : Int32) : Option Int32 := gd (inb ((p1 * 6) + p2) 36) (some (a_deb (ix ((p1 * 6) + p2))))
set_option maxHeartbeats 4000000 in
set_option maxRecDepth 100000 in
theorem c_X3_debt (l : Launch) (D : va_G) (cy : Nat → ClassId) (aAd : Nat → Nat) (a_hour : Int32) (a_dep a_arr a_deb : Nat → Int32) (p1 p2 : Int32) (z : Int32) (hz : f_X3_debt a_deb p1 p2 = some z) : MI l yX3_debt wsX3_debt ({ frames := 0, cells := 0, slots := 0, locals := 0 } : Room) D cy [.ref (aAd 0), .int p1, .int p2] (w_Led cy aAd a_hour a_dep a_arr a_deb) z (w_Led cy aAd a_hour a_dep a_arr a_deb) := by
  refine met_start (Qf := fun A => MQi D cy z (w_Led cy aAd a_hour a_dep a_arr a_deb) A) (cc := cX3_debt) (nL := 3) (ret := (some .int)) RX3 rfl (by decide) rfl (Nat.le_of_ble_eq_true rfl) ?_
  intro p e s m below meth c A ls C G hl
  have hl : lv_has ls 3 [(0, .ref (aAd 0)), (1, .int p1), (2, .int p2)] := hl
  have H := hz
  unfold f_X3_debt at H
  obtain ⟨hx, hb, hr, hml, hown, hts, hlk, hK, hA, hE⟩ := id C
  have lk0 := hts (Cond.fieldLink RX3 18 "TideDebts$Ledger" "debts" "[I") (List.mem_of_getElem? (i := 1) rfl)
  have hiX3 : ∀ w ∈ u_ws RX3 TX3 4, w ∈ wsX3_debt := fun _ h => List.mem_cons_of_mem _ (List.mem_append_right _ h)
  refine lv_aload_n hx hb dX3_debt_0 rfl (lv_at hl 0 rfl) ?_
  refine va_get (D := D) (ci := 3) (v := .ref (aAd 3)) (C := RX3) (T := TX3) (N := 4) hx hb hts hiX3 hown hK G.1 0 rfl rfl 2 (by decide) lk0 (fun _ h9 => h9) rfl dX3_debt_1 ?_
  refine lv_iload_n hx hb dX3_debt_4 rfl (lv_at hl 1 rfl) ?_
  refine lv_bipush (v := 6) hx hb dX3_debt_5 (by decide) ?_
  refine lv_imul hx hb dX3_debt_7 ?_
  refine lv_iload_n hx hb dX3_debt_8 rfl (lv_at hl 2 rfl) ?_
  refine lv_iadd hx hb dX3_debt_9 ?_
  obtain ⟨hb1, H⟩ := gd_some H
  refine g_iald (v := a_deb (ix ((p1 * 6) + p2))) hx hb hK G.1 3 1 rfl rfl hb1 rfl dX3_debt_10 ?_
  obtain rfl := Option.some.inj H
  exact ret_i C G rfl dX3_debt_11
def f_X3_addDebt (a_deb : Nat → Int32) (p1 p2 p3 : Int32) : Option (Int32 × (Nat → Int32)) := gd (inb ((p1 * 6) + p2) 36) (bd (f_X3_debt (upd a_deb (ix ((p1 * 6) + p2)) ((a_deb (ix ((p1 * 6) + p2))) + p3)) p1 p2) (fun z2 => some (z2, upd a_deb (ix ((p1 * 6) + p2)) ((a_deb (ix ((p1 * 6) + p2))) + p3))))
set_option maxHeartbeats 4000000 in
set_option maxRecDepth 100000 in
theorem c_X3_addDebt (l : Launch) (D : va_G) (cy : Nat → ClassId) (aAd : Nat → Nat) (a_hour : Int32) (a_dep a_arr a_deb : Nat → Int32) (p1 p2 p3 : Int32) (z : (Int32 × (Nat → Int32))) (hz : f_X3_addDebt a_deb p1 p2 p3 = some z) : MI l yX3_addDebt wsX3_addDebt ({ frames := 1, cells := 0, slots := 0, locals := 22 } : Room) D cy [.ref (aAd 0), .int p1, .int p2, .int p3] (w_Led cy aAd a_hour a_dep a_arr a_deb) z.1 (w_Led cy aAd a_hour a_dep a_arr z.2) := by
  refine met_start (Qf := fun A => MQi D cy z.1 (w_Led cy aAd a_hour a_dep a_arr z.2) A) (cc := cX3_addDebt) (nL := 4) (ret := (some .int)) RX3 rfl (by decide) rfl (Nat.le_of_ble_eq_true rfl) ?_
  intro p e s m below meth c A ls C G hl
  have hl : lv_has ls 4 [(0, .ref (aAd 0)), (1, .int p1), (2, .int p2), (3, .int p3)] := hl
  have H := hz
  unfold f_X3_addDebt at H
  obtain ⟨hx, hb, hr, hml, hown, hts, hlk, hK, hA, hE⟩ := id C
  have lk0 := hts (Cond.fieldLink RX3 18 "TideDebts$Ledger" "debts" "[I") (List.mem_of_getElem? (i := 1) rfl)
  have hiX3 : ∀ w ∈ u_ws RX3 TX3 4, w ∈ wsX3_addDebt := fun _ h => List.mem_cons_of_mem _ (List.mem_append_right _ h)
  refine lv_aload_n hx hb dX3_addDebt_0 rfl (lv_at hl 0 rfl) ?_
  refine va_get (D := D) (ci := 3) (v := .ref (aAd 3)) (C := RX3) (T := TX3) (N := 4) hx hb hts hiX3 hown hK G.1 0 rfl rfl 2 (by decide) lk0 (fun _ h9 => h9) rfl dX3_addDebt_1 ?_
  refine lv_iload_n hx hb dX3_addDebt_4 rfl (lv_at hl 1 rfl) ?_
  refine lv_bipush (v := 6) hx hb dX3_addDebt_5 (by decide) ?_
  refine lv_imul hx hb dX3_addDebt_7 ?_
  refine lv_iload_n hx hb dX3_addDebt_8 rfl (lv_at hl 2 rfl) ?_
  refine lv_iadd hx hb dX3_addDebt_9 ?_
  refine lv_dup2_11 hx hb dX3_addDebt_10 rfl rfl ?_
  obtain ⟨hb1, H⟩ := gd_some H
  refine g_iald (v := a_deb (ix ((p1 * 6) + p2))) hx hb hK G.1 3 1 rfl rfl hb1 rfl dX3_addDebt_11 ?_
  refine lv_iload_n hx hb dX3_addDebt_12 rfl (lv_at hl 3 rfl) ?_
  refine lv_iadd hx hb dX3_addDebt_13 ?_
  refine va_iast hx hb hK G.1 G.2.1 G.2.2 3 1 rfl rfl (inb_in hb1) dX3_addDebt_14 (fun U locs hP hD hS => ?_)
  have G : Gd D A s (w_Led cy aAd a_hour a_dep a_arr (upd a_deb (ix ((p1 * 6) + p2)) ((a_deb (ix ((p1 * 6) + p2))) + p3))) U locs := ⟨hP, hD, hS⟩
  refine lv_aload_n hx hb dX3_addDebt_15 rfl (lv_at hl 0 rfl) ?_
  refine lv_iload_n hx hb dX3_addDebt_16 rfl (lv_at hl 1 rfl) ?_
  refine lv_iload_n hx hb dX3_addDebt_17 rfl (lv_at hl 2 rfl) ?_
  obtain ⟨z2, hz2, H⟩ := bd_some H
  refine MI.callVw z2 [.int p1, .int p2] [] C G (c_X3_debt l D cy aAd a_hour a_dep a_arr (upd a_deb (ix ((p1 * 6) + p2)) ((a_deb (ix ((p1 * 6) + p2))) + p3)) p1 p2 z2 hz2) gX3_addDebt_X3_debt rfl rfl rfl (n := 2) (by decide +kernel) ⟨Nat.le_of_ble_eq_true rfl, Nat.le_of_ble_eq_true rfl⟩ (q0 := 0) (ci := 3) rfl rfl rfl rfl hl.1 rfl (Nat.le_of_ble_eq_true rfl) dX3_addDebt_18 ⟨Nat.zero_le _, Nat.zero_le _⟩ (fun U locs G => ?_)
  have G : Gd D A s (w_Led cy aAd a_hour a_dep a_arr (upd a_deb (ix ((p1 * 6) + p2)) ((a_deb (ix ((p1 * 6) + p2))) + p3))) U locs := G
  obtain rfl := Option.some.inj H
  exact ret_i C G rfl dX3_addDebt_21
def f_X3_move (a_dep : Nat → Int32) (p1 p2 p3 : Int32) : Option (Nat → Int32) := gd (inb p1 6) (gd (inb p2 6) (some (upd (upd a_dep (ix p1) ((a_dep (ix p1)) - p3)) (ix p2) (((upd a_dep (ix p1) ((a_dep (ix p1)) - p3)) (ix p2)) + p3))))
set_option maxHeartbeats 4000000 in
set_option maxRecDepth 100000 in
theorem c_X3_move (l : Launch) (D : va_G) (cy : Nat → ClassId) (aAd : Nat → Nat) (a_hour : Int32) (a_dep a_arr a_deb : Nat → Int32) (p1 p2 p3 : Int32) (z : (Nat → Int32)) (hz : f_X3_move a_dep p1 p2 p3 = some z) : MV l yX3_move wsX3_move ({ frames := 0, cells := 0, slots := 0, locals := 0 } : Room) D cy [.ref (aAd 0), .int p1, .int p2, .int p3] (w_Led cy aAd a_hour a_dep a_arr a_deb) (w_Led cy aAd a_hour z a_arr a_deb) := by
  refine met_start (Qf := fun A => MQv D cy (w_Led cy aAd a_hour z a_arr a_deb) A) (cc := cX3_move) (nL := 4) (ret := none) RX3 rfl (by decide) rfl (Nat.le_of_ble_eq_true rfl) ?_
  intro p e s m below meth c A ls C G hl
  have hl : lv_has ls 4 [(0, .ref (aAd 0)), (1, .int p1), (2, .int p2), (3, .int p3)] := hl
  have H := hz
  unfold f_X3_move at H
  obtain ⟨hx, hb, hr, hml, hown, hts, hlk, hK, hA, hE⟩ := id C
  have lk0 := hts (Cond.fieldLink RX3 9 "TideDebts$Ledger" "depths" "[I") (List.mem_of_getElem? (i := 1) rfl)
  have hiX3 : ∀ w ∈ u_ws RX3 TX3 4, w ∈ wsX3_move := fun _ h => List.mem_cons_of_mem _ (List.mem_append_right _ h)
  refine lv_aload_n hx hb dX3_move_0 rfl (lv_at hl 0 rfl) ?_
  refine va_get (D := D) (ci := 3) (v := .ref (aAd 1)) (C := RX3) (T := TX3) (N := 4) hx hb hts hiX3 hown hK G.1 0 rfl rfl 0 (by decide) lk0 (fun _ h9 => h9) rfl dX3_move_1 ?_
  refine lv_iload_n hx hb dX3_move_4 rfl (lv_at hl 1 rfl) ?_
  refine lv_dup2_11 hx hb dX3_move_5 rfl rfl ?_
  obtain ⟨hb1, H⟩ := gd_some H
  refine g_iald (v := a_dep (ix p1)) hx hb hK G.1 1 1 rfl rfl hb1 rfl dX3_move_6 ?_
  refine lv_iload_n hx hb dX3_move_7 rfl (lv_at hl 3 rfl) ?_
  refine lv_isub hx hb dX3_move_8 ?_
  refine va_iast hx hb hK G.1 G.2.1 G.2.2 1 1 rfl rfl (inb_in hb1) dX3_move_9 (fun U locs hP hD hS => ?_)
  have G : Gd D A s (w_Led cy aAd a_hour (upd a_dep (ix p1) ((a_dep (ix p1)) - p3)) a_arr a_deb) U locs := ⟨hP, hD, hS⟩
  refine lv_aload_n hx hb dX3_move_10 rfl (lv_at hl 0 rfl) ?_
  refine va_get (D := D) (ci := 3) (v := .ref (aAd 1)) (C := RX3) (T := TX3) (N := 4) hx hb hts hiX3 hown hK G.1 0 rfl rfl 0 (by decide) lk0 (fun _ h9 => h9) rfl dX3_move_11 ?_
  refine lv_iload_n hx hb dX3_move_14 rfl (lv_at hl 2 rfl) ?_
  refine lv_dup2_11 hx hb dX3_move_15 rfl rfl ?_
  obtain ⟨hb2, H⟩ := gd_some H
  refine g_iald (v := (upd a_dep (ix p1) ((a_dep (ix p1)) - p3)) (ix p2)) hx hb hK G.1 1 1 rfl rfl hb2 rfl dX3_move_16 ?_
  refine lv_iload_n hx hb dX3_move_17 rfl (lv_at hl 3 rfl) ?_
  refine lv_iadd hx hb dX3_move_18 ?_
  refine va_iast hx hb hK G.1 G.2.1 G.2.2 1 1 rfl rfl (inb_in hb2) dX3_move_19 (fun U locs hP hD hS => ?_)
  have G : Gd D A s (w_Led cy aAd a_hour (upd (upd a_dep (ix p1) ((a_dep (ix p1)) - p3)) (ix p2) (((upd a_dep (ix p1) ((a_dep (ix p1)) - p3)) (ix p2)) + p3)) a_arr a_deb) U locs := ⟨hP, hD, hS⟩
  obtain rfl := Option.some.inj H
  exact ret_v C G dX3_move_20
def f_X3_takeOrGive (a_dep a_arr : Nat → Int32) (p1 p2 : Int32) : Option ((Nat → Int32) × (Nat → Int32)) := if p2 < 0 then (gd (inb p1 6) (nm (if (a_dep (ix p1)) < (-p2) then a_dep (ix p1) else -p2) (fun x3_3 => some (upd a_dep (ix p1) ((a_dep (ix p1)) - x3_3), upd a_arr (ix p1) ((a_arr (ix p1)) + ((-p2) - x3_3)))))) else (gd (inb p1 6) (nm (if (a_arr (ix p1)) < p2 then a_arr (ix p1) else p2) (fun x3_5 => some (upd a_dep (ix p1) ((a_dep (ix p1)) + (p2 - x3_5)), upd a_arr (ix p1) ((a_arr (ix p1)) - x3_5)))))
set_option maxHeartbeats 4000000 in
set_option maxRecDepth 100000 in
theorem c_X3_takeOrGive (l : Launch) (D : va_G) (cy : Nat → ClassId) (aAd : Nat → Nat) (a_hour : Int32) (a_dep a_arr a_deb : Nat → Int32) (p1 p2 : Int32) (z : ((Nat → Int32) × (Nat → Int32))) (hz : f_X3_takeOrGive a_dep a_arr p1 p2 = some z) : MV l yX3_takeOrGive wsX3_takeOrGive ({ frames := 1, cells := 0, slots := 0, locals := 21 } : Room) D cy [.ref (aAd 0), .int p1, .int p2] (w_Led cy aAd a_hour a_dep a_arr a_deb) (w_Led cy aAd a_hour z.1 z.2 a_deb) := by
  refine met_start (Qf := fun A => MQv D cy (w_Led cy aAd a_hour z.1 z.2 a_deb) A) (cc := cX3_takeOrGive) (nL := 4) (ret := none) RX3 rfl (by decide) rfl (Nat.le_of_ble_eq_true rfl) ?_
  intro p e s m below meth c A ls C G hl
  have hl : lv_has ls 4 [(0, .ref (aAd 0)), (1, .int p1), (2, .int p2)] := hl
  have H := hz
  unfold f_X3_takeOrGive at H
  obtain ⟨hx, hb, hr, hml, hown, hts, hlk, hK, hA, hE⟩ := id C
  have lk0 := hts (Cond.fieldLink RX3 9 "TideDebts$Ledger" "depths" "[I") (List.mem_of_getElem? (i := 6) rfl)
  have lk1 := hts (Cond.methodLink RX3 65 Lib.Math.min.name) (List.mem_of_getElem? (i := 2) rfl)
  have lk2 := hts (Cond.static Lib.Math.min.name) (List.mem_of_getElem? (i := 3) rfl)
  have lk3 := hts (Cond.initialized "java/lang/Math") (List.mem_of_getElem? (i := 4) rfl)
  have lk4 := hts (Cond.code Lib.Math.min.name Lib.Math.min.code 2 (some .int)) (List.mem_of_getElem? (i := 5) rfl)
  have lk5 := hts (Cond.fieldLink RX3 15 "TideDebts$Ledger" "arrears" "[I") (List.mem_of_getElem? (i := 1) rfl)
  have hiX3 : ∀ w ∈ u_ws RX3 TX3 4, w ∈ wsX3_takeOrGive := fun _ h => List.mem_cons_of_mem _ (List.mem_append_right _ h)
  refine lv_iload_n hx hb dX3_takeOrGive_0 rfl (lv_at hl 2 rfl) ?_
  refine lv_if_lt (tgt := 40) hx hb dX3_takeOrGive_1 (by decide) (fun c1 => ?_) (fun c1 => ?_)
  · have H := if_t H c1
    refine lv_iload_n hx hb dX3_takeOrGive_40 rfl (lv_at hl 2 rfl) ?_
    refine lv_ineg hx hb dX3_takeOrGive_41 ?_
    refine lv_aload_n hx hb dX3_takeOrGive_42 rfl (lv_at hl 0 rfl) ?_
    refine va_get (D := D) (ci := 3) (v := .ref (aAd 1)) (C := RX3) (T := TX3) (N := 4) hx hb hts hiX3 hown hK G.1 0 rfl rfl 0 (by decide) lk0 (fun _ h9 => h9) rfl dX3_takeOrGive_43 ?_
    refine lv_iload_n hx hb dX3_takeOrGive_46 rfl (lv_at hl 1 rfl) ?_
    obtain ⟨hb2, H⟩ := gd_some H
    refine g_iald (v := a_dep (ix p1)) hx hb hK G.1 1 1 rfl rfl hb2 rfl dX3_takeOrGive_47 ?_
    refine va_mmin hx hb (hml.trans hl.1.symm) hown lk1 lk2 lk3 lk4 (Nat.le_of_ble_eq_true rfl) (Nat.le_of_ble_eq_true rfl) (Nat.zero_le _) (Nat.zero_le _) dX3_takeOrGive_48 ?_
    refine lv_topi (fun x3_3 ex3_3 => ?_)
    have H := nm_h H ex3_3
    refine lv_istore_n (lv' := [(3, .int x3_3), (0, .ref (aAd 0)), (1, .int p1), (2, .int p2)]) hx hb dX3_takeOrGive_51 rfl hl (by decide) rfl (fun ls hl => ?_)
    refine lv_aload_n hx hb dX3_takeOrGive_52 rfl (lv_at hl 1 rfl) ?_
    refine va_get (D := D) (ci := 3) (v := .ref (aAd 1)) (C := RX3) (T := TX3) (N := 4) hx hb hts hiX3 hown hK G.1 0 rfl rfl 0 (by decide) lk0 (fun _ h9 => h9) rfl dX3_takeOrGive_53 ?_
    refine lv_iload_n hx hb dX3_takeOrGive_56 rfl (lv_at hl 2 rfl) ?_
    refine lv_dup2_11 hx hb dX3_takeOrGive_57 rfl rfl ?_
    refine g_iald (v := a_dep (ix p1)) hx hb hK G.1 1 1 rfl rfl hb2 rfl dX3_takeOrGive_58 ?_
    refine lv_iload_n hx hb dX3_takeOrGive_59 rfl (lv_at hl 0 rfl) ?_
    refine lv_isub hx hb dX3_takeOrGive_60 ?_
    refine va_iast hx hb hK G.1 G.2.1 G.2.2 1 1 rfl rfl (inb_in hb2) dX3_takeOrGive_61 (fun U locs hP hD hS => ?_)
    have G : Gd D A s (w_Led cy aAd a_hour (upd a_dep (ix p1) ((a_dep (ix p1)) - x3_3)) a_arr a_deb) U locs := ⟨hP, hD, hS⟩
    refine lv_aload_n hx hb dX3_takeOrGive_62 rfl (lv_at hl 1 rfl) ?_
    refine va_get (D := D) (ci := 3) (v := .ref (aAd 2)) (C := RX3) (T := TX3) (N := 4) hx hb hts hiX3 hown hK G.1 0 rfl rfl 1 (by decide) lk5 (fun _ h9 => h9) rfl dX3_takeOrGive_63 ?_
    refine lv_iload_n hx hb dX3_takeOrGive_66 rfl (lv_at hl 2 rfl) ?_
    refine lv_dup2_11 hx hb dX3_takeOrGive_67 rfl rfl ?_
    refine g_iald (v := a_arr (ix p1)) hx hb hK G.1 2 1 rfl rfl hb2 rfl dX3_takeOrGive_68 ?_
    refine lv_iload_n hx hb dX3_takeOrGive_69 rfl (lv_at hl 3 rfl) ?_
    refine lv_ineg hx hb dX3_takeOrGive_70 ?_
    refine lv_iload_n hx hb dX3_takeOrGive_71 rfl (lv_at hl 0 rfl) ?_
    refine lv_isub hx hb dX3_takeOrGive_72 ?_
    refine lv_iadd hx hb dX3_takeOrGive_73 ?_
    refine va_iast hx hb hK G.1 G.2.1 G.2.2 2 1 rfl rfl (inb_in hb2) dX3_takeOrGive_74 (fun U locs hP hD hS => ?_)
    have G : Gd D A s (w_Led cy aAd a_hour (upd a_dep (ix p1) ((a_dep (ix p1)) - x3_3)) (upd a_arr (ix p1) ((a_arr (ix p1)) + ((-p2) - x3_3))) a_deb) U locs := ⟨hP, hD, hS⟩
    obtain rfl := Option.some.inj H
    exact ret_v C G dX3_takeOrGive_75
  · have H := if_f H c1
    refine lv_iload_n hx hb dX3_takeOrGive_4 rfl (lv_at hl 2 rfl) ?_
    refine lv_aload_n hx hb dX3_takeOrGive_5 rfl (lv_at hl 0 rfl) ?_
    refine va_get (D := D) (ci := 3) (v := .ref (aAd 2)) (C := RX3) (T := TX3) (N := 4) hx hb hts hiX3 hown hK G.1 0 rfl rfl 1 (by decide) lk5 (fun _ h9 => h9) rfl dX3_takeOrGive_6 ?_
    refine lv_iload_n hx hb dX3_takeOrGive_9 rfl (lv_at hl 1 rfl) ?_
    obtain ⟨hb4, H⟩ := gd_some H
    refine g_iald (v := a_arr (ix p1)) hx hb hK G.1 2 1 rfl rfl hb4 rfl dX3_takeOrGive_10 ?_
    refine va_mmin hx hb (hml.trans hl.1.symm) hown lk1 lk2 lk3 lk4 (Nat.le_of_ble_eq_true rfl) (Nat.le_of_ble_eq_true rfl) (Nat.zero_le _) (Nat.zero_le _) dX3_takeOrGive_11 ?_
    refine lv_topi (fun x3_5 ex3_5 => ?_)
    have H := nm_h H ex3_5
    refine lv_istore_n (lv' := [(3, .int x3_5), (0, .ref (aAd 0)), (1, .int p1), (2, .int p2)]) hx hb dX3_takeOrGive_14 rfl hl (by decide) rfl (fun ls hl => ?_)
    refine lv_aload_n hx hb dX3_takeOrGive_15 rfl (lv_at hl 1 rfl) ?_
    refine va_get (D := D) (ci := 3) (v := .ref (aAd 2)) (C := RX3) (T := TX3) (N := 4) hx hb hts hiX3 hown hK G.1 0 rfl rfl 1 (by decide) lk5 (fun _ h9 => h9) rfl dX3_takeOrGive_16 ?_
    refine lv_iload_n hx hb dX3_takeOrGive_19 rfl (lv_at hl 2 rfl) ?_
    refine lv_dup2_11 hx hb dX3_takeOrGive_20 rfl rfl ?_
    refine g_iald (v := a_arr (ix p1)) hx hb hK G.1 2 1 rfl rfl hb4 rfl dX3_takeOrGive_21 ?_
    refine lv_iload_n hx hb dX3_takeOrGive_22 rfl (lv_at hl 0 rfl) ?_
    refine lv_isub hx hb dX3_takeOrGive_23 ?_
    refine va_iast hx hb hK G.1 G.2.1 G.2.2 2 1 rfl rfl (inb_in hb4) dX3_takeOrGive_24 (fun U locs hP hD hS => ?_)
    have G : Gd D A s (w_Led cy aAd a_hour a_dep (upd a_arr (ix p1) ((a_arr (ix p1)) - x3_5)) a_deb) U locs := ⟨hP, hD, hS⟩
    refine lv_aload_n hx hb dX3_takeOrGive_25 rfl (lv_at hl 1 rfl) ?_
    refine va_get (D := D) (ci := 3) (v := .ref (aAd 1)) (C := RX3) (T := TX3) (N := 4) hx hb hts hiX3 hown hK G.1 0 rfl rfl 0 (by decide) lk0 (fun _ h9 => h9) rfl dX3_takeOrGive_26 ?_
    refine lv_iload_n hx hb dX3_takeOrGive_29 rfl (lv_at hl 2 rfl) ?_
    refine lv_dup2_11 hx hb dX3_takeOrGive_30 rfl rfl ?_
    refine g_iald (v := a_dep (ix p1)) hx hb hK G.1 1 1 rfl rfl hb4 rfl dX3_takeOrGive_31 ?_
    refine lv_iload_n hx hb dX3_takeOrGive_32 rfl (lv_at hl 3 rfl) ?_
    refine lv_iload_n hx hb dX3_takeOrGive_33 rfl (lv_at hl 0 rfl) ?_
    refine lv_isub hx hb dX3_takeOrGive_34 ?_
    refine lv_iadd hx hb dX3_takeOrGive_35 ?_
    refine va_iast hx hb hK G.1 G.2.1 G.2.2 1 1 rfl rfl (inb_in hb4) dX3_takeOrGive_36 (fun U locs hP hD hS => ?_)
    have G : Gd D A s (w_Led cy aAd a_hour (upd a_dep (ix p1) ((a_dep (ix p1)) + (p2 - x3_5))) (upd a_arr (ix p1) ((a_arr (ix p1)) - x3_5)) a_deb) U locs := ⟨hP, hD, hS⟩
    refine lv_goto (tgt := 75) hx hb dX3_takeOrGive_37 (by decide) ?_
    obtain rfl := Option.some.inj H
    exact ret_v C G dX3_takeOrGive_75
def f_X3_growDebts_L2  : Nat → (Nat → Int32) → Int32 → Option (Nat → Int32)
  | 0, _, _ => none
  | n + 1, a_deb, x1 => if 36 ≤ x1 then (some a_deb) else (gd (inb x1 36) (f_X3_growDebts_L2 n (upd a_deb (ix x1) (if 9999 < ((a_deb (ix x1)) + ((a_deb (ix x1)) / 10)) then 9999 else (a_deb (ix x1)) + ((a_deb (ix x1)) / 10))) (x1 + 1)))
theorem f_X3_growDebts_L2_z  (a_deb : Nat → Int32) (x1 : Int32) : f_X3_growDebts_L2 0 a_deb x1 = none := rfl
theorem f_X3_growDebts_L2_s  (n : Nat) (a_deb : Nat → Int32) (x1 : Int32) : f_X3_growDebts_L2 (n + 1) a_deb x1 = if 36 ≤ x1 then (some a_deb) else (gd (inb x1 36) (f_X3_growDebts_L2 n (upd a_deb (ix x1) (if 9999 < ((a_deb (ix x1)) + ((a_deb (ix x1)) / 10)) then 9999 else (a_deb (ix x1)) + ((a_deb (ix x1)) / 10))) (x1 + 1))) := rfl
set_option maxHeartbeats 4000000 in
set_option maxRecDepth 100000 in
theorem wl_X3_growDebts_2 {p : Program} {l : Launch} {e : Env} {s : State} {m : MethodId} {below : List Frame} {meth : Method} {c : Code} {D : va_G} {cy : Nat → ClassId} {A : Nat → Prop} {args : Array Value} {Q : State → Prop} (C : Cx D cy A p s m meth c cX3_growDebts 2 none wsX3_growDebts RX3 args) (aAd : Nat → Nat) (a_hour : Int32) (a_dep a_arr : Nat → Int32) :
    ∀ (n : Nat) (a_deb : Nat → Int32) (x1 : Int32) (z : (Nat → Int32)), f_X3_growDebts_L2 n a_deb x1 = some z → (∀ (U : Heap) (locs : List Loc) (ls : Array Slot), Gd D A s (w_Led cy aAd a_hour a_dep a_arr z) U locs → lv_has ls 2 [] → W p l e ({ frames := 1, cells := 0, slots := 0, locals := 21 } : Room) s m args below meth c U locs 0 0 Q (F0 m 45 ls [])) → ∀ (U : Heap) (locs : List Loc) (ls : Array Slot), Gd D A s (w_Led cy aAd a_hour a_dep a_arr a_deb) U locs → lv_has ls 2 [(0, .ref (aAd 0)), (1, .int x1)] → W p l e ({ frames := 1, cells := 0, slots := 0, locals := 21 } : Room) s m args below meth c U locs 0 0 Q (F0 m 2 ls []) := by
  obtain ⟨hx, hb, hr, hml, hown, hts, hlk, hK, hA, hE⟩ := id C
  have lk0 := hts (Cond.fieldLink RX3 18 "TideDebts$Ledger" "debts" "[I") (List.mem_of_getElem? (i := 1) rfl)
  have lk1 := hts (Cond.methodLink RX3 65 Lib.Math.min.name) (List.mem_of_getElem? (i := 2) rfl)
  have lk2 := hts (Cond.static Lib.Math.min.name) (List.mem_of_getElem? (i := 3) rfl)
  have lk3 := hts (Cond.initialized "java/lang/Math") (List.mem_of_getElem? (i := 4) rfl)
  have lk4 := hts (Cond.code Lib.Math.min.name Lib.Math.min.code 2 (some .int)) (List.mem_of_getElem? (i := 5) rfl)
  have hiX3 : ∀ w ∈ u_ws RX3 TX3 4, w ∈ wsX3_growDebts := fun _ h => List.mem_cons_of_mem _ (List.mem_append_right _ h)
  intro n
  induction n with
  | zero =>
    intro a_deb x1 z H
    rw [f_X3_growDebts_L2_z] at H
    cases H
  | succ n ih =>
    intro a_deb x1 z H kk U locs ls G hl
    rw [f_X3_growDebts_L2_s] at H
    refine lv_iload_n hx hb dX3_growDebts_2 rfl (lv_at hl 1 rfl) ?_
    refine lv_aload_n hx hb dX3_growDebts_3 rfl (lv_at hl 0 rfl) ?_
    refine va_get (D := D) (ci := 3) (v := .ref (aAd 3)) (C := RX3) (T := TX3) (N := 4) hx hb hts hiX3 hown hK G.1 0 rfl rfl 2 (by decide) lk0 (fun _ h9 => h9) rfl dX3_growDebts_4 ?_
    refine va_alen hx hb hK G.1 3 1 rfl rfl (v := 36) rfl dX3_growDebts_7 ?_
    refine lv_icmp_ge (tgt := 45) hx hb dX3_growDebts_8 (by decide) (fun c1 => ?_) (fun c1 => ?_)
    · have H := if_t H c1
      obtain rfl := Option.some.inj H
      exact kk _ _ _ G (lv_sub hl [] rfl)
    · have H := if_f H c1
      refine lv_aload_n hx hb dX3_growDebts_11 rfl (lv_at hl 0 rfl) ?_
      refine va_get (D := D) (ci := 3) (v := .ref (aAd 3)) (C := RX3) (T := TX3) (N := 4) hx hb hts hiX3 hown hK G.1 0 rfl rfl 2 (by decide) lk0 (fun _ h9 => h9) rfl dX3_growDebts_12 ?_
      refine lv_iload_n hx hb dX3_growDebts_15 rfl (lv_at hl 1 rfl) ?_
      refine lv_aload_n hx hb dX3_growDebts_16 rfl (lv_at hl 0 rfl) ?_
      refine va_get (D := D) (ci := 3) (v := .ref (aAd 3)) (C := RX3) (T := TX3) (N := 4) hx hb hts hiX3 hown hK G.1 0 rfl rfl 2 (by decide) lk0 (fun _ h9 => h9) rfl dX3_growDebts_17 ?_
      refine lv_iload_n hx hb dX3_growDebts_20 rfl (lv_at hl 1 rfl) ?_
      obtain ⟨hb2, H⟩ := gd_some H
      refine g_iald (v := a_deb (ix x1)) hx hb hK G.1 3 1 rfl rfl hb2 rfl dX3_growDebts_21 ?_
      refine lv_aload_n hx hb dX3_growDebts_22 rfl (lv_at hl 0 rfl) ?_
      refine va_get (D := D) (ci := 3) (v := .ref (aAd 3)) (C := RX3) (T := TX3) (N := 4) hx hb hts hiX3 hown hK G.1 0 rfl rfl 2 (by decide) lk0 (fun _ h9 => h9) rfl dX3_growDebts_23 ?_
      refine lv_iload_n hx hb dX3_growDebts_26 rfl (lv_at hl 1 rfl) ?_
      refine g_iald (v := a_deb (ix x1)) hx hb hK G.1 3 1 rfl rfl hb2 rfl dX3_growDebts_27 ?_
      refine lv_bipush (v := 10) hx hb dX3_growDebts_28 (by decide) ?_
      refine lv_idiv hx hb dX3_growDebts_30 (by decide) ?_
      refine lv_iadd hx hb dX3_growDebts_31 ?_
      refine lv_sipush (v := 9999) hx hb dX3_growDebts_32 (by decide) ?_
      refine va_mmin hx hb (hml.trans hl.1.symm) hown lk1 lk2 lk3 lk4 (Nat.le_of_ble_eq_true rfl) (Nat.le_of_ble_eq_true rfl) (Nat.zero_le _) (Nat.zero_le _) dX3_growDebts_35 ?_
      refine va_iast hx hb hK G.1 G.2.1 G.2.2 3 1 rfl rfl (inb_in hb2) dX3_growDebts_38 (fun U locs hP hD hS => ?_)
      have G : Gd D A s (w_Led cy aAd a_hour a_dep a_arr (upd a_deb (ix x1) (if 9999 < ((a_deb (ix x1)) + ((a_deb (ix x1)) / 10)) then 9999 else (a_deb (ix x1)) + ((a_deb (ix x1)) / 10)))) U locs := ⟨hP, hD, hS⟩
      refine lv_iinc (v := x1 + 1) (lv' := [(1, .int (x1 + 1)), (0, .ref (aAd 0))]) hx hb dX3_growDebts_39 hl (k := 1) rfl rfl (by decide) rfl (fun ls hl => ?_)
      refine lv_goto (tgt := 2) hx hb dX3_growDebts_42 (by decide) ?_
      exact ih (upd a_deb (ix x1) (if 9999 < ((a_deb (ix x1)) + ((a_deb (ix x1)) / 10)) then 9999 else (a_deb (ix x1)) + ((a_deb (ix x1)) / 10))) (x1 + 1) z H kk _ _ _ G (lv_sub hl [1, 0] rfl)
def f_X3_growDebts (a_deb : Nat → Int32) : Option (Nat → Int32) := bd (f_X3_growDebts_L2 2000 a_deb 0) (fun z3 => some z3)
set_option maxHeartbeats 4000000 in
set_option maxRecDepth 100000 in
theorem c_X3_growDebts (l : Launch) (D : va_G) (cy : Nat → ClassId) (aAd : Nat → Nat) (a_hour : Int32) (a_dep a_arr a_deb : Nat → Int32) (z : (Nat → Int32)) (hz : f_X3_growDebts a_deb = some z) : MV l yX3_growDebts wsX3_growDebts ({ frames := 1, cells := 0, slots := 0, locals := 21 } : Room) D cy [.ref (aAd 0)] (w_Led cy aAd a_hour a_dep a_arr a_deb) (w_Led cy aAd a_hour a_dep a_arr z) := by
  refine met_start (Qf := fun A => MQv D cy (w_Led cy aAd a_hour a_dep a_arr z) A) (cc := cX3_growDebts) (nL := 2) (ret := none) RX3 rfl (by decide) rfl (Nat.le_of_ble_eq_true rfl) ?_
  intro p e s m below meth c A ls C G hl
  have hl : lv_has ls 2 [(0, .ref (aAd 0))] := hl
  have H := hz
  unfold f_X3_growDebts at H
  obtain ⟨hx, hb, hr, hml, hown, hts, hlk, hK, hA, hE⟩ := id C
  refine lv_iconst (v := 0) hx hb dX3_growDebts_0 (by decide) ?_
  refine lv_istore_n (lv' := [(1, .int 0), (0, .ref (aAd 0))]) hx hb dX3_growDebts_1 rfl hl (by decide) rfl (fun ls hl => ?_)
  obtain ⟨z3, hz3, H⟩ := bd_some H
  refine wl_X3_growDebts_2 C aAd a_hour a_dep a_arr _ a_deb 0 z3 hz3 (fun U locs ls G hl => ?_) _ _ _ G (lv_sub hl [1, 0] rfl)
  have G : Gd D A s (w_Led cy aAd a_hour a_dep a_arr z3) U locs := G
  have hl : lv_has ls 2 [] := hl
  obtain rfl := Option.some.inj H
  exact ret_v C G dX3_growDebts_45
def f_X3_advance_L9 (x2 : Int32) : Nat → (Nat → Int32) → (Nat → Int32) → Int64 → Int32 → Int32 → Option ((Nat → Int32) × (Nat → Int32) × Int32)
  | 0, _, _, _, _, _ => none
  | n + 1, a_dep, a_arr, x3, x5, x6 => if x2 ≤ x6 then (some (a_dep, a_arr, x5)) else (nm ((x3 * 16807) - (x3 * 16807) / 2147483647 * 2147483647) (fun x3_2 => gd (inb x6 6) (f_X3_advance_L9 x2 n (upd a_dep (ix x6) ((a_dep (ix x6)) + ((x3_2 - x3_2 / 9 * 9).toInt32))) (upd a_arr (ix x6) ((a_arr (ix x6)) + ((x3_2 - x3_2 / 9 * 9).toInt32))) x3_2 (x5 + ((x3_2 - x3_2 / 9 * 9).toInt32)) (x6 + 1))))
theorem f_X3_advance_L9_z (x2 : Int32) (a_dep a_arr : Nat → Int32) (x3 : Int64) (x5 x6 : Int32) : f_X3_advance_L9 x2 0 a_dep a_arr x3 x5 x6 = none := rfl
theorem f_X3_advance_L9_s (x2 : Int32) (n : Nat) (a_dep a_arr : Nat → Int32) (x3 : Int64) (x5 x6 : Int32) : f_X3_advance_L9 x2 (n + 1) a_dep a_arr x3 x5 x6 = if x2 ≤ x6 then (some (a_dep, a_arr, x5)) else (nm ((x3 * 16807) - (x3 * 16807) / 2147483647 * 2147483647) (fun x3_2 => gd (inb x6 6) (f_X3_advance_L9 x2 n (upd a_dep (ix x6) ((a_dep (ix x6)) + ((x3_2 - x3_2 / 9 * 9).toInt32))) (upd a_arr (ix x6) ((a_arr (ix x6)) + ((x3_2 - x3_2 / 9 * 9).toInt32))) x3_2 (x5 + ((x3_2 - x3_2 / 9 * 9).toInt32)) (x6 + 1)))) := rfl
set_option maxHeartbeats 4000000 in
set_option maxRecDepth 100000 in
theorem wl_X3_advance_9 {p : Program} {l : Launch} {e : Env} {s : State} {m : MethodId} {below : List Frame} {meth : Method} {c : Code} {D : va_G} {cy : Nat → ClassId} {A : Nat → Prop} {args : Array Value} {Q : State → Prop} (C : Cx D cy A p s m meth c cX3_advance 8 (some .int) wsX3_advance RX3 args) (aAd : Nat → Nat) (a_hour : Int32) (a_deb : Nat → Int32) (x2 : Int32) :
    ∀ (n : Nat) (a_dep a_arr : Nat → Int32) (x3 : Int64) (x5 x6 : Int32) (z : ((Nat → Int32) × (Nat → Int32) × Int32)), f_X3_advance_L9 x2 n a_dep a_arr x3 x5 x6 = some z → (∀ (U : Heap) (locs : List Loc) (ls : Array Slot), Gd D A s (w_Led cy aAd a_hour z.1 z.2.1 a_deb) U locs → lv_has ls 8 [(5, .int z.2.2)] → W p l e ({ frames := 0, cells := 0, slots := 0, locals := 0 } : Room) s m args below meth c U locs 0 0 Q (F0 m 70 ls [])) → ∀ (U : Heap) (locs : List Loc) (ls : Array Slot), Gd D A s (w_Led cy aAd a_hour a_dep a_arr a_deb) U locs → lv_has ls 8 [(0, .ref (aAd 0)), (2, .int x2), (3, .long x3), (5, .int x5), (6, .int x6)] → W p l e ({ frames := 0, cells := 0, slots := 0, locals := 0 } : Room) s m args below meth c U locs 0 0 Q (F0 m 9 ls []) := by
  obtain ⟨hx, hb, hr, hml, hown, hts, hlk, hK, hA, hE⟩ := id C
  have lk0 := hts (Cond.constantLong RX3 70 (16807)) (List.mem_of_getElem? (i := 1) rfl)
  have lk1 := hts (Cond.constantLong RX3 72 (2147483647)) (List.mem_of_getElem? (i := 2) rfl)
  have lk2 := hts (Cond.constantLong RX3 74 (9)) (List.mem_of_getElem? (i := 3) rfl)
  have lk3 := hts (Cond.fieldLink RX3 9 "TideDebts$Ledger" "depths" "[I") (List.mem_of_getElem? (i := 4) rfl)
  have lk4 := hts (Cond.fieldLink RX3 15 "TideDebts$Ledger" "arrears" "[I") (List.mem_of_getElem? (i := 5) rfl)
  have hiX3 : ∀ w ∈ u_ws RX3 TX3 4, w ∈ wsX3_advance := fun _ h => List.mem_cons_of_mem _ (List.mem_append_right _ h)
  intro n
  induction n with
  | zero =>
    intro a_dep a_arr x3 x5 x6 z H
    rw [f_X3_advance_L9_z] at H
    cases H
  | succ n ih =>
    intro a_dep a_arr x3 x5 x6 z H kk U locs ls G hl
    rw [f_X3_advance_L9_s] at H
    refine lv_iload hx hb dX3_advance_9 (lv_at hl 4 rfl) ?_
    refine lv_iload_n hx hb dX3_advance_11 rfl (lv_at hl 1 rfl) ?_
    refine lv_icmp_ge (tgt := 70) hx hb dX3_advance_12 (by decide) (fun c1 => ?_) (fun c1 => ?_)
    · have H := if_t H c1
      obtain rfl := Option.some.inj H
      exact kk _ _ _ G (lv_sub hl [3] rfl)
    · have H := if_f H c1
      refine lv_lload_n hx hb dX3_advance_15 rfl (lv_at hl 2 rfl) ?_
      refine lv_ldc2 hx hb hown lk0 dX3_advance_16 ?_
      refine lv_lmul hx hb dX3_advance_19 ?_
      refine lv_ldc2 hx hb hown lk1 dX3_advance_20 ?_
      refine lv_lrem hx hb dX3_advance_23 (by decide) ?_
      refine lv_topl (fun x3_2 ex3_2 => ?_)
      have H := nm_h H ex3_2
      refine lv_lstore_n (lv' := [(3, .long x3_2), (0, .ref (aAd 0)), (2, .int x2), (5, .int x5), (6, .int x6)]) hx hb dX3_advance_24 rfl hl (by decide) rfl (fun ls hl => ?_)
      refine lv_lload_n hx hb dX3_advance_25 rfl (lv_at hl 0 rfl) ?_
      refine lv_ldc2 hx hb hown lk2 dX3_advance_26 ?_
      refine lv_lrem hx hb dX3_advance_29 (by decide) ?_
      refine lv_l2i hx hb dX3_advance_30 rfl ?_
      refine lv_istore (lv' := [(7, .int ((x3_2 - x3_2 / 9 * 9).toInt32)), (3, .long x3_2), (0, .ref (aAd 0)), (2, .int x2), (5, .int x5), (6, .int x6)]) hx hb dX3_advance_31 hl (by decide) rfl (fun ls hl => ?_)
      refine lv_aload_n hx hb dX3_advance_33 rfl (lv_at hl 2 rfl) ?_
      refine va_get (D := D) (ci := 3) (v := .ref (aAd 1)) (C := RX3) (T := TX3) (N := 4) hx hb hts hiX3 hown hK G.1 0 rfl rfl 0 (by decide) lk3 (fun _ h9 => h9) rfl dX3_advance_34 ?_
      refine lv_iload hx hb dX3_advance_37 (lv_at hl 5 rfl) ?_
      refine lv_dup2_11 hx hb dX3_advance_39 rfl rfl ?_
      obtain ⟨hb3, H⟩ := gd_some H
      refine g_iald (v := a_dep (ix x6)) hx hb hK G.1 1 1 rfl rfl hb3 rfl dX3_advance_40 ?_
      refine lv_iload hx hb dX3_advance_41 (lv_at hl 0 rfl) ?_
      refine lv_iadd hx hb dX3_advance_43 ?_
      refine va_iast hx hb hK G.1 G.2.1 G.2.2 1 1 rfl rfl (inb_in hb3) dX3_advance_44 (fun U locs hP hD hS => ?_)
      have G : Gd D A s (w_Led cy aAd a_hour (upd a_dep (ix x6) ((a_dep (ix x6)) + ((x3_2 - x3_2 / 9 * 9).toInt32))) a_arr a_deb) U locs := ⟨hP, hD, hS⟩
      refine lv_aload_n hx hb dX3_advance_45 rfl (lv_at hl 2 rfl) ?_
      refine va_get (D := D) (ci := 3) (v := .ref (aAd 2)) (C := RX3) (T := TX3) (N := 4) hx hb hts hiX3 hown hK G.1 0 rfl rfl 1 (by decide) lk4 (fun _ h9 => h9) rfl dX3_advance_46 ?_
      refine lv_iload hx hb dX3_advance_49 (lv_at hl 5 rfl) ?_
      refine lv_dup2_11 hx hb dX3_advance_51 rfl rfl ?_
      refine g_iald (v := a_arr (ix x6)) hx hb hK G.1 2 1 rfl rfl hb3 rfl dX3_advance_52 ?_
      refine lv_iload hx hb dX3_advance_53 (lv_at hl 0 rfl) ?_
      refine lv_iadd hx hb dX3_advance_55 ?_
      refine va_iast hx hb hK G.1 G.2.1 G.2.2 2 1 rfl rfl (inb_in hb3) dX3_advance_56 (fun U locs hP hD hS => ?_)
      have G : Gd D A s (w_Led cy aAd a_hour (upd a_dep (ix x6) ((a_dep (ix x6)) + ((x3_2 - x3_2 / 9 * 9).toInt32))) (upd a_arr (ix x6) ((a_arr (ix x6)) + ((x3_2 - x3_2 / 9 * 9).toInt32))) a_deb) U locs := ⟨hP, hD, hS⟩
      refine lv_iload hx hb dX3_advance_57 (lv_at hl 4 rfl) ?_
      refine lv_iload hx hb dX3_advance_59 (lv_at hl 0 rfl) ?_
      refine lv_iadd hx hb dX3_advance_61 ?_
      refine lv_istore (lv' := [(5, .int (x5 + ((x3_2 - x3_2 / 9 * 9).toInt32))), (7, .int ((x3_2 - x3_2 / 9 * 9).toInt32)), (3, .long x3_2), (0, .ref (aAd 0)), (2, .int x2), (6, .int x6)]) hx hb dX3_advance_62 hl (by decide) rfl (fun ls hl => ?_)
      refine lv_iinc (v := x6 + 1) (lv' := [(6, .int (x6 + 1)), (5, .int (x5 + ((x3_2 - x3_2 / 9 * 9).toInt32))), (7, .int ((x3_2 - x3_2 / 9 * 9).toInt32)), (3, .long x3_2), (0, .ref (aAd 0)), (2, .int x2)]) hx hb dX3_advance_64 hl (k := 5) rfl rfl (by decide) rfl (fun ls hl => ?_)
      refine lv_goto (tgt := 9) hx hb dX3_advance_67 (by decide) ?_
      exact ih (upd a_dep (ix x6) ((a_dep (ix x6)) + ((x3_2 - x3_2 / 9 * 9).toInt32))) (upd a_arr (ix x6) ((a_arr (ix x6)) + ((x3_2 - x3_2 / 9 * 9).toInt32))) x3_2 (x5 + ((x3_2 - x3_2 / 9 * 9).toInt32)) (x6 + 1) z H kk _ _ _ G (lv_sub hl [4, 5, 3, 1, 0] rfl)
def f_X3_advance (a_dep a_arr : Nat → Int32) (p1 p2 : Int32) : Option (Int32 × (Nat → Int32) × (Nat → Int32)) := bd (f_X3_advance_L9 p2 2000 a_dep a_arr p1.toInt64 0 0) (fun z4 => some (z4.2.2, z4.1, z4.2.1))
set_option maxHeartbeats 4000000 in
set_option maxRecDepth 100000 in
theorem c_X3_advance (l : Launch) (D : va_G) (cy : Nat → ClassId) (aAd : Nat → Nat) (a_hour : Int32) (a_dep a_arr a_deb : Nat → Int32) (p1 p2 : Int32) (z : (Int32 × (Nat → Int32) × (Nat → Int32))) (hz : f_X3_advance a_dep a_arr p1 p2 = some z) : MI l yX3_advance wsX3_advance ({ frames := 0, cells := 0, slots := 0, locals := 0 } : Room) D cy [.ref (aAd 0), .int p1, .int p2] (w_Led cy aAd a_hour a_dep a_arr a_deb) z.1 (w_Led cy aAd a_hour z.2.1 z.2.2 a_deb) := by
  refine met_start (Qf := fun A => MQi D cy z.1 (w_Led cy aAd a_hour z.2.1 z.2.2 a_deb) A) (cc := cX3_advance) (nL := 8) (ret := (some .int)) RX3 rfl (by decide) rfl (Nat.le_of_ble_eq_true rfl) ?_
  intro p e s m below meth c A ls C G hl
  have hl : lv_has ls 8 [(0, .ref (aAd 0)), (1, .int p1), (2, .int p2)] := hl
  have H := hz
  unfold f_X3_advance at H
  obtain ⟨hx, hb, hr, hml, hown, hts, hlk, hK, hA, hE⟩ := id C
  refine lv_iload_n hx hb dX3_advance_0 rfl (lv_at hl 1 rfl) ?_
  refine lv_i2l hx hb dX3_advance_1 rfl ?_
  refine lv_lstore_n (lv' := [(3, .long p1.toInt64), (0, .ref (aAd 0)), (1, .int p1), (2, .int p2)]) hx hb dX3_advance_2 rfl hl (by decide) rfl (fun ls hl => ?_)
  refine lv_iconst (v := 0) hx hb dX3_advance_3 (by decide) ?_
  refine lv_istore (lv' := [(5, .int 0), (3, .long p1.toInt64), (0, .ref (aAd 0)), (1, .int p1), (2, .int p2)]) hx hb dX3_advance_4 hl (by decide) rfl (fun ls hl => ?_)
  refine lv_iconst (v := 0) hx hb dX3_advance_6 (by decide) ?_
  refine lv_istore (lv' := [(6, .int 0), (5, .int 0), (3, .long p1.toInt64), (0, .ref (aAd 0)), (1, .int p1), (2, .int p2)]) hx hb dX3_advance_7 hl (by decide) rfl (fun ls hl => ?_)
  obtain ⟨z4, hz4, H⟩ := bd_some H
  refine wl_X3_advance_9 C aAd a_hour a_deb p2 _ a_dep a_arr p1.toInt64 0 0 z4 hz4 (fun U locs ls G hl => ?_) _ _ _ G (lv_sub hl [3, 5, 2, 1, 0] rfl)
  have G : Gd D A s (w_Led cy aAd a_hour z4.1 z4.2.1 a_deb) U locs := G
  have hl : lv_has ls 8 [(5, .int z4.2.2)] := hl
  refine lv_iload hx hb dX3_advance_70 (lv_at hl 0 rfl) ?_
  obtain rfl := Option.some.inj H
  exact ret_i C G rfl dX3_advance_72
def f_X3_owedBy_L4 (a_deb : Nat → Int32) (x1 : Int32) : Nat → Int32 → Int32 → Option Int32
  | 0, _, _ => none
  | n + 1, x2, x3 => if 6 ≤ x3 then (some x2) else (bd (f_X3_debt a_deb x1 x3) (fun z2 => f_X3_owedBy_L4 a_deb x1 n (x2 + z2) (x3 + 1)))
theorem f_X3_owedBy_L4_z (a_deb : Nat → Int32) (x1 : Int32) (x2 x3 : Int32) : f_X3_owedBy_L4 a_deb x1 0 x2 x3 = none := rfl
theorem f_X3_owedBy_L4_s (a_deb : Nat → Int32) (x1 : Int32) (n : Nat) (x2 x3 : Int32) : f_X3_owedBy_L4 a_deb x1 (n + 1) x2 x3 = if 6 ≤ x3 then (some x2) else (bd (f_X3_debt a_deb x1 x3) (fun z2 => f_X3_owedBy_L4 a_deb x1 n (x2 + z2) (x3 + 1))) := rfl
set_option maxHeartbeats 4000000 in
set_option maxRecDepth 100000 in
theorem wl_X3_owedBy_4 {p : Program} {l : Launch} {e : Env} {s : State} {m : MethodId} {below : List Frame} {meth : Method} {c : Code} {D : va_G} {cy : Nat → ClassId} {A : Nat → Prop} {args : Array Value} {Q : State → Prop} (C : Cx D cy A p s m meth c cX3_owedBy 4 (some .int) wsX3_owedBy RX3 args) (aAd : Nat → Nat) (a_hour : Int32) (a_dep a_arr a_deb : Nat → Int32) (x1 : Int32) :
    ∀ (n : Nat) (x2 x3 : Int32) (z : Int32), f_X3_owedBy_L4 a_deb x1 n x2 x3 = some z → (∀ (U : Heap) (locs : List Loc) (ls : Array Slot), Gd D A s (w_Led cy aAd a_hour a_dep a_arr a_deb) U locs → lv_has ls 4 [(2, .int z)] → W p l e ({ frames := 1, cells := 0, slots := 0, locals := 22 } : Room) s m args below meth c U locs 0 0 Q (F0 m 25 ls [])) → ∀ (U : Heap) (locs : List Loc) (ls : Array Slot), Gd D A s (w_Led cy aAd a_hour a_dep a_arr a_deb) U locs → lv_has ls 4 [(0, .ref (aAd 0)), (1, .int x1), (2, .int x2), (3, .int x3)] → W p l e ({ frames := 1, cells := 0, slots := 0, locals := 22 } : Room) s m args below meth c U locs 0 0 Q (F0 m 4 ls []) := by
  obtain ⟨hx, hb, hr, hml, hown, hts, hlk, hK, hA, hE⟩ := id C
  intro n
  induction n with
  | zero =>
    intro x2 x3 z H
    rw [f_X3_owedBy_L4_z] at H
    cases H
  | succ n ih =>
    intro x2 x3 z H kk U locs ls G hl
    rw [f_X3_owedBy_L4_s] at H
    refine lv_iload_n hx hb dX3_owedBy_4 rfl (lv_at hl 3 rfl) ?_
    refine lv_bipush (v := 6) hx hb dX3_owedBy_5 (by decide) ?_
    refine lv_icmp_ge (tgt := 25) hx hb dX3_owedBy_7 (by decide) (fun c1 => ?_) (fun c1 => ?_)
    · have H := if_t H c1
      obtain rfl := Option.some.inj H
      exact kk _ _ _ G (lv_sub hl [2] rfl)
    · have H := if_f H c1
      refine lv_iload_n hx hb dX3_owedBy_10 rfl (lv_at hl 2 rfl) ?_
      refine lv_aload_n hx hb dX3_owedBy_11 rfl (lv_at hl 0 rfl) ?_
      refine lv_iload_n hx hb dX3_owedBy_12 rfl (lv_at hl 1 rfl) ?_
      refine lv_iload_n hx hb dX3_owedBy_13 rfl (lv_at hl 3 rfl) ?_
      obtain ⟨z2, hz2, H⟩ := bd_some H
      refine MI.callVw z2 [.int x1, .int x3] [.int x2] C G (c_X3_debt l D cy aAd a_hour a_dep a_arr a_deb x1 x3 z2 hz2) gX3_owedBy_X3_debt rfl rfl rfl (n := 2) (by decide +kernel) ⟨Nat.le_of_ble_eq_true rfl, Nat.le_of_ble_eq_true rfl⟩ (q0 := 0) (ci := 3) rfl rfl rfl rfl hl.1 rfl (Nat.le_of_ble_eq_true rfl) dX3_owedBy_14 ⟨Nat.zero_le _, Nat.zero_le _⟩ (fun U locs G => ?_)
      have G : Gd D A s (w_Led cy aAd a_hour a_dep a_arr a_deb) U locs := G
      refine lv_iadd hx hb dX3_owedBy_17 ?_
      refine lv_istore_n (lv' := [(2, .int (x2 + z2)), (0, .ref (aAd 0)), (1, .int x1), (3, .int x3)]) hx hb dX3_owedBy_18 rfl hl (by decide) rfl (fun ls hl => ?_)
      refine lv_iinc (v := x3 + 1) (lv' := [(3, .int (x3 + 1)), (2, .int (x2 + z2)), (0, .ref (aAd 0)), (1, .int x1)]) hx hb dX3_owedBy_19 hl (k := 3) rfl rfl (by decide) rfl (fun ls hl => ?_)
      refine lv_goto (tgt := 4) hx hb dX3_owedBy_22 (by decide) ?_
      exact ih (x2 + z2) (x3 + 1) z H kk _ _ _ G (lv_sub hl [2, 3, 1, 0] rfl)
def f_X3_owedBy (a_deb : Nat → Int32) (p1 : Int32) : Option Int32 := bd (f_X3_owedBy_L4 a_deb p1 2000 0 0) (fun z3 => some z3)
set_option maxHeartbeats 4000000 in
set_option maxRecDepth 100000 in
theorem c_X3_owedBy (l : Launch) (D : va_G) (cy : Nat → ClassId) (aAd : Nat → Nat) (a_hour : Int32) (a_dep a_arr a_deb : Nat → Int32) (p1 : Int32) (z : Int32) (hz : f_X3_owedBy a_deb p1 = some z) : MI l yX3_owedBy wsX3_owedBy ({ frames := 1, cells := 0, slots := 0, locals := 22 } : Room) D cy [.ref (aAd 0), .int p1] (w_Led cy aAd a_hour a_dep a_arr a_deb) z (w_Led cy aAd a_hour a_dep a_arr a_deb) := by
  refine met_start (Qf := fun A => MQi D cy z (w_Led cy aAd a_hour a_dep a_arr a_deb) A) (cc := cX3_owedBy) (nL := 4) (ret := (some .int)) RX3 rfl (by decide) rfl (Nat.le_of_ble_eq_true rfl) ?_
  intro p e s m below meth c A ls C G hl
  have hl : lv_has ls 4 [(0, .ref (aAd 0)), (1, .int p1)] := hl
  have H := hz
  unfold f_X3_owedBy at H
  obtain ⟨hx, hb, hr, hml, hown, hts, hlk, hK, hA, hE⟩ := id C
  refine lv_iconst (v := 0) hx hb dX3_owedBy_0 (by decide) ?_
  refine lv_istore_n (lv' := [(2, .int 0), (0, .ref (aAd 0)), (1, .int p1)]) hx hb dX3_owedBy_1 rfl hl (by decide) rfl (fun ls hl => ?_)
  refine lv_iconst (v := 0) hx hb dX3_owedBy_2 (by decide) ?_
  refine lv_istore_n (lv' := [(3, .int 0), (2, .int 0), (0, .ref (aAd 0)), (1, .int p1)]) hx hb dX3_owedBy_3 rfl hl (by decide) rfl (fun ls hl => ?_)
  obtain ⟨z3, hz3, H⟩ := bd_some H
  refine wl_X3_owedBy_4 C aAd a_hour a_dep a_arr a_deb p1 _ 0 0 z3 hz3 (fun U locs ls G hl => ?_) _ _ _ G (lv_sub hl [2, 3, 1, 0] rfl)
  have G : Gd D A s (w_Led cy aAd a_hour a_dep a_arr a_deb) U locs := G
  have hl : lv_has ls 4 [(2, .int z3)] := hl
  refine lv_iload_n hx hb dX3_owedBy_25 rfl (lv_at hl 0 rfl) ?_
  obtain rfl := Option.some.inj H
  exact ret_i C G rfl dX3_owedBy_26
def f_X3_balance_L8 (a_deb : Nat → Int32) (x1 : Int32) : Nat → Int32 → Int32 → Option Int32
  | 0, _, _ => none
  | n + 1, x2, x3 => if 6 ≤ x3 then (some x2) else (bd (f_X3_debt a_deb x3 x1) (fun z3 => f_X3_balance_L8 a_deb x1 n (x2 - z3) (x3 + 1)))
theorem f_X3_balance_L8_z (a_deb : Nat → Int32) (x1 : Int32) (x2 x3 : Int32) : f_X3_balance_L8 a_deb x1 0 x2 x3 = none := rfl
theorem f_X3_balance_L8_s (a_deb : Nat → Int32) (x1 : Int32) (n : Nat) (x2 x3 : Int32) : f_X3_balance_L8 a_deb x1 (n + 1) x2 x3 = if 6 ≤ x3 then (some x2) else (bd (f_X3_debt a_deb x3 x1) (fun z3 => f_X3_balance_L8 a_deb x1 n (x2 - z3) (x3 + 1))) := rfl
set_option maxHeartbeats 4000000 in
set_option maxRecDepth 100000 in
theorem wl_X3_balance_8 {p : Program} {l : Launch} {e : Env} {s : State} {m : MethodId} {below : List Frame} {meth : Method} {c : Code} {D : va_G} {cy : Nat → ClassId} {A : Nat → Prop} {args : Array Value} {Q : State → Prop} (C : Cx D cy A p s m meth c cX3_balance 4 (some .int) wsX3_balance RX3 args) (aAd : Nat → Nat) (a_hour : Int32) (a_dep a_arr a_deb : Nat → Int32) (x1 : Int32) :
    ∀ (n : Nat) (x2 x3 : Int32) (z : Int32), f_X3_balance_L8 a_deb x1 n x2 x3 = some z → (∀ (U : Heap) (locs : List Loc) (ls : Array Slot), Gd D A s (w_Led cy aAd a_hour a_dep a_arr a_deb) U locs → lv_has ls 4 [(2, .int z)] → W p l e ({ frames := 2, cells := 0, slots := 0, locals := 45 } : Room) s m args below meth c U locs 0 0 Q (F0 m 29 ls [])) → ∀ (U : Heap) (locs : List Loc) (ls : Array Slot), Gd D A s (w_Led cy aAd a_hour a_dep a_arr a_deb) U locs → lv_has ls 4 [(0, .ref (aAd 0)), (1, .int x1), (2, .int x2), (3, .int x3)] → W p l e ({ frames := 2, cells := 0, slots := 0, locals := 45 } : Room) s m args below meth c U locs 0 0 Q (F0 m 8 ls []) := by
  obtain ⟨hx, hb, hr, hml, hown, hts, hlk, hK, hA, hE⟩ := id C
  intro n
  induction n with
  | zero =>
    intro x2 x3 z H
    rw [f_X3_balance_L8_z] at H
    cases H
  | succ n ih =>
    intro x2 x3 z H kk U locs ls G hl
    rw [f_X3_balance_L8_s] at H
    refine lv_iload_n hx hb dX3_balance_8 rfl (lv_at hl 3 rfl) ?_
    refine lv_bipush (v := 6) hx hb dX3_balance_9 (by decide) ?_
    refine lv_icmp_ge (tgt := 29) hx hb dX3_balance_11 (by decide) (fun c2 => ?_) (fun c2 => ?_)
    · have H := if_t H c2
      obtain rfl := Option.some.inj H
      exact kk _ _ _ G (lv_sub hl [2] rfl)
    · have H := if_f H c2
      refine lv_iload_n hx hb dX3_balance_14 rfl (lv_at hl 2 rfl) ?_
      refine lv_aload_n hx hb dX3_balance_15 rfl (lv_at hl 0 rfl) ?_
      refine lv_iload_n hx hb dX3_balance_16 rfl (lv_at hl 3 rfl) ?_
      refine lv_iload_n hx hb dX3_balance_17 rfl (lv_at hl 1 rfl) ?_
      obtain ⟨z3, hz3, H⟩ := bd_some H
      refine MI.callVw z3 [.int x3, .int x1] [.int x2] C G (c_X3_debt l D cy aAd a_hour a_dep a_arr a_deb x3 x1 z3 hz3) gX3_balance_X3_debt rfl rfl rfl (n := 2) (by decide +kernel) ⟨Nat.le_of_ble_eq_true rfl, Nat.le_of_ble_eq_true rfl⟩ (q0 := 0) (ci := 3) rfl rfl rfl rfl hl.1 rfl (Nat.le_of_ble_eq_true rfl) dX3_balance_18 ⟨Nat.zero_le _, Nat.zero_le _⟩ (fun U locs G => ?_)
      have G : Gd D A s (w_Led cy aAd a_hour a_dep a_arr a_deb) U locs := G
      refine lv_isub hx hb dX3_balance_21 ?_
      refine lv_istore_n (lv' := [(2, .int (x2 - z3)), (0, .ref (aAd 0)), (1, .int x1), (3, .int x3)]) hx hb dX3_balance_22 rfl hl (by decide) rfl (fun ls hl => ?_)
      refine lv_iinc (v := x3 + 1) (lv' := [(3, .int (x3 + 1)), (2, .int (x2 - z3)), (0, .ref (aAd 0)), (1, .int x1)]) hx hb dX3_balance_23 hl (k := 3) rfl rfl (by decide) rfl (fun ls hl => ?_)
      refine lv_goto (tgt := 8) hx hb dX3_balance_26 (by decide) ?_
      exact ih (x2 - z3) (x3 + 1) z H kk _ _ _ G (lv_sub hl [2, 3, 1, 0] rfl)
def f_X3_balance (a_deb : Nat → Int32) (p1 : Int32) : Option Int32 := bd (f_X3_owedBy a_deb p1) (fun z1 => bd (f_X3_balance_L8 a_deb p1 2000 z1 0) (fun z4 => some z4))
set_option maxHeartbeats 4000000 in
set_option maxRecDepth 100000 in
theorem c_X3_balance (l : Launch) (D : va_G) (cy : Nat → ClassId) (aAd : Nat → Nat) (a_hour : Int32) (a_dep a_arr a_deb : Nat → Int32) (p1 : Int32) (z : Int32) (hz : f_X3_balance a_deb p1 = some z) : MI l yX3_balance wsX3_balance ({ frames := 2, cells := 0, slots := 0, locals := 45 } : Room) D cy [.ref (aAd 0), .int p1] (w_Led cy aAd a_hour a_dep a_arr a_deb) z (w_Led cy aAd a_hour a_dep a_arr a_deb) := by
  refine met_start (Qf := fun A => MQi D cy z (w_Led cy aAd a_hour a_dep a_arr a_deb) A) (cc := cX3_balance) (nL := 4) (ret := (some .int)) RX3 rfl (by decide) rfl (Nat.le_of_ble_eq_true rfl) ?_
  intro p e s m below meth c A ls C G hl
  have hl : lv_has ls 4 [(0, .ref (aAd 0)), (1, .int p1)] := hl
  have H := hz
  unfold f_X3_balance at H
  obtain ⟨hx, hb, hr, hml, hown, hts, hlk, hK, hA, hE⟩ := id C
  refine lv_aload_n hx hb dX3_balance_0 rfl (lv_at hl 0 rfl) ?_
  refine lv_iload_n hx hb dX3_balance_1 rfl (lv_at hl 1 rfl) ?_
  obtain ⟨z1, hz1, H⟩ := bd_some H
  refine MI.callVw z1 [.int p1] [] C G (c_X3_owedBy l D cy aAd a_hour a_dep a_arr a_deb p1 z1 hz1) gX3_balance_X3_owedBy rfl rfl rfl (n := 1) (by decide +kernel) ⟨Nat.le_of_ble_eq_true rfl, Nat.le_of_ble_eq_true rfl⟩ (q0 := 0) (ci := 3) rfl rfl rfl rfl hl.1 rfl (Nat.le_of_ble_eq_true rfl) dX3_balance_2 ⟨Nat.zero_le _, Nat.zero_le _⟩ (fun U locs G => ?_)
  have G : Gd D A s (w_Led cy aAd a_hour a_dep a_arr a_deb) U locs := G
  refine lv_istore_n (lv' := [(2, .int z1), (0, .ref (aAd 0)), (1, .int p1)]) hx hb dX3_balance_5 rfl hl (by decide) rfl (fun ls hl => ?_)
  refine lv_iconst (v := 0) hx hb dX3_balance_6 (by decide) ?_
  refine lv_istore_n (lv' := [(3, .int 0), (2, .int z1), (0, .ref (aAd 0)), (1, .int p1)]) hx hb dX3_balance_7 rfl hl (by decide) rfl (fun ls hl => ?_)
  obtain ⟨z4, hz4, H⟩ := bd_some H
  refine wl_X3_balance_8 C aAd a_hour a_dep a_arr a_deb p1 _ z1 0 z4 hz4 (fun U locs ls G hl => ?_) _ _ _ G (lv_sub hl [2, 3, 1, 0] rfl)
  have G : Gd D A s (w_Led cy aAd a_hour a_dep a_arr a_deb) U locs := G
  have hl : lv_has ls 4 [(2, .int z4)] := hl
  refine lv_iload_n hx hb dX3_balance_29 rfl (lv_at hl 0 rfl) ?_
  obtain rfl := Option.some.inj H
  exact ret_i C G rfl dX3_balance_30
def f_X3_payOthers_L5 (a_deb : Nat → Int32) (x1 x2 : Int32) : Nat → (Nat → Int32) → Int32 → Int32 → Option ((Nat → Int32) × Int32)
  | 0, _, _, _ => none
  | n + 1, a_dep, x3, x4 => if x2 ≤ x4 then (some (a_dep, x3)) else (bd (f_X3_debt a_deb x1 x4) (fun z2 => gd (inb x1 6) (nm (if (a_dep (ix x1)) < z2 then a_dep (ix x1) else z2) (fun x5_4 => if x3 = 0 then (bd (f_X3_move a_dep x1 x4 x5_4) (fun z6 => f_X3_payOthers_L5 a_deb x1 x2 n z6 0 (x4 + 1))) else (bd (f_X3_debt a_deb x1 x4) (fun z7 => if x5_4 = z7 then (bd (f_X3_move a_dep x1 x4 x5_4) (fun z10 => f_X3_payOthers_L5 a_deb x1 x2 n z10 1 (x4 + 1))) else (bd (f_X3_move a_dep x1 x4 x5_4) (fun z9 => f_X3_payOthers_L5 a_deb x1 x2 n z9 0 (x4 + 1)))))))))
theorem f_X3_payOthers_L5_z (a_deb : Nat → Int32) (x1 x2 : Int32) (a_dep : Nat → Int32) (x3 x4 : Int32) : f_X3_payOthers_L5 a_deb x1 x2 0 a_dep x3 x4 = none := rfl
theorem f_X3_payOthers_L5_s (a_deb : Nat → Int32) (x1 x2 : Int32) (n : Nat) (a_dep : Nat → Int32) (x3 x4 : Int32) : f_X3_payOthers_L5 a_deb x1 x2 (n + 1) a_dep x3 x4 = if x2 ≤ x4 then (some (a_dep, x3)) else (bd (f_X3_debt a_deb x1 x4) (fun z2 => gd (inb x1 6) (nm (if (a_dep (ix x1)) < z2 then a_dep (ix x1) else z2) (fun x5_4 => if x3 = 0 then (bd (f_X3_move a_dep x1 x4 x5_4) (fun z6 => f_X3_payOthers_L5 a_deb x1 x2 n z6 0 (x4 + 1))) else (bd (f_X3_debt a_deb x1 x4) (fun z7 => if x5_4 = z7 then (bd (f_X3_move a_dep x1 x4 x5_4) (fun z10 => f_X3_payOthers_L5 a_deb x1 x2 n z10 1 (x4 + 1))) else (bd (f_X3_move a_dep x1 x4 x5_4) (fun z9 => f_X3_payOthers_L5 a_deb x1 x2 n z9 0 (x4 + 1))))))))) := rfl
set_option maxHeartbeats 4000000 in
set_option maxRecDepth 100000 in
theorem wl_X3_payOthers_5 {p : Program} {l : Launch} {e : Env} {s : State} {m : MethodId} {below : List Frame} {meth : Method} {c : Code} {D : va_G} {cy : Nat → ClassId} {A : Nat → Prop} {args : Array Value} {Q : State → Prop} (C : Cx D cy A p s m meth c cX3_payOthers 6 (some .boolean) wsX3_payOthers RX3 args) (aAd : Nat → Nat) (a_hour : Int32) (a_arr a_deb : Nat → Int32) (x1 x2 : Int32) :
    ∀ (n : Nat) (a_dep : Nat → Int32) (x3 x4 : Int32) (z : ((Nat → Int32) × Int32)), f_X3_payOthers_L5 a_deb x1 x2 n a_dep x3 x4 = some z → (∀ (U : Heap) (locs : List Loc) (ls : Array Slot), Gd D A s (w_Led cy aAd a_hour z.1 a_arr a_deb) U locs → lv_has ls 6 [(3, .int z.2)] → W p l e ({ frames := 1, cells := 0, slots := 0, locals := 23 } : Room) s m args below meth c U locs 0 0 Q (F0 m 66 ls [])) → ∀ (U : Heap) (locs : List Loc) (ls : Array Slot), Gd D A s (w_Led cy aAd a_hour a_dep a_arr a_deb) U locs → lv_has ls 6 [(0, .ref (aAd 0)), (1, .int x1), (2, .int x2), (3, .int x3), (4, .int x4)] → W p l e ({ frames := 1, cells := 0, slots := 0, locals := 23 } : Room) s m args below meth c U locs 0 0 Q (F0 m 5 ls []) := by
  obtain ⟨hx, hb, hr, hml, hown, hts, hlk, hK, hA, hE⟩ := id C
  have lk0 := hts (Cond.fieldLink RX3 9 "TideDebts$Ledger" "depths" "[I") (List.mem_of_getElem? (i := 1) rfl)
  have lk1 := hts (Cond.methodLink RX3 65 Lib.Math.min.name) (List.mem_of_getElem? (i := 2) rfl)
  have lk2 := hts (Cond.static Lib.Math.min.name) (List.mem_of_getElem? (i := 3) rfl)
  have lk3 := hts (Cond.initialized "java/lang/Math") (List.mem_of_getElem? (i := 4) rfl)
  have lk4 := hts (Cond.code Lib.Math.min.name Lib.Math.min.code 2 (some .int)) (List.mem_of_getElem? (i := 5) rfl)
  have hiX3 : ∀ w ∈ u_ws RX3 TX3 4, w ∈ wsX3_payOthers := fun _ h => List.mem_cons_of_mem _ (List.mem_append_right _ h)
  intro n
  induction n with
  | zero =>
    intro a_dep x3 x4 z H
    rw [f_X3_payOthers_L5_z] at H
    cases H
  | succ n ih =>
    intro a_dep x3 x4 z H kk U locs ls G hl
    rw [f_X3_payOthers_L5_s] at H
    refine lv_iload hx hb dX3_payOthers_5 (lv_at hl 4 rfl) ?_
    refine lv_iload_n hx hb dX3_payOthers_7 rfl (lv_at hl 2 rfl) ?_
    refine lv_icmp_ge (tgt := 66) hx hb dX3_payOthers_8 (by decide) (fun c1 => ?_) (fun c1 => ?_)
    · have H := if_t H c1
      obtain rfl := Option.some.inj H
      exact kk _ _ _ G (lv_sub hl [3] rfl)
    · have H := if_f H c1
      refine lv_aload_n hx hb dX3_payOthers_11 rfl (lv_at hl 0 rfl) ?_
      refine lv_iload_n hx hb dX3_payOthers_12 rfl (lv_at hl 1 rfl) ?_
      refine lv_iload hx hb dX3_payOthers_13 (lv_at hl 4 rfl) ?_
      obtain ⟨z2, hz2, H⟩ := bd_some H
      refine MI.callVw z2 [.int x1, .int x4] [] C G (c_X3_debt l D cy aAd a_hour a_dep a_arr a_deb x1 x4 z2 hz2) gX3_payOthers_X3_debt rfl rfl rfl (n := 2) (by decide +kernel) ⟨Nat.le_of_ble_eq_true rfl, Nat.le_of_ble_eq_true rfl⟩ (q0 := 0) (ci := 3) rfl rfl rfl rfl hl.1 rfl (Nat.le_of_ble_eq_true rfl) dX3_payOthers_15 ⟨Nat.zero_le _, Nat.zero_le _⟩ (fun U locs G => ?_)
      have G : Gd D A s (w_Led cy aAd a_hour a_dep a_arr a_deb) U locs := G
      refine lv_aload_n hx hb dX3_payOthers_18 rfl (lv_at hl 0 rfl) ?_
      refine va_get (D := D) (ci := 3) (v := .ref (aAd 1)) (C := RX3) (T := TX3) (N := 4) hx hb hts hiX3 hown hK G.1 0 rfl rfl 0 (by decide) lk0 (fun _ h9 => h9) rfl dX3_payOthers_19 ?_
      refine lv_iload_n hx hb dX3_payOthers_22 rfl (lv_at hl 1 rfl) ?_
      obtain ⟨hb3, H⟩ := gd_some H
      refine g_iald (v := a_dep (ix x1)) hx hb hK G.1 1 1 rfl rfl hb3 rfl dX3_payOthers_23 ?_
      refine va_mmin hx hb (hml.trans hl.1.symm) hown lk1 lk2 lk3 lk4 (Nat.le_of_ble_eq_true rfl) (Nat.le_of_ble_eq_true rfl) (Nat.zero_le _) (Nat.zero_le _) dX3_payOthers_24 ?_
      refine lv_topi (fun x5_4 ex5_4 => ?_)
      have H := nm_h H ex5_4
      refine lv_istore (lv' := [(5, .int x5_4), (0, .ref (aAd 0)), (1, .int x1), (2, .int x2), (3, .int x3), (4, .int x4)]) hx hb dX3_payOthers_27 hl (by decide) rfl (fun ls hl => ?_)
      refine lv_iload_n hx hb dX3_payOthers_29 rfl (lv_at hl 4 rfl) ?_
      refine lv_if_eq (tgt := 49) hx hb dX3_payOthers_30 (by decide) (fun c5 => ?_) (fun c5 => ?_)
      · have H := if_t H c5
        refine lv_iconst (v := 0) hx hb dX3_payOthers_49 (by decide) ?_
        refine lv_istore_n (lv' := [(3, .int 0), (5, .int x5_4), (0, .ref (aAd 0)), (1, .int x1), (2, .int x2), (4, .int x4)]) hx hb dX3_payOthers_50 rfl hl (by decide) rfl (fun ls hl => ?_)
        refine lv_aload_n hx hb dX3_payOthers_51 rfl (lv_at hl 2 rfl) ?_
        refine lv_iload_n hx hb dX3_payOthers_52 rfl (lv_at hl 3 rfl) ?_
        refine lv_iload hx hb dX3_payOthers_53 (lv_at hl 5 rfl) ?_
        refine lv_iload hx hb dX3_payOthers_55 (lv_at hl 1 rfl) ?_
        obtain ⟨z6, hz6, H⟩ := bd_some H
        refine MV.callVw [.int x1, .int x4, .int x5_4] [] C G (c_X3_move l D cy aAd a_hour a_dep a_arr a_deb x1 x4 x5_4 z6 hz6) gX3_payOthers_X3_move rfl rfl rfl (n := 3) (by decide +kernel) ⟨Nat.le_of_ble_eq_true rfl, Nat.le_of_ble_eq_true rfl⟩ (q0 := 0) (ci := 3) rfl rfl rfl rfl hl.1 rfl (Nat.le_of_ble_eq_true rfl) dX3_payOthers_57 ⟨Nat.zero_le _, Nat.zero_le _⟩ (fun U locs G => ?_)
        have G : Gd D A s (w_Led cy aAd a_hour z6 a_arr a_deb) U locs := G
        refine lv_iinc (v := x4 + 1) (lv' := [(4, .int (x4 + 1)), (3, .int 0), (5, .int x5_4), (0, .ref (aAd 0)), (1, .int x1), (2, .int x2)]) hx hb dX3_payOthers_60 hl (k := 5) rfl rfl (by decide) rfl (fun ls hl => ?_)
        refine lv_goto (tgt := 5) hx hb dX3_payOthers_63 (by decide) ?_
        exact ih z6 0 (x4 + 1) z H kk _ _ _ G (lv_sub hl [3, 4, 5, 1, 0] rfl)
      · have H := if_f H c5
        refine lv_iload hx hb dX3_payOthers_33 (lv_at hl 0 rfl) ?_
        refine lv_aload_n hx hb dX3_payOthers_35 rfl (lv_at hl 1 rfl) ?_
        refine lv_iload_n hx hb dX3_payOthers_36 rfl (lv_at hl 2 rfl) ?_
        refine lv_iload hx hb dX3_payOthers_37 (lv_at hl 5 rfl) ?_
        obtain ⟨z7, hz7, H⟩ := bd_some H
        refine MI.callVw z7 [.int x1, .int x4] [.int x5_4] C G (c_X3_debt l D cy aAd a_hour a_dep a_arr a_deb x1 x4 z7 hz7) gX3_payOthers_X3_debt rfl rfl rfl (n := 2) (by decide +kernel) ⟨Nat.le_of_ble_eq_true rfl, Nat.le_of_ble_eq_true rfl⟩ (q0 := 0) (ci := 3) rfl rfl rfl rfl hl.1 rfl (Nat.le_of_ble_eq_true rfl) dX3_payOthers_39 ⟨Nat.zero_le _, Nat.zero_le _⟩ (fun U locs G => ?_)
        have G : Gd D A s (w_Led cy aAd a_hour a_dep a_arr a_deb) U locs := G
        refine lv_icmp_ne (tgt := 49) hx hb dX3_payOthers_42 (by decide) (fun c8 => ?_) (fun c8 => ?_)
        · have H := if_f H c8
          refine lv_iconst (v := 0) hx hb dX3_payOthers_49 (by decide) ?_
          refine lv_istore_n (lv' := [(3, .int 0), (5, .int x5_4), (0, .ref (aAd 0)), (1, .int x1), (2, .int x2), (4, .int x4)]) hx hb dX3_payOthers_50 rfl hl (by decide) rfl (fun ls hl => ?_)
          refine lv_aload_n hx hb dX3_payOthers_51 rfl (lv_at hl 2 rfl) ?_
          refine lv_iload_n hx hb dX3_payOthers_52 rfl (lv_at hl 3 rfl) ?_
          refine lv_iload hx hb dX3_payOthers_53 (lv_at hl 5 rfl) ?_
          refine lv_iload hx hb dX3_payOthers_55 (lv_at hl 1 rfl) ?_
          obtain ⟨z9, hz9, H⟩ := bd_some H
          refine MV.callVw [.int x1, .int x4, .int x5_4] [] C G (c_X3_move l D cy aAd a_hour a_dep a_arr a_deb x1 x4 x5_4 z9 hz9) gX3_payOthers_X3_move rfl rfl rfl (n := 3) (by decide +kernel) ⟨Nat.le_of_ble_eq_true rfl, Nat.le_of_ble_eq_true rfl⟩ (q0 := 0) (ci := 3) rfl rfl rfl rfl hl.1 rfl (Nat.le_of_ble_eq_true rfl) dX3_payOthers_57 ⟨Nat.zero_le _, Nat.zero_le _⟩ (fun U locs G => ?_)
          have G : Gd D A s (w_Led cy aAd a_hour z9 a_arr a_deb) U locs := G
          refine lv_iinc (v := x4 + 1) (lv' := [(4, .int (x4 + 1)), (3, .int 0), (5, .int x5_4), (0, .ref (aAd 0)), (1, .int x1), (2, .int x2)]) hx hb dX3_payOthers_60 hl (k := 5) rfl rfl (by decide) rfl (fun ls hl => ?_)
          refine lv_goto (tgt := 5) hx hb dX3_payOthers_63 (by decide) ?_
          exact ih z9 0 (x4 + 1) z H kk _ _ _ G (lv_sub hl [3, 4, 5, 1, 0] rfl)
        · have H := if_t H c8
          refine lv_iconst (v := 1) hx hb dX3_payOthers_45 (by decide) ?_
          refine lv_goto (tgt := 50) hx hb dX3_payOthers_46 (by decide) ?_
          refine lv_istore_n (lv' := [(3, .int 1), (5, .int x5_4), (0, .ref (aAd 0)), (1, .int x1), (2, .int x2), (4, .int x4)]) hx hb dX3_payOthers_50 rfl hl (by decide) rfl (fun ls hl => ?_)
          refine lv_aload_n hx hb dX3_payOthers_51 rfl (lv_at hl 2 rfl) ?_
          refine lv_iload_n hx hb dX3_payOthers_52 rfl (lv_at hl 3 rfl) ?_
          refine lv_iload hx hb dX3_payOthers_53 (lv_at hl 5 rfl) ?_
          refine lv_iload hx hb dX3_payOthers_55 (lv_at hl 1 rfl) ?_
          obtain ⟨z10, hz10, H⟩ := bd_some H
          refine MV.callVw [.int x1, .int x4, .int x5_4] [] C G (c_X3_move l D cy aAd a_hour a_dep a_arr a_deb x1 x4 x5_4 z10 hz10) gX3_payOthers_X3_move rfl rfl rfl (n := 3) (by decide +kernel) ⟨Nat.le_of_ble_eq_true rfl, Nat.le_of_ble_eq_true rfl⟩ (q0 := 0) (ci := 3) rfl rfl rfl rfl hl.1 rfl (Nat.le_of_ble_eq_true rfl) dX3_payOthers_57 ⟨Nat.zero_le _, Nat.zero_le _⟩ (fun U locs G => ?_)
          have G : Gd D A s (w_Led cy aAd a_hour z10 a_arr a_deb) U locs := G
          refine lv_iinc (v := x4 + 1) (lv' := [(4, .int (x4 + 1)), (3, .int 1), (5, .int x5_4), (0, .ref (aAd 0)), (1, .int x1), (2, .int x2)]) hx hb dX3_payOthers_60 hl (k := 5) rfl rfl (by decide) rfl (fun ls hl => ?_)
          refine lv_goto (tgt := 5) hx hb dX3_payOthers_63 (by decide) ?_
          exact ih z10 1 (x4 + 1) z H kk _ _ _ G (lv_sub hl [3, 4, 5, 1, 0] rfl)
def f_X3_payOthers (a_dep a_deb : Nat → Int32) (p1 p2 : Int32) : Option (Int32 × (Nat → Int32)) := bd (f_X3_payOthers_L5 a_deb p1 p2 2000 a_dep 1 0) (fun z11 => gd (isz z11.2) (some (z11.2, z11.1)))
set_option maxHeartbeats 4000000 in
set_option maxRecDepth 100000 in
theorem c_X3_payOthers (l : Launch) (D : va_G) (cy : Nat → ClassId) (aAd : Nat → Nat) (a_hour : Int32) (a_dep a_arr a_deb : Nat → Int32) (p1 p2 : Int32) (z : (Int32 × (Nat → Int32))) (hz : f_X3_payOthers a_dep a_deb p1 p2 = some z) : MI l yX3_payOthers wsX3_payOthers ({ frames := 1, cells := 0, slots := 0, locals := 23 } : Room) D cy [.ref (aAd 0), .int p1, .int p2] (w_Led cy aAd a_hour a_dep a_arr a_deb) z.1 (w_Led cy aAd a_hour z.2 a_arr a_deb) := by
  refine met_start (Qf := fun A => MQi D cy z.1 (w_Led cy aAd a_hour z.2 a_arr a_deb) A) (cc := cX3_payOthers) (nL := 6) (ret := (some .boolean)) RX3 rfl (by decide) rfl (Nat.le_of_ble_eq_true rfl) ?_
  intro p e s m below meth c A ls C G hl
  have hl : lv_has ls 6 [(0, .ref (aAd 0)), (1, .int p1), (2, .int p2)] := hl
  have H := hz
  unfold f_X3_payOthers at H
  obtain ⟨hx, hb, hr, hml, hown, hts, hlk, hK, hA, hE⟩ := id C
  refine lv_iconst (v := 1) hx hb dX3_payOthers_0 (by decide) ?_
  refine lv_istore_n (lv' := [(3, .int 1), (0, .ref (aAd 0)), (1, .int p1), (2, .int p2)]) hx hb dX3_payOthers_1 rfl hl (by decide) rfl (fun ls hl => ?_)
  refine lv_iconst (v := 0) hx hb dX3_payOthers_2 (by decide) ?_
  refine lv_istore (lv' := [(4, .int 0), (3, .int 1), (0, .ref (aAd 0)), (1, .int p1), (2, .int p2)]) hx hb dX3_payOthers_3 hl (by decide) rfl (fun ls hl => ?_)
  obtain ⟨z11, hz11, H⟩ := bd_some H
  refine wl_X3_payOthers_5 C aAd a_hour a_arr a_deb p1 p2 _ a_dep 1 0 z11 hz11 (fun U locs ls G hl => ?_) _ _ _ G (lv_sub hl [2, 3, 4, 1, 0] rfl)
  have G : Gd D A s (w_Led cy aAd a_hour z11.1 a_arr a_deb) U locs := G
  have hl : lv_has ls 6 [(3, .int z11.2)] := hl
  refine lv_iload_n hx hb dX3_payOthers_66 rfl (lv_at hl 0 rfl) ?_
  obtain ⟨hz12, H⟩ := gd_some H
  obtain rfl := Option.some.inj H
  exact ret_z C G rfl (isz_n hz12) dX3_payOthers_67
def f_X3_payAll_L4 (a_deb : Nat → Int32) (x1 : Int32) : Nat → (Nat → Int32) → Int32 → Int32 → Option ((Nat → Int32) × Int32)
  | 0, _, _, _ => none
  | n + 1, a_dep, x2, x3 => if x1 ≤ x3 then (some (a_dep, x2)) else (bd (f_X3_payOthers a_dep a_deb x3 x1) (fun z2 => if z2.1 = 0 then (f_X3_payAll_L4 a_deb x1 n z2.2 (x2 ||| (1 <<< (x3 &&& 31))) (x3 + 1)) else (f_X3_payAll_L4 a_deb x1 n z2.2 x2 (x3 + 1))))
theorem f_X3_payAll_L4_z (a_deb : Nat → Int32) (x1 : Int32) (a_dep : Nat → Int32) (x2 x3 : Int32) : f_X3_payAll_L4 a_deb x1 0 a_dep x2 x3 = none := rfl
theorem f_X3_payAll_L4_s (a_deb : Nat → Int32) (x1 : Int32) (n : Nat) (a_dep : Nat → Int32) (x2 x3 : Int32) : f_X3_payAll_L4 a_deb x1 (n + 1) a_dep x2 x3 = if x1 ≤ x3 then (some (a_dep, x2)) else (bd (f_X3_payOthers a_dep a_deb x3 x1) (fun z2 => if z2.1 = 0 then (f_X3_payAll_L4 a_deb x1 n z2.2 (x2 ||| (1 <<< (x3 &&& 31))) (x3 + 1)) else (f_X3_payAll_L4 a_deb x1 n z2.2 x2 (x3 + 1)))) := rfl
set_option maxHeartbeats 4000000 in
set_option maxRecDepth 100000 in
theorem wl_X3_payAll_4 {p : Program} {l : Launch} {e : Env} {s : State} {m : MethodId} {below : List Frame} {meth : Method} {c : Code} {D : va_G} {cy : Nat → ClassId} {A : Nat → Prop} {args : Array Value} {Q : State → Prop} (C : Cx D cy A p s m meth c cX3_payAll 4 (some .int) wsX3_payAll RX3 args) (aAd : Nat → Nat) (a_hour : Int32) (a_arr a_deb : Nat → Int32) (x1 : Int32) :
    ∀ (n : Nat) (a_dep : Nat → Int32) (x2 x3 : Int32) (z : ((Nat → Int32) × Int32)), f_X3_payAll_L4 a_deb x1 n a_dep x2 x3 = some z → (∀ (U : Heap) (locs : List Loc) (ls : Array Slot), Gd D A s (w_Led cy aAd a_hour z.1 a_arr a_deb) U locs → lv_has ls 4 [(2, .int z.2)] → W p l e ({ frames := 2, cells := 0, slots := 0, locals := 48 } : Room) s m args below meth c U locs 0 0 Q (F0 m 30 ls [])) → ∀ (U : Heap) (locs : List Loc) (ls : Array Slot), Gd D A s (w_Led cy aAd a_hour a_dep a_arr a_deb) U locs → lv_has ls 4 [(0, .ref (aAd 0)), (1, .int x1), (2, .int x2), (3, .int x3)] → W p l e ({ frames := 2, cells := 0, slots := 0, locals := 48 } : Room) s m args below meth c U locs 0 0 Q (F0 m 4 ls []) := by
  obtain ⟨hx, hb, hr, hml, hown, hts, hlk, hK, hA, hE⟩ := id C
  intro n
  induction n with
  | zero =>
    intro a_dep x2 x3 z H
    rw [f_X3_payAll_L4_z] at H
    cases H
  | succ n ih =>
    intro a_dep x2 x3 z H kk U locs ls G hl
    rw [f_X3_payAll_L4_s] at H
    refine lv_iload_n hx hb dX3_payAll_4 rfl (lv_at hl 3 rfl) ?_
    refine lv_iload_n hx hb dX3_payAll_5 rfl (lv_at hl 1 rfl) ?_
    refine lv_icmp_ge (tgt := 30) hx hb dX3_payAll_6 (by decide) (fun c1 => ?_) (fun c1 => ?_)
    · have H := if_t H c1
      obtain rfl := Option.some.inj H
      exact kk _ _ _ G (lv_sub hl [2] rfl)
    · have H := if_f H c1
      refine lv_aload_n hx hb dX3_payAll_9 rfl (lv_at hl 0 rfl) ?_
      refine lv_iload_n hx hb dX3_payAll_10 rfl (lv_at hl 3 rfl) ?_
      refine lv_iload_n hx hb dX3_payAll_11 rfl (lv_at hl 1 rfl) ?_
      obtain ⟨z2, hz2, H⟩ := bd_some H
      refine MI.callVw z2.1 [.int x3, .int x1] [] C G (c_X3_payOthers l D cy aAd a_hour a_dep a_arr a_deb x3 x1 z2 hz2) gX3_payAll_X3_payOthers rfl rfl rfl (n := 2) (by decide +kernel) ⟨Nat.le_of_ble_eq_true rfl, Nat.le_of_ble_eq_true rfl⟩ (q0 := 0) (ci := 3) rfl rfl rfl rfl hl.1 rfl (Nat.le_of_ble_eq_true rfl) dX3_payAll_12 ⟨Nat.zero_le _, Nat.zero_le _⟩ (fun U locs G => ?_)
      have G : Gd D A s (w_Led cy aAd a_hour z2.2 a_arr a_deb) U locs := G
      refine lv_if_ne (tgt := 24) hx hb dX3_payAll_15 (by decide) (fun c3 => ?_) (fun c3 => ?_)
      · have H := if_f H c3
        refine lv_iinc (v := x3 + 1) (lv' := [(3, .int (x3 + 1)), (0, .ref (aAd 0)), (1, .int x1), (2, .int x2)]) hx hb dX3_payAll_24 hl (k := 3) rfl rfl (by decide) rfl (fun ls hl => ?_)
        refine lv_goto (tgt := 4) hx hb dX3_payAll_27 (by decide) ?_
        exact ih z2.2 x2 (x3 + 1) z H kk _ _ _ G (lv_sub hl [1, 2, 3, 0] rfl)
      · have H := if_t H c3
        refine lv_iload_n hx hb dX3_payAll_18 rfl (lv_at hl 2 rfl) ?_
        refine lv_iconst (v := 1) hx hb dX3_payAll_19 (by decide) ?_
        refine lv_iload_n hx hb dX3_payAll_20 rfl (lv_at hl 3 rfl) ?_
        refine lv_ishl hx hb dX3_payAll_21 ?_
        refine lv_ior hx hb dX3_payAll_22 ?_
        refine lv_istore_n (lv' := [(2, .int (x2 ||| (1 <<< (x3 &&& 31)))), (0, .ref (aAd 0)), (1, .int x1), (3, .int x3)]) hx hb dX3_payAll_23 rfl hl (by decide) rfl (fun ls hl => ?_)
        refine lv_iinc (v := x3 + 1) (lv' := [(3, .int (x3 + 1)), (2, .int (x2 ||| (1 <<< (x3 &&& 31)))), (0, .ref (aAd 0)), (1, .int x1)]) hx hb dX3_payAll_24 hl (k := 3) rfl rfl (by decide) rfl (fun ls hl => ?_)
        refine lv_goto (tgt := 4) hx hb dX3_payAll_27 (by decide) ?_
        exact ih z2.2 (x2 ||| (1 <<< (x3 &&& 31))) (x3 + 1) z H kk _ _ _ G (lv_sub hl [2, 3, 1, 0] rfl)
def f_X3_payAll (a_dep a_deb : Nat → Int32) (p1 : Int32) : Option (Int32 × (Nat → Int32)) := bd (f_X3_payAll_L4 a_deb p1 2000 a_dep 0 0) (fun z4 => some (z4.2, z4.1))
set_option maxHeartbeats 4000000 in
set_option maxRecDepth 100000 in
theorem c_X3_payAll (l : Launch) (D : va_G) (cy : Nat → ClassId) (aAd : Nat → Nat) (a_hour : Int32) (a_dep a_arr a_deb : Nat → Int32) (p1 : Int32) (z : (Int32 × (Nat → Int32))) (hz : f_X3_payAll a_dep a_deb p1 = some z) : MI l yX3_payAll wsX3_payAll ({ frames := 2, cells := 0, slots := 0, locals := 48 } : Room) D cy [.ref (aAd 0), .int p1] (w_Led cy aAd a_hour a_dep a_arr a_deb) z.1 (w_Led cy aAd a_hour z.2 a_arr a_deb) := by
  refine met_start (Qf := fun A => MQi D cy z.1 (w_Led cy aAd a_hour z.2 a_arr a_deb) A) (cc := cX3_payAll) (nL := 4) (ret := (some .int)) RX3 rfl (by decide) rfl (Nat.le_of_ble_eq_true rfl) ?_
  intro p e s m below meth c A ls C G hl
  have hl : lv_has ls 4 [(0, .ref (aAd 0)), (1, .int p1)] := hl
  have H := hz
  unfold f_X3_payAll at H
  obtain ⟨hx, hb, hr, hml, hown, hts, hlk, hK, hA, hE⟩ := id C
  refine lv_iconst (v := 0) hx hb dX3_payAll_0 (by decide) ?_
  refine lv_istore_n (lv' := [(2, .int 0), (0, .ref (aAd 0)), (1, .int p1)]) hx hb dX3_payAll_1 rfl hl (by decide) rfl (fun ls hl => ?_)
  refine lv_iconst (v := 0) hx hb dX3_payAll_2 (by decide) ?_
  refine lv_istore_n (lv' := [(3, .int 0), (2, .int 0), (0, .ref (aAd 0)), (1, .int p1)]) hx hb dX3_payAll_3 rfl hl (by decide) rfl (fun ls hl => ?_)
  obtain ⟨z4, hz4, H⟩ := bd_some H
  refine wl_X3_payAll_4 C aAd a_hour a_arr a_deb p1 _ a_dep 0 0 z4 hz4 (fun U locs ls G hl => ?_) _ _ _ G (lv_sub hl [2, 3, 1, 0] rfl)
  have G : Gd D A s (w_Led cy aAd a_hour z4.1 a_arr a_deb) U locs := G
  have hl : lv_has ls 4 [(2, .int z4.2)] := hl
  refine lv_iload_n hx hb dX3_payAll_30 rfl (lv_at hl 0 rfl) ?_
  obtain rfl := Option.some.inj H
  exact ret_i C G rfl dX3_payAll_31
def f_X3_depthInAll_L4 (a_dep : Nat → Int32) : Nat → Int32 → Int32 → Option Int32
  | 0, _, _ => none
  | n + 1, x1, x2 => if 6 ≤ x2 then (some x1) else (gd (inb x2 6) (f_X3_depthInAll_L4 a_dep n (x1 + (a_dep (ix x2))) (x2 + 1)))
theorem f_X3_depthInAll_L4_z (a_dep : Nat → Int32) (x1 x2 : Int32) : f_X3_depthInAll_L4 a_dep 0 x1 x2 = none := rfl
theorem f_X3_depthInAll_L4_s (a_dep : Nat → Int32) (n : Nat) (x1 x2 : Int32) : f_X3_depthInAll_L4 a_dep (n + 1) x1 x2 = if 6 ≤ x2 then (some x1) else (gd (inb x2 6) (f_X3_depthInAll_L4 a_dep n (x1 + (a_dep (ix x2))) (x2 + 1))) := rfl
set_option maxHeartbeats 4000000 in
set_option maxRecDepth 100000 in
theorem wl_X3_depthInAll_4 {p : Program} {l : Launch} {e : Env} {s : State} {m : MethodId} {below : List Frame} {meth : Method} {c : Code} {D : va_G} {cy : Nat → ClassId} {A : Nat → Prop} {args : Array Value} {Q : State → Prop} (C : Cx D cy A p s m meth c cX3_depthInAll 3 (some .int) wsX3_depthInAll RX3 args) (aAd : Nat → Nat) (a_hour : Int32) (a_dep a_arr a_deb : Nat → Int32) :
    ∀ (n : Nat) (x1 x2 : Int32) (z : Int32), f_X3_depthInAll_L4 a_dep n x1 x2 = some z → (∀ (U : Heap) (locs : List Loc) (ls : Array Slot), Gd D A s (w_Led cy aAd a_hour a_dep a_arr a_deb) U locs → lv_has ls 3 [(1, .int z)] → W p l e ({ frames := 0, cells := 0, slots := 0, locals := 0 } : Room) s m args below meth c U locs 0 0 Q (F0 m 25 ls [])) → ∀ (U : Heap) (locs : List Loc) (ls : Array Slot), Gd D A s (w_Led cy aAd a_hour a_dep a_arr a_deb) U locs → lv_has ls 3 [(0, .ref (aAd 0)), (1, .int x1), (2, .int x2)] → W p l e ({ frames := 0, cells := 0, slots := 0, locals := 0 } : Room) s m args below meth c U locs 0 0 Q (F0 m 4 ls []) := by
  obtain ⟨hx, hb, hr, hml, hown, hts, hlk, hK, hA, hE⟩ := id C
  have lk0 := hts (Cond.fieldLink RX3 9 "TideDebts$Ledger" "depths" "[I") (List.mem_of_getElem? (i := 1) rfl)
  have hiX3 : ∀ w ∈ u_ws RX3 TX3 4, w ∈ wsX3_depthInAll := fun _ h => List.mem_cons_of_mem _ (List.mem_append_right _ h)
  intro n
  induction n with
  | zero =>
    intro x1 x2 z H
    rw [f_X3_depthInAll_L4_z] at H
    cases H
  | succ n ih =>
    intro x1 x2 z H kk U locs ls G hl
    rw [f_X3_depthInAll_L4_s] at H
    refine lv_iload_n hx hb dX3_depthInAll_4 rfl (lv_at hl 2 rfl) ?_
    refine lv_bipush (v := 6) hx hb dX3_depthInAll_5 (by decide) ?_
    refine lv_icmp_ge (tgt := 25) hx hb dX3_depthInAll_7 (by decide) (fun c1 => ?_) (fun c1 => ?_)
    · have H := if_t H c1
      obtain rfl := Option.some.inj H
      exact kk _ _ _ G (lv_sub hl [1] rfl)
    · have H := if_f H c1
      refine lv_iload_n hx hb dX3_depthInAll_10 rfl (lv_at hl 1 rfl) ?_
      refine lv_aload_n hx hb dX3_depthInAll_11 rfl (lv_at hl 0 rfl) ?_
      refine va_get (D := D) (ci := 3) (v := .ref (aAd 1)) (C := RX3) (T := TX3) (N := 4) hx hb hts hiX3 hown hK G.1 0 rfl rfl 0 (by decide) lk0 (fun _ h9 => h9) rfl dX3_depthInAll_12 ?_
      refine lv_iload_n hx hb dX3_depthInAll_15 rfl (lv_at hl 2 rfl) ?_
      obtain ⟨hb2, H⟩ := gd_some H
      refine g_iald (v := a_dep (ix x2)) hx hb hK G.1 1 1 rfl rfl hb2 rfl dX3_depthInAll_16 ?_
      refine lv_iadd hx hb dX3_depthInAll_17 ?_
      refine lv_istore_n (lv' := [(1, .int (x1 + (a_dep (ix x2)))), (0, .ref (aAd 0)), (2, .int x2)]) hx hb dX3_depthInAll_18 rfl hl (by decide) rfl (fun ls hl => ?_)
      refine lv_iinc (v := x2 + 1) (lv' := [(2, .int (x2 + 1)), (1, .int (x1 + (a_dep (ix x2)))), (0, .ref (aAd 0))]) hx hb dX3_depthInAll_19 hl (k := 2) rfl rfl (by decide) rfl (fun ls hl => ?_)
      refine lv_goto (tgt := 4) hx hb dX3_depthInAll_22 (by decide) ?_
      exact ih (x1 + (a_dep (ix x2))) (x2 + 1) z H kk _ _ _ G (lv_sub hl [2, 1, 0] rfl)
def f_X3_depthInAll (a_dep : Nat → Int32) : Option Int32 := bd (f_X3_depthInAll_L4 a_dep 2000 0 0) (fun z3 => some z3)
set_option maxHeartbeats 4000000 in
set_option maxRecDepth 100000 in
theorem c_X3_depthInAll (l : Launch) (D : va_G) (cy : Nat → ClassId) (aAd : Nat → Nat) (a_hour : Int32) (a_dep a_arr a_deb : Nat → Int32) (z : Int32) (hz : f_X3_depthInAll a_dep = some z) : MI l yX3_depthInAll wsX3_depthInAll ({ frames := 0, cells := 0, slots := 0, locals := 0 } : Room) D cy [.ref (aAd 0)] (w_Led cy aAd a_hour a_dep a_arr a_deb) z (w_Led cy aAd a_hour a_dep a_arr a_deb) := by
  refine met_start (Qf := fun A => MQi D cy z (w_Led cy aAd a_hour a_dep a_arr a_deb) A) (cc := cX3_depthInAll) (nL := 3) (ret := (some .int)) RX3 rfl (by decide) rfl (Nat.le_of_ble_eq_true rfl) ?_
  intro p e s m below meth c A ls C G hl
  have hl : lv_has ls 3 [(0, .ref (aAd 0))] := hl
  have H := hz
  unfold f_X3_depthInAll at H
  obtain ⟨hx, hb, hr, hml, hown, hts, hlk, hK, hA, hE⟩ := id C
  refine lv_iconst (v := 0) hx hb dX3_depthInAll_0 (by decide) ?_
  refine lv_istore_n (lv' := [(1, .int 0), (0, .ref (aAd 0))]) hx hb dX3_depthInAll_1 rfl hl (by decide) rfl (fun ls hl => ?_)
  refine lv_iconst (v := 0) hx hb dX3_depthInAll_2 (by decide) ?_
  refine lv_istore_n (lv' := [(2, .int 0), (1, .int 0), (0, .ref (aAd 0))]) hx hb dX3_depthInAll_3 rfl hl (by decide) rfl (fun ls hl => ?_)
  obtain ⟨z3, hz3, H⟩ := bd_some H
  refine wl_X3_depthInAll_4 C aAd a_hour a_dep a_arr a_deb _ 0 0 z3 hz3 (fun U locs ls G hl => ?_) _ _ _ G (lv_sub hl [2, 1, 0] rfl)
  have G : Gd D A s (w_Led cy aAd a_hour a_dep a_arr a_deb) U locs := G
  have hl : lv_has ls 3 [(1, .int z3)] := hl
  refine lv_iload_n hx hb dX3_depthInAll_25 rfl (lv_at hl 0 rfl) ?_
  obtain rfl := Option.some.inj H
  exact ret_i C G rfl dX3_depthInAll_26
def f_X3_debtsAboveNone_L4 (a_deb : Nat → Int32) : Nat → Int32 → Int32 → Option Int32
  | 0, _, _ => none
  | n + 1, x1, x2 => if 36 ≤ x2 then (some x1) else (gd (inb x2 36) (if (a_deb (ix x2)) ≤ 0 then (f_X3_debtsAboveNone_L4 a_deb n x1 (x2 + 1)) else (f_X3_debtsAboveNone_L4 a_deb n (x1 + 1) (x2 + 1))))
theorem f_X3_debtsAboveNone_L4_z (a_deb : Nat → Int32) (x1 x2 : Int32) : f_X3_debtsAboveNone_L4 a_deb 0 x1 x2 = none := rfl
theorem f_X3_debtsAboveNone_L4_s (a_deb : Nat → Int32) (n : Nat) (x1 x2 : Int32) : f_X3_debtsAboveNone_L4 a_deb (n + 1) x1 x2 = if 36 ≤ x2 then (some x1) else (gd (inb x2 36) (if (a_deb (ix x2)) ≤ 0 then (f_X3_debtsAboveNone_L4 a_deb n x1 (x2 + 1)) else (f_X3_debtsAboveNone_L4 a_deb n (x1 + 1) (x2 + 1)))) := rfl
set_option maxHeartbeats 4000000 in
set_option maxRecDepth 100000 in
theorem wl_X3_debtsAboveNone_4 {p : Program} {l : Launch} {e : Env} {s : State} {m : MethodId} {below : List Frame} {meth : Method} {c : Code} {D : va_G} {cy : Nat → ClassId} {A : Nat → Prop} {args : Array Value} {Q : State → Prop} (C : Cx D cy A p s m meth c cX3_debtsAboveNone 3 (some .int) wsX3_debtsAboveNone RX3 args) (aAd : Nat → Nat) (a_hour : Int32) (a_dep a_arr a_deb : Nat → Int32) :
    ∀ (n : Nat) (x1 x2 : Int32) (z : Int32), f_X3_debtsAboveNone_L4 a_deb n x1 x2 = some z → (∀ (U : Heap) (locs : List Loc) (ls : Array Slot), Gd D A s (w_Led cy aAd a_hour a_dep a_arr a_deb) U locs → lv_has ls 3 [(1, .int z)] → W p l e ({ frames := 0, cells := 0, slots := 0, locals := 0 } : Room) s m args below meth c U locs 0 0 Q (F0 m 31 ls [])) → ∀ (U : Heap) (locs : List Loc) (ls : Array Slot), Gd D A s (w_Led cy aAd a_hour a_dep a_arr a_deb) U locs → lv_has ls 3 [(0, .ref (aAd 0)), (1, .int x1), (2, .int x2)] → W p l e ({ frames := 0, cells := 0, slots := 0, locals := 0 } : Room) s m args below meth c U locs 0 0 Q (F0 m 4 ls []) := by
  obtain ⟨hx, hb, hr, hml, hown, hts, hlk, hK, hA, hE⟩ := id C
  have lk0 := hts (Cond.fieldLink RX3 18 "TideDebts$Ledger" "debts" "[I") (List.mem_of_getElem? (i := 1) rfl)
  have hiX3 : ∀ w ∈ u_ws RX3 TX3 4, w ∈ wsX3_debtsAboveNone := fun _ h => List.mem_cons_of_mem _ (List.mem_append_right _ h)
  intro n
  induction n with
  | zero =>
    intro x1 x2 z H
    rw [f_X3_debtsAboveNone_L4_z] at H
    cases H
  | succ n ih =>
    intro x1 x2 z H kk U locs ls G hl
    rw [f_X3_debtsAboveNone_L4_s] at H
    refine lv_iload_n hx hb dX3_debtsAboveNone_4 rfl (lv_at hl 2 rfl) ?_
    refine lv_aload_n hx hb dX3_debtsAboveNone_5 rfl (lv_at hl 0 rfl) ?_
    refine va_get (D := D) (ci := 3) (v := .ref (aAd 3)) (C := RX3) (T := TX3) (N := 4) hx hb hts hiX3 hown hK G.1 0 rfl rfl 2 (by decide) lk0 (fun _ h9 => h9) rfl dX3_debtsAboveNone_6 ?_
    refine va_alen hx hb hK G.1 3 1 rfl rfl (v := 36) rfl dX3_debtsAboveNone_9 ?_
    refine lv_icmp_ge (tgt := 31) hx hb dX3_debtsAboveNone_10 (by decide) (fun c1 => ?_) (fun c1 => ?_)
    · have H := if_t H c1
      obtain rfl := Option.some.inj H
      exact kk _ _ _ G (lv_sub hl [1] rfl)
    · have H := if_f H c1
      refine lv_aload_n hx hb dX3_debtsAboveNone_13 rfl (lv_at hl 0 rfl) ?_
      refine va_get (D := D) (ci := 3) (v := .ref (aAd 3)) (C := RX3) (T := TX3) (N := 4) hx hb hts hiX3 hown hK G.1 0 rfl rfl 2 (by decide) lk0 (fun _ h9 => h9) rfl dX3_debtsAboveNone_14 ?_
      refine lv_iload_n hx hb dX3_debtsAboveNone_17 rfl (lv_at hl 2 rfl) ?_
      obtain ⟨hb2, H⟩ := gd_some H
      refine g_iald (v := a_deb (ix x2)) hx hb hK G.1 3 1 rfl rfl hb2 rfl dX3_debtsAboveNone_18 ?_
      refine lv_if_le (tgt := 25) hx hb dX3_debtsAboveNone_19 (by decide) (fun c3 => ?_) (fun c3 => ?_)
      · have H := if_t H c3
        refine lv_iinc (v := x2 + 1) (lv' := [(2, .int (x2 + 1)), (0, .ref (aAd 0)), (1, .int x1)]) hx hb dX3_debtsAboveNone_25 hl (k := 2) rfl rfl (by decide) rfl (fun ls hl => ?_)
        refine lv_goto (tgt := 4) hx hb dX3_debtsAboveNone_28 (by decide) ?_
        exact ih x1 (x2 + 1) z H kk _ _ _ G (lv_sub hl [1, 2, 0] rfl)
      · have H := if_f H c3
        refine lv_iinc (v := x1 + 1) (lv' := [(1, .int (x1 + 1)), (0, .ref (aAd 0)), (2, .int x2)]) hx hb dX3_debtsAboveNone_22 hl (k := 1) rfl rfl (by decide) rfl (fun ls hl => ?_)
        refine lv_iinc (v := x2 + 1) (lv' := [(2, .int (x2 + 1)), (1, .int (x1 + 1)), (0, .ref (aAd 0))]) hx hb dX3_debtsAboveNone_25 hl (k := 2) rfl rfl (by decide) rfl (fun ls hl => ?_)
        refine lv_goto (tgt := 4) hx hb dX3_debtsAboveNone_28 (by decide) ?_
        exact ih (x1 + 1) (x2 + 1) z H kk _ _ _ G (lv_sub hl [2, 1, 0] rfl)
def f_X3_debtsAboveNone (a_deb : Nat → Int32) : Option Int32 := bd (f_X3_debtsAboveNone_L4 a_deb 2000 0 0) (fun z4 => some z4)
set_option maxHeartbeats 4000000 in
set_option maxRecDepth 100000 in
theorem c_X3_debtsAboveNone (l : Launch) (D : va_G) (cy : Nat → ClassId) (aAd : Nat → Nat) (a_hour : Int32) (a_dep a_arr a_deb : Nat → Int32) (z : Int32) (hz : f_X3_debtsAboveNone a_deb = some z) : MI l yX3_debtsAboveNone wsX3_debtsAboveNone ({ frames := 0, cells := 0, slots := 0, locals := 0 } : Room) D cy [.ref (aAd 0)] (w_Led cy aAd a_hour a_dep a_arr a_deb) z (w_Led cy aAd a_hour a_dep a_arr a_deb) := by
  refine met_start (Qf := fun A => MQi D cy z (w_Led cy aAd a_hour a_dep a_arr a_deb) A) (cc := cX3_debtsAboveNone) (nL := 3) (ret := (some .int)) RX3 rfl (by decide) rfl (Nat.le_of_ble_eq_true rfl) ?_
  intro p e s m below meth c A ls C G hl
  have hl : lv_has ls 3 [(0, .ref (aAd 0))] := hl
  have H := hz
  unfold f_X3_debtsAboveNone at H
  obtain ⟨hx, hb, hr, hml, hown, hts, hlk, hK, hA, hE⟩ := id C
  refine lv_iconst (v := 0) hx hb dX3_debtsAboveNone_0 (by decide) ?_
  refine lv_istore_n (lv' := [(1, .int 0), (0, .ref (aAd 0))]) hx hb dX3_debtsAboveNone_1 rfl hl (by decide) rfl (fun ls hl => ?_)
  refine lv_iconst (v := 0) hx hb dX3_debtsAboveNone_2 (by decide) ?_
  refine lv_istore_n (lv' := [(2, .int 0), (1, .int 0), (0, .ref (aAd 0))]) hx hb dX3_debtsAboveNone_3 rfl hl (by decide) rfl (fun ls hl => ?_)
  obtain ⟨z4, hz4, H⟩ := bd_some H
  refine wl_X3_debtsAboveNone_4 C aAd a_hour a_dep a_arr a_deb _ 0 0 z4 hz4 (fun U locs ls G hl => ?_) _ _ _ G (lv_sub hl [2, 1, 0] rfl)
  have G : Gd D A s (w_Led cy aAd a_hour a_dep a_arr a_deb) U locs := G
  have hl : lv_has ls 3 [(1, .int z4)] := hl
  refine lv_iload_n hx hb dX3_debtsAboveNone_31 rfl (lv_at hl 0 rfl) ?_
  obtain rfl := Option.some.inj H
  exact ret_i C G rfl dX3_debtsAboveNone_32
def f_X3_open (a_hour : Int32) (a_dep a_arr a_deb : Nat → Int32) (b_wat : Int32) (b_cdp : Nat → Int32) : Option (Int32 × (Nat → Int32) × (Nat → Int32) × (Nat → Int32)) := bd (f_J7_fill_53178 6 a_dep 0) (fun z1 => bd (f_J7_fill_53178 6 a_arr 0) (fun z2 => bd (f_J7_fill_53178 36 a_deb 0) (fun z3 => gd (cpb 0 0 b_wat 6 6) (some (0, va_cpy b_cdp z1 0 0 (ix b_wat), z2, z3)))))
set_option maxHeartbeats 4000000 in
set_option maxRecDepth 100000 in
theorem c_X3_open (l : Launch) (D : va_G) (cy : Nat → ClassId) (aAd : Nat → Nat) (bAd : Nat → Nat) (a_hour : Int32) (a_dep a_arr a_deb : Nat → Int32) (b_wat : Int32) (b_lev b_kin b_cdp b_sil : Nat → Int32) (z : (Int32 × (Nat → Int32) × (Nat → Int32) × (Nat → Int32))) (hz : f_X3_open a_hour a_dep a_arr a_deb b_wat b_cdp = some z) : MV l yX3_open wsX3_open ({ frames := 1, cells := 0, slots := 0, locals := 60 } : Room) D cy [.ref (aAd 0), .ref (bAd 0)] (w_Led cy aAd a_hour a_dep a_arr a_deb ++ w_Ch cy bAd b_wat b_lev b_kin b_cdp b_sil) (w_Led cy aAd z.1 z.2.1 z.2.2.1 z.2.2.2 ++ w_Ch cy bAd b_wat b_lev b_kin b_cdp b_sil) := by
  refine met_start (Qf := fun A => MQv D cy (w_Led cy aAd z.1 z.2.1 z.2.2.1 z.2.2.2 ++ w_Ch cy bAd b_wat b_lev b_kin b_cdp b_sil) A) (cc := cX3_open) (nL := 2) (ret := none) RX3 rfl (by decide) rfl (Nat.le_of_ble_eq_true rfl) ?_
  intro p e s m below meth c A ls C G hl
  have hl : lv_has ls 2 [(0, .ref (aAd 0)), (1, .ref (bAd 0))] := hl
  have H := hz
  unfold f_X3_open at H
  obtain ⟨hx, hb, hr, hml, hown, hts, hlk, hK, hA, hE⟩ := id C
  have lk0 := hts (Cond.fieldLink RX3 21 "TideDebts$Ledger" "hour" "I") (List.mem_of_getElem? (i := 1) rfl)
  have lk1 := hts (Cond.fieldLink RX3 9 "TideDebts$Ledger" "depths" "[I") (List.mem_of_getElem? (i := 2) rfl)
  have lk2 := hts (Cond.fieldLink RX3 15 "TideDebts$Ledger" "arrears" "[I") (List.mem_of_getElem? (i := 3) rfl)
  have lk3 := hts (Cond.fieldLink RX3 18 "TideDebts$Ledger" "debts" "[I") (List.mem_of_getElem? (i := 4) rfl)
  have lk4 := hts (Cond.fieldLink RX3 31 "TideDebts$Chart" "depths" "[I") (List.mem_of_getElem? (i := 5) rfl)
  have lk5 := hts (Cond.fieldLink RX3 34 "TideDebts$Chart" "waters" "I") (List.mem_of_getElem? (i := 6) rfl)
  have lk6 := hts (Cond.methodLink RX3 37 arraycopyName) (List.mem_of_getElem? (i := 7) rfl)
  have lk7 := hts (Cond.native arraycopyName) (List.mem_of_getElem? (i := 8) rfl)
  have lk8 := hts (Cond.static arraycopyName) (List.mem_of_getElem? (i := 9) rfl)
  have lk9 := hts (Cond.initialized "java/lang/System") (List.mem_of_getElem? (i := 10) rfl)
  have hiX2 : ∀ w ∈ u_ws RX2 TX2 5, w ∈ wsX3_open := fun _ h => List.mem_cons_of_mem _ (List.mem_append_right _ h)
  have hiX3 : ∀ w ∈ u_ws RX3 TX3 4, w ∈ wsX3_open := fun _ h => List.mem_cons_of_mem _ (List.mem_append_left _ (List.mem_append_right _ h))
  refine lv_aload_n hx hb dX3_open_0 rfl (lv_at hl 0 rfl) ?_
  refine lv_iconst (v := 0) hx hb dX3_open_1 (by decide) ?_
  refine va_put (D := D) (ci := 3) (v := .int 0) (ty := .int) (C := RX3) (T := TX3) (N := 4) hx hb hts hiX3 tyX3 tyX3_ok nmX3 hown hK G.1 G.2.1 G.2.2 0 rfl rfl 3 (by decide) lk0 (fun _ h9 => h9) rfl (tyX3_ok 3 (by decide)) rfl rfl (Nat.le_of_ble_eq_true rfl) dX3_open_2 (fun U locs hP hD hS => ?_)
  have G : Gd D A s (w_Led cy aAd 0 a_dep a_arr a_deb ++ w_Ch cy bAd b_wat b_lev b_kin b_cdp b_sil) U locs := ⟨hP, hD, hS⟩
  refine lv_aload_n hx hb dX3_open_5 rfl (lv_at hl 0 rfl) ?_
  refine va_get (D := D) (ci := 3) (v := .ref (aAd 1)) (C := RX3) (T := TX3) (N := 4) hx hb hts hiX3 hown hK G.1 0 rfl rfl 0 (by decide) lk1 (fun _ h9 => h9) rfl dX3_open_6 ?_
  refine lv_iconst (v := 0) hx hb dX3_open_9 (by decide) ?_
  obtain ⟨z1, hz1, H⟩ := bd_some H
  refine MV.callS [.ref (aAd 1), .int 0] [] [1] C G (c_J7_fill_53178 l D cy (fun k => aAd (k + 1)) 6 a_dep 0 z1 hz1) gX3_open_J7_fill_53178 rfl rfl rfl (n := 2) (by decide +kernel) ⟨Nat.le_of_ble_eq_true rfl, Nat.le_of_ble_eq_true rfl⟩ rfl rfl rfl rfl hl.1 rfl (Nat.le_of_ble_eq_true rfl) dX3_open_10 ⟨Nat.zero_le _, Nat.zero_le _⟩ (fun U locs G => ?_)
  have G : Gd D A s (w_Led cy aAd 0 z1 a_arr a_deb ++ w_Ch cy bAd b_wat b_lev b_kin b_cdp b_sil) U locs := G
  refine lv_aload_n hx hb dX3_open_13 rfl (lv_at hl 0 rfl) ?_
  refine va_get (D := D) (ci := 3) (v := .ref (aAd 2)) (C := RX3) (T := TX3) (N := 4) hx hb hts hiX3 hown hK G.1 0 rfl rfl 1 (by decide) lk2 (fun _ h9 => h9) rfl dX3_open_14 ?_
  refine lv_iconst (v := 0) hx hb dX3_open_17 (by decide) ?_
  obtain ⟨z2, hz2, H⟩ := bd_some H
  refine MV.callS [.ref (aAd 2), .int 0] [] [2] C G (c_J7_fill_53178 l D cy (fun k => aAd (k + 2)) 6 a_arr 0 z2 hz2) gX3_open_J7_fill_53178 rfl rfl rfl (n := 2) (by decide +kernel) ⟨Nat.le_of_ble_eq_true rfl, Nat.le_of_ble_eq_true rfl⟩ rfl rfl rfl rfl hl.1 rfl (Nat.le_of_ble_eq_true rfl) dX3_open_18 ⟨Nat.zero_le _, Nat.zero_le _⟩ (fun U locs G => ?_)
  have G : Gd D A s (w_Led cy aAd 0 z1 z2 a_deb ++ w_Ch cy bAd b_wat b_lev b_kin b_cdp b_sil) U locs := G
  refine lv_aload_n hx hb dX3_open_21 rfl (lv_at hl 0 rfl) ?_
  refine va_get (D := D) (ci := 3) (v := .ref (aAd 3)) (C := RX3) (T := TX3) (N := 4) hx hb hts hiX3 hown hK G.1 0 rfl rfl 2 (by decide) lk3 (fun _ h9 => h9) rfl dX3_open_22 ?_
  refine lv_iconst (v := 0) hx hb dX3_open_25 (by decide) ?_
  obtain ⟨z3, hz3, H⟩ := bd_some H
  refine MV.callS [.ref (aAd 3), .int 0] [] [3] C G (c_J7_fill_53178 l D cy (fun k => aAd (k + 3)) 36 a_deb 0 z3 hz3) gX3_open_J7_fill_53178 rfl rfl rfl (n := 2) (by decide +kernel) ⟨Nat.le_of_ble_eq_true rfl, Nat.le_of_ble_eq_true rfl⟩ rfl rfl rfl rfl hl.1 rfl (Nat.le_of_ble_eq_true rfl) dX3_open_26 ⟨Nat.zero_le _, Nat.zero_le _⟩ (fun U locs G => ?_)
  have G : Gd D A s (w_Led cy aAd 0 z1 z2 z3 ++ w_Ch cy bAd b_wat b_lev b_kin b_cdp b_sil) U locs := G
  refine lv_aload_n hx hb dX3_open_29 rfl (lv_at hl 1 rfl) ?_
  refine va_get (D := D) (ci := 2) (v := .ref (bAd 3)) (C := RX2) (T := TX2) (N := 5) hx hb hts hiX2 hown hK G.1 4 rfl rfl 2 (by decide) lk4 (fun _ h9 => h9) rfl dX3_open_30 ?_
  refine lv_iconst (v := 0) hx hb dX3_open_33 (by decide) ?_
  refine lv_aload_n hx hb dX3_open_34 rfl (lv_at hl 0 rfl) ?_
  refine va_get (D := D) (ci := 3) (v := .ref (aAd 1)) (C := RX3) (T := TX3) (N := 4) hx hb hts hiX3 hown hK G.1 0 rfl rfl 0 (by decide) lk1 (fun _ h9 => h9) rfl dX3_open_35 ?_
  refine lv_iconst (v := 0) hx hb dX3_open_38 (by decide) ?_
  refine lv_aload_n hx hb dX3_open_39 rfl (lv_at hl 1 rfl) ?_
  refine va_get (D := D) (ci := 2) (v := .int b_wat) (C := RX2) (T := TX2) (N := 5) hx hb hts hiX2 hown hK G.1 4 rfl rfl 4 (by decide) lk5 (fun _ h9 => h9) rfl dX3_open_40 ?_
  obtain ⟨hc4, H⟩ := gd_some H
  refine va_copyi hx hb (hml.trans hl.1.symm) hown lk6 lk7 lk8 lk9 hK G.1 G.2.1 G.2.2 7 1 1 1 rfl rfl rfl rfl rfl (cpb_1 hc4) (cpb_2 hc4) (cpb_3 hc4) (cpb_4 hc4) (cpb_5 hc4) (fun _ _ => rfl) (Nat.le_of_ble_eq_true rfl) (Nat.le_of_ble_eq_true rfl) dX3_open_43 (fun U locs hP hD hS => ?_)
  have G : Gd D A s (w_Led cy aAd 0 (va_cpy b_cdp z1 0 0 (ix b_wat)) z2 z3 ++ w_Ch cy bAd b_wat b_lev b_kin b_cdp b_sil) U locs := ⟨hP, hD, hS⟩
  obtain rfl := Option.some.inj H
  exact ret_v C G dX3_open_46
def f_X3_takeFrom (a_hour : Int32) (a_dep a_arr a_deb : Nat → Int32) (b_hour : Int32) (b_dep b_arr b_deb : Nat → Int32) : Option (Int32 × (Nat → Int32) × (Nat → Int32) × (Nat → Int32)) := some (b_hour, va_cpy b_dep a_dep 0 0 6, va_cpy b_arr a_arr 0 0 6, va_cpy b_deb a_deb 0 0 36)
set_option maxHeartbeats 4000000 in
set_option maxRecDepth 100000 in
theorem c_X3_takeFrom (l : Launch) (D : va_G) (cy : Nat → ClassId) (aAd : Nat → Nat) (bAd : Nat → Nat) (a_hour : Int32) (a_dep a_arr a_deb : Nat → Int32) (b_hour : Int32) (b_dep b_arr b_deb : Nat → Int32) (z : (Int32 × (Nat → Int32) × (Nat → Int32) × (Nat → Int32))) (hz : f_X3_takeFrom a_hour a_dep a_arr a_deb b_hour b_dep b_arr b_deb = some z) : MV l yX3_takeFrom wsX3_takeFrom ({ frames := 1, cells := 0, slots := 0, locals := 60 } : Room) D cy [.ref (aAd 0), .ref (bAd 0)] (w_Led cy aAd a_hour a_dep a_arr a_deb ++ w_Led cy bAd b_hour b_dep b_arr b_deb) (w_Led cy aAd z.1 z.2.1 z.2.2.1 z.2.2.2 ++ w_Led cy bAd b_hour b_dep b_arr b_deb) := by
  refine met_start (Qf := fun A => MQv D cy (w_Led cy aAd z.1 z.2.1 z.2.2.1 z.2.2.2 ++ w_Led cy bAd b_hour b_dep b_arr b_deb) A) (cc := cX3_takeFrom) (nL := 2) (ret := none) RX3 rfl (by decide) rfl (Nat.le_of_ble_eq_true rfl) ?_
  intro p e s m below meth c A ls C G hl
  have hl : lv_has ls 2 [(0, .ref (aAd 0)), (1, .ref (bAd 0))] := hl
  have H := hz
  unfold f_X3_takeFrom at H
  obtain ⟨hx, hb, hr, hml, hown, hts, hlk, hK, hA, hE⟩ := id C
  have lk0 := hts (Cond.fieldLink RX3 9 "TideDebts$Ledger" "depths" "[I") (List.mem_of_getElem? (i := 1) rfl)
  have lk1 := hts (Cond.methodLink RX3 37 arraycopyName) (List.mem_of_getElem? (i := 2) rfl)
  have lk2 := hts (Cond.native arraycopyName) (List.mem_of_getElem? (i := 3) rfl)
  have lk3 := hts (Cond.static arraycopyName) (List.mem_of_getElem? (i := 4) rfl)
  have lk4 := hts (Cond.initialized "java/lang/System") (List.mem_of_getElem? (i := 5) rfl)
  have lk5 := hts (Cond.fieldLink RX3 15 "TideDebts$Ledger" "arrears" "[I") (List.mem_of_getElem? (i := 6) rfl)
  have lk6 := hts (Cond.fieldLink RX3 18 "TideDebts$Ledger" "debts" "[I") (List.mem_of_getElem? (i := 7) rfl)
  have lk7 := hts (Cond.fieldLink RX3 21 "TideDebts$Ledger" "hour" "I") (List.mem_of_getElem? (i := 8) rfl)
  have hiX3 : ∀ w ∈ u_ws RX3 TX3 4, w ∈ wsX3_takeFrom := fun _ h => List.mem_cons_of_mem _ (List.mem_append_right _ h)
  refine lv_aload_n hx hb dX3_takeFrom_0 rfl (lv_at hl 1 rfl) ?_
  refine va_get (D := D) (ci := 3) (v := .ref (bAd 1)) (C := RX3) (T := TX3) (N := 4) hx hb hts hiX3 hown hK G.1 4 rfl rfl 0 (by decide) lk0 (fun _ h9 => h9) rfl dX3_takeFrom_1 ?_
  refine lv_iconst (v := 0) hx hb dX3_takeFrom_4 (by decide) ?_
  refine lv_aload_n hx hb dX3_takeFrom_5 rfl (lv_at hl 0 rfl) ?_
  refine va_get (D := D) (ci := 3) (v := .ref (aAd 1)) (C := RX3) (T := TX3) (N := 4) hx hb hts hiX3 hown hK G.1 0 rfl rfl 0 (by decide) lk0 (fun _ h9 => h9) rfl dX3_takeFrom_6 ?_
  refine lv_iconst (v := 0) hx hb dX3_takeFrom_9 (by decide) ?_
  refine lv_bipush (v := 6) hx hb dX3_takeFrom_10 (by decide) ?_
  refine va_copyi hx hb (hml.trans hl.1.symm) hown lk1 lk2 lk3 lk4 hK G.1 G.2.1 G.2.2 5 1 1 1 rfl rfl rfl rfl rfl (by decide) (by decide) (by decide) (by decide) (by decide) (fun _ _ => rfl) (Nat.le_of_ble_eq_true rfl) (Nat.le_of_ble_eq_true rfl) dX3_takeFrom_12 (fun U locs hP hD hS => ?_)
  have G : Gd D A s (w_Led cy aAd a_hour (va_cpy b_dep a_dep 0 0 6) a_arr a_deb ++ w_Led cy bAd b_hour b_dep b_arr b_deb) U locs := ⟨hP, hD, hS⟩
  refine lv_aload_n hx hb dX3_takeFrom_15 rfl (lv_at hl 1 rfl) ?_
  refine va_get (D := D) (ci := 3) (v := .ref (bAd 2)) (C := RX3) (T := TX3) (N := 4) hx hb hts hiX3 hown hK G.1 4 rfl rfl 1 (by decide) lk5 (fun _ h9 => h9) rfl dX3_takeFrom_16 ?_
  refine lv_iconst (v := 0) hx hb dX3_takeFrom_19 (by decide) ?_
  refine lv_aload_n hx hb dX3_takeFrom_20 rfl (lv_at hl 0 rfl) ?_
  refine va_get (D := D) (ci := 3) (v := .ref (aAd 2)) (C := RX3) (T := TX3) (N := 4) hx hb hts hiX3 hown hK G.1 0 rfl rfl 1 (by decide) lk5 (fun _ h9 => h9) rfl dX3_takeFrom_21 ?_
  refine lv_iconst (v := 0) hx hb dX3_takeFrom_24 (by decide) ?_
  refine lv_bipush (v := 6) hx hb dX3_takeFrom_25 (by decide) ?_
  refine va_copyi hx hb (hml.trans hl.1.symm) hown lk1 lk2 lk3 lk4 hK G.1 G.2.1 G.2.2 6 2 1 1 rfl rfl rfl rfl rfl (by decide) (by decide) (by decide) (by decide) (by decide) (fun _ _ => rfl) (Nat.le_of_ble_eq_true rfl) (Nat.le_of_ble_eq_true rfl) dX3_takeFrom_27 (fun U locs hP hD hS => ?_)
  have G : Gd D A s (w_Led cy aAd a_hour (va_cpy b_dep a_dep 0 0 6) (va_cpy b_arr a_arr 0 0 6) a_deb ++ w_Led cy bAd b_hour b_dep b_arr b_deb) U locs := ⟨hP, hD, hS⟩
  refine lv_aload_n hx hb dX3_takeFrom_30 rfl (lv_at hl 1 rfl) ?_
  refine va_get (D := D) (ci := 3) (v := .ref (bAd 3)) (C := RX3) (T := TX3) (N := 4) hx hb hts hiX3 hown hK G.1 4 rfl rfl 2 (by decide) lk6 (fun _ h9 => h9) rfl dX3_takeFrom_31 ?_
  refine lv_iconst (v := 0) hx hb dX3_takeFrom_34 (by decide) ?_
  refine lv_aload_n hx hb dX3_takeFrom_35 rfl (lv_at hl 0 rfl) ?_
  refine va_get (D := D) (ci := 3) (v := .ref (aAd 3)) (C := RX3) (T := TX3) (N := 4) hx hb hts hiX3 hown hK G.1 0 rfl rfl 2 (by decide) lk6 (fun _ h9 => h9) rfl dX3_takeFrom_36 ?_
  refine lv_iconst (v := 0) hx hb dX3_takeFrom_39 (by decide) ?_
  refine lv_aload_n hx hb dX3_takeFrom_40 rfl (lv_at hl 0 rfl) ?_
  refine va_get (D := D) (ci := 3) (v := .ref (aAd 3)) (C := RX3) (T := TX3) (N := 4) hx hb hts hiX3 hown hK G.1 0 rfl rfl 2 (by decide) lk6 (fun _ h9 => h9) rfl dX3_takeFrom_41 ?_
  refine va_alen hx hb hK G.1 3 1 rfl rfl (v := 36) rfl dX3_takeFrom_44 ?_
  refine va_copyi hx hb (hml.trans hl.1.symm) hown lk1 lk2 lk3 lk4 hK G.1 G.2.1 G.2.2 7 3 1 1 rfl rfl rfl rfl rfl (by decide) (by decide) (by decide) (by decide) (by decide) (fun _ _ => rfl) (Nat.le_of_ble_eq_true rfl) (Nat.le_of_ble_eq_true rfl) dX3_takeFrom_45 (fun U locs hP hD hS => ?_)
  have G : Gd D A s (w_Led cy aAd a_hour (va_cpy b_dep a_dep 0 0 6) (va_cpy b_arr a_arr 0 0 6) (va_cpy b_deb a_deb 0 0 36) ++ w_Led cy bAd b_hour b_dep b_arr b_deb) U locs := ⟨hP, hD, hS⟩
  refine lv_aload_n hx hb dX3_takeFrom_48 rfl (lv_at hl 0 rfl) ?_
  refine lv_aload_n hx hb dX3_takeFrom_49 rfl (lv_at hl 1 rfl) ?_
  refine va_get (D := D) (ci := 3) (v := .int b_hour) (C := RX3) (T := TX3) (N := 4) hx hb hts hiX3 hown hK G.1 4 rfl rfl 3 (by decide) lk7 (fun _ h9 => h9) rfl dX3_takeFrom_50 ?_
  refine va_put (D := D) (ci := 3) (v := .int b_hour) (ty := .int) (C := RX3) (T := TX3) (N := 4) hx hb hts hiX3 tyX3 tyX3_ok nmX3 hown hK G.1 G.2.1 G.2.2 0 rfl rfl 3 (by decide) lk7 (fun _ h9 => h9) rfl (tyX3_ok 3 (by decide)) rfl rfl (Nat.le_of_ble_eq_true rfl) dX3_takeFrom_53 (fun U locs hP hD hS => ?_)
  have G : Gd D A s (w_Led cy aAd b_hour (va_cpy b_dep a_dep 0 0 6) (va_cpy b_arr a_arr 0 0 6) (va_cpy b_deb a_deb 0 0 36) ++ w_Led cy bAd b_hour b_dep b_arr b_deb) U locs := ⟨hP, hD, hS⟩
  obtain rfl := Option.some.inj H
  exact ret_v C G dX3_takeFrom_56
def f_X3_passHour_L11 (a_hour b_wat : Int32) (b_lev b_kin b_sil : Nat → Int32) : Nat → (Nat → Int32) → (Nat → Int32) → Int32 → Option ((Nat → Int32) × (Nat → Int32))
  | 0, _, _, _ => none
  | n + 1, a_dep, a_arr, x3 => if b_wat ≤ x3 then (some (a_dep, a_arr)) else (bd (f_X2_flow b_lev b_kin b_sil x3 a_hour) (fun z3 => bd (f_X3_takeOrGive a_dep a_arr x3 z3) (fun z4 => f_X3_passHour_L11 a_hour b_wat b_lev b_kin b_sil n z4.1 z4.2 (x3 + 1))))
theorem f_X3_passHour_L11_z (a_hour b_wat : Int32) (b_lev b_kin b_sil : Nat → Int32) (a_dep a_arr : Nat → Int32) (x3 : Int32) : f_X3_passHour_L11 a_hour b_wat b_lev b_kin b_sil 0 a_dep a_arr x3 = none := rfl
theorem f_X3_passHour_L11_s (a_hour b_wat : Int32) (b_lev b_kin b_sil : Nat → Int32) (n : Nat) (a_dep a_arr : Nat → Int32) (x3 : Int32) : f_X3_passHour_L11 a_hour b_wat b_lev b_kin b_sil (n + 1) a_dep a_arr x3 = if b_wat ≤ x3 then (some (a_dep, a_arr)) else (bd (f_X2_flow b_lev b_kin b_sil x3 a_hour) (fun z3 => bd (f_X3_takeOrGive a_dep a_arr x3 z3) (fun z4 => f_X3_passHour_L11 a_hour b_wat b_lev b_kin b_sil n z4.1 z4.2 (x3 + 1)))) := rfl
set_option maxHeartbeats 4000000 in
set_option maxRecDepth 100000 in
theorem wl_X3_passHour_11 {p : Program} {l : Launch} {e : Env} {s : State} {m : MethodId} {below : List Frame} {meth : Method} {c : Code} {D : va_G} {cy : Nat → ClassId} {A : Nat → Prop} {args : Array Value} {Q : State → Prop} (C : Cx D cy A p s m meth c cX3_passHour 4 (some .int) wsX3_passHour RX3 args) (aAd : Nat → Nat) (bAd : Nat → Nat) (a_hour : Int32) (a_deb : Nat → Int32) (b_wat : Int32) (b_lev b_kin b_cdp b_sil : Nat → Int32) (x2 : Int32) :
    ∀ (n : Nat) (a_dep a_arr : Nat → Int32) (x3 : Int32) (z : ((Nat → Int32) × (Nat → Int32))), f_X3_passHour_L11 a_hour b_wat b_lev b_kin b_sil n a_dep a_arr x3 = some z → (∀ (U : Heap) (locs : List Loc) (ls : Array Slot), Gd D A s (w_Led cy aAd a_hour z.1 z.2 a_deb ++ w_Ch cy bAd b_wat b_lev b_kin b_cdp b_sil) U locs → lv_has ls 4 [(0, .ref (aAd 0)), (2, .int x2)] → W p l e ({ frames := 4, cells := 0, slots := 0, locals := 86 } : Room) s m args below meth c U locs 0 0 Q (F0 m 39 ls [])) → ∀ (U : Heap) (locs : List Loc) (ls : Array Slot), Gd D A s (w_Led cy aAd a_hour a_dep a_arr a_deb ++ w_Ch cy bAd b_wat b_lev b_kin b_cdp b_sil) U locs → lv_has ls 4 [(0, .ref (aAd 0)), (1, .ref (bAd 0)), (2, .int x2), (3, .int x3)] → W p l e ({ frames := 4, cells := 0, slots := 0, locals := 86 } : Room) s m args below meth c U locs 0 0 Q (F0 m 11 ls []) := by
  obtain ⟨hx, hb, hr, hml, hown, hts, hlk, hK, hA, hE⟩ := id C
  have lk0 := hts (Cond.fieldLink RX3 34 "TideDebts$Chart" "waters" "I") (List.mem_of_getElem? (i := 2) rfl)
  have lk1 := hts (Cond.fieldLink RX3 21 "TideDebts$Ledger" "hour" "I") (List.mem_of_getElem? (i := 1) rfl)
  have hiX2 : ∀ w ∈ u_ws RX2 TX2 5, w ∈ wsX3_passHour := fun _ h => List.mem_cons_of_mem _ (List.mem_append_right _ h)
  have hiX3 : ∀ w ∈ u_ws RX3 TX3 4, w ∈ wsX3_passHour := fun _ h => List.mem_cons_of_mem _ (List.mem_append_left _ (List.mem_append_right _ h))
  intro n
  induction n with
  | zero =>
    intro a_dep a_arr x3 z H
    rw [f_X3_passHour_L11_z] at H
    cases H
  | succ n ih =>
    intro a_dep a_arr x3 z H kk U locs ls G hl
    rw [f_X3_passHour_L11_s] at H
    refine lv_iload_n hx hb dX3_passHour_11 rfl (lv_at hl 3 rfl) ?_
    refine lv_aload_n hx hb dX3_passHour_12 rfl (lv_at hl 1 rfl) ?_
    refine va_get (D := D) (ci := 2) (v := .int b_wat) (C := RX2) (T := TX2) (N := 5) hx hb hts hiX2 hown hK G.1 4 rfl rfl 4 (by decide) lk0 (fun _ h9 => h9) rfl dX3_passHour_13 ?_
    refine lv_icmp_ge (tgt := 39) hx hb dX3_passHour_16 (by decide) (fun c2 => ?_) (fun c2 => ?_)
    · have H := if_t H c2
      obtain rfl := Option.some.inj H
      exact kk _ _ _ G (lv_sub hl [0, 2] rfl)
    · have H := if_f H c2
      refine lv_aload_n hx hb dX3_passHour_19 rfl (lv_at hl 0 rfl) ?_
      refine lv_iload_n hx hb dX3_passHour_20 rfl (lv_at hl 3 rfl) ?_
      refine lv_aload_n hx hb dX3_passHour_21 rfl (lv_at hl 1 rfl) ?_
      refine lv_iload_n hx hb dX3_passHour_22 rfl (lv_at hl 3 rfl) ?_
      refine lv_aload_n hx hb dX3_passHour_23 rfl (lv_at hl 0 rfl) ?_
      refine va_get (D := D) (ci := 3) (v := .int a_hour) (C := RX3) (T := TX3) (N := 4) hx hb hts hiX3 hown hK G.1 0 rfl rfl 3 (by decide) lk1 (fun _ h9 => h9) rfl dX3_passHour_24 ?_
      obtain ⟨z3, hz3, H⟩ := bd_some H
      refine MI.callV z3 [.int x3, .int a_hour] [.int x3, .ref (aAd 0)] [4, 5, 6, 7, 8] C G (c_X2_flow l D cy bAd b_wat b_lev b_kin b_cdp b_sil x3 a_hour z3 hz3) gX3_passHour_X2_flow rfl rfl rfl (n := 2) (by decide +kernel) ⟨Nat.le_of_ble_eq_true rfl, Nat.le_of_ble_eq_true rfl⟩ (q0 := 4) (ci := 2) rfl rfl rfl rfl rfl rfl rfl hl.1 rfl (Nat.le_of_ble_eq_true rfl) dX3_passHour_27 ⟨Nat.zero_le _, Nat.zero_le _⟩ (fun U locs G => ?_)
      have G : Gd D A s (w_Led cy aAd a_hour a_dep a_arr a_deb ++ w_Ch cy bAd b_wat b_lev b_kin b_cdp b_sil) U locs := G
      obtain ⟨z4, hz4, H⟩ := bd_some H
      refine MV.callVw [.int x3, .int z3] [] C G (MV.tail _ (c_X3_takeOrGive l D cy aAd a_hour a_dep a_arr a_deb x3 z3 z4 hz4)) gX3_passHour_X3_takeOrGive rfl rfl rfl (n := 2) (by decide +kernel) ⟨Nat.le_of_ble_eq_true rfl, Nat.le_of_ble_eq_true rfl⟩ (q0 := 0) (ci := 3) rfl rfl rfl rfl hl.1 rfl (Nat.le_of_ble_eq_true rfl) dX3_passHour_30 ⟨Nat.zero_le _, Nat.zero_le _⟩ (fun U locs G => ?_)
      have G : Gd D A s (w_Led cy aAd a_hour z4.1 z4.2 a_deb ++ w_Ch cy bAd b_wat b_lev b_kin b_cdp b_sil) U locs := G
      refine lv_iinc (v := x3 + 1) (lv' := [(3, .int (x3 + 1)), (0, .ref (aAd 0)), (1, .ref (bAd 0)), (2, .int x2)]) hx hb dX3_passHour_33 hl (k := 3) rfl rfl (by decide) rfl (fun ls hl => ?_)
      refine lv_goto (tgt := 11) hx hb dX3_passHour_36 (by decide) ?_
      exact ih z4.1 z4.2 (x3 + 1) z H kk _ _ _ G (lv_sub hl [1, 2, 3, 0] rfl)
def f_X3_passHour (a_hour : Int32) (a_dep a_arr a_deb : Nat → Int32) (b_wat : Int32) (b_lev b_kin b_sil : Nat → Int32) : Option (Int32 × Int32 × (Nat → Int32) × (Nat → Int32) × (Nat → Int32)) := bd (f_X2_rise b_lev a_hour) (fun z1 => bd (f_X3_passHour_L11 a_hour b_wat b_lev b_kin b_sil 2000 a_dep a_arr 0) (fun z5 => if z1 < (-1) then (some (z1, a_hour + 1, z5.1, z5.2, a_deb)) else (if 1 < z1 then (some (z1, a_hour + 1, z5.1, z5.2, a_deb)) else (bd (f_X3_growDebts a_deb) (fun z8 => some (z1, a_hour + 1, z5.1, z5.2, z8))))))
set_option maxHeartbeats 4000000 in
set_option maxRecDepth 100000 in
theorem c_X3_passHour (l : Launch) (D : va_G) (cy : Nat → ClassId) (aAd : Nat → Nat) (bAd : Nat → Nat) (a_hour : Int32) (a_dep a_arr a_deb : Nat → Int32) (b_wat : Int32) (b_lev b_kin b_cdp b_sil : Nat → Int32) (z : (Int32 × Int32 × (Nat → Int32) × (Nat → Int32) × (Nat → Int32))) (hz : f_X3_passHour a_hour a_dep a_arr a_deb b_wat b_lev b_kin b_sil = some z) : MI l yX3_passHour wsX3_passHour ({ frames := 4, cells := 0, slots := 0, locals := 86 } : Room) D cy [.ref (aAd 0), .ref (bAd 0)] (w_Led cy aAd a_hour a_dep a_arr a_deb ++ w_Ch cy bAd b_wat b_lev b_kin b_cdp b_sil) z.1 (w_Led cy aAd z.2.1 z.2.2.1 z.2.2.2.1 z.2.2.2.2 ++ w_Ch cy bAd b_wat b_lev b_kin b_cdp b_sil) := by
  refine met_start (Qf := fun A => MQi D cy z.1 (w_Led cy aAd z.2.1 z.2.2.1 z.2.2.2.1 z.2.2.2.2 ++ w_Ch cy bAd b_wat b_lev b_kin b_cdp b_sil) A) (cc := cX3_passHour) (nL := 4) (ret := (some .int)) RX3 rfl (by decide) rfl (Nat.le_of_ble_eq_true rfl) ?_
  intro p e s m below meth c A ls C G hl
  have hl : lv_has ls 4 [(0, .ref (aAd 0)), (1, .ref (bAd 0))] := hl
  have H := hz
  unfold f_X3_passHour at H
  obtain ⟨hx, hb, hr, hml, hown, hts, hlk, hK, hA, hE⟩ := id C
  have lk0 := hts (Cond.fieldLink RX3 21 "TideDebts$Ledger" "hour" "I") (List.mem_of_getElem? (i := 1) rfl)
  have hiX3 : ∀ w ∈ u_ws RX3 TX3 4, w ∈ wsX3_passHour := fun _ h => List.mem_cons_of_mem _ (List.mem_append_left _ (List.mem_append_right _ h))
  refine lv_aload_n hx hb dX3_passHour_0 rfl (lv_at hl 1 rfl) ?_
  refine lv_aload_n hx hb dX3_passHour_1 rfl (lv_at hl 0 rfl) ?_
  refine va_get (D := D) (ci := 3) (v := .int a_hour) (C := RX3) (T := TX3) (N := 4) hx hb hts hiX3 hown hK G.1 0 rfl rfl 3 (by decide) lk0 (fun _ h9 => h9) rfl dX3_passHour_2 ?_
  obtain ⟨z1, hz1, H⟩ := bd_some H
  refine MI.callV z1 [.int a_hour] [] [4, 5, 6, 7, 8] C G (c_X2_rise l D cy bAd b_wat b_lev b_kin b_cdp b_sil a_hour z1 hz1) gX3_passHour_X2_rise rfl rfl rfl (n := 1) (by decide +kernel) ⟨Nat.le_of_ble_eq_true rfl, Nat.le_of_ble_eq_true rfl⟩ (q0 := 4) (ci := 2) rfl rfl rfl rfl rfl rfl rfl hl.1 rfl (Nat.le_of_ble_eq_true rfl) dX3_passHour_5 ⟨Nat.zero_le _, Nat.zero_le _⟩ (fun U locs G => ?_)
  have G : Gd D A s (w_Led cy aAd a_hour a_dep a_arr a_deb ++ w_Ch cy bAd b_wat b_lev b_kin b_cdp b_sil) U locs := G
  refine lv_istore_n (lv' := [(2, .int z1), (0, .ref (aAd 0)), (1, .ref (bAd 0))]) hx hb dX3_passHour_8 rfl hl (by decide) rfl (fun ls hl => ?_)
  refine lv_iconst (v := 0) hx hb dX3_passHour_9 (by decide) ?_
  refine lv_istore_n (lv' := [(3, .int 0), (2, .int z1), (0, .ref (aAd 0)), (1, .ref (bAd 0))]) hx hb dX3_passHour_10 rfl hl (by decide) rfl (fun ls hl => ?_)
  obtain ⟨z5, hz5, H⟩ := bd_some H
  refine wl_X3_passHour_11 C aAd bAd a_hour a_deb b_wat b_lev b_kin b_cdp b_sil z1 _ a_dep a_arr 0 z5 hz5 (fun U locs ls G hl => ?_) _ _ _ G (lv_sub hl [2, 3, 1, 0] rfl)
  have G : Gd D A s (w_Led cy aAd a_hour z5.1 z5.2 a_deb ++ w_Ch cy bAd b_wat b_lev b_kin b_cdp b_sil) U locs := G
  have hl : lv_has ls 4 [(0, .ref (aAd 0)), (2, .int z1)] := hl
  refine lv_iload_n hx hb dX3_passHour_39 rfl (lv_at hl 1 rfl) ?_
  refine lv_iconst (v := (-1)) hx hb dX3_passHour_40 (by decide) ?_
  refine lv_icmp_lt (tgt := 53) hx hb dX3_passHour_41 (by decide) (fun c6 => ?_) (fun c6 => ?_)
  · have H := if_t H c6
    refine lv_aload_n hx hb dX3_passHour_53 rfl (lv_at hl 0 rfl) ?_
    refine lv_dup hx hb dX3_passHour_54 rfl ?_
    refine va_get (D := D) (ci := 3) (v := .int a_hour) (C := RX3) (T := TX3) (N := 4) hx hb hts hiX3 hown hK G.1 0 rfl rfl 3 (by decide) lk0 (fun _ h9 => h9) rfl dX3_passHour_55 ?_
    refine lv_iconst (v := 1) hx hb dX3_passHour_58 (by decide) ?_
    refine lv_iadd hx hb dX3_passHour_59 ?_
    refine va_put (D := D) (ci := 3) (v := .int (a_hour + 1)) (ty := .int) (C := RX3) (T := TX3) (N := 4) hx hb hts hiX3 tyX3 tyX3_ok nmX3 hown hK G.1 G.2.1 G.2.2 0 rfl rfl 3 (by decide) lk0 (fun _ h9 => h9) rfl (tyX3_ok 3 (by decide)) rfl rfl (Nat.le_of_ble_eq_true rfl) dX3_passHour_60 (fun U locs hP hD hS => ?_)
    have G : Gd D A s (w_Led cy aAd (a_hour + 1) z5.1 z5.2 a_deb ++ w_Ch cy bAd b_wat b_lev b_kin b_cdp b_sil) U locs := ⟨hP, hD, hS⟩
    refine lv_iload_n hx hb dX3_passHour_63 rfl (lv_at hl 1 rfl) ?_
    obtain rfl := Option.some.inj H
    exact ret_i C G rfl dX3_passHour_64
  · have H := if_f H c6
    refine lv_iload_n hx hb dX3_passHour_44 rfl (lv_at hl 1 rfl) ?_
    refine lv_iconst (v := 1) hx hb dX3_passHour_45 (by decide) ?_
    refine lv_icmp_gt (tgt := 53) hx hb dX3_passHour_46 (by decide) (fun c7 => ?_) (fun c7 => ?_)
    · have H := if_t H c7
      refine lv_aload_n hx hb dX3_passHour_53 rfl (lv_at hl 0 rfl) ?_
      refine lv_dup hx hb dX3_passHour_54 rfl ?_
      refine va_get (D := D) (ci := 3) (v := .int a_hour) (C := RX3) (T := TX3) (N := 4) hx hb hts hiX3 hown hK G.1 0 rfl rfl 3 (by decide) lk0 (fun _ h9 => h9) rfl dX3_passHour_55 ?_
      refine lv_iconst (v := 1) hx hb dX3_passHour_58 (by decide) ?_
      refine lv_iadd hx hb dX3_passHour_59 ?_
      refine va_put (D := D) (ci := 3) (v := .int (a_hour + 1)) (ty := .int) (C := RX3) (T := TX3) (N := 4) hx hb hts hiX3 tyX3 tyX3_ok nmX3 hown hK G.1 G.2.1 G.2.2 0 rfl rfl 3 (by decide) lk0 (fun _ h9 => h9) rfl (tyX3_ok 3 (by decide)) rfl rfl (Nat.le_of_ble_eq_true rfl) dX3_passHour_60 (fun U locs hP hD hS => ?_)
      have G : Gd D A s (w_Led cy aAd (a_hour + 1) z5.1 z5.2 a_deb ++ w_Ch cy bAd b_wat b_lev b_kin b_cdp b_sil) U locs := ⟨hP, hD, hS⟩
      refine lv_iload_n hx hb dX3_passHour_63 rfl (lv_at hl 1 rfl) ?_
      obtain rfl := Option.some.inj H
      exact ret_i C G rfl dX3_passHour_64
    · have H := if_f H c7
      refine lv_aload_n hx hb dX3_passHour_49 rfl (lv_at hl 0 rfl) ?_
      obtain ⟨z8, hz8, H⟩ := bd_some H
      refine MV.callVw [] [] C G (MV.tail _ (c_X3_growDebts l D cy aAd a_hour z5.1 z5.2 a_deb z8 hz8)) gX3_passHour_X3_growDebts rfl rfl rfl (n := 0) (by decide +kernel) ⟨Nat.le_of_ble_eq_true rfl, Nat.le_of_ble_eq_true rfl⟩ (q0 := 0) (ci := 3) rfl rfl rfl rfl hl.1 rfl (Nat.le_of_ble_eq_true rfl) dX3_passHour_50 ⟨Nat.zero_le _, Nat.zero_le _⟩ (fun U locs G => ?_)
      have G : Gd D A s (w_Led cy aAd a_hour z5.1 z5.2 z8 ++ w_Ch cy bAd b_wat b_lev b_kin b_cdp b_sil) U locs := G
      refine lv_aload_n hx hb dX3_passHour_53 rfl (lv_at hl 0 rfl) ?_
      refine lv_dup hx hb dX3_passHour_54 rfl ?_
      refine va_get (D := D) (ci := 3) (v := .int a_hour) (C := RX3) (T := TX3) (N := 4) hx hb hts hiX3 hown hK G.1 0 rfl rfl 3 (by decide) lk0 (fun _ h9 => h9) rfl dX3_passHour_55 ?_
      refine lv_iconst (v := 1) hx hb dX3_passHour_58 (by decide) ?_
      refine lv_iadd hx hb dX3_passHour_59 ?_
      refine va_put (D := D) (ci := 3) (v := .int (a_hour + 1)) (ty := .int) (C := RX3) (T := TX3) (N := 4) hx hb hts hiX3 tyX3 tyX3_ok nmX3 hown hK G.1 G.2.1 G.2.2 0 rfl rfl 3 (by decide) lk0 (fun _ h9 => h9) rfl (tyX3_ok 3 (by decide)) rfl rfl (Nat.le_of_ble_eq_true rfl) dX3_passHour_60 (fun U locs hP hD hS => ?_)
      have G : Gd D A s (w_Led cy aAd (a_hour + 1) z5.1 z5.2 z8 ++ w_Ch cy bAd b_wat b_lev b_kin b_cdp b_sil) U locs := ⟨hP, hD, hS⟩
      refine lv_iload_n hx hb dX3_passHour_63 rfl (lv_at hl 1 rfl) ?_
      obtain rfl := Option.some.inj H
      exact ret_i C G rfl dX3_passHour_64
def f_X3_passHours_L2 (b_wat : Int32) (b_lev b_kin b_sil : Nat → Int32) (x2 : Int32) : Nat → Int32 → (Nat → Int32) → (Nat → Int32) → (Nat → Int32) → Int32 → Option (Int32 × (Nat → Int32) × (Nat → Int32) × (Nat → Int32))
  | 0, _, _, _, _, _ => none
  | n + 1, a_hour, a_dep, a_arr, a_deb, x3 => if x2 ≤ x3 then (some (a_hour, a_dep, a_arr, a_deb)) else (bd (f_X3_passHour a_hour a_dep a_arr a_deb b_wat b_lev b_kin b_sil) (fun z2 => f_X3_passHours_L2 b_wat b_lev b_kin b_sil x2 n z2.2.1 z2.2.2.1 z2.2.2.2.1 z2.2.2.2.2 (x3 + 1)))
theorem f_X3_passHours_L2_z (b_wat : Int32) (b_lev b_kin b_sil : Nat → Int32) (x2 : Int32) (a_hour : Int32) (a_dep a_arr a_deb : Nat → Int32) (x3 : Int32) : f_X3_passHours_L2 b_wat b_lev b_kin b_sil x2 0 a_hour a_dep a_arr a_deb x3 = none := rfl
theorem f_X3_passHours_L2_s (b_wat : Int32) (b_lev b_kin b_sil : Nat → Int32) (x2 : Int32) (n : Nat) (a_hour : Int32) (a_dep a_arr a_deb : Nat → Int32) (x3 : Int32) : f_X3_passHours_L2 b_wat b_lev b_kin b_sil x2 (n + 1) a_hour a_dep a_arr a_deb x3 = if x2 ≤ x3 then (some (a_hour, a_dep, a_arr, a_deb)) else (bd (f_X3_passHour a_hour a_dep a_arr a_deb b_wat b_lev b_kin b_sil) (fun z2 => f_X3_passHours_L2 b_wat b_lev b_kin b_sil x2 n z2.2.1 z2.2.2.1 z2.2.2.2.1 z2.2.2.2.2 (x3 + 1))) := rfl
set_option maxHeartbeats 4000000 in
set_option maxRecDepth 100000 in
theorem wl_X3_passHours_2 {p : Program} {l : Launch} {e : Env} {s : State} {m : MethodId} {below : List Frame} {meth : Method} {c : Code} {D : va_G} {cy : Nat → ClassId} {A : Nat → Prop} {args : Array Value} {Q : State → Prop} (C : Cx D cy A p s m meth c cX3_passHours 4 none wsX3_passHours RX3 args) (aAd : Nat → Nat) (bAd : Nat → Nat) (b_wat : Int32) (b_lev b_kin b_cdp b_sil : Nat → Int32) (x2 : Int32) :
    ∀ (n : Nat) (a_hour : Int32) (a_dep a_arr a_deb : Nat → Int32) (x3 : Int32) (z : (Int32 × (Nat → Int32) × (Nat → Int32) × (Nat → Int32))), f_X3_passHours_L2 b_wat b_lev b_kin b_sil x2 n a_hour a_dep a_arr a_deb x3 = some z → (∀ (U : Heap) (locs : List Loc) (ls : Array Slot), Gd D A s (w_Led cy aAd z.1 z.2.1 z.2.2.1 z.2.2.2 ++ w_Ch cy bAd b_wat b_lev b_kin b_cdp b_sil) U locs → lv_has ls 4 [] → W p l e ({ frames := 5, cells := 0, slots := 0, locals := 109 } : Room) s m args below meth c U locs 0 0 Q (F0 m 19 ls [])) → ∀ (U : Heap) (locs : List Loc) (ls : Array Slot), Gd D A s (w_Led cy aAd a_hour a_dep a_arr a_deb ++ w_Ch cy bAd b_wat b_lev b_kin b_cdp b_sil) U locs → lv_has ls 4 [(0, .ref (aAd 0)), (1, .ref (bAd 0)), (2, .int x2), (3, .int x3)] → W p l e ({ frames := 5, cells := 0, slots := 0, locals := 109 } : Room) s m args below meth c U locs 0 0 Q (F0 m 2 ls []) := by
  obtain ⟨hx, hb, hr, hml, hown, hts, hlk, hK, hA, hE⟩ := id C
  intro n
  induction n with
  | zero =>
    intro a_hour a_dep a_arr a_deb x3 z H
    rw [f_X3_passHours_L2_z] at H
    cases H
  | succ n ih =>
    intro a_hour a_dep a_arr a_deb x3 z H kk U locs ls G hl
    rw [f_X3_passHours_L2_s] at H
    refine lv_iload_n hx hb dX3_passHours_2 rfl (lv_at hl 3 rfl) ?_
    refine lv_iload_n hx hb dX3_passHours_3 rfl (lv_at hl 2 rfl) ?_
    refine lv_icmp_ge (tgt := 19) hx hb dX3_passHours_4 (by decide) (fun c1 => ?_) (fun c1 => ?_)
    · have H := if_t H c1
      obtain rfl := Option.some.inj H
      exact kk _ _ _ G (lv_sub hl [] rfl)
    · have H := if_f H c1
      refine lv_aload_n hx hb dX3_passHours_7 rfl (lv_at hl 0 rfl) ?_
      refine lv_aload_n hx hb dX3_passHours_8 rfl (lv_at hl 1 rfl) ?_
      obtain ⟨z2, hz2, H⟩ := bd_some H
      refine MI.callVw z2.1 [.ref (bAd 0)] [] C G (c_X3_passHour l D cy aAd bAd a_hour a_dep a_arr a_deb b_wat b_lev b_kin b_cdp b_sil z2 hz2) gX3_passHours_X3_passHour rfl rfl rfl (n := 1) (by decide +kernel) ⟨Nat.le_of_ble_eq_true rfl, Nat.le_of_ble_eq_true rfl⟩ (q0 := 0) (ci := 3) rfl rfl rfl rfl hl.1 rfl (Nat.le_of_ble_eq_true rfl) dX3_passHours_9 ⟨Nat.zero_le _, Nat.zero_le _⟩ (fun U locs G => ?_)
      have G : Gd D A s (w_Led cy aAd z2.2.1 z2.2.2.1 z2.2.2.2.1 z2.2.2.2.2 ++ w_Ch cy bAd b_wat b_lev b_kin b_cdp b_sil) U locs := G
      refine lv_pop hx hb dX3_passHours_12 rfl ?_
      refine lv_iinc (v := x3 + 1) (lv' := [(3, .int (x3 + 1)), (0, .ref (aAd 0)), (1, .ref (bAd 0)), (2, .int x2)]) hx hb dX3_passHours_13 hl (k := 3) rfl rfl (by decide) rfl (fun ls hl => ?_)
      refine lv_goto (tgt := 2) hx hb dX3_passHours_16 (by decide) ?_
      exact ih z2.2.1 z2.2.2.1 z2.2.2.2.1 z2.2.2.2.2 (x3 + 1) z H kk _ _ _ G (lv_sub hl [1, 2, 3, 0] rfl)
def f_X3_passHours (a_hour : Int32) (a_dep a_arr a_deb : Nat → Int32) (b_wat : Int32) (b_lev b_kin b_sil : Nat → Int32) (p2 : Int32) : Option (Int32 × (Nat → Int32) × (Nat → Int32) × (Nat → Int32)) := bd (f_X3_passHours_L2 b_wat b_lev b_kin b_sil p2 2000 a_hour a_dep a_arr a_deb 0) (fun z3 => some (z3.1, z3.2.1, z3.2.2.1, z3.2.2.2))
set_option maxHeartbeats 4000000 in
set_option maxRecDepth 100000 in
theorem c_X3_passHours (l : Launch) (D : va_G) (cy : Nat → ClassId) (aAd : Nat → Nat) (bAd : Nat → Nat) (a_hour : Int32) (a_dep a_arr a_deb : Nat → Int32) (b_wat : Int32) (b_lev b_kin b_cdp b_sil : Nat → Int32) (p2 : Int32) (z : (Int32 × (Nat → Int32) × (Nat → Int32) × (Nat → Int32))) (hz : f_X3_passHours a_hour a_dep a_arr a_deb b_wat b_lev b_kin b_sil p2 = some z) : MV l yX3_passHours wsX3_passHours ({ frames := 5, cells := 0, slots := 0, locals := 109 } : Room) D cy [.ref (aAd 0), .ref (bAd 0), .int p2] (w_Led cy aAd a_hour a_dep a_arr a_deb ++ w_Ch cy bAd b_wat b_lev b_kin b_cdp b_sil) (w_Led cy aAd z.1 z.2.1 z.2.2.1 z.2.2.2 ++ w_Ch cy bAd b_wat b_lev b_kin b_cdp b_sil) := by
  refine met_start (Qf := fun A => MQv D cy (w_Led cy aAd z.1 z.2.1 z.2.2.1 z.2.2.2 ++ w_Ch cy bAd b_wat b_lev b_kin b_cdp b_sil) A) (cc := cX3_passHours) (nL := 4) (ret := none) RX3 rfl (by decide) rfl (Nat.le_of_ble_eq_true rfl) ?_
  intro p e s m below meth c A ls C G hl
  have hl : lv_has ls 4 [(0, .ref (aAd 0)), (1, .ref (bAd 0)), (2, .int p2)] := hl
  have H := hz
  unfold f_X3_passHours at H
  obtain ⟨hx, hb, hr, hml, hown, hts, hlk, hK, hA, hE⟩ := id C
  refine lv_iconst (v := 0) hx hb dX3_passHours_0 (by decide) ?_
  refine lv_istore_n (lv' := [(3, .int 0), (0, .ref (aAd 0)), (1, .ref (bAd 0)), (2, .int p2)]) hx hb dX3_passHours_1 rfl hl (by decide) rfl (fun ls hl => ?_)
  obtain ⟨z3, hz3, H⟩ := bd_some H
  refine wl_X3_passHours_2 C aAd bAd b_wat b_lev b_kin b_cdp b_sil p2 _ a_hour a_dep a_arr a_deb 0 z3 hz3 (fun U locs ls G hl => ?_) _ _ _ G (lv_sub hl [1, 2, 3, 0] rfl)
  have G : Gd D A s (w_Led cy aAd z3.1 z3.2.1 z3.2.2.1 z3.2.2.2 ++ w_Ch cy bAd b_wat b_lev b_kin b_cdp b_sil) U locs := G
  have hl : lv_has ls 4 [] := hl
  obtain rfl := Option.some.inj H
  exact ret_v C G dX3_passHours_19
