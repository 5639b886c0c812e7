/-! ===== the texts' constants: String.length, charAt ===== -/
theorem ret_t {p : Program} {l : Launch} {e : Env} {R : Room} {s : State} {m : MethodId} {args : Array Value} {below : List Frame} {meth : Method} {c : Code} {H : Heap} {locs : List Loc} {D : va_G} {cy : Nat → ClassId} {A : Nat → Prop} {cc : ByteArray} {nL : Nat} {ty : FieldType} {ws : List Cond} {own : String} {w1 : va_W} {pc : Nat} {ls : Array Slot}
    (C : Cx D cy A p s m meth c cc nL (some ty) ws own args) (G : Gd D A s w1 H locs) {v r : Int32} (hv : v = r) (hn : narrow ty (.int v) = .int v) (hdg : decode cc pc = .ok (.ireturn, 1)) : W p l e R s m args below meth c H locs 0 0 (MQ below (MQi D cy r w1 A) args s 0 0 A) (F0 m pc ls [.int v]) := by
  obtain ⟨hx, hb, hr, -, -, -, hlk, hK, -, -⟩ := C
  subst hv
  exact W.zret hx hb hr hn (fun t ht hW => ⟨⟨v, (), rfl, rfl, by rw [ht]; exact G.1, va_K.moved hW.alike hK, G.2.1⟩, G.2.2.F ht⟩) G.2.2.2.2 hdg hlk
section CVR
variable {p : Program} {l : Launch} {e : Env} {R : Room} {s : State} {m : MethodId} {args : Array Value} {below : List Frame} {meth : Method} {c : Code} {H : Heap} {locs : List Loc} {D : va_G} {cy : Nat → ClassId} {A : Nat → Prop} {cc : ByteArray} {nL : Nat} {ret : Option FieldType} {Ts : List Cond} {own : String} {pc : Nat} {ls : Array Slot} {Q : State → Prop}
variable {y : MethodName} {wy wy' : List Cond} {rm : Room} {W0 : va_W} {b index maxL n cells slots : Nat} {bytes : ByteArray} {rt : Option FieldType} {Cn : String} {st0 : List Value}
/-- a call on an object that no world holds -/
theorem MI.callVr (r : Int32) (As rest : List Value) (C : Cx D cy A p s m meth c cc nL ret Ts own args) (G : Gd D A s W0 H locs) (hM : MI l y wy rm D cy (.ref b :: As) [] r [])
    (hT : GoodIn Ts (wsV own index Cn y wy)) (hw : wy = Cond.code y bytes maxL rt :: wy') (hrc : rm.cells = 0) (hrs : rm.slots = 0)
    (hd : y.cls = Cn ∧ y.cls ≠ "java/lang/invoke/MethodHandle" ∧ y.cls ≠ "java/lang/invoke/VarHandle" ∧ (parseMethodDescriptor y.desc).map (fun d => d.parameters.length) = some n) (hR : rm.frames + 1 ≤ R.frames ∧ 8 + (maxL + 11) + rm.locals ≤ R.locals)
    (hrec : ∃ cell : Cell, H[b]? = some cell ∧ cell.vm.isStatics = false ∧ s.vm.findClass Cn = some cell.cls)
    (hn : As.length = n) (hl : ls.size = nL) (hst : st0 = As.reverse ++ .ref b :: rest) (hrm : (rest.map fun v => v.category).sum ≤ 8) (hdg : decode cc pc = .ok (.invokevirtual index, 3)) (hf : cells ≤ R.cells ∧ slots ≤ R.slots)
    (kk : ∀ (H1 : Heap) (locs1 : List Loc), Gd D A s W0 H1 locs1 → W p l e R s m args below meth c H1 locs1 cells slots Q (F0 m (pc + 3) ls (.int r :: rest))) : W p l e R s m args below meth c H locs cells slots Q (F0 m pc ls st0) := by
  obtain ⟨hx, hb, hr, hml, hown, hts, hlk, hK, hA, hE⟩ := C
  have hC : ([] : List Nat).map (fun i => W0[i]?) = ([] : va_W).map some := rfl
  have hFc := va_free (wc := []) G.2.1 G.2.2 hA [] hC
  refine va_calli (va_runV (As := As) (rest := rest) ⟨hx, hb, hml, hown, hts⟩ (hM H.size) (cwV n hts hT hw hrc hrs hd hR) ⟨MPre.blind, hrec, call_pre hK hE hA G [] hC rfl⟩ rfl hn hl hst (lv_room hrm) hdg hf) G.2.2 (fun q _ h => hFc q h) hFc (fun r' u t H1 locs1 ht hvm hw' hB hz1 hk1 hS => ?_)
  obtain ⟨hP1, hK1, hD1⟩ := hB
  rw [ht] at hP1
  subst hw'
  exact kk H1 locs1 (G.put [] hC rfl hk1 hFc hP1 hD1 hS rfl)
end CVR
def xtl (k : Nat) : Int32 := Int32.ofNat (xtL.getD k 0)
def xtc (k : Nat) (i : Int32) : Int32 := (xtB.getD k []).getD (ix i) 0 &&& 255
set_option maxHeartbeats 4000000 in
set_option maxRecDepth 100000 in
theorem c_J0_coder (l : Launch) (D : va_G) (cy : Nat → ClassId) (k : Nat) (hk : k < 7) : MI l yJ0_coder_7d493 wsJ0_coder_7d493 ({ frames := 0, cells := 0, slots := 0, locals := 0 } : Room) D cy [.ref (cy (20 + k))] [] 0 [] := by
  refine met_startF (Qf := fun A => MQi D cy 0 [] A) (cc := cJ0_coder_7d493) (nL := 1) (ret := some .byte) RJ0 rfl (by decide +kernel) rfl (Nat.le_of_ble_eq_true rfl) ?_
  intro p e s m below meth c A ls C G hl
  have hl : lv_has ls 1 [(0, .ref (cy (20 + k)))] := hl
  obtain ⟨hx, hb, hr, hml, hown, hts, hlk, hK, hA, hE⟩ := id C
  have lk0 := hts (Cond.fieldLink RJ0 38 "java/lang/String" "COMPACT_STRINGS" "Z") (List.mem_of_getElem? (i := 1) rfl)
  have lk1 := hts (Cond.fieldLink RJ0 15 "java/lang/String" "coder" "B") (List.mem_of_getElem? (i := 2) rfl)
  obtain ⟨-, -, -, d1, d2, -⟩ := hE.1
  refine va_gets hx hb d1 G.2.2 hown lk0 (fun _ h9 => h9) dJ0_coder_7d493_0 ?_
  refine lv_if_eq (tgt := 13) hx hb dJ0_coder_7d493_3 (by decide) (fun c1 => absurd c1 (by decide)) (fun _ => ?_)
  refine lv_aload_n hx hb dJ0_coder_7d493_6 rfl (lv_at hl 0 rfl) ?_
  refine vk_getf hx hb (d2.1 k hk).2.1 G.2.2 hown lk1 (fun _ h9 => h9) dJ0_coder_7d493_7 ?_
  refine lv_goto (tgt := 14) hx hb dJ0_coder_7d493_10 (by decide) ?_
  exact ret_t C G rfl rfl dJ0_coder_7d493_14
set_option maxHeartbeats 4000000 in
set_option maxRecDepth 100000 in
theorem c_J0_isLatin1 (l : Launch) (D : va_G) (cy : Nat → ClassId) (k : Nat) (hk : k < 7) : MI l yJ0_isLatin1_aae02 wsJ0_isLatin1_aae02 ({ frames := 0, cells := 0, slots := 0, locals := 0 } : Room) D cy [.ref (cy (20 + k))] [] 1 [] := by
  refine met_startF (Qf := fun A => MQi D cy 1 [] A) (cc := cJ0_isLatin1_aae02) (nL := 1) (ret := some .boolean) RJ0 rfl (by decide +kernel) rfl (Nat.le_of_ble_eq_true rfl) ?_
  intro p e s m below meth c A ls C G hl
  have hl : lv_has ls 1 [(0, .ref (cy (20 + k)))] := hl
  obtain ⟨hx, hb, hr, hml, hown, hts, hlk, hK, hA, hE⟩ := id C
  have lk0 := hts (Cond.fieldLink RJ0 38 "java/lang/String" "COMPACT_STRINGS" "Z") (List.mem_of_getElem? (i := 1) rfl)
  have lk1 := hts (Cond.fieldLink RJ0 15 "java/lang/String" "coder" "B") (List.mem_of_getElem? (i := 2) rfl)
  obtain ⟨-, -, -, d1, d2, -⟩ := hE.1
  refine va_gets hx hb d1 G.2.2 hown lk0 (fun _ h9 => h9) dJ0_isLatin1_aae02_0 ?_
  refine lv_if_eq (tgt := 17) hx hb dJ0_isLatin1_aae02_3 (by decide) (fun c1 => absurd c1 (by decide)) (fun _ => ?_)
  refine lv_aload_n hx hb dJ0_isLatin1_aae02_6 rfl (lv_at hl 0 rfl) ?_
  refine vk_getf hx hb (d2.1 k hk).2.1 G.2.2 hown lk1 (fun _ h9 => h9) dJ0_isLatin1_aae02_7 ?_
  refine lv_if_ne (tgt := 17) hx hb dJ0_isLatin1_aae02_10 (by decide) (fun c1 => absurd rfl c1) (fun _ => ?_)
  refine lv_iconst (v := 1) hx hb dJ0_isLatin1_aae02_13 (by decide) ?_
  refine lv_goto (tgt := 18) hx hb dJ0_isLatin1_aae02_14 (by decide) ?_
  exact ret_t C G rfl rfl dJ0_isLatin1_aae02_18
set_option maxHeartbeats 4000000 in
set_option maxRecDepth 100000 in
theorem c_J0_length (l : Launch) (D : va_G) (cy : Nat → ClassId) (k : Nat) (hk : k < 7) : MI l yJ0_length_8abf5 wsJ0_length_8abf5 ({ frames := 1, cells := 0, slots := 0, locals := 20 } : Room) D cy [.ref (cy (20 + k))] [] (xtl k) [] := by
  refine met_startF (Qf := fun A => MQi D cy (xtl k) [] A) (cc := cJ0_length_8abf5) (nL := 1) (ret := some .int) RJ0 rfl (by decide +kernel) rfl (Nat.le_of_ble_eq_true rfl) ?_
  intro p e s m below meth c A ls C G hl
  have hl : lv_has ls 1 [(0, .ref (cy (20 + k)))] := hl
  obtain ⟨hx, hb, hr, hml, hown, hts, hlk, hK, hA, hE⟩ := id C
  have lk1 := hts (Cond.fieldLink RJ0 9 "java/lang/String" "value" "[B") (List.mem_of_getElem? (i := 1) rfl)
  obtain ⟨-, -, -, d1, d2, -⟩ := hE.1
  refine lv_aload_n hx hb dJ0_length_8abf5_0 rfl (lv_at hl 0 rfl) ?_
  refine vk_getf hx hb (d2.1 k hk).2.2.1 G.2.2 hown lk1 (fun _ h9 => h9) dJ0_length_8abf5_1 ?_
  refine va_tlen hx hb (d2.1 k hk).2.2.2 G.2.2 (v := xtl k) rfl dJ0_length_8abf5_4 ?_
  refine lv_aload_n hx hb dJ0_length_8abf5_5 rfl (lv_at hl 0 rfl) ?_
  refine MI.callVr 0 [] [.int (xtl k)] C G (c_J0_coder l D cy k hk) gJ0_length_8abf5_J0_coder_7d493 rfl rfl rfl (n := 0) (by decide +kernel) ⟨Nat.le_of_ble_eq_true rfl, Nat.le_of_ble_eq_true rfl⟩ (vk_recv (adK := fun i => cy (20 + i)) (i := k) d2 hk G.2.2) rfl hl.1 rfl (Nat.le_of_ble_eq_true rfl) dJ0_length_8abf5_6 ⟨Nat.zero_le _, Nat.zero_le _⟩ (fun U locs G => ?_)
  refine lv_ishr hx hb dJ0_length_8abf5_9 ?_
  exact ret_t C G (sb_shr0 _) rfl dJ0_length_8abf5_10
set_option maxHeartbeats 4000000 in
set_option maxRecDepth 100000 in
theorem c_J3_checkIndex (l : Launch) (D : va_G) (cy : Nat → ClassId) (i n : Int32) (v : Value) (hv : v = .null ∨ ∃ t, v = .ref t) (h0 : ¬ i < 0) (h1 : i < n) : MI l yJ3_checkIndex_8e157 wsJ3_checkIndex_8e157 ({ frames := 0, cells := 0, slots := 0, locals := 0 } : Room) D cy [.int i, .int n, v] [] i [] := by
  refine met_startF (Qf := fun A => MQi D cy i [] A) (cc := cJ3_checkIndex_8e157) (nL := 3) (ret := some .int) RJ3 rfl (by decide +kernel) rfl (by rcases hv with rfl | ⟨t, rfl⟩ <;> exact Nat.le_of_ble_eq_true rfl) ?_
  intro p e s m below meth c A ls C G hl
  have hl : lv_has ls 3 [(0, .int i), (1, .int n), (2, v)] := by rcases hv with rfl | ⟨t, rfl⟩ <;> exact hl
  obtain ⟨hx, hb, hr, hml, hown, hts, hlk, hK, hA, hE⟩ := id C
  refine lv_iload_n hx hb dJ3_checkIndex_8e157_0 rfl (lv_at hl 0 rfl) ?_
  refine lv_if_lt (tgt := 9) hx hb dJ3_checkIndex_8e157_1 (by decide) (fun c1 => absurd c1 h0) (fun _ => ?_)
  refine lv_iload_n hx hb dJ3_checkIndex_8e157_4 rfl (lv_at hl 0 rfl) ?_
  refine lv_iload_n hx hb dJ3_checkIndex_8e157_5 rfl (lv_at hl 1 rfl) ?_
  refine lv_icmp_lt (tgt := 16) hx hb dJ3_checkIndex_8e157_6 (by decide) (fun _ => ?_) (fun c1 => absurd h1 c1)
  refine lv_iload_n hx hb dJ3_checkIndex_8e157_16 rfl (lv_at hl 0 rfl) ?_
  exact ret_i C G rfl dJ3_checkIndex_8e157_17
set_option maxHeartbeats 4000000 in
set_option maxRecDepth 100000 in
theorem c_J0_checkIndex (l : Launch) (D : va_G) (cy : Nat → ClassId) (i n : Int32) (h0 : ¬ i < 0) (h1 : i < n) : MV l yJ0_checkIndex_df160 wsJ0_checkIndex_df160 ({ frames := 1, cells := 0, slots := 0, locals := 22 } : Room) D cy [.int i, .int n] [] [] := by
  refine met_startF (Qf := fun A => MQv D cy [] A) (cc := cJ0_checkIndex_df160) (nL := 2) (ret := none) RJ0 rfl (by decide +kernel) rfl (Nat.le_of_ble_eq_true rfl) ?_
  intro p e s m below meth c A ls C G hl
  have hl : lv_has ls 2 [(0, .int i), (1, .int n)] := hl
  obtain ⟨hx, hb, hr, hml, hown, hts, hlk, hK, hA, hE⟩ := id C
  have lk0 := hts (Cond.fieldLink RJ0 1053 "jdk/internal/util/Preconditions" "SIOOBE_FORMATTER" "Ljava/util/function/BiFunction;") (List.mem_of_getElem? (i := 1) rfl)
  obtain ⟨-, -, -, d1, d2, d3⟩ := hE.1
  refine lv_iload_n hx hb dJ0_checkIndex_df160_0 rfl (lv_at hl 0 rfl) ?_
  refine lv_iload_n hx hb dJ0_checkIndex_df160_1 rfl (lv_at hl 1 rfl) ?_
  obtain ⟨v, hv, hZ⟩ : ∃ v : Value, (v = .null ∨ ∃ t, v = .ref t) ∧ va_Z "jdk/internal/util/Preconditions" "SIOOBE_FORMATTER" "Ljava/util/function/BiFunction;" v A s s.heap := by
    rcases d3 with h | ⟨t, h⟩
    · exact ⟨_, Or.inl rfl, h⟩
    · exact ⟨_, Or.inr ⟨t, rfl⟩, h⟩
  refine va_gets hx hb hZ G.2.2 hown lk0 (fun _ h9 => h9) dJ0_checkIndex_df160_2 ?_
  refine MI.callS i [.int i, .int n, v] [] [] C G (c_J3_checkIndex l D cy i n v hv h0 h1) gJ0_checkIndex_df160_J3_checkIndex_8e157 rfl rfl rfl (n := 3) (by decide +kernel) ⟨Nat.le_of_ble_eq_true rfl, Nat.le_of_ble_eq_true rfl⟩ rfl rfl rfl rfl hl.1 rfl (Nat.le_of_ble_eq_true rfl) dJ0_checkIndex_df160_5 ⟨Nat.zero_le _, Nat.zero_le _⟩ (fun U locs G => ?_)
  have G : Gd D A s [] U locs := G
  refine lv_pop hx hb dJ0_checkIndex_df160_8 rfl ?_
  exact ret_v C G dJ0_checkIndex_df160_9
theorem xtl_lt {k : Nat} (hk : k < 7) {i : Int32} (hi : inb i (xtL.getD k 0) = true) : ¬ i < 0 ∧ i < xtl k := by
  unfold inb at hi
  simp only [Bool.and_eq_true, Bool.not_eq_true', decide_eq_false_iff_not, decide_eq_true_eq] at hi
  refine ⟨hi.1, ?_⟩
  obtain ⟨j, hj, rfl⟩ := nI_of hi.1
  have h2 := hi.2
  unfold ix at h2
  rw [nI_clamp hj] at h2
  refine nI_lt h2 ?_
  have h7 : ∀ k, k < 7 → xtL.getD k 0 < 2 ^ 31 := by decide
  exact h7 k hk
set_option maxHeartbeats 4000000 in
set_option maxRecDepth 100000 in
theorem c_J1_charAt (l : Launch) (D : va_G) (cy : Nat → ClassId) (k : Nat) (i : Int32) (hk : k < 7) (hi : inb i (xtL.getD k 0) = true) : MI l yJ1_charAt_3b067 wsJ1_charAt_3b067 ({ frames := 2, cells := 0, slots := 0, locals := 43 } : Room) D cy [.ref (cy (30 + k)), .int i] [] (xtc k i) [] := by
  refine met_startF (Qf := fun A => MQi D cy (xtc k i) [] A) (cc := cJ1_charAt_3b067) (nL := 2) (ret := some .char) RJ1 rfl (by decide +kernel) rfl (Nat.le_of_ble_eq_true rfl) ?_
  intro p e s m below meth c A ls C G hl
  have hl : lv_has ls 2 [(0, .ref (cy (30 + k))), (1, .int i)] := hl
  obtain ⟨hx, hb, hr, hml, hown, hts, hlk, hK, hA, hE⟩ := id C
  obtain ⟨-, -, -, d1, d2, d3⟩ := hE.1
  refine lv_iload_n hx hb dJ1_charAt_3b067_0 rfl (lv_at hl 1 rfl) ?_
  refine lv_aload_n hx hb dJ1_charAt_3b067_1 rfl (lv_at hl 0 rfl) ?_
  refine va_tlen hx hb (d2.1 k hk).2.2.2 G.2.2 (v := xtl k) rfl dJ1_charAt_3b067_2 ?_
  refine MV.callS [.int i, .int (xtl k)] [] [] C G (c_J0_checkIndex l D cy i (xtl k) (xtl_lt hk hi).1 (xtl_lt hk hi).2) gJ1_charAt_3b067_J0_checkIndex_df160 rfl rfl rfl (n := 2) (by decide +kernel) ⟨Nat.le_of_ble_eq_true rfl, Nat.le_of_ble_eq_true rfl⟩ rfl rfl rfl rfl hl.1 rfl (Nat.le_of_ble_eq_true rfl) dJ1_charAt_3b067_3 ⟨Nat.zero_le _, Nat.zero_le _⟩ (fun U locs G => ?_)
  have G : Gd D A s [] U locs := G
  refine lv_aload_n hx hb dJ1_charAt_3b067_6 rfl (lv_at hl 0 rfl) ?_
  refine lv_iload_n hx hb dJ1_charAt_3b067_7 rfl (lv_at hl 1 rfl) ?_
  refine va_tb hx hb (d2.1 k hk).2.2.2 G.2.2 (inb_in hi) rfl dJ1_charAt_3b067_8 ?_
  refine lv_sipush (v := 255) hx hb dJ1_charAt_3b067_9 (by decide) ?_
  refine lv_iand hx hb dJ1_charAt_3b067_12 ?_
  refine lv_i2c (v := xtc k i) hx hb dJ1_charAt_3b067_13 (sc_c2 _) ?_
  exact ret_t C G rfl (sc_nar _) dJ1_charAt_3b067_14
set_option maxHeartbeats 4000000 in
set_option maxRecDepth 100000 in
theorem c_J0_charAt (l : Launch) (D : va_G) (cy : Nat → ClassId) (k : Nat) (i : Int32) (hk : k < 7) (hi : inb i (xtL.getD k 0) = true) : MI l yJ0_charAt_5068e wsJ0_charAt_5068e ({ frames := 3, cells := 0, slots := 0, locals := 64 } : Room) D cy [.ref (cy (20 + k)), .int i] [] (xtc k i) [] := by
  refine met_startF (Qf := fun A => MQi D cy (xtc k i) [] A) (cc := cJ0_charAt_5068e) (nL := 2) (ret := some .char) RJ0 rfl (by decide +kernel) rfl (Nat.le_of_ble_eq_true rfl) ?_
  intro p e s m below meth c A ls C G hl
  have hl : lv_has ls 2 [(0, .ref (cy (20 + k))), (1, .int i)] := hl
  obtain ⟨hx, hb, hr, hml, hown, hts, hlk, hK, hA, hE⟩ := id C
  have lk1 := hts (Cond.fieldLink RJ0 9 "java/lang/String" "value" "[B") (List.mem_of_getElem? (i := 1) rfl)
  obtain ⟨-, -, -, d1, d2, d3⟩ := hE.1
  refine lv_aload_n hx hb dJ0_charAt_5068e_0 rfl (lv_at hl 0 rfl) ?_
  refine MI.callVr 1 [] [] C G (c_J0_isLatin1 l D cy k hk) gJ0_charAt_5068e_J0_isLatin1_aae02 rfl rfl rfl (n := 0) (by decide +kernel) ⟨Nat.le_of_ble_eq_true rfl, Nat.le_of_ble_eq_true rfl⟩ (vk_recv (adK := fun i => cy (20 + i)) (i := k) d2 hk G.2.2) rfl hl.1 rfl (Nat.le_of_ble_eq_true rfl) dJ0_charAt_5068e_1 ⟨Nat.zero_le _, Nat.zero_le _⟩ (fun U locs G => ?_)
  refine lv_if_eq (tgt := 16) hx hb dJ0_charAt_5068e_4 (by decide) (fun c1 => absurd c1 (by decide)) (fun _ => ?_)
  refine lv_aload_n hx hb dJ0_charAt_5068e_7 rfl (lv_at hl 0 rfl) ?_
  refine vk_getf hx hb (d2.1 k hk).2.2.1 G.2.2 hown lk1 (fun _ h9 => h9) dJ0_charAt_5068e_8 ?_
  refine lv_iload_n hx hb dJ0_charAt_5068e_11 rfl (lv_at hl 1 rfl) ?_
  refine MI.callS (xtc k i) [.ref (cy (30 + k)), .int i] [] [] C G (c_J1_charAt l D cy k i hk hi) gJ0_charAt_5068e_J1_charAt_3b067 rfl rfl rfl (n := 2) (by decide +kernel) ⟨Nat.le_of_ble_eq_true rfl, Nat.le_of_ble_eq_true rfl⟩ rfl rfl rfl rfl hl.1 rfl (Nat.le_of_ble_eq_true rfl) dJ0_charAt_5068e_12 ⟨Nat.zero_le _, Nat.zero_le _⟩ (fun U locs G => ?_)
  have G : Gd D A s [] U locs := G
  exact ret_t C G rfl (sc_nar _) dJ0_charAt_5068e_15
