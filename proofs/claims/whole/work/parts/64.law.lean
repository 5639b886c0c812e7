/-- what is owed of each call: from states that belong together, after j calls, both answer, and alike, and the states belong together after j + 1 -/
def OPS (Inv : Nat → CS → MS → Prop) : Prop :=
  (∀ (j : Nat) (c : CS) (m : MS), Inv j c m → Inv (j + 1) c m) ∧
  (∀ (j : Nat) (c : CS) (m : MS) (a1 : Int32) (a2 : Int32) (a3 : Int32), j < 512 → Inv j c m → ∃ (r : Int32) (c1 : CS) (m1 : MS), F8_row c a1 a2 a3 = some (r, c1) ∧ F9_row m a1 a2 a3 = some (r, m1) ∧ Inv (j + 1) c1 m1) ∧
  (∀ (j : Nat) (c : CS) (m : MS) (a1 : Int32) (a2 : Int32) (a3 : Int32), j < 512 → Inv j c m → ∃ (r : Int32) (c1 : CS) (m1 : MS), F8_set c a1 a2 a3 = some (r, c1) ∧ F9_set m a1 a2 a3 = some (r, m1) ∧ Inv (j + 1) c1 m1) ∧
  (∀ (j : Nat) (c : CS) (m : MS) (a1 : Int32) (a2 : Int32) (a3 : Int32) (a4 : Int32) (a5 : Int32), j < 512 → Inv j c m → ∃ (r : Int32) (c1 : CS) (m1 : MS), F8_copy c a1 a2 a3 a4 a5 = some (r, c1) ∧ F9_copy m a1 a2 a3 a4 a5 = some (r, m1) ∧ Inv (j + 1) c1 m1) ∧
  (∀ (j : Nat) (c : CS) (m : MS) (a1 : Int32), j < 512 → Inv j c m → ∃ (r : Int32) (c1 : CS) (m1 : MS), F8_drop c a1 = some (r, c1) ∧ F9_drop m a1 = some (r, m1) ∧ Inv (j + 1) c1 m1) ∧
  (∀ (j : Nat) (c : CS) (m : MS) (a1 : Int64) (a2 : Int32), j < 512 → Inv j c m → ∃ (r : Int32) (c1 : CS) (m1 : MS), F8_feed c a1 a2 = some (r, c1) ∧ F9_feed m a1 a2 = some (r, m1) ∧ Inv (j + 1) c1 m1) ∧
  (∀ (j : Nat) (c : CS) (m : MS), j < 512 → Inv j c m → ∃ (r : Int32) (c1 : CS) (m1 : MS), F8_bay c  = some (r, c1) ∧ F9_bay m  = some (r, m1) ∧ Inv (j + 1) c1 m1) ∧
  (∀ (j : Nat) (c : CS) (m : MS), j < 512 → Inv j c m → ∃ (r : Int32) (c1 : CS) (m1 : MS), F8_fault c  = some (r, c1) ∧ F9_fault m  = some (r, m1) ∧ Inv (j + 1) c1 m1) ∧
  (∀ (j : Nat) (c : CS) (m : MS) (a1 : Int32), j < 512 → Inv j c m → ∃ (r : Int32) (c1 : CS) (m1 : MS), F8_hours c a1 = some (r, c1) ∧ F9_hours m a1 = some (r, m1) ∧ Inv (j + 1) c1 m1) ∧
  (∀ (j : Nat) (c : CS) (m : MS) (a1 : Int32) (a2 : Int32) (a3 : Int32), j < 512 → Inv j c m → ∃ (r : Int32) (c1 : CS) (m1 : MS), F8_lend c a1 a2 a3 = some (r, c1) ∧ F9_lend m a1 a2 a3 = some (r, m1) ∧ Inv (j + 1) c1 m1) ∧
  (∀ (j : Nat) (c : CS) (m : MS) (a1 : Int32) (a2 : Int32) (a3 : Int32), j < 512 → Inv j c m → ∃ (r : Int32) (c1 : CS) (m1 : MS), F8_pay c a1 a2 a3 = some (r, c1) ∧ F9_pay m a1 a2 a3 = some (r, m1) ∧ Inv (j + 1) c1 m1) ∧
  (∀ (j : Nat) (c : CS) (m : MS) (a1 : Int32), j < 512 → Inv j c m → ∃ (r : Int32) (c1 : CS) (m1 : MS), F8_storm c a1 = some (r, c1) ∧ F9_storm m a1 = some (r, m1) ∧ Inv (j + 1) c1 m1) ∧
  (∀ (j : Nat) (c : CS) (m : MS), j < 512 → Inv j c m → ∃ (r : Int32) (c1 : CS) (m1 : MS), F8_settle c  = some (r, c1) ∧ F9_settle m  = some (r, m1) ∧ Inv (j + 1) c1 m1) ∧
  (∀ (j : Nat) (c : CS) (m : MS), j < 512 → Inv j c m → ∃ (r : Int32) (c1 : CS) (m1 : MS), F8_undo c  = some (r, c1) ∧ F9_undo m  = some (r, m1) ∧ Inv (j + 1) c1 m1) ∧
  (∀ (j : Nat) (c : CS) (m : MS) (a1 : Int32) (a2 : Int32), j < 512 → Inv j c m → ∃ (r : Int32) (c1 : CS) (m1 : MS), F8_water c a1 a2 = some (r, c1) ∧ F9_water m a1 a2 = some (r, m1) ∧ Inv (j + 1) c1 m1) ∧
  (∀ (j : Nat) (c : CS) (m : MS) (a1 : Int32) (a2 : Int32), j < 512 → Inv j c m → ∃ (r : Int32) (c1 : CS) (m1 : MS), F8_owes c a1 a2 = some (r, c1) ∧ F9_owes m a1 a2 = some (r, m1) ∧ Inv (j + 1) c1 m1) ∧
  (∀ (j : Nat) (c : CS) (m : MS) (a1 : Int32) (a2 : Int32) (a3 : Int32), j < 512 → Inv j c m → ∃ (r : Int32) (c1 : CS) (m1 : MS), F8_ahead c a1 a2 a3 = some (r, c1) ∧ F9_ahead m a1 a2 a3 = some (r, m1) ∧ Inv (j + 1) c1 m1) ∧
  (∀ (j : Nat) (c : CS) (m : MS) (a1 : Int32) (a2 : Int32) (a3 : Int32) (a4 : Int32), j < 512 → Inv j c m → ∃ (r : Int32) (c1 : CS) (m1 : MS), F8_sail c a1 a2 a3 a4 = some (r, c1) ∧ F9_sail m a1 a2 a3 a4 = some (r, m1) ∧ Inv (j + 1) c1 m1) ∧
  (∀ (j : Nat) (c : CS) (m : MS) (a1 : Int32) (a2 : Int32), j < 512 → Inv j c m → ∃ (r : Int32) (c1 : CS) (m1 : MS), F8_net c a1 a2 = some (r, c1) ∧ F9_net m a1 a2 = some (r, m1) ∧ Inv (j + 1) c1 m1) ∧
  (∀ (j : Nat) (c : CS) (m : MS) (a1 : Int32) (a2 : Int32) (a3 : Int32) (a4 : Int32), j < 512 → Inv j c m → ∃ (r : Int32) (c1 : CS) (m1 : MS), F8_least c a1 a2 a3 a4 = some (r, c1) ∧ F9_least m a1 a2 a3 a4 = some (r, m1) ∧ Inv (j + 1) c1 m1) ∧
  (∀ (j : Nat) (c : CS) (m : MS), j < 512 → Inv j c m → ∃ (r : Int32) (c1 : CS) (m1 : MS), F8_run c  = some (r, c1) ∧ F9_run m  = some (r, m1) ∧ Inv (j + 1) c1 m1) ∧
  (∀ (j : Nat) (c : CS) (m : MS) (a1 : Int32) (a2 : Int32), j < 512 → Inv j c m → ∃ (r : Int32) (c1 : CS) (m1 : MS), F8_frauds c a1 a2 = some (r, c1) ∧ F9_frauds m a1 a2 = some (r, m1) ∧ Inv (j + 1) c1 m1) ∧
  (∀ (j : Nat) (c : CS) (m : MS) (a1 : Int32), j < 512 → Inv j c m → ∃ (r : Int32) (c1 : CS) (m1 : MS), F8_image c a1 = some (r, c1) ∧ F9_image m a1 = some (r, m1) ∧ Inv (j + 1) c1 m1) ∧
  (∀ (j : Nat) (c : CS) (m : MS) (a1 : Int32), j < 512 → Inv j c m → ∃ (r : Int32) (c1 : CS) (m1 : MS), F8_restore c a1 = some (r, c1) ∧ F9_restore m a1 = some (r, m1) ∧ Inv (j + 1) c1 m1) ∧
  (∀ (j : Nat) (c : CS) (m : MS) (a1 : Int32), j < 512 → Inv j c m → ∃ (r : Int32) (c1 : CS) (m1 : MS), F8_kind c a1 = some (r, c1) ∧ F9_kind m a1 = some (r, m1) ∧ Inv (j + 1) c1 m1) ∧
  (∀ (j : Nat) (c : CS) (m : MS) (a1 : Int32) (a2 : Int32), j < 512 → Inv j c m → ∃ (r : Int32) (c1 : CS) (m1 : MS), F8_as c a1 a2 = some (r, c1) ∧ F9_as m a1 a2 = some (r, m1) ∧ Inv (j + 1) c1 m1) ∧
  (∀ (j : Nat) (c : CS) (m : MS) (a1 : Int32) (a2 : Int32), j < 512 → Inv j c m → ∃ (r : Int32) (c1 : CS) (m1 : MS), F8_ask c a1 a2 = some (r, c1) ∧ F9_ask m a1 a2 = some (r, m1) ∧ Inv (j + 1) c1 m1) ∧
  (∀ (j : Nat) (c : CS) (m : MS) (a1 : Int32), j < 512 → Inv j c m → ∃ (r : Int32) (c1 : CS) (m1 : MS), F8_trace c a1 = some (r, c1) ∧ F9_trace m a1 = some (r, m1) ∧ Inv (j + 1) c1 m1) ∧
  (∀ (j : Nat) (c : CS) (m : MS) (a1 : Int32), j < 512 → Inv j c m → ∃ (r : Int32) (c1 : CS) (m1 : MS), F8_count c a1 = some (r, c1) ∧ F9_count m a1 = some (r, m1) ∧ Inv (j + 1) c1 m1) ∧
  (∀ (j : Nat) (c : CS) (m : MS), j < 512 → Inv j c m → ∃ (r : Int32) (c1 : CS) (m1 : MS), F8_status c  = some (r, c1) ∧ F9_status m  = some (r, m1) ∧ Inv (j + 1) c1 m1)
theorem g_sld {p : Program} {l : Launch} {e : Env} {R : Room} {s : State} {m : MethodId} {args : Array Value} {below : List Frame} {meth : Method} {c : Code} {H : Heap} {locs : List Loc} {cells slots : Nat} {Q : State → Prop} {cc : ByteArray} {pc : Nat} {ls : Array Slot} {rest : List Value} {A : Nat → Prop}
    (hexec : p.tables.exec = Jvm.exec) (hb : c.code = cc) {b L : Nat} {xs : Nat → Int32} (hX : va_X b L xs s s.heap) (hbl : b < s.heap.size) (hbA : ¬ A b) (hS : va_S A s.heap H locs) {i : Int32} (j : Nat) (hi : i = nI j) (hj : j < L) (hL : L ≤ 3072) (hdg : decode cc pc = .ok (.iaload, 1))
    (kk : W p l e R s m args below meth c H locs cells slots Q (F0 m (pc + 1) ls (.int (xs j) :: rest))) : W p l e R s m args below meth c H locs cells slots Q (F0 m pc ls (.int i :: .ref b :: rest)) := by
  subst hi
  refine va_sld hexec hb hX hbl hbA hS (vp_in_nI hj (by omega)) hdg ?_
  rw [nI_clamp (by omega)]
  exact kk
section CALLX
variable {p : Program} {l : Launch} {e : Env} {R : Room} {s : State} {m : MethodId} {args : Array Value} {below : List Frame} {meth : Method} {c : Code} {H : Heap} {locs : List Loc} {D : va_G} {cy : Nat → ClassId} {A : Nat → Prop} {cc : ByteArray} {nL : Nat} {ret : Option FieldType} {Ts : List Cond} {own : String} {pc : Nat} {ls : Array Slot} {Q : State → Prop}
variable {y : MethodName} {wy wy' : List Cond} {rm : Room} {w w1 : va_W} {b index maxL n cells slots : Nat} {bytes : ByteArray} {rt : Option FieldType} {Cn : String} {st0 : List Value}
theorem MI.callVx (r : Int32) (As rest : List Value) (C : Cx D cy A p s m meth c cc nL ret Ts own args) (G : Gd D A s w H locs) (hM : MI l y wy rm D cy (.ref b :: As) w r w1)
    (hT : GoodIn Ts (wsV own index Cn y wy)) (hw : wy = Cond.code y bytes maxL rt :: wy') (hrc : rm.cells = 0) (hrs : rm.slots = 0)
    (hd : y.cls = Cn ∧ y.cls ≠ "java/lang/invoke/MethodHandle" ∧ y.cls ≠ "java/lang/invoke/VarHandle" ∧ (parseMethodDescriptor y.desc).map (fun d => d.parameters.length) = some n) (hR : rm.frames + 1 ≤ R.frames ∧ 8 + (maxL + 11) + rm.locals ≤ R.locals)
    (hrec : ∃ cell : Cell, H[b]? = some cell ∧ cell.vm.isStatics = false ∧ s.vm.findClass Cn = some cell.cls)
    (hn : As.length = n) (hl : ls.size = nL) (hst : st0 = As.reverse ++ .ref b :: rest) (hrm : (rest.map fun v => v.category).sum ≤ 8) (hdg : decode cc pc = .ok (.invokevirtual index, 3)) (hf : cells ≤ R.cells ∧ slots ≤ R.slots)
    (kk : ∀ (H1 : Heap) (locs1 : List Loc), Gd D A s w1 H1 locs1 → W p l e R s m args below meth c H1 locs1 cells slots Q (F0 m (pc + 3) ls (.int r :: rest))) : W p l e R s m args below meth c H locs cells slots Q (F0 m pc ls st0) := by
  obtain ⟨hx, hb, hr, hml, hown, hts, hlk, hK, hA, hE⟩ := C
  have hFc : ∀ q, va_A w H.size q → A q := by
    intro q h
    rcases h with ⟨k, e, h⟩ | h
    · exact G.2.1.2 k (q, e) h
    · exact hA q (Nat.le_trans G.2.2.1 h)
  refine va_calli (va_runV (As := As) (rest := rest) ⟨hx, hb, hml, hown, hts⟩ (hM H.size) (cwV n hts hT hw hrc hrs hd hR) ⟨MPre.blind, hrec, fun U hU hW => ⟨rfl, by rw [hU], by rw [hU]; exact G.1, va_K.moved hW.alike hK, G.2.1.weaken (fun _ _ _ _ => trivial), hE.call G.2.2 hW hU hFc⟩⟩ rfl hn hl hst (lv_room hrm) hdg hf) G.2.2 (fun q _ h => hFc q h) hFc (fun r' u t H1 locs1 ht hvm hw' hB hz1 hk1 hS => ?_)
  obtain ⟨hP1, hK1, hD1⟩ := hB
  rw [ht] at hP1
  subst hw'
  exact kk H1 locs1 ⟨hP1, hD1.weaken (fun k q _ h => hFc q.1 h), hS⟩
end CALLX
theorem law_ix (j k : Nat) {x : Int32} (hx : x = nI k) : nI (6 * j) + x = nI (6 * j + k) := by rw [hx, nI_add]
theorem law_in {L i : Nat} (hL : L ≤ 3072) (hi : i ≤ 4000) (h : ¬ (nI L - 6 < nI i)) : i + 6 ≤ L := by
  have h6 : (6 : Int32) = nI 6 := rfl
  rw [h6] at h
  have h1 : ¬ ((nI L - nI 6).toInt < (nI i).toInt) := fun q => h (Int32.lt_iff_toInt_lt.mpr q)
  rw [pk_sub_toInt (by omega) (by omega), nI_toInt (by omega)] at h1
  omega
theorem law_out {L i : Nat} (hL : L ≤ 3072) (hi : i ≤ 4000) (h : nI L - 6 < nI i) : L < i + 6 := by
  have h6 : (6 : Int32) = nI 6 := rfl
  rw [h6] at h
  have h1 := Int32.lt_iff_toInt_lt.mp h
  rw [pk_sub_toInt (by omega) (by omega), nI_toInt (by omega)] at h1
  omega
abbrev WW (cy : Nat → ClassId) (mAd : Nat → Nat) (iAd gAd rAd : Nat → Nat → Nat) (aM : Nat → Nat) (GI GM GR : Nat → Option Nat) (cs : CS) (ms : MS) : va_W := WC cy mAd iAd gAd rAd GI GM GR cs ++ WM cy aM ms
set_option maxHeartbeats 4000000 in
set_option maxRecDepth 100000 in
theorem law_c0 {p : Program} {l : Launch} {e : Env} {s : State} {m : MethodId} {below : List Frame} {meth : Method} {c : Code} {D : va_G} {cy : Nat → ClassId} {b L : Nat} {xs : Nat → Int32} {Inv : Nat → CS → MS → Prop} (hO : OPS Inv) (hL : L ≤ 3072) (C : Cx D cy (fun q => s.heap.size ≤ q) p s m meth c code 4 ret wsL_law RL #[Value.ref b]) (hX : va_X b L xs s s.heap) (hbl : b < s.heap.size) (mAd : Nat → Nat) (iAd gAd rAd : Nat → Nat → Nat) (aM : Nat → Nat) (GI GM GR : Nat → Option Nat) (hGI : ∀ k, k < 8 → GI k = some (iAd k 0)) (hGM : ∀ k, k < 2 → GM k = some (gAd k 0)) (hGR : ∀ k, k < 24 → GR k = some (rAd k 0)) (j : Nat) (hj : j < 512) (hjL : 6 * j + 6 ≤ L) (cs : CS) (ms : MS) (hInv : Inv j cs ms) (U : Heap) (locs : List Loc) (ls : Array Slot) (G : Gd D (fun q => s.heap.size ≤ q) s (WW cy mAd iAd gAd rAd aM GI GM GR cs ms) U locs) (hl : lv_has ls 4 [(0, .ref b), (1, .ref (mAd 0)), (2, .ref (aM 0)), (3, .int (nI (6 * j)))]) (kk : ∀ (cs1 : CS) (ms1 : MS) (U : Heap) (locs : List Loc) (ls : Array Slot), Inv (j + 1) cs1 ms1 → Gd D (fun q => s.heap.size ≤ q) s (WW cy mAd iAd gAd rAd aM GI GM GR cs1 ms1) U locs → lv_has ls 4 [(0, .ref b), (1, .ref (mAd 0)), (2, .ref (aM 0)), (3, .int (nI (6 * j)))] → W p l e room_1 s m #[Value.ref b] below meth c U locs 174 5444 (lw_Z below #[Value.ref b] s) (F0 m 1071 ls [])) : W p l e room_1 s m #[Value.ref b] below meth c U locs 174 5444 (lw_Z below #[Value.ref b] s) (F0 m 164 ls []) := by
  obtain ⟨hx, hb, hr, hml, hown, hts, hlk, hK, hA, hE⟩ := id C
  have hbA : ¬ (fun q : Nat => s.heap.size ≤ q) b := Nat.not_le.mpr hbl
  refine lv_aload_n hx hb dL_law_164 rfl (lv_at hl 1 rfl) ?_
  refine lv_aload_n hx hb dL_law_165 rfl (lv_at hl 0 rfl) ?_
  refine lv_iload_n hx hb dL_law_166 rfl (lv_at hl 3 rfl) ?_
  refine lv_iconst (v := 1) hx hb dL_law_167 (by decide) ?_
  refine lv_iadd hx hb dL_law_168 ?_
  refine g_sld hx hb hX hbl hbA G.2.2 (6 * j + 1) (law_ix j 1 rfl) (by omega) hL dL_law_169 ?_
  refine lv_aload_n hx hb dL_law_170 rfl (lv_at hl 0 rfl) ?_
  refine lv_iload_n hx hb dL_law_171 rfl (lv_at hl 3 rfl) ?_
  refine lv_iconst (v := 2) hx hb dL_law_172 (by decide) ?_
  refine lv_iadd hx hb dL_law_173 ?_
  refine g_sld hx hb hX hbl hbA G.2.2 (6 * j + 2) (law_ix j 2 rfl) (by omega) hL dL_law_174 ?_
  refine lv_aload_n hx hb dL_law_175 rfl (lv_at hl 0 rfl) ?_
  refine lv_iload_n hx hb dL_law_176 rfl (lv_at hl 3 rfl) ?_
  refine lv_iconst (v := 3) hx hb dL_law_177 (by decide) ?_
  refine lv_iadd hx hb dL_law_178 ?_
  refine g_sld hx hb hX hbl hbA G.2.2 (6 * j + 3) (law_ix j 3 rfl) (by omega) hL dL_law_179 ?_
  obtain ⟨r, cs1, ms1, h8, h9, hI⟩ := hO.2.1 j cs ms (xs (6 * j + 1)) (xs (6 * j + 2)) (xs (6 * j + 3)) hj hInv
  refine MI.callVx r [.int (xs (6 * j + 1)), .int (xs (6 * j + 2)), .int (xs (6 * j + 3))] [] C G (C8_row l D cy mAd iAd gAd rAd aM GI GM GR hGI hGM hGR cs ms (xs (6 * j + 1)) (xs (6 * j + 2)) (xs (6 * j + 3)) r cs1 h8) gL_law_X8_row rfl rfl rfl (n := 3) (by decide +kernel) ⟨Nat.le_of_ble_eq_true rfl, Nat.le_of_ble_eq_true rfl⟩ (va_recv hK (vaP_iff.mpr (fun q hq => vaP_iff.mp G.1 q (List.mem_append_left _ (List.mem_append_left _ (List.mem_append_left _ (List.mem_append_left _ hq)))))) (ci := 8) (q0 := 0) rfl rfl) rfl hl.1 rfl (Nat.le_of_ble_eq_true rfl) dL_law_180 ⟨Nat.le_of_ble_eq_true rfl, Nat.le_of_ble_eq_true rfl⟩ (fun U locs G => ?_)
  refine lv_aload_n hx hb dL_law_183 rfl (lv_at hl 2 rfl) ?_
  refine lv_aload_n hx hb dL_law_184 rfl (lv_at hl 0 rfl) ?_
  refine lv_iload_n hx hb dL_law_185 rfl (lv_at hl 3 rfl) ?_
  refine lv_iconst (v := 1) hx hb dL_law_186 (by decide) ?_
  refine lv_iadd hx hb dL_law_187 ?_
  refine g_sld hx hb hX hbl hbA G.2.2 (6 * j + 1) (law_ix j 1 rfl) (by omega) hL dL_law_188 ?_
  refine lv_aload_n hx hb dL_law_189 rfl (lv_at hl 0 rfl) ?_
  refine lv_iload_n hx hb dL_law_190 rfl (lv_at hl 3 rfl) ?_
  refine lv_iconst (v := 2) hx hb dL_law_191 (by decide) ?_
  refine lv_iadd hx hb dL_law_192 ?_
  refine g_sld hx hb hX hbl hbA G.2.2 (6 * j + 2) (law_ix j 2 rfl) (by omega) hL dL_law_193 ?_
  refine lv_aload_n hx hb dL_law_194 rfl (lv_at hl 0 rfl) ?_
  refine lv_iload_n hx hb dL_law_195 rfl (lv_at hl 3 rfl) ?_
  refine lv_iconst (v := 3) hx hb dL_law_196 (by decide) ?_
  refine lv_iadd hx hb dL_law_197 ?_
  refine g_sld hx hb hX hbl hbA G.2.2 (6 * j + 3) (law_ix j 3 rfl) (by omega) hL dL_law_198 ?_
  refine MI.callVx r [.int (xs (6 * j + 1)), .int (xs (6 * j + 2)), .int (xs (6 * j + 3))] [.int r] C G (C9_row l D cy mAd iAd gAd rAd aM GI GM GR cs1 ms (xs (6 * j + 1)) (xs (6 * j + 2)) (xs (6 * j + 3)) r ms1 h9) gL_law_X9_row rfl rfl rfl (n := 3) (by decide +kernel) ⟨Nat.le_of_ble_eq_true rfl, Nat.le_of_ble_eq_true rfl⟩ (va_recv hK (vaP_iff.mpr (fun q hq => vaP_iff.mp G.1 q (List.mem_append_right _ hq))) (ci := 9) (q0 := 0) rfl rfl) rfl hl.1 rfl (Nat.le_of_ble_eq_true rfl) dL_law_199 ⟨Nat.le_of_ble_eq_true rfl, Nat.le_of_ble_eq_true rfl⟩ (fun U locs G => ?_)
  refine lv_icmp_eq (tgt := 1071) hx hb dL_law_202 (by decide) (fun _ => ?_) (fun c1 => absurd rfl c1)
  exact kk cs1 ms1 _ _ ls hI G hl
set_option maxHeartbeats 4000000 in
set_option maxRecDepth 100000 in
theorem law_c1 {p : Program} {l : Launch} {e : Env} {s : State} {m : MethodId} {below : List Frame} {meth : Method} {c : Code} {D : va_G} {cy : Nat → ClassId} {b L : Nat} {xs : Nat → Int32} {Inv : Nat → CS → MS → Prop} (hO : OPS Inv) (hL : L ≤ 3072) (C : Cx D cy (fun q => s.heap.size ≤ q) p s m meth c code 4 ret wsL_law RL #[Value.ref b]) (hX : va_X b L xs s s.heap) (hbl : b < s.heap.size) (mAd : Nat → Nat) (iAd gAd rAd : Nat → Nat → Nat) (aM : Nat → Nat) (GI GM GR : Nat → Option Nat) (hGI : ∀ k, k < 8 → GI k = some (iAd k 0)) (hGM : ∀ k, k < 2 → GM k = some (gAd k 0)) (hGR : ∀ k, k < 24 → GR k = some (rAd k 0)) (j : Nat) (hj : j < 512) (hjL : 6 * j + 6 ≤ L) (cs : CS) (ms : MS) (hInv : Inv j cs ms) (U : Heap) (locs : List Loc) (ls : Array Slot) (G : Gd D (fun q => s.heap.size ≤ q) s (WW cy mAd iAd gAd rAd aM GI GM GR cs ms) U locs) (hl : lv_has ls 4 [(0, .ref b), (1, .ref (mAd 0)), (2, .ref (aM 0)), (3, .int (nI (6 * j)))]) (kk : ∀ (cs1 : CS) (ms1 : MS) (U : Heap) (locs : List Loc) (ls : Array Slot), Inv (j + 1) cs1 ms1 → Gd D (fun q => s.heap.size ≤ q) s (WW cy mAd iAd gAd rAd aM GI GM GR cs1 ms1) U locs → lv_has ls 4 [(0, .ref b), (1, .ref (mAd 0)), (2, .ref (aM 0)), (3, .int (nI (6 * j)))] → W p l e room_1 s m #[Value.ref b] below meth c U locs 174 5444 (lw_Z below #[Value.ref b] s) (F0 m 1071 ls [])) : W p l e room_1 s m #[Value.ref b] below meth c U locs 174 5444 (lw_Z below #[Value.ref b] s) (F0 m 207 ls []) := by
  obtain ⟨hx, hb, hr, hml, hown, hts, hlk, hK, hA, hE⟩ := id C
  have hbA : ¬ (fun q : Nat => s.heap.size ≤ q) b := Nat.not_le.mpr hbl
  refine lv_aload_n hx hb dL_law_207 rfl (lv_at hl 1 rfl) ?_
  refine lv_aload_n hx hb dL_law_208 rfl (lv_at hl 0 rfl) ?_
  refine lv_iload_n hx hb dL_law_209 rfl (lv_at hl 3 rfl) ?_
  refine lv_iconst (v := 1) hx hb dL_law_210 (by decide) ?_
  refine lv_iadd hx hb dL_law_211 ?_
  refine g_sld hx hb hX hbl hbA G.2.2 (6 * j + 1) (law_ix j 1 rfl) (by omega) hL dL_law_212 ?_
  refine lv_aload_n hx hb dL_law_213 rfl (lv_at hl 0 rfl) ?_
  refine lv_iload_n hx hb dL_law_214 rfl (lv_at hl 3 rfl) ?_
  refine lv_iconst (v := 2) hx hb dL_law_215 (by decide) ?_
  refine lv_iadd hx hb dL_law_216 ?_
  refine g_sld hx hb hX hbl hbA G.2.2 (6 * j + 2) (law_ix j 2 rfl) (by omega) hL dL_law_217 ?_
  refine lv_aload_n hx hb dL_law_218 rfl (lv_at hl 0 rfl) ?_
  refine lv_iload_n hx hb dL_law_219 rfl (lv_at hl 3 rfl) ?_
  refine lv_iconst (v := 3) hx hb dL_law_220 (by decide) ?_
  refine lv_iadd hx hb dL_law_221 ?_
  refine g_sld hx hb hX hbl hbA G.2.2 (6 * j + 3) (law_ix j 3 rfl) (by omega) hL dL_law_222 ?_
  obtain ⟨r, cs1, ms1, h8, h9, hI⟩ := hO.2.2.1 j cs ms (xs (6 * j + 1)) (xs (6 * j + 2)) (xs (6 * j + 3)) hj hInv
  refine MI.callVx r [.int (xs (6 * j + 1)), .int (xs (6 * j + 2)), .int (xs (6 * j + 3))] [] C G (C8_set l D cy mAd iAd gAd rAd aM GI GM GR hGI hGM hGR cs ms (xs (6 * j + 1)) (xs (6 * j + 2)) (xs (6 * j + 3)) r cs1 h8) gL_law_X8_set rfl rfl rfl (n := 3) (by decide +kernel) ⟨Nat.le_of_ble_eq_true rfl, Nat.le_of_ble_eq_true rfl⟩ (va_recv hK (vaP_iff.mpr (fun q hq => vaP_iff.mp G.1 q (List.mem_append_left _ (List.mem_append_left _ (List.mem_append_left _ (List.mem_append_left _ hq)))))) (ci := 8) (q0 := 0) rfl rfl) rfl hl.1 rfl (Nat.le_of_ble_eq_true rfl) dL_law_223 ⟨Nat.le_of_ble_eq_true rfl, Nat.le_of_ble_eq_true rfl⟩ (fun U locs G => ?_)
  refine lv_aload_n hx hb dL_law_226 rfl (lv_at hl 2 rfl) ?_
  refine lv_aload_n hx hb dL_law_227 rfl (lv_at hl 0 rfl) ?_
  refine lv_iload_n hx hb dL_law_228 rfl (lv_at hl 3 rfl) ?_
  refine lv_iconst (v := 1) hx hb dL_law_229 (by decide) ?_
  refine lv_iadd hx hb dL_law_230 ?_
  refine g_sld hx hb hX hbl hbA G.2.2 (6 * j + 1) (law_ix j 1 rfl) (by omega) hL dL_law_231 ?_
  refine lv_aload_n hx hb dL_law_232 rfl (lv_at hl 0 rfl) ?_
  refine lv_iload_n hx hb dL_law_233 rfl (lv_at hl 3 rfl) ?_
  refine lv_iconst (v := 2) hx hb dL_law_234 (by decide) ?_
  refine lv_iadd hx hb dL_law_235 ?_
  refine g_sld hx hb hX hbl hbA G.2.2 (6 * j + 2) (law_ix j 2 rfl) (by omega) hL dL_law_236 ?_
  refine lv_aload_n hx hb dL_law_237 rfl (lv_at hl 0 rfl) ?_
  refine lv_iload_n hx hb dL_law_238 rfl (lv_at hl 3 rfl) ?_
  refine lv_iconst (v := 3) hx hb dL_law_239 (by decide) ?_
  refine lv_iadd hx hb dL_law_240 ?_
  refine g_sld hx hb hX hbl hbA G.2.2 (6 * j + 3) (law_ix j 3 rfl) (by omega) hL dL_law_241 ?_
  refine MI.callVx r [.int (xs (6 * j + 1)), .int (xs (6 * j + 2)), .int (xs (6 * j + 3))] [.int r] C G (C9_set l D cy mAd iAd gAd rAd aM GI GM GR cs1 ms (xs (6 * j + 1)) (xs (6 * j + 2)) (xs (6 * j + 3)) r ms1 h9) gL_law_X9_set rfl rfl rfl (n := 3) (by decide +kernel) ⟨Nat.le_of_ble_eq_true rfl, Nat.le_of_ble_eq_true rfl⟩ (va_recv hK (vaP_iff.mpr (fun q hq => vaP_iff.mp G.1 q (List.mem_append_right _ hq))) (ci := 9) (q0 := 0) rfl rfl) rfl hl.1 rfl (Nat.le_of_ble_eq_true rfl) dL_law_242 ⟨Nat.le_of_ble_eq_true rfl, Nat.le_of_ble_eq_true rfl⟩ (fun U locs G => ?_)
  refine lv_icmp_eq (tgt := 1071) hx hb dL_law_245 (by decide) (fun _ => ?_) (fun c1 => absurd rfl c1)
  exact kk cs1 ms1 _ _ ls hI G hl
set_option maxHeartbeats 4000000 in
set_option maxRecDepth 100000 in
theorem law_c2 {p : Program} {l : Launch} {e : Env} {s : State} {m : MethodId} {below : List Frame} {meth : Method} {c : Code} {D : va_G} {cy : Nat → ClassId} {b L : Nat} {xs : Nat → Int32} {Inv : Nat → CS → MS → Prop} (hO : OPS Inv) (hL : L ≤ 3072) (C : Cx D cy (fun q => s.heap.size ≤ q) p s m meth c code 4 ret wsL_law RL #[Value.ref b]) (hX : va_X b L xs s s.heap) (hbl : b < s.heap.size) (mAd : Nat → Nat) (iAd gAd rAd : Nat → Nat → Nat) (aM : Nat → Nat) (GI GM GR : Nat → Option Nat) (hGI : ∀ k, k < 8 → GI k = some (iAd k 0)) (hGM : ∀ k, k < 2 → GM k = some (gAd k 0)) (hGR : ∀ k, k < 24 → GR k = some (rAd k 0)) (j : Nat) (hj : j < 512) (hjL : 6 * j + 6 ≤ L) (cs : CS) (ms : MS) (hInv : Inv j cs ms) (U : Heap) (locs : List Loc) (ls : Array Slot) (G : Gd D (fun q => s.heap.size ≤ q) s (WW cy mAd iAd gAd rAd aM GI GM GR cs ms) U locs) (hl : lv_has ls 4 [(0, .ref b), (1, .ref (mAd 0)), (2, .ref (aM 0)), (3, .int (nI (6 * j)))]) (kk : ∀ (cs1 : CS) (ms1 : MS) (U : Heap) (locs : List Loc) (ls : Array Slot), Inv (j + 1) cs1 ms1 → Gd D (fun q => s.heap.size ≤ q) s (WW cy mAd iAd gAd rAd aM GI GM GR cs1 ms1) U locs → lv_has ls 4 [(0, .ref b), (1, .ref (mAd 0)), (2, .ref (aM 0)), (3, .int (nI (6 * j)))] → W p l e room_1 s m #[Value.ref b] below meth c U locs 174 5444 (lw_Z below #[Value.ref b] s) (F0 m 1071 ls [])) : W p l e room_1 s m #[Value.ref b] below meth c U locs 174 5444 (lw_Z below #[Value.ref b] s) (F0 m 250 ls []) := by
  obtain ⟨hx, hb, hr, hml, hown, hts, hlk, hK, hA, hE⟩ := id C
  have hbA : ¬ (fun q : Nat => s.heap.size ≤ q) b := Nat.not_le.mpr hbl
  refine lv_aload_n hx hb dL_law_250 rfl (lv_at hl 1 rfl) ?_
  refine lv_aload_n hx hb dL_law_251 rfl (lv_at hl 0 rfl) ?_
  refine lv_iload_n hx hb dL_law_252 rfl (lv_at hl 3 rfl) ?_
  refine lv_iconst (v := 1) hx hb dL_law_253 (by decide) ?_
  refine lv_iadd hx hb dL_law_254 ?_
  refine g_sld hx hb hX hbl hbA G.2.2 (6 * j + 1) (law_ix j 1 rfl) (by omega) hL dL_law_255 ?_
  refine lv_aload_n hx hb dL_law_256 rfl (lv_at hl 0 rfl) ?_
  refine lv_iload_n hx hb dL_law_257 rfl (lv_at hl 3 rfl) ?_
  refine lv_iconst (v := 2) hx hb dL_law_258 (by decide) ?_
  refine lv_iadd hx hb dL_law_259 ?_
  refine g_sld hx hb hX hbl hbA G.2.2 (6 * j + 2) (law_ix j 2 rfl) (by omega) hL dL_law_260 ?_
  refine lv_aload_n hx hb dL_law_261 rfl (lv_at hl 0 rfl) ?_
  refine lv_iload_n hx hb dL_law_262 rfl (lv_at hl 3 rfl) ?_
  refine lv_iconst (v := 3) hx hb dL_law_263 (by decide) ?_
  refine lv_iadd hx hb dL_law_264 ?_
  refine g_sld hx hb hX hbl hbA G.2.2 (6 * j + 3) (law_ix j 3 rfl) (by omega) hL dL_law_265 ?_
  refine lv_aload_n hx hb dL_law_266 rfl (lv_at hl 0 rfl) ?_
  refine lv_iload_n hx hb dL_law_267 rfl (lv_at hl 3 rfl) ?_
  refine lv_iconst (v := 4) hx hb dL_law_268 (by decide) ?_
  refine lv_iadd hx hb dL_law_269 ?_
  refine g_sld hx hb hX hbl hbA G.2.2 (6 * j + 4) (law_ix j 4 rfl) (by omega) hL dL_law_270 ?_
  refine lv_aload_n hx hb dL_law_271 rfl (lv_at hl 0 rfl) ?_
  refine lv_iload_n hx hb dL_law_272 rfl (lv_at hl 3 rfl) ?_
  refine lv_iconst (v := 5) hx hb dL_law_273 (by decide) ?_
  refine lv_iadd hx hb dL_law_274 ?_
  refine g_sld hx hb hX hbl hbA G.2.2 (6 * j + 5) (law_ix j 5 rfl) (by omega) hL dL_law_275 ?_
  obtain ⟨r, cs1, ms1, h8, h9, hI⟩ := hO.2.2.2.1 j cs ms (xs (6 * j + 1)) (xs (6 * j + 2)) (xs (6 * j + 3)) (xs (6 * j + 4)) (xs (6 * j + 5)) hj hInv
  refine MI.callVx r [.int (xs (6 * j + 1)), .int (xs (6 * j + 2)), .int (xs (6 * j + 3)), .int (xs (6 * j + 4)), .int (xs (6 * j + 5))] [] C G (C8_copy l D cy mAd iAd gAd rAd aM GI GM GR hGI hGM hGR cs ms (xs (6 * j + 1)) (xs (6 * j + 2)) (xs (6 * j + 3)) (xs (6 * j + 4)) (xs (6 * j + 5)) r cs1 h8) gL_law_X8_copy rfl rfl rfl (n := 5) (by decide +kernel) ⟨Nat.le_of_ble_eq_true rfl, Nat.le_of_ble_eq_true rfl⟩ (va_recv hK (vaP_iff.mpr (fun q hq => vaP_iff.mp G.1 q (List.mem_append_left _ (List.mem_append_left _ (List.mem_append_left _ (List.mem_append_left _ hq)))))) (ci := 8) (q0 := 0) rfl rfl) rfl hl.1 rfl (Nat.le_of_ble_eq_true rfl) dL_law_276 ⟨Nat.le_of_ble_eq_true rfl, Nat.le_of_ble_eq_true rfl⟩ (fun U locs G => ?_)
  refine lv_aload_n hx hb dL_law_279 rfl (lv_at hl 2 rfl) ?_
  refine lv_aload_n hx hb dL_law_280 rfl (lv_at hl 0 rfl) ?_
  refine lv_iload_n hx hb dL_law_281 rfl (lv_at hl 3 rfl) ?_
  refine lv_iconst (v := 1) hx hb dL_law_282 (by decide) ?_
  refine lv_iadd hx hb dL_law_283 ?_
  refine g_sld hx hb hX hbl hbA G.2.2 (6 * j + 1) (law_ix j 1 rfl) (by omega) hL dL_law_284 ?_
  refine lv_aload_n hx hb dL_law_285 rfl (lv_at hl 0 rfl) ?_
  refine lv_iload_n hx hb dL_law_286 rfl (lv_at hl 3 rfl) ?_
  refine lv_iconst (v := 2) hx hb dL_law_287 (by decide) ?_
  refine lv_iadd hx hb dL_law_288 ?_
  refine g_sld hx hb hX hbl hbA G.2.2 (6 * j + 2) (law_ix j 2 rfl) (by omega) hL dL_law_289 ?_
  refine lv_aload_n hx hb dL_law_290 rfl (lv_at hl 0 rfl) ?_
  refine lv_iload_n hx hb dL_law_291 rfl (lv_at hl 3 rfl) ?_
  refine lv_iconst (v := 3) hx hb dL_law_292 (by decide) ?_
  refine lv_iadd hx hb dL_law_293 ?_
  refine g_sld hx hb hX hbl hbA G.2.2 (6 * j + 3) (law_ix j 3 rfl) (by omega) hL dL_law_294 ?_
  refine lv_aload_n hx hb dL_law_295 rfl (lv_at hl 0 rfl) ?_
  refine lv_iload_n hx hb dL_law_296 rfl (lv_at hl 3 rfl) ?_
  refine lv_iconst (v := 4) hx hb dL_law_297 (by decide) ?_
  refine lv_iadd hx hb dL_law_298 ?_
  refine g_sld hx hb hX hbl hbA G.2.2 (6 * j + 4) (law_ix j 4 rfl) (by omega) hL dL_law_299 ?_
  refine lv_aload_n hx hb dL_law_300 rfl (lv_at hl 0 rfl) ?_
  refine lv_iload_n hx hb dL_law_301 rfl (lv_at hl 3 rfl) ?_
  refine lv_iconst (v := 5) hx hb dL_law_302 (by decide) ?_
  refine lv_iadd hx hb dL_law_303 ?_
  refine g_sld hx hb hX hbl hbA G.2.2 (6 * j + 5) (law_ix j 5 rfl) (by omega) hL dL_law_304 ?_
  refine MI.callVx r [.int (xs (6 * j + 1)), .int (xs (6 * j + 2)), .int (xs (6 * j + 3)), .int (xs (6 * j + 4)), .int (xs (6 * j + 5))] [.int r] C G (C9_copy l D cy mAd iAd gAd rAd aM GI GM GR cs1 ms (xs (6 * j + 1)) (xs (6 * j + 2)) (xs (6 * j + 3)) (xs (6 * j + 4)) (xs (6 * j + 5)) r ms1 h9) gL_law_X9_copy rfl rfl rfl (n := 5) (by decide +kernel) ⟨Nat.le_of_ble_eq_true rfl, Nat.le_of_ble_eq_true rfl⟩ (va_recv hK (vaP_iff.mpr (fun q hq => vaP_iff.mp G.1 q (List.mem_append_right _ hq))) (ci := 9) (q0 := 0) rfl rfl) rfl hl.1 rfl (Nat.le_of_ble_eq_true rfl) dL_law_305 ⟨Nat.le_of_ble_eq_true rfl, Nat.le_of_ble_eq_true rfl⟩ (fun U locs G => ?_)
  refine lv_icmp_eq (tgt := 1071) hx hb dL_law_308 (by decide) (fun _ => ?_) (fun c1 => absurd rfl c1)
  exact kk cs1 ms1 _ _ ls hI G hl
set_option maxHeartbeats 4000000 in
set_option maxRecDepth 100000 in
theorem law_c3 {p : Program} {l : Launch} {e : Env} {s : State} {m : MethodId} {below : List Frame} {meth : Method} {c : Code} {D : va_G} {cy : Nat → ClassId} {b L : Nat} {xs : Nat → Int32} {Inv : Nat → CS → MS → Prop} (hO : OPS Inv) (hL : L ≤ 3072) (C : Cx D cy (fun q => s.heap.size ≤ q) p s m meth c code 4 ret wsL_law RL #[Value.ref b]) (hX : va_X b L xs s s.heap) (hbl : b < s.heap.size) (mAd : Nat → Nat) (iAd gAd rAd : Nat → Nat → Nat) (aM : Nat → Nat) (GI GM GR : Nat → Option Nat) (hGI : ∀ k, k < 8 → GI k = some (iAd k 0)) (hGM : ∀ k, k < 2 → GM k = some (gAd k 0)) (hGR : ∀ k, k < 24 → GR k = some (rAd k 0)) (j : Nat) (hj : j < 512) (hjL : 6 * j + 6 ≤ L) (cs : CS) (ms : MS) (hInv : Inv j cs ms) (U : Heap) (locs : List Loc) (ls : Array Slot) (G : Gd D (fun q => s.heap.size ≤ q) s (WW cy mAd iAd gAd rAd aM GI GM GR cs ms) U locs) (hl : lv_has ls 4 [(0, .ref b), (1, .ref (mAd 0)), (2, .ref (aM 0)), (3, .int (nI (6 * j)))]) (kk : ∀ (cs1 : CS) (ms1 : MS) (U : Heap) (locs : List Loc) (ls : Array Slot), Inv (j + 1) cs1 ms1 → Gd D (fun q => s.heap.size ≤ q) s (WW cy mAd iAd gAd rAd aM GI GM GR cs1 ms1) U locs → lv_has ls 4 [(0, .ref b), (1, .ref (mAd 0)), (2, .ref (aM 0)), (3, .int (nI (6 * j)))] → W p l e room_1 s m #[Value.ref b] below meth c U locs 174 5444 (lw_Z below #[Value.ref b] s) (F0 m 1071 ls [])) : W p l e room_1 s m #[Value.ref b] below meth c U locs 174 5444 (lw_Z below #[Value.ref b] s) (F0 m 313 ls []) := by
  obtain ⟨hx, hb, hr, hml, hown, hts, hlk, hK, hA, hE⟩ := id C
  have hbA : ¬ (fun q : Nat => s.heap.size ≤ q) b := Nat.not_le.mpr hbl
  refine lv_aload_n hx hb dL_law_313 rfl (lv_at hl 1 rfl) ?_
  refine lv_aload_n hx hb dL_law_314 rfl (lv_at hl 0 rfl) ?_
  refine lv_iload_n hx hb dL_law_315 rfl (lv_at hl 3 rfl) ?_
  refine lv_iconst (v := 1) hx hb dL_law_316 (by decide) ?_
  refine lv_iadd hx hb dL_law_317 ?_
  refine g_sld hx hb hX hbl hbA G.2.2 (6 * j + 1) (law_ix j 1 rfl) (by omega) hL dL_law_318 ?_
  obtain ⟨r, cs1, ms1, h8, h9, hI⟩ := hO.2.2.2.2.1 j cs ms (xs (6 * j + 1)) hj hInv
  refine MI.callVx r [.int (xs (6 * j + 1))] [] C G (C8_drop l D cy mAd iAd gAd rAd aM GI GM GR hGI hGM hGR cs ms (xs (6 * j + 1)) r cs1 h8) gL_law_X8_drop rfl rfl rfl (n := 1) (by decide +kernel) ⟨Nat.le_of_ble_eq_true rfl, Nat.le_of_ble_eq_true rfl⟩ (va_recv hK (vaP_iff.mpr (fun q hq => vaP_iff.mp G.1 q (List.mem_append_left _ (List.mem_append_left _ (List.mem_append_left _ (List.mem_append_left _ hq)))))) (ci := 8) (q0 := 0) rfl rfl) rfl hl.1 rfl (Nat.le_of_ble_eq_true rfl) dL_law_319 ⟨Nat.le_of_ble_eq_true rfl, Nat.le_of_ble_eq_true rfl⟩ (fun U locs G => ?_)
  refine lv_aload_n hx hb dL_law_322 rfl (lv_at hl 2 rfl) ?_
  refine lv_aload_n hx hb dL_law_323 rfl (lv_at hl 0 rfl) ?_
  refine lv_iload_n hx hb dL_law_324 rfl (lv_at hl 3 rfl) ?_
  refine lv_iconst (v := 1) hx hb dL_law_325 (by decide) ?_
  refine lv_iadd hx hb dL_law_326 ?_
  refine g_sld hx hb hX hbl hbA G.2.2 (6 * j + 1) (law_ix j 1 rfl) (by omega) hL dL_law_327 ?_
  refine MI.callVx r [.int (xs (6 * j + 1))] [.int r] C G (C9_drop l D cy mAd iAd gAd rAd aM GI GM GR cs1 ms (xs (6 * j + 1)) r ms1 h9) gL_law_X9_drop rfl rfl rfl (n := 1) (by decide +kernel) ⟨Nat.le_of_ble_eq_true rfl, Nat.le_of_ble_eq_true rfl⟩ (va_recv hK (vaP_iff.mpr (fun q hq => vaP_iff.mp G.1 q (List.mem_append_right _ hq))) (ci := 9) (q0 := 0) rfl rfl) rfl hl.1 rfl (Nat.le_of_ble_eq_true rfl) dL_law_328 ⟨Nat.le_of_ble_eq_true rfl, Nat.le_of_ble_eq_true rfl⟩ (fun U locs G => ?_)
  refine lv_icmp_eq (tgt := 1071) hx hb dL_law_331 (by decide) (fun _ => ?_) (fun c1 => absurd rfl c1)
  exact kk cs1 ms1 _ _ ls hI G hl
set_option maxHeartbeats 4000000 in
set_option maxRecDepth 100000 in
theorem law_c4 {p : Program} {l : Launch} {e : Env} {s : State} {m : MethodId} {below : List Frame} {meth : Method} {c : Code} {D : va_G} {cy : Nat → ClassId} {b L : Nat} {xs : Nat → Int32} {Inv : Nat → CS → MS → Prop} (hO : OPS Inv) (hL : L ≤ 3072) (C : Cx D cy (fun q => s.heap.size ≤ q) p s m meth c code 4 ret wsL_law RL #[Value.ref b]) (hX : va_X b L xs s s.heap) (hbl : b < s.heap.size) (mAd : Nat → Nat) (iAd gAd rAd : Nat → Nat → Nat) (aM : Nat → Nat) (GI GM GR : Nat → Option Nat) (hGI : ∀ k, k < 8 → GI k = some (iAd k 0)) (hGM : ∀ k, k < 2 → GM k = some (gAd k 0)) (hGR : ∀ k, k < 24 → GR k = some (rAd k 0)) (j : Nat) (hj : j < 512) (hjL : 6 * j + 6 ≤ L) (cs : CS) (ms : MS) (hInv : Inv j cs ms) (U : Heap) (locs : List Loc) (ls : Array Slot) (G : Gd D (fun q => s.heap.size ≤ q) s (WW cy mAd iAd gAd rAd aM GI GM GR cs ms) U locs) (hl : lv_has ls 4 [(0, .ref b), (1, .ref (mAd 0)), (2, .ref (aM 0)), (3, .int (nI (6 * j)))]) (kk : ∀ (cs1 : CS) (ms1 : MS) (U : Heap) (locs : List Loc) (ls : Array Slot), Inv (j + 1) cs1 ms1 → Gd D (fun q => s.heap.size ≤ q) s (WW cy mAd iAd gAd rAd aM GI GM GR cs1 ms1) U locs → lv_has ls 4 [(0, .ref b), (1, .ref (mAd 0)), (2, .ref (aM 0)), (3, .int (nI (6 * j)))] → W p l e room_1 s m #[Value.ref b] below meth c U locs 174 5444 (lw_Z below #[Value.ref b] s) (F0 m 1071 ls [])) : W p l e room_1 s m #[Value.ref b] below meth c U locs 174 5444 (lw_Z below #[Value.ref b] s) (F0 m 336 ls []) := by
  obtain ⟨hx, hb, hr, hml, hown, hts, hlk, hK, hA, hE⟩ := id C
  have hbA : ¬ (fun q : Nat => s.heap.size ≤ q) b := Nat.not_le.mpr hbl
  have lkc := hts (Cond.constantLong RL 32 (4294967295)) (List.mem_of_getElem? (i := 6) rfl)
  refine lv_aload_n hx hb dL_law_336 rfl (lv_at hl 1 rfl) ?_
  refine lv_aload_n hx hb dL_law_337 rfl (lv_at hl 0 rfl) ?_
  refine lv_iload_n hx hb dL_law_338 rfl (lv_at hl 3 rfl) ?_
  refine lv_iconst (v := 1) hx hb dL_law_339 (by decide) ?_
  refine lv_iadd hx hb dL_law_340 ?_
  refine g_sld hx hb hX hbl hbA G.2.2 (6 * j + 1) (law_ix j 1 rfl) (by omega) hL dL_law_341 ?_
  refine lv_i2l hx hb dL_law_342 rfl ?_
  refine lv_bipush (v := 32) hx hb dL_law_343 (by decide) ?_
  refine lv_lshl hx hb dL_law_345 rfl ?_
  refine lv_aload_n hx hb dL_law_346 rfl (lv_at hl 0 rfl) ?_
  refine lv_iload_n hx hb dL_law_347 rfl (lv_at hl 3 rfl) ?_
  refine lv_iconst (v := 2) hx hb dL_law_348 (by decide) ?_
  refine lv_iadd hx hb dL_law_349 ?_
  refine g_sld hx hb hX hbl hbA G.2.2 (6 * j + 2) (law_ix j 2 rfl) (by omega) hL dL_law_350 ?_
  refine lv_i2l hx hb dL_law_351 rfl ?_
  refine lv_ldc2 hx hb hown lkc dL_law_352 ?_
  refine lv_land hx hb dL_law_355 ?_
  refine lv_lor hx hb dL_law_356 ?_
  refine lv_aload_n hx hb dL_law_357 rfl (lv_at hl 0 rfl) ?_
  refine lv_iload_n hx hb dL_law_358 rfl (lv_at hl 3 rfl) ?_
  refine lv_iconst (v := 3) hx hb dL_law_359 (by decide) ?_
  refine lv_iadd hx hb dL_law_360 ?_
  refine g_sld hx hb hX hbl hbA G.2.2 (6 * j + 3) (law_ix j 3 rfl) (by omega) hL dL_law_361 ?_
  obtain ⟨r, cs1, ms1, h8, h9, hI⟩ := hO.2.2.2.2.2.1 j cs ms (((xs (6 * j + 1)).toInt64 <<< ((32 : Int32).toInt64 &&& 63)) ||| ((xs (6 * j + 2)).toInt64 &&& 4294967295)) (xs (6 * j + 3)) hj hInv
  refine MI.callVx r [.long (((xs (6 * j + 1)).toInt64 <<< ((32 : Int32).toInt64 &&& 63)) ||| ((xs (6 * j + 2)).toInt64 &&& 4294967295)), .int (xs (6 * j + 3))] [] C G (C8_feed l D cy mAd iAd gAd rAd aM GI GM GR hGI hGM hGR cs ms (((xs (6 * j + 1)).toInt64 <<< ((32 : Int32).toInt64 &&& 63)) ||| ((xs (6 * j + 2)).toInt64 &&& 4294967295)) (xs (6 * j + 3)) r cs1 h8) gL_law_X8_feed rfl rfl rfl (n := 2) (by decide +kernel) ⟨Nat.le_of_ble_eq_true rfl, Nat.le_of_ble_eq_true rfl⟩ (va_recv hK (vaP_iff.mpr (fun q hq => vaP_iff.mp G.1 q (List.mem_append_left _ (List.mem_append_left _ (List.mem_append_left _ (List.mem_append_left _ hq)))))) (ci := 8) (q0 := 0) rfl rfl) rfl hl.1 rfl (Nat.le_of_ble_eq_true rfl) dL_law_362 ⟨Nat.le_of_ble_eq_true rfl, Nat.le_of_ble_eq_true rfl⟩ (fun U locs G => ?_)
  refine lv_aload_n hx hb dL_law_365 rfl (lv_at hl 2 rfl) ?_
  refine lv_aload_n hx hb dL_law_366 rfl (lv_at hl 0 rfl) ?_
  refine lv_iload_n hx hb dL_law_367 rfl (lv_at hl 3 rfl) ?_
  refine lv_iconst (v := 1) hx hb dL_law_368 (by decide) ?_
  refine lv_iadd hx hb dL_law_369 ?_
  refine g_sld hx hb hX hbl hbA G.2.2 (6 * j + 1) (law_ix j 1 rfl) (by omega) hL dL_law_370 ?_
  refine lv_i2l hx hb dL_law_371 rfl ?_
  refine lv_bipush (v := 32) hx hb dL_law_372 (by decide) ?_
  refine lv_lshl hx hb dL_law_374 rfl ?_
  refine lv_aload_n hx hb dL_law_375 rfl (lv_at hl 0 rfl) ?_
  refine lv_iload_n hx hb dL_law_376 rfl (lv_at hl 3 rfl) ?_
  refine lv_iconst (v := 2) hx hb dL_law_377 (by decide) ?_
  refine lv_iadd hx hb dL_law_378 ?_
  refine g_sld hx hb hX hbl hbA G.2.2 (6 * j + 2) (law_ix j 2 rfl) (by omega) hL dL_law_379 ?_
  refine lv_i2l hx hb dL_law_380 rfl ?_
  refine lv_ldc2 hx hb hown lkc dL_law_381 ?_
  refine lv_land hx hb dL_law_384 ?_
  refine lv_lor hx hb dL_law_385 ?_
  refine lv_aload_n hx hb dL_law_386 rfl (lv_at hl 0 rfl) ?_
  refine lv_iload_n hx hb dL_law_387 rfl (lv_at hl 3 rfl) ?_
  refine lv_iconst (v := 3) hx hb dL_law_388 (by decide) ?_
  refine lv_iadd hx hb dL_law_389 ?_
  refine g_sld hx hb hX hbl hbA G.2.2 (6 * j + 3) (law_ix j 3 rfl) (by omega) hL dL_law_390 ?_
  refine MI.callVx r [.long (((xs (6 * j + 1)).toInt64 <<< ((32 : Int32).toInt64 &&& 63)) ||| ((xs (6 * j + 2)).toInt64 &&& 4294967295)), .int (xs (6 * j + 3))] [.int r] C G (C9_feed l D cy mAd iAd gAd rAd aM GI GM GR cs1 ms (((xs (6 * j + 1)).toInt64 <<< ((32 : Int32).toInt64 &&& 63)) ||| ((xs (6 * j + 2)).toInt64 &&& 4294967295)) (xs (6 * j + 3)) r ms1 h9) gL_law_X9_feed rfl rfl rfl (n := 2) (by decide +kernel) ⟨Nat.le_of_ble_eq_true rfl, Nat.le_of_ble_eq_true rfl⟩ (va_recv hK (vaP_iff.mpr (fun q hq => vaP_iff.mp G.1 q (List.mem_append_right _ hq))) (ci := 9) (q0 := 0) rfl rfl) rfl hl.1 rfl (Nat.le_of_ble_eq_true rfl) dL_law_391 ⟨Nat.le_of_ble_eq_true rfl, Nat.le_of_ble_eq_true rfl⟩ (fun U locs G => ?_)
  refine lv_icmp_eq (tgt := 1071) hx hb dL_law_394 (by decide) (fun _ => ?_) (fun c1 => absurd rfl c1)
  exact kk cs1 ms1 _ _ ls hI G hl
set_option maxHeartbeats 4000000 in
set_option maxRecDepth 100000 in
theorem law_c5 {p : Program} {l : Launch} {e : Env} {s : State} {m : MethodId} {below : List Frame} {meth : Method} {c : Code} {D : va_G} {cy : Nat → ClassId} {b L : Nat} {xs : Nat → Int32} {Inv : Nat → CS → MS → Prop} (hO : OPS Inv) (hL : L ≤ 3072) (C : Cx D cy (fun q => s.heap.size ≤ q) p s m meth c code 4 ret wsL_law RL #[Value.ref b]) (hX : va_X b L xs s s.heap) (hbl : b < s.heap.size) (mAd : Nat → Nat) (iAd gAd rAd : Nat → Nat → Nat) (aM : Nat → Nat) (GI GM GR : Nat → Option Nat) (hGI : ∀ k, k < 8 → GI k = some (iAd k 0)) (hGM : ∀ k, k < 2 → GM k = some (gAd k 0)) (hGR : ∀ k, k < 24 → GR k = some (rAd k 0)) (j : Nat) (hj : j < 512) (hjL : 6 * j + 6 ≤ L) (cs : CS) (ms : MS) (hInv : Inv j cs ms) (U : Heap) (locs : List Loc) (ls : Array Slot) (G : Gd D (fun q => s.heap.size ≤ q) s (WW cy mAd iAd gAd rAd aM GI GM GR cs ms) U locs) (hl : lv_has ls 4 [(0, .ref b), (1, .ref (mAd 0)), (2, .ref (aM 0)), (3, .int (nI (6 * j)))]) (kk : ∀ (cs1 : CS) (ms1 : MS) (U : Heap) (locs : List Loc) (ls : Array Slot), Inv (j + 1) cs1 ms1 → Gd D (fun q => s.heap.size ≤ q) s (WW cy mAd iAd gAd rAd aM GI GM GR cs1 ms1) U locs → lv_has ls 4 [(0, .ref b), (1, .ref (mAd 0)), (2, .ref (aM 0)), (3, .int (nI (6 * j)))] → W p l e room_1 s m #[Value.ref b] below meth c U locs 174 5444 (lw_Z below #[Value.ref b] s) (F0 m 1071 ls [])) : W p l e room_1 s m #[Value.ref b] below meth c U locs 174 5444 (lw_Z below #[Value.ref b] s) (F0 m 399 ls []) := by
  obtain ⟨hx, hb, hr, hml, hown, hts, hlk, hK, hA, hE⟩ := id C
  have hbA : ¬ (fun q : Nat => s.heap.size ≤ q) b := Nat.not_le.mpr hbl
  refine lv_aload_n hx hb dL_law_399 rfl (lv_at hl 1 rfl) ?_
  obtain ⟨r, cs1, ms1, h8, h9, hI⟩ := hO.2.2.2.2.2.2.1 j cs ms  hj hInv
  refine MI.callVx r [] [] C G (C8_bay l D cy mAd iAd gAd rAd aM GI GM GR hGI hGM hGR cs ms  r cs1 h8) gL_law_X8_bay rfl rfl rfl (n := 0) (by decide +kernel) ⟨Nat.le_of_ble_eq_true rfl, Nat.le_of_ble_eq_true rfl⟩ (va_recv hK (vaP_iff.mpr (fun q hq => vaP_iff.mp G.1 q (List.mem_append_left _ (List.mem_append_left _ (List.mem_append_left _ (List.mem_append_left _ hq)))))) (ci := 8) (q0 := 0) rfl rfl) rfl hl.1 rfl (Nat.le_of_ble_eq_true rfl) dL_law_400 ⟨Nat.le_of_ble_eq_true rfl, Nat.le_of_ble_eq_true rfl⟩ (fun U locs G => ?_)
  refine lv_aload_n hx hb dL_law_403 rfl (lv_at hl 2 rfl) ?_
  refine MI.callVx r [] [.int r] C G (C9_bay l D cy mAd iAd gAd rAd aM GI GM GR cs1 ms  r ms1 h9) gL_law_X9_bay rfl rfl rfl (n := 0) (by decide +kernel) ⟨Nat.le_of_ble_eq_true rfl, Nat.le_of_ble_eq_true rfl⟩ (va_recv hK (vaP_iff.mpr (fun q hq => vaP_iff.mp G.1 q (List.mem_append_right _ hq))) (ci := 9) (q0 := 0) rfl rfl) rfl hl.1 rfl (Nat.le_of_ble_eq_true rfl) dL_law_404 ⟨Nat.le_of_ble_eq_true rfl, Nat.le_of_ble_eq_true rfl⟩ (fun U locs G => ?_)
  refine lv_icmp_eq (tgt := 1071) hx hb dL_law_407 (by decide) (fun _ => ?_) (fun c1 => absurd rfl c1)
  exact kk cs1 ms1 _ _ ls hI G hl
set_option maxHeartbeats 4000000 in
set_option maxRecDepth 100000 in
theorem law_c6 {p : Program} {l : Launch} {e : Env} {s : State} {m : MethodId} {below : List Frame} {meth : Method} {c : Code} {D : va_G} {cy : Nat → ClassId} {b L : Nat} {xs : Nat → Int32} {Inv : Nat → CS → MS → Prop} (hO : OPS Inv) (hL : L ≤ 3072) (C : Cx D cy (fun q => s.heap.size ≤ q) p s m meth c code 4 ret wsL_law RL #[Value.ref b]) (hX : va_X b L xs s s.heap) (hbl : b < s.heap.size) (mAd : Nat → Nat) (iAd gAd rAd : Nat → Nat → Nat) (aM : Nat → Nat) (GI GM GR : Nat → Option Nat) (hGI : ∀ k, k < 8 → GI k = some (iAd k 0)) (hGM : ∀ k, k < 2 → GM k = some (gAd k 0)) (hGR : ∀ k, k < 24 → GR k = some (rAd k 0)) (j : Nat) (hj : j < 512) (hjL : 6 * j + 6 ≤ L) (cs : CS) (ms : MS) (hInv : Inv j cs ms) (U : Heap) (locs : List Loc) (ls : Array Slot) (G : Gd D (fun q => s.heap.size ≤ q) s (WW cy mAd iAd gAd rAd aM GI GM GR cs ms) U locs) (hl : lv_has ls 4 [(0, .ref b), (1, .ref (mAd 0)), (2, .ref (aM 0)), (3, .int (nI (6 * j)))]) (kk : ∀ (cs1 : CS) (ms1 : MS) (U : Heap) (locs : List Loc) (ls : Array Slot), Inv (j + 1) cs1 ms1 → Gd D (fun q => s.heap.size ≤ q) s (WW cy mAd iAd gAd rAd aM GI GM GR cs1 ms1) U locs → lv_has ls 4 [(0, .ref b), (1, .ref (mAd 0)), (2, .ref (aM 0)), (3, .int (nI (6 * j)))] → W p l e room_1 s m #[Value.ref b] below meth c U locs 174 5444 (lw_Z below #[Value.ref b] s) (F0 m 1071 ls [])) : W p l e room_1 s m #[Value.ref b] below meth c U locs 174 5444 (lw_Z below #[Value.ref b] s) (F0 m 412 ls []) := by
  obtain ⟨hx, hb, hr, hml, hown, hts, hlk, hK, hA, hE⟩ := id C
  have hbA : ¬ (fun q : Nat => s.heap.size ≤ q) b := Nat.not_le.mpr hbl
  refine lv_aload_n hx hb dL_law_412 rfl (lv_at hl 1 rfl) ?_
  obtain ⟨r, cs1, ms1, h8, h9, hI⟩ := hO.2.2.2.2.2.2.2.1 j cs ms  hj hInv
  refine MI.callVx r [] [] C G (C8_fault l D cy mAd iAd gAd rAd aM GI GM GR hGI hGM hGR cs ms  r cs1 h8) gL_law_X8_fault rfl rfl rfl (n := 0) (by decide +kernel) ⟨Nat.le_of_ble_eq_true rfl, Nat.le_of_ble_eq_true rfl⟩ (va_recv hK (vaP_iff.mpr (fun q hq => vaP_iff.mp G.1 q (List.mem_append_left _ (List.mem_append_left _ (List.mem_append_left _ (List.mem_append_left _ hq)))))) (ci := 8) (q0 := 0) rfl rfl) rfl hl.1 rfl (Nat.le_of_ble_eq_true rfl) dL_law_413 ⟨Nat.le_of_ble_eq_true rfl, Nat.le_of_ble_eq_true rfl⟩ (fun U locs G => ?_)
  refine lv_aload_n hx hb dL_law_416 rfl (lv_at hl 2 rfl) ?_
  refine MI.callVx r [] [.int r] C G (C9_fault l D cy mAd iAd gAd rAd aM GI GM GR cs1 ms  r ms1 h9) gL_law_X9_fault rfl rfl rfl (n := 0) (by decide +kernel) ⟨Nat.le_of_ble_eq_true rfl, Nat.le_of_ble_eq_true rfl⟩ (va_recv hK (vaP_iff.mpr (fun q hq => vaP_iff.mp G.1 q (List.mem_append_right _ hq))) (ci := 9) (q0 := 0) rfl rfl) rfl hl.1 rfl (Nat.le_of_ble_eq_true rfl) dL_law_417 ⟨Nat.le_of_ble_eq_true rfl, Nat.le_of_ble_eq_true rfl⟩ (fun U locs G => ?_)
  refine lv_icmp_eq (tgt := 1071) hx hb dL_law_420 (by decide) (fun _ => ?_) (fun c1 => absurd rfl c1)
  exact kk cs1 ms1 _ _ ls hI G hl
set_option maxHeartbeats 4000000 in
set_option maxRecDepth 100000 in
theorem law_c7 {p : Program} {l : Launch} {e : Env} {s : State} {m : MethodId} {below : List Frame} {meth : Method} {c : Code} {D : va_G} {cy : Nat → ClassId} {b L : Nat} {xs : Nat → Int32} {Inv : Nat → CS → MS → Prop} (hO : OPS Inv) (hL : L ≤ 3072) (C : Cx D cy (fun q => s.heap.size ≤ q) p s m meth c code 4 ret wsL_law RL #[Value.ref b]) (hX : va_X b L xs s s.heap) (hbl : b < s.heap.size) (mAd : Nat → Nat) (iAd gAd rAd : Nat → Nat → Nat) (aM : Nat → Nat) (GI GM GR : Nat → Option Nat) (hGI : ∀ k, k < 8 → GI k = some (iAd k 0)) (hGM : ∀ k, k < 2 → GM k = some (gAd k 0)) (hGR : ∀ k, k < 24 → GR k = some (rAd k 0)) (j : Nat) (hj : j < 512) (hjL : 6 * j + 6 ≤ L) (cs : CS) (ms : MS) (hInv : Inv j cs ms) (U : Heap) (locs : List Loc) (ls : Array Slot) (G : Gd D (fun q => s.heap.size ≤ q) s (WW cy mAd iAd gAd rAd aM GI GM GR cs ms) U locs) (hl : lv_has ls 4 [(0, .ref b), (1, .ref (mAd 0)), (2, .ref (aM 0)), (3, .int (nI (6 * j)))]) (kk : ∀ (cs1 : CS) (ms1 : MS) (U : Heap) (locs : List Loc) (ls : Array Slot), Inv (j + 1) cs1 ms1 → Gd D (fun q => s.heap.size ≤ q) s (WW cy mAd iAd gAd rAd aM GI GM GR cs1 ms1) U locs → lv_has ls 4 [(0, .ref b), (1, .ref (mAd 0)), (2, .ref (aM 0)), (3, .int (nI (6 * j)))] → W p l e room_1 s m #[Value.ref b] below meth c U locs 174 5444 (lw_Z below #[Value.ref b] s) (F0 m 1071 ls [])) : W p l e room_1 s m #[Value.ref b] below meth c U locs 174 5444 (lw_Z below #[Value.ref b] s) (F0 m 425 ls []) := by
  obtain ⟨hx, hb, hr, hml, hown, hts, hlk, hK, hA, hE⟩ := id C
  have hbA : ¬ (fun q : Nat => s.heap.size ≤ q) b := Nat.not_le.mpr hbl
  refine lv_aload_n hx hb dL_law_425 rfl (lv_at hl 1 rfl) ?_
  refine lv_aload_n hx hb dL_law_426 rfl (lv_at hl 0 rfl) ?_
  refine lv_iload_n hx hb dL_law_427 rfl (lv_at hl 3 rfl) ?_
  refine lv_iconst (v := 1) hx hb dL_law_428 (by decide) ?_
  refine lv_iadd hx hb dL_law_429 ?_
  refine g_sld hx hb hX hbl hbA G.2.2 (6 * j + 1) (law_ix j 1 rfl) (by omega) hL dL_law_430 ?_
  obtain ⟨r, cs1, ms1, h8, h9, hI⟩ := hO.2.2.2.2.2.2.2.2.1 j cs ms (xs (6 * j + 1)) hj hInv
  refine MI.callVx r [.int (xs (6 * j + 1))] [] C G (C8_hours l D cy mAd iAd gAd rAd aM GI GM GR hGI hGM hGR cs ms (xs (6 * j + 1)) r cs1 h8) gL_law_X8_hours rfl rfl rfl (n := 1) (by decide +kernel) ⟨Nat.le_of_ble_eq_true rfl, Nat.le_of_ble_eq_true rfl⟩ (va_recv hK (vaP_iff.mpr (fun q hq => vaP_iff.mp G.1 q (List.mem_append_left _ (List.mem_append_left _ (List.mem_append_left _ (List.mem_append_left _ hq)))))) (ci := 8) (q0 := 0) rfl rfl) rfl hl.1 rfl (Nat.le_of_ble_eq_true rfl) dL_law_431 ⟨Nat.le_of_ble_eq_true rfl, Nat.le_of_ble_eq_true rfl⟩ (fun U locs G => ?_)
  refine lv_aload_n hx hb dL_law_434 rfl (lv_at hl 2 rfl) ?_
  refine lv_aload_n hx hb dL_law_435 rfl (lv_at hl 0 rfl) ?_
  refine lv_iload_n hx hb dL_law_436 rfl (lv_at hl 3 rfl) ?_
  refine lv_iconst (v := 1) hx hb dL_law_437 (by decide) ?_
  refine lv_iadd hx hb dL_law_438 ?_
  refine g_sld hx hb hX hbl hbA G.2.2 (6 * j + 1) (law_ix j 1 rfl) (by omega) hL dL_law_439 ?_
  refine MI.callVx r [.int (xs (6 * j + 1))] [.int r] C G (C9_hours l D cy mAd iAd gAd rAd aM GI GM GR cs1 ms (xs (6 * j + 1)) r ms1 h9) gL_law_X9_hours rfl rfl rfl (n := 1) (by decide +kernel) ⟨Nat.le_of_ble_eq_true rfl, Nat.le_of_ble_eq_true rfl⟩ (va_recv hK (vaP_iff.mpr (fun q hq => vaP_iff.mp G.1 q (List.mem_append_right _ hq))) (ci := 9) (q0 := 0) rfl rfl) rfl hl.1 rfl (Nat.le_of_ble_eq_true rfl) dL_law_440 ⟨Nat.le_of_ble_eq_true rfl, Nat.le_of_ble_eq_true rfl⟩ (fun U locs G => ?_)
  refine lv_icmp_eq (tgt := 1071) hx hb dL_law_443 (by decide) (fun _ => ?_) (fun c1 => absurd rfl c1)
  exact kk cs1 ms1 _ _ ls hI G hl
set_option maxHeartbeats 4000000 in
set_option maxRecDepth 100000 in
theorem law_c8 {p : Program} {l : Launch} {e : Env} {s : State} {m : MethodId} {below : List Frame} {meth : Method} {c : Code} {D : va_G} {cy : Nat → ClassId} {b L : Nat} {xs : Nat → Int32} {Inv : Nat → CS → MS → Prop} (hO : OPS Inv) (hL : L ≤ 3072) (C : Cx D cy (fun q => s.heap.size ≤ q) p s m meth c code 4 ret wsL_law RL #[Value.ref b]) (hX : va_X b L xs s s.heap) (hbl : b < s.heap.size) (mAd : Nat → Nat) (iAd gAd rAd : Nat → Nat → Nat) (aM : Nat → Nat) (GI GM GR : Nat → Option Nat) (hGI : ∀ k, k < 8 → GI k = some (iAd k 0)) (hGM : ∀ k, k < 2 → GM k = some (gAd k 0)) (hGR : ∀ k, k < 24 → GR k = some (rAd k 0)) (j : Nat) (hj : j < 512) (hjL : 6 * j + 6 ≤ L) (cs : CS) (ms : MS) (hInv : Inv j cs ms) (U : Heap) (locs : List Loc) (ls : Array Slot) (G : Gd D (fun q => s.heap.size ≤ q) s (WW cy mAd iAd gAd rAd aM GI GM GR cs ms) U locs) (hl : lv_has ls 4 [(0, .ref b), (1, .ref (mAd 0)), (2, .ref (aM 0)), (3, .int (nI (6 * j)))]) (kk : ∀ (cs1 : CS) (ms1 : MS) (U : Heap) (locs : List Loc) (ls : Array Slot), Inv (j + 1) cs1 ms1 → Gd D (fun q => s.heap.size ≤ q) s (WW cy mAd iAd gAd rAd aM GI GM GR cs1 ms1) U locs → lv_has ls 4 [(0, .ref b), (1, .ref (mAd 0)), (2, .ref (aM 0)), (3, .int (nI (6 * j)))] → W p l e room_1 s m #[Value.ref b] below meth c U locs 174 5444 (lw_Z below #[Value.ref b] s) (F0 m 1071 ls [])) : W p l e room_1 s m #[Value.ref b] below meth c U locs 174 5444 (lw_Z below #[Value.ref b] s) (F0 m 448 ls []) := by
  obtain ⟨hx, hb, hr, hml, hown, hts, hlk, hK, hA, hE⟩ := id C
  have hbA : ¬ (fun q : Nat => s.heap.size ≤ q) b := Nat.not_le.mpr hbl
  refine lv_aload_n hx hb dL_law_448 rfl (lv_at hl 1 rfl) ?_
  refine lv_aload_n hx hb dL_law_449 rfl (lv_at hl 0 rfl) ?_
  refine lv_iload_n hx hb dL_law_450 rfl (lv_at hl 3 rfl) ?_
  refine lv_iconst (v := 1) hx hb dL_law_451 (by decide) ?_
  refine lv_iadd hx hb dL_law_452 ?_
  refine g_sld hx hb hX hbl hbA G.2.2 (6 * j + 1) (law_ix j 1 rfl) (by omega) hL dL_law_453 ?_
  refine lv_aload_n hx hb dL_law_454 rfl (lv_at hl 0 rfl) ?_
  refine lv_iload_n hx hb dL_law_455 rfl (lv_at hl 3 rfl) ?_
  refine lv_iconst (v := 2) hx hb dL_law_456 (by decide) ?_
  refine lv_iadd hx hb dL_law_457 ?_
  refine g_sld hx hb hX hbl hbA G.2.2 (6 * j + 2) (law_ix j 2 rfl) (by omega) hL dL_law_458 ?_
  refine lv_aload_n hx hb dL_law_459 rfl (lv_at hl 0 rfl) ?_
  refine lv_iload_n hx hb dL_law_460 rfl (lv_at hl 3 rfl) ?_
  refine lv_iconst (v := 3) hx hb dL_law_461 (by decide) ?_
  refine lv_iadd hx hb dL_law_462 ?_
  refine g_sld hx hb hX hbl hbA G.2.2 (6 * j + 3) (law_ix j 3 rfl) (by omega) hL dL_law_463 ?_
  obtain ⟨r, cs1, ms1, h8, h9, hI⟩ := hO.2.2.2.2.2.2.2.2.2.1 j cs ms (xs (6 * j + 1)) (xs (6 * j + 2)) (xs (6 * j + 3)) hj hInv
  refine MI.callVx r [.int (xs (6 * j + 1)), .int (xs (6 * j + 2)), .int (xs (6 * j + 3))] [] C G (C8_lend l D cy mAd iAd gAd rAd aM GI GM GR hGI hGM hGR cs ms (xs (6 * j + 1)) (xs (6 * j + 2)) (xs (6 * j + 3)) r cs1 h8) gL_law_X8_lend rfl rfl rfl (n := 3) (by decide +kernel) ⟨Nat.le_of_ble_eq_true rfl, Nat.le_of_ble_eq_true rfl⟩ (va_recv hK (vaP_iff.mpr (fun q hq => vaP_iff.mp G.1 q (List.mem_append_left _ (List.mem_append_left _ (List.mem_append_left _ (List.mem_append_left _ hq)))))) (ci := 8) (q0 := 0) rfl rfl) rfl hl.1 rfl (Nat.le_of_ble_eq_true rfl) dL_law_464 ⟨Nat.le_of_ble_eq_true rfl, Nat.le_of_ble_eq_true rfl⟩ (fun U locs G => ?_)
  refine lv_aload_n hx hb dL_law_467 rfl (lv_at hl 2 rfl) ?_
  refine lv_aload_n hx hb dL_law_468 rfl (lv_at hl 0 rfl) ?_
  refine lv_iload_n hx hb dL_law_469 rfl (lv_at hl 3 rfl) ?_
  refine lv_iconst (v := 1) hx hb dL_law_470 (by decide) ?_
  refine lv_iadd hx hb dL_law_471 ?_
  refine g_sld hx hb hX hbl hbA G.2.2 (6 * j + 1) (law_ix j 1 rfl) (by omega) hL dL_law_472 ?_
  refine lv_aload_n hx hb dL_law_473 rfl (lv_at hl 0 rfl) ?_
  refine lv_iload_n hx hb dL_law_474 rfl (lv_at hl 3 rfl) ?_
  refine lv_iconst (v := 2) hx hb dL_law_475 (by decide) ?_
  refine lv_iadd hx hb dL_law_476 ?_
  refine g_sld hx hb hX hbl hbA G.2.2 (6 * j + 2) (law_ix j 2 rfl) (by omega) hL dL_law_477 ?_
  refine lv_aload_n hx hb dL_law_478 rfl (lv_at hl 0 rfl) ?_
  refine lv_iload_n hx hb dL_law_479 rfl (lv_at hl 3 rfl) ?_
  refine lv_iconst (v := 3) hx hb dL_law_480 (by decide) ?_
  refine lv_iadd hx hb dL_law_481 ?_
  refine g_sld hx hb hX hbl hbA G.2.2 (6 * j + 3) (law_ix j 3 rfl) (by omega) hL dL_law_482 ?_
  refine MI.callVx r [.int (xs (6 * j + 1)), .int (xs (6 * j + 2)), .int (xs (6 * j + 3))] [.int r] C G (C9_lend l D cy mAd iAd gAd rAd aM GI GM GR cs1 ms (xs (6 * j + 1)) (xs (6 * j + 2)) (xs (6 * j + 3)) r ms1 h9) gL_law_X9_lend rfl rfl rfl (n := 3) (by decide +kernel) ⟨Nat.le_of_ble_eq_true rfl, Nat.le_of_ble_eq_true rfl⟩ (va_recv hK (vaP_iff.mpr (fun q hq => vaP_iff.mp G.1 q (List.mem_append_right _ hq))) (ci := 9) (q0 := 0) rfl rfl) rfl hl.1 rfl (Nat.le_of_ble_eq_true rfl) dL_law_483 ⟨Nat.le_of_ble_eq_true rfl, Nat.le_of_ble_eq_true rfl⟩ (fun U locs G => ?_)
  refine lv_icmp_eq (tgt := 1071) hx hb dL_law_486 (by decide) (fun _ => ?_) (fun c1 => absurd rfl c1)
  exact kk cs1 ms1 _ _ ls hI G hl
set_option maxHeartbeats 4000000 in
set_option maxRecDepth 100000 in
theorem law_c9 {p : Program} {l : Launch} {e : Env} {s : State} {m : MethodId} {below : List Frame} {meth : Method} {c : Code} {D : va_G} {cy : Nat → ClassId} {b L : Nat} {xs : Nat → Int32} {Inv : Nat → CS → MS → Prop} (hO : OPS Inv) (hL : L ≤ 3072) (C : Cx D cy (fun q => s.heap.size ≤ q) p s m meth c code 4 ret wsL_law RL #[Value.ref b]) (hX : va_X b L xs s s.heap) (hbl : b < s.heap.size) (mAd : Nat → Nat) (iAd gAd rAd : Nat → Nat → Nat) (aM : Nat → Nat) (GI GM GR : Nat → Option Nat) (hGI : ∀ k, k < 8 → GI k = some (iAd k 0)) (hGM : ∀ k, k < 2 → GM k = some (gAd k 0)) (hGR : ∀ k, k < 24 → GR k = some (rAd k 0)) (j : Nat) (hj : j < 512) (hjL : 6 * j + 6 ≤ L) (cs : CS) (ms : MS) (hInv : Inv j cs ms) (U : Heap) (locs : List Loc) (ls : Array Slot) (G : Gd D (fun q => s.heap.size ≤ q) s (WW cy mAd iAd gAd rAd aM GI GM GR cs ms) U locs) (hl : lv_has ls 4 [(0, .ref b), (1, .ref (mAd 0)), (2, .ref (aM 0)), (3, .int (nI (6 * j)))]) (kk : ∀ (cs1 : CS) (ms1 : MS) (U : Heap) (locs : List Loc) (ls : Array Slot), Inv (j + 1) cs1 ms1 → Gd D (fun q => s.heap.size ≤ q) s (WW cy mAd iAd gAd rAd aM GI GM GR cs1 ms1) U locs → lv_has ls 4 [(0, .ref b), (1, .ref (mAd 0)), (2, .ref (aM 0)), (3, .int (nI (6 * j)))] → W p l e room_1 s m #[Value.ref b] below meth c U locs 174 5444 (lw_Z below #[Value.ref b] s) (F0 m 1071 ls [])) : W p l e room_1 s m #[Value.ref b] below meth c U locs 174 5444 (lw_Z below #[Value.ref b] s) (F0 m 491 ls []) := by
  obtain ⟨hx, hb, hr, hml, hown, hts, hlk, hK, hA, hE⟩ := id C
  have hbA : ¬ (fun q : Nat => s.heap.size ≤ q) b := Nat.not_le.mpr hbl
  refine lv_aload_n hx hb dL_law_491 rfl (lv_at hl 1 rfl) ?_
  refine lv_aload_n hx hb dL_law_492 rfl (lv_at hl 0 rfl) ?_
  refine lv_iload_n hx hb dL_law_493 rfl (lv_at hl 3 rfl) ?_
  refine lv_iconst (v := 1) hx hb dL_law_494 (by decide) ?_
  refine lv_iadd hx hb dL_law_495 ?_
  refine g_sld hx hb hX hbl hbA G.2.2 (6 * j + 1) (law_ix j 1 rfl) (by omega) hL dL_law_496 ?_
  refine lv_aload_n hx hb dL_law_497 rfl (lv_at hl 0 rfl) ?_
  refine lv_iload_n hx hb dL_law_498 rfl (lv_at hl 3 rfl) ?_
  refine lv_iconst (v := 2) hx hb dL_law_499 (by decide) ?_
  refine lv_iadd hx hb dL_law_500 ?_
  refine g_sld hx hb hX hbl hbA G.2.2 (6 * j + 2) (law_ix j 2 rfl) (by omega) hL dL_law_501 ?_
  refine lv_aload_n hx hb dL_law_502 rfl (lv_at hl 0 rfl) ?_
  refine lv_iload_n hx hb dL_law_503 rfl (lv_at hl 3 rfl) ?_
  refine lv_iconst (v := 3) hx hb dL_law_504 (by decide) ?_
  refine lv_iadd hx hb dL_law_505 ?_
  refine g_sld hx hb hX hbl hbA G.2.2 (6 * j + 3) (law_ix j 3 rfl) (by omega) hL dL_law_506 ?_
  obtain ⟨r, cs1, ms1, h8, h9, hI⟩ := hO.2.2.2.2.2.2.2.2.2.2.1 j cs ms (xs (6 * j + 1)) (xs (6 * j + 2)) (xs (6 * j + 3)) hj hInv
  refine MI.callVx r [.int (xs (6 * j + 1)), .int (xs (6 * j + 2)), .int (xs (6 * j + 3))] [] C G (C8_pay l D cy mAd iAd gAd rAd aM GI GM GR hGI hGM hGR cs ms (xs (6 * j + 1)) (xs (6 * j + 2)) (xs (6 * j + 3)) r cs1 h8) gL_law_X8_pay rfl rfl rfl (n := 3) (by decide +kernel) ⟨Nat.le_of_ble_eq_true rfl, Nat.le_of_ble_eq_true rfl⟩ (va_recv hK (vaP_iff.mpr (fun q hq => vaP_iff.mp G.1 q (List.mem_append_left _ (List.mem_append_left _ (List.mem_append_left _ (List.mem_append_left _ hq)))))) (ci := 8) (q0 := 0) rfl rfl) rfl hl.1 rfl (Nat.le_of_ble_eq_true rfl) dL_law_507 ⟨Nat.le_of_ble_eq_true rfl, Nat.le_of_ble_eq_true rfl⟩ (fun U locs G => ?_)
  refine lv_aload_n hx hb dL_law_510 rfl (lv_at hl 2 rfl) ?_
  refine lv_aload_n hx hb dL_law_511 rfl (lv_at hl 0 rfl) ?_
  refine lv_iload_n hx hb dL_law_512 rfl (lv_at hl 3 rfl) ?_
  refine lv_iconst (v := 1) hx hb dL_law_513 (by decide) ?_
  refine lv_iadd hx hb dL_law_514 ?_
  refine g_sld hx hb hX hbl hbA G.2.2 (6 * j + 1) (law_ix j 1 rfl) (by omega) hL dL_law_515 ?_
  refine lv_aload_n hx hb dL_law_516 rfl (lv_at hl 0 rfl) ?_
  refine lv_iload_n hx hb dL_law_517 rfl (lv_at hl 3 rfl) ?_
  refine lv_iconst (v := 2) hx hb dL_law_518 (by decide) ?_
  refine lv_iadd hx hb dL_law_519 ?_
  refine g_sld hx hb hX hbl hbA G.2.2 (6 * j + 2) (law_ix j 2 rfl) (by omega) hL dL_law_520 ?_
  refine lv_aload_n hx hb dL_law_521 rfl (lv_at hl 0 rfl) ?_
  refine lv_iload_n hx hb dL_law_522 rfl (lv_at hl 3 rfl) ?_
  refine lv_iconst (v := 3) hx hb dL_law_523 (by decide) ?_
  refine lv_iadd hx hb dL_law_524 ?_
  refine g_sld hx hb hX hbl hbA G.2.2 (6 * j + 3) (law_ix j 3 rfl) (by omega) hL dL_law_525 ?_
  refine MI.callVx r [.int (xs (6 * j + 1)), .int (xs (6 * j + 2)), .int (xs (6 * j + 3))] [.int r] C G (C9_pay l D cy mAd iAd gAd rAd aM GI GM GR cs1 ms (xs (6 * j + 1)) (xs (6 * j + 2)) (xs (6 * j + 3)) r ms1 h9) gL_law_X9_pay rfl rfl rfl (n := 3) (by decide +kernel) ⟨Nat.le_of_ble_eq_true rfl, Nat.le_of_ble_eq_true rfl⟩ (va_recv hK (vaP_iff.mpr (fun q hq => vaP_iff.mp G.1 q (List.mem_append_right _ hq))) (ci := 9) (q0 := 0) rfl rfl) rfl hl.1 rfl (Nat.le_of_ble_eq_true rfl) dL_law_526 ⟨Nat.le_of_ble_eq_true rfl, Nat.le_of_ble_eq_true rfl⟩ (fun U locs G => ?_)
  refine lv_icmp_eq (tgt := 1071) hx hb dL_law_529 (by decide) (fun _ => ?_) (fun c1 => absurd rfl c1)
  exact kk cs1 ms1 _ _ ls hI G hl
set_option maxHeartbeats 4000000 in
set_option maxRecDepth 100000 in
theorem law_c10 {p : Program} {l : Launch} {e : Env} {s : State} {m : MethodId} {below : List Frame} {meth : Method} {c : Code} {D : va_G} {cy : Nat → ClassId} {b L : Nat} {xs : Nat → Int32} {Inv : Nat → CS → MS → Prop} (hO : OPS Inv) (hL : L ≤ 3072) (C : Cx D cy (fun q => s.heap.size ≤ q) p s m meth c code 4 ret wsL_law RL #[Value.ref b]) (hX : va_X b L xs s s.heap) (hbl : b < s.heap.size) (mAd : Nat → Nat) (iAd gAd rAd : Nat → Nat → Nat) (aM : Nat → Nat) (GI GM GR : Nat → Option Nat) (hGI : ∀ k, k < 8 → GI k = some (iAd k 0)) (hGM : ∀ k, k < 2 → GM k = some (gAd k 0)) (hGR : ∀ k, k < 24 → GR k = some (rAd k 0)) (j : Nat) (hj : j < 512) (hjL : 6 * j + 6 ≤ L) (cs : CS) (ms : MS) (hInv : Inv j cs ms) (U : Heap) (locs : List Loc) (ls : Array Slot) (G : Gd D (fun q => s.heap.size ≤ q) s (WW cy mAd iAd gAd rAd aM GI GM GR cs ms) U locs) (hl : lv_has ls 4 [(0, .ref b), (1, .ref (mAd 0)), (2, .ref (aM 0)), (3, .int (nI (6 * j)))]) (kk : ∀ (cs1 : CS) (ms1 : MS) (U : Heap) (locs : List Loc) (ls : Array Slot), Inv (j + 1) cs1 ms1 → Gd D (fun q => s.heap.size ≤ q) s (WW cy mAd iAd gAd rAd aM GI GM GR cs1 ms1) U locs → lv_has ls 4 [(0, .ref b), (1, .ref (mAd 0)), (2, .ref (aM 0)), (3, .int (nI (6 * j)))] → W p l e room_1 s m #[Value.ref b] below meth c U locs 174 5444 (lw_Z below #[Value.ref b] s) (F0 m 1071 ls [])) : W p l e room_1 s m #[Value.ref b] below meth c U locs 174 5444 (lw_Z below #[Value.ref b] s) (F0 m 534 ls []) := by
  obtain ⟨hx, hb, hr, hml, hown, hts, hlk, hK, hA, hE⟩ := id C
  have hbA : ¬ (fun q : Nat => s.heap.size ≤ q) b := Nat.not_le.mpr hbl
  refine lv_aload_n hx hb dL_law_534 rfl (lv_at hl 1 rfl) ?_
  refine lv_aload_n hx hb dL_law_535 rfl (lv_at hl 0 rfl) ?_
  refine lv_iload_n hx hb dL_law_536 rfl (lv_at hl 3 rfl) ?_
  refine lv_iconst (v := 1) hx hb dL_law_537 (by decide) ?_
  refine lv_iadd hx hb dL_law_538 ?_
  refine g_sld hx hb hX hbl hbA G.2.2 (6 * j + 1) (law_ix j 1 rfl) (by omega) hL dL_law_539 ?_
  obtain ⟨r, cs1, ms1, h8, h9, hI⟩ := hO.2.2.2.2.2.2.2.2.2.2.2.1 j cs ms (xs (6 * j + 1)) hj hInv
  refine MI.callVx r [.int (xs (6 * j + 1))] [] C G (C8_storm l D cy mAd iAd gAd rAd aM GI GM GR hGI hGM hGR cs ms (xs (6 * j + 1)) r cs1 h8) gL_law_X8_storm rfl rfl rfl (n := 1) (by decide +kernel) ⟨Nat.le_of_ble_eq_true rfl, Nat.le_of_ble_eq_true rfl⟩ (va_recv hK (vaP_iff.mpr (fun q hq => vaP_iff.mp G.1 q (List.mem_append_left _ (List.mem_append_left _ (List.mem_append_left _ (List.mem_append_left _ hq)))))) (ci := 8) (q0 := 0) rfl rfl) rfl hl.1 rfl (Nat.le_of_ble_eq_true rfl) dL_law_540 ⟨Nat.le_of_ble_eq_true rfl, Nat.le_of_ble_eq_true rfl⟩ (fun U locs G => ?_)
  refine lv_aload_n hx hb dL_law_543 rfl (lv_at hl 2 rfl) ?_
  refine lv_aload_n hx hb dL_law_544 rfl (lv_at hl 0 rfl) ?_
  refine lv_iload_n hx hb dL_law_545 rfl (lv_at hl 3 rfl) ?_
  refine lv_iconst (v := 1) hx hb dL_law_546 (by decide) ?_
  refine lv_iadd hx hb dL_law_547 ?_
  refine g_sld hx hb hX hbl hbA G.2.2 (6 * j + 1) (law_ix j 1 rfl) (by omega) hL dL_law_548 ?_
  refine MI.callVx r [.int (xs (6 * j + 1))] [.int r] C G (C9_storm l D cy mAd iAd gAd rAd aM GI GM GR cs1 ms (xs (6 * j + 1)) r ms1 h9) gL_law_X9_storm rfl rfl rfl (n := 1) (by decide +kernel) ⟨Nat.le_of_ble_eq_true rfl, Nat.le_of_ble_eq_true rfl⟩ (va_recv hK (vaP_iff.mpr (fun q hq => vaP_iff.mp G.1 q (List.mem_append_right _ hq))) (ci := 9) (q0 := 0) rfl rfl) rfl hl.1 rfl (Nat.le_of_ble_eq_true rfl) dL_law_549 ⟨Nat.le_of_ble_eq_true rfl, Nat.le_of_ble_eq_true rfl⟩ (fun U locs G => ?_)
  refine lv_icmp_eq (tgt := 1071) hx hb dL_law_552 (by decide) (fun _ => ?_) (fun c1 => absurd rfl c1)
  exact kk cs1 ms1 _ _ ls hI G hl
set_option maxHeartbeats 4000000 in
set_option maxRecDepth 100000 in
theorem law_c11 {p : Program} {l : Launch} {e : Env} {s : State} {m : MethodId} {below : List Frame} {meth : Method} {c : Code} {D : va_G} {cy : Nat → ClassId} {b L : Nat} {xs : Nat → Int32} {Inv : Nat → CS → MS → Prop} (hO : OPS Inv) (hL : L ≤ 3072) (C : Cx D cy (fun q => s.heap.size ≤ q) p s m meth c code 4 ret wsL_law RL #[Value.ref b]) (hX : va_X b L xs s s.heap) (hbl : b < s.heap.size) (mAd : Nat → Nat) (iAd gAd rAd : Nat → Nat → Nat) (aM : Nat → Nat) (GI GM GR : Nat → Option Nat) (hGI : ∀ k, k < 8 → GI k = some (iAd k 0)) (hGM : ∀ k, k < 2 → GM k = some (gAd k 0)) (hGR : ∀ k, k < 24 → GR k = some (rAd k 0)) (j : Nat) (hj : j < 512) (hjL : 6 * j + 6 ≤ L) (cs : CS) (ms : MS) (hInv : Inv j cs ms) (U : Heap) (locs : List Loc) (ls : Array Slot) (G : Gd D (fun q => s.heap.size ≤ q) s (WW cy mAd iAd gAd rAd aM GI GM GR cs ms) U locs) (hl : lv_has ls 4 [(0, .ref b), (1, .ref (mAd 0)), (2, .ref (aM 0)), (3, .int (nI (6 * j)))]) (kk : ∀ (cs1 : CS) (ms1 : MS) (U : Heap) (locs : List Loc) (ls : Array Slot), Inv (j + 1) cs1 ms1 → Gd D (fun q => s.heap.size ≤ q) s (WW cy mAd iAd gAd rAd aM GI GM GR cs1 ms1) U locs → lv_has ls 4 [(0, .ref b), (1, .ref (mAd 0)), (2, .ref (aM 0)), (3, .int (nI (6 * j)))] → W p l e room_1 s m #[Value.ref b] below meth c U locs 174 5444 (lw_Z below #[Value.ref b] s) (F0 m 1071 ls [])) : W p l e room_1 s m #[Value.ref b] below meth c U locs 174 5444 (lw_Z below #[Value.ref b] s) (F0 m 557 ls []) := by
  obtain ⟨hx, hb, hr, hml, hown, hts, hlk, hK, hA, hE⟩ := id C
  have hbA : ¬ (fun q : Nat => s.heap.size ≤ q) b := Nat.not_le.mpr hbl
  refine lv_aload_n hx hb dL_law_557 rfl (lv_at hl 1 rfl) ?_
  obtain ⟨r, cs1, ms1, h8, h9, hI⟩ := hO.2.2.2.2.2.2.2.2.2.2.2.2.1 j cs ms  hj hInv
  refine MI.callVx r [] [] C G (C8_settle l D cy mAd iAd gAd rAd aM GI GM GR hGI hGM hGR cs ms  r cs1 h8) gL_law_X8_settle rfl rfl rfl (n := 0) (by decide +kernel) ⟨Nat.le_of_ble_eq_true rfl, Nat.le_of_ble_eq_true rfl⟩ (va_recv hK (vaP_iff.mpr (fun q hq => vaP_iff.mp G.1 q (List.mem_append_left _ (List.mem_append_left _ (List.mem_append_left _ (List.mem_append_left _ hq)))))) (ci := 8) (q0 := 0) rfl rfl) rfl hl.1 rfl (Nat.le_of_ble_eq_true rfl) dL_law_558 ⟨Nat.le_of_ble_eq_true rfl, Nat.le_of_ble_eq_true rfl⟩ (fun U locs G => ?_)
  refine lv_aload_n hx hb dL_law_561 rfl (lv_at hl 2 rfl) ?_
  refine MI.callVx r [] [.int r] C G (C9_settle l D cy mAd iAd gAd rAd aM GI GM GR cs1 ms  r ms1 h9) gL_law_X9_settle rfl rfl rfl (n := 0) (by decide +kernel) ⟨Nat.le_of_ble_eq_true rfl, Nat.le_of_ble_eq_true rfl⟩ (va_recv hK (vaP_iff.mpr (fun q hq => vaP_iff.mp G.1 q (List.mem_append_right _ hq))) (ci := 9) (q0 := 0) rfl rfl) rfl hl.1 rfl (Nat.le_of_ble_eq_true rfl) dL_law_562 ⟨Nat.le_of_ble_eq_true rfl, Nat.le_of_ble_eq_true rfl⟩ (fun U locs G => ?_)
  refine lv_icmp_eq (tgt := 1071) hx hb dL_law_565 (by decide) (fun _ => ?_) (fun c1 => absurd rfl c1)
  exact kk cs1 ms1 _ _ ls hI G hl
set_option maxHeartbeats 4000000 in
set_option maxRecDepth 100000 in
theorem law_c12 {p : Program} {l : Launch} {e : Env} {s : State} {m : MethodId} {below : List Frame} {meth : Method} {c : Code} {D : va_G} {cy : Nat → ClassId} {b L : Nat} {xs : Nat → Int32} {Inv : Nat → CS → MS → Prop} (hO : OPS Inv) (hL : L ≤ 3072) (C : Cx D cy (fun q => s.heap.size ≤ q) p s m meth c code 4 ret wsL_law RL #[Value.ref b]) (hX : va_X b L xs s s.heap) (hbl : b < s.heap.size) (mAd : Nat → Nat) (iAd gAd rAd : Nat → Nat → Nat) (aM : Nat → Nat) (GI GM GR : Nat → Option Nat) (hGI : ∀ k, k < 8 → GI k = some (iAd k 0)) (hGM : ∀ k, k < 2 → GM k = some (gAd k 0)) (hGR : ∀ k, k < 24 → GR k = some (rAd k 0)) (j : Nat) (hj : j < 512) (hjL : 6 * j + 6 ≤ L) (cs : CS) (ms : MS) (hInv : Inv j cs ms) (U : Heap) (locs : List Loc) (ls : Array Slot) (G : Gd D (fun q => s.heap.size ≤ q) s (WW cy mAd iAd gAd rAd aM GI GM GR cs ms) U locs) (hl : lv_has ls 4 [(0, .ref b), (1, .ref (mAd 0)), (2, .ref (aM 0)), (3, .int (nI (6 * j)))]) (kk : ∀ (cs1 : CS) (ms1 : MS) (U : Heap) (locs : List Loc) (ls : Array Slot), Inv (j + 1) cs1 ms1 → Gd D (fun q => s.heap.size ≤ q) s (WW cy mAd iAd gAd rAd aM GI GM GR cs1 ms1) U locs → lv_has ls 4 [(0, .ref b), (1, .ref (mAd 0)), (2, .ref (aM 0)), (3, .int (nI (6 * j)))] → W p l e room_1 s m #[Value.ref b] below meth c U locs 174 5444 (lw_Z below #[Value.ref b] s) (F0 m 1071 ls [])) : W p l e room_1 s m #[Value.ref b] below meth c U locs 174 5444 (lw_Z below #[Value.ref b] s) (F0 m 570 ls []) := by
  obtain ⟨hx, hb, hr, hml, hown, hts, hlk, hK, hA, hE⟩ := id C
  have hbA : ¬ (fun q : Nat => s.heap.size ≤ q) b := Nat.not_le.mpr hbl
  refine lv_aload_n hx hb dL_law_570 rfl (lv_at hl 1 rfl) ?_
  obtain ⟨r, cs1, ms1, h8, h9, hI⟩ := hO.2.2.2.2.2.2.2.2.2.2.2.2.2.1 j cs ms  hj hInv
  refine MI.callVx r [] [] C G (C8_undo l D cy mAd iAd gAd rAd aM GI GM GR hGI hGM hGR cs ms  r cs1 h8) gL_law_X8_undo rfl rfl rfl (n := 0) (by decide +kernel) ⟨Nat.le_of_ble_eq_true rfl, Nat.le_of_ble_eq_true rfl⟩ (va_recv hK (vaP_iff.mpr (fun q hq => vaP_iff.mp G.1 q (List.mem_append_left _ (List.mem_append_left _ (List.mem_append_left _ (List.mem_append_left _ hq)))))) (ci := 8) (q0 := 0) rfl rfl) rfl hl.1 rfl (Nat.le_of_ble_eq_true rfl) dL_law_571 ⟨Nat.le_of_ble_eq_true rfl, Nat.le_of_ble_eq_true rfl⟩ (fun U locs G => ?_)
  refine lv_aload_n hx hb dL_law_574 rfl (lv_at hl 2 rfl) ?_
  refine MI.callVx r [] [.int r] C G (C9_undo l D cy mAd iAd gAd rAd aM GI GM GR cs1 ms  r ms1 h9) gL_law_X9_undo rfl rfl rfl (n := 0) (by decide +kernel) ⟨Nat.le_of_ble_eq_true rfl, Nat.le_of_ble_eq_true rfl⟩ (va_recv hK (vaP_iff.mpr (fun q hq => vaP_iff.mp G.1 q (List.mem_append_right _ hq))) (ci := 9) (q0 := 0) rfl rfl) rfl hl.1 rfl (Nat.le_of_ble_eq_true rfl) dL_law_575 ⟨Nat.le_of_ble_eq_true rfl, Nat.le_of_ble_eq_true rfl⟩ (fun U locs G => ?_)
  refine lv_icmp_eq (tgt := 1071) hx hb dL_law_578 (by decide) (fun _ => ?_) (fun c1 => absurd rfl c1)
  exact kk cs1 ms1 _ _ ls hI G hl
set_option maxHeartbeats 4000000 in
set_option maxRecDepth 100000 in
theorem law_c13 {p : Program} {l : Launch} {e : Env} {s : State} {m : MethodId} {below : List Frame} {meth : Method} {c : Code} {D : va_G} {cy : Nat → ClassId} {b L : Nat} {xs : Nat → Int32} {Inv : Nat → CS → MS → Prop} (hO : OPS Inv) (hL : L ≤ 3072) (C : Cx D cy (fun q => s.heap.size ≤ q) p s m meth c code 4 ret wsL_law RL #[Value.ref b]) (hX : va_X b L xs s s.heap) (hbl : b < s.heap.size) (mAd : Nat → Nat) (iAd gAd rAd : Nat → Nat → Nat) (aM : Nat → Nat) (GI GM GR : Nat → Option Nat) (hGI : ∀ k, k < 8 → GI k = some (iAd k 0)) (hGM : ∀ k, k < 2 → GM k = some (gAd k 0)) (hGR : ∀ k, k < 24 → GR k = some (rAd k 0)) (j : Nat) (hj : j < 512) (hjL : 6 * j + 6 ≤ L) (cs : CS) (ms : MS) (hInv : Inv j cs ms) (U : Heap) (locs : List Loc) (ls : Array Slot) (G : Gd D (fun q => s.heap.size ≤ q) s (WW cy mAd iAd gAd rAd aM GI GM GR cs ms) U locs) (hl : lv_has ls 4 [(0, .ref b), (1, .ref (mAd 0)), (2, .ref (aM 0)), (3, .int (nI (6 * j)))]) (kk : ∀ (cs1 : CS) (ms1 : MS) (U : Heap) (locs : List Loc) (ls : Array Slot), Inv (j + 1) cs1 ms1 → Gd D (fun q => s.heap.size ≤ q) s (WW cy mAd iAd gAd rAd aM GI GM GR cs1 ms1) U locs → lv_has ls 4 [(0, .ref b), (1, .ref (mAd 0)), (2, .ref (aM 0)), (3, .int (nI (6 * j)))] → W p l e room_1 s m #[Value.ref b] below meth c U locs 174 5444 (lw_Z below #[Value.ref b] s) (F0 m 1071 ls [])) : W p l e room_1 s m #[Value.ref b] below meth c U locs 174 5444 (lw_Z below #[Value.ref b] s) (F0 m 583 ls []) := by
  obtain ⟨hx, hb, hr, hml, hown, hts, hlk, hK, hA, hE⟩ := id C
  have hbA : ¬ (fun q : Nat => s.heap.size ≤ q) b := Nat.not_le.mpr hbl
  refine lv_aload_n hx hb dL_law_583 rfl (lv_at hl 1 rfl) ?_
  refine lv_aload_n hx hb dL_law_584 rfl (lv_at hl 0 rfl) ?_
  refine lv_iload_n hx hb dL_law_585 rfl (lv_at hl 3 rfl) ?_
  refine lv_iconst (v := 1) hx hb dL_law_586 (by decide) ?_
  refine lv_iadd hx hb dL_law_587 ?_
  refine g_sld hx hb hX hbl hbA G.2.2 (6 * j + 1) (law_ix j 1 rfl) (by omega) hL dL_law_588 ?_
  refine lv_aload_n hx hb dL_law_589 rfl (lv_at hl 0 rfl) ?_
  refine lv_iload_n hx hb dL_law_590 rfl (lv_at hl 3 rfl) ?_
  refine lv_iconst (v := 2) hx hb dL_law_591 (by decide) ?_
  refine lv_iadd hx hb dL_law_592 ?_
  refine g_sld hx hb hX hbl hbA G.2.2 (6 * j + 2) (law_ix j 2 rfl) (by omega) hL dL_law_593 ?_
  obtain ⟨r, cs1, ms1, h8, h9, hI⟩ := hO.2.2.2.2.2.2.2.2.2.2.2.2.2.2.1 j cs ms (xs (6 * j + 1)) (xs (6 * j + 2)) hj hInv
  refine MI.callVx r [.int (xs (6 * j + 1)), .int (xs (6 * j + 2))] [] C G (C8_water l D cy mAd iAd gAd rAd aM GI GM GR hGI hGM hGR cs ms (xs (6 * j + 1)) (xs (6 * j + 2)) r cs1 h8) gL_law_X8_water rfl rfl rfl (n := 2) (by decide +kernel) ⟨Nat.le_of_ble_eq_true rfl, Nat.le_of_ble_eq_true rfl⟩ (va_recv hK (vaP_iff.mpr (fun q hq => vaP_iff.mp G.1 q (List.mem_append_left _ (List.mem_append_left _ (List.mem_append_left _ (List.mem_append_left _ hq)))))) (ci := 8) (q0 := 0) rfl rfl) rfl hl.1 rfl (Nat.le_of_ble_eq_true rfl) dL_law_594 ⟨Nat.le_of_ble_eq_true rfl, Nat.le_of_ble_eq_true rfl⟩ (fun U locs G => ?_)
  refine lv_aload_n hx hb dL_law_597 rfl (lv_at hl 2 rfl) ?_
  refine lv_aload_n hx hb dL_law_598 rfl (lv_at hl 0 rfl) ?_
  refine lv_iload_n hx hb dL_law_599 rfl (lv_at hl 3 rfl) ?_
  refine lv_iconst (v := 1) hx hb dL_law_600 (by decide) ?_
  refine lv_iadd hx hb dL_law_601 ?_
  refine g_sld hx hb hX hbl hbA G.2.2 (6 * j + 1) (law_ix j 1 rfl) (by omega) hL dL_law_602 ?_
  refine lv_aload_n hx hb dL_law_603 rfl (lv_at hl 0 rfl) ?_
  refine lv_iload_n hx hb dL_law_604 rfl (lv_at hl 3 rfl) ?_
  refine lv_iconst (v := 2) hx hb dL_law_605 (by decide) ?_
  refine lv_iadd hx hb dL_law_606 ?_
  refine g_sld hx hb hX hbl hbA G.2.2 (6 * j + 2) (law_ix j 2 rfl) (by omega) hL dL_law_607 ?_
  refine MI.callVx r [.int (xs (6 * j + 1)), .int (xs (6 * j + 2))] [.int r] C G (C9_water l D cy mAd iAd gAd rAd aM GI GM GR cs1 ms (xs (6 * j + 1)) (xs (6 * j + 2)) r ms1 h9) gL_law_X9_water rfl rfl rfl (n := 2) (by decide +kernel) ⟨Nat.le_of_ble_eq_true rfl, Nat.le_of_ble_eq_true rfl⟩ (va_recv hK (vaP_iff.mpr (fun q hq => vaP_iff.mp G.1 q (List.mem_append_right _ hq))) (ci := 9) (q0 := 0) rfl rfl) rfl hl.1 rfl (Nat.le_of_ble_eq_true rfl) dL_law_608 ⟨Nat.le_of_ble_eq_true rfl, Nat.le_of_ble_eq_true rfl⟩ (fun U locs G => ?_)
  refine lv_icmp_eq (tgt := 1071) hx hb dL_law_611 (by decide) (fun _ => ?_) (fun c1 => absurd rfl c1)
  exact kk cs1 ms1 _ _ ls hI G hl
set_option maxHeartbeats 4000000 in
set_option maxRecDepth 100000 in
theorem law_c14 {p : Program} {l : Launch} {e : Env} {s : State} {m : MethodId} {below : List Frame} {meth : Method} {c : Code} {D : va_G} {cy : Nat → ClassId} {b L : Nat} {xs : Nat → Int32} {Inv : Nat → CS → MS → Prop} (hO : OPS Inv) (hL : L ≤ 3072) (C : Cx D cy (fun q => s.heap.size ≤ q) p s m meth c code 4 ret wsL_law RL #[Value.ref b]) (hX : va_X b L xs s s.heap) (hbl : b < s.heap.size) (mAd : Nat → Nat) (iAd gAd rAd : Nat → Nat → Nat) (aM : Nat → Nat) (GI GM GR : Nat → Option Nat) (hGI : ∀ k, k < 8 → GI k = some (iAd k 0)) (hGM : ∀ k, k < 2 → GM k = some (gAd k 0)) (hGR : ∀ k, k < 24 → GR k = some (rAd k 0)) (j : Nat) (hj : j < 512) (hjL : 6 * j + 6 ≤ L) (cs : CS) (ms : MS) (hInv : Inv j cs ms) (U : Heap) (locs : List Loc) (ls : Array Slot) (G : Gd D (fun q => s.heap.size ≤ q) s (WW cy mAd iAd gAd rAd aM GI GM GR cs ms) U locs) (hl : lv_has ls 4 [(0, .ref b), (1, .ref (mAd 0)), (2, .ref (aM 0)), (3, .int (nI (6 * j)))]) (kk : ∀ (cs1 : CS) (ms1 : MS) (U : Heap) (locs : List Loc) (ls : Array Slot), Inv (j + 1) cs1 ms1 → Gd D (fun q => s.heap.size ≤ q) s (WW cy mAd iAd gAd rAd aM GI GM GR cs1 ms1) U locs → lv_has ls 4 [(0, .ref b), (1, .ref (mAd 0)), (2, .ref (aM 0)), (3, .int (nI (6 * j)))] → W p l e room_1 s m #[Value.ref b] below meth c U locs 174 5444 (lw_Z below #[Value.ref b] s) (F0 m 1071 ls [])) : W p l e room_1 s m #[Value.ref b] below meth c U locs 174 5444 (lw_Z below #[Value.ref b] s) (F0 m 616 ls []) := by
  obtain ⟨hx, hb, hr, hml, hown, hts, hlk, hK, hA, hE⟩ := id C
  have hbA : ¬ (fun q : Nat => s.heap.size ≤ q) b := Nat.not_le.mpr hbl
  refine lv_aload_n hx hb dL_law_616 rfl (lv_at hl 1 rfl) ?_
  refine lv_aload_n hx hb dL_law_617 rfl (lv_at hl 0 rfl) ?_
  refine lv_iload_n hx hb dL_law_618 rfl (lv_at hl 3 rfl) ?_
  refine lv_iconst (v := 1) hx hb dL_law_619 (by decide) ?_
  refine lv_iadd hx hb dL_law_620 ?_
  refine g_sld hx hb hX hbl hbA G.2.2 (6 * j + 1) (law_ix j 1 rfl) (by omega) hL dL_law_621 ?_
  refine lv_aload_n hx hb dL_law_622 rfl (lv_at hl 0 rfl) ?_
  refine lv_iload_n hx hb dL_law_623 rfl (lv_at hl 3 rfl) ?_
  refine lv_iconst (v := 2) hx hb dL_law_624 (by decide) ?_
  refine lv_iadd hx hb dL_law_625 ?_
  refine g_sld hx hb hX hbl hbA G.2.2 (6 * j + 2) (law_ix j 2 rfl) (by omega) hL dL_law_626 ?_
  obtain ⟨r, cs1, ms1, h8, h9, hI⟩ := hO.2.2.2.2.2.2.2.2.2.2.2.2.2.2.2.1 j cs ms (xs (6 * j + 1)) (xs (6 * j + 2)) hj hInv
  refine MI.callVx r [.int (xs (6 * j + 1)), .int (xs (6 * j + 2))] [] C G (C8_owes l D cy mAd iAd gAd rAd aM GI GM GR hGI hGM hGR cs ms (xs (6 * j + 1)) (xs (6 * j + 2)) r cs1 h8) gL_law_X8_owes rfl rfl rfl (n := 2) (by decide +kernel) ⟨Nat.le_of_ble_eq_true rfl, Nat.le_of_ble_eq_true rfl⟩ (va_recv hK (vaP_iff.mpr (fun q hq => vaP_iff.mp G.1 q (List.mem_append_left _ (List.mem_append_left _ (List.mem_append_left _ (List.mem_append_left _ hq)))))) (ci := 8) (q0 := 0) rfl rfl) rfl hl.1 rfl (Nat.le_of_ble_eq_true rfl) dL_law_627 ⟨Nat.le_of_ble_eq_true rfl, Nat.le_of_ble_eq_true rfl⟩ (fun U locs G => ?_)
  refine lv_aload_n hx hb dL_law_630 rfl (lv_at hl 2 rfl) ?_
  refine lv_aload_n hx hb dL_law_631 rfl (lv_at hl 0 rfl) ?_
  refine lv_iload_n hx hb dL_law_632 rfl (lv_at hl 3 rfl) ?_
  refine lv_iconst (v := 1) hx hb dL_law_633 (by decide) ?_
  refine lv_iadd hx hb dL_law_634 ?_
  refine g_sld hx hb hX hbl hbA G.2.2 (6 * j + 1) (law_ix j 1 rfl) (by omega) hL dL_law_635 ?_
  refine lv_aload_n hx hb dL_law_636 rfl (lv_at hl 0 rfl) ?_
  refine lv_iload_n hx hb dL_law_637 rfl (lv_at hl 3 rfl) ?_
  refine lv_iconst (v := 2) hx hb dL_law_638 (by decide) ?_
  refine lv_iadd hx hb dL_law_639 ?_
  refine g_sld hx hb hX hbl hbA G.2.2 (6 * j + 2) (law_ix j 2 rfl) (by omega) hL dL_law_640 ?_
  refine MI.callVx r [.int (xs (6 * j + 1)), .int (xs (6 * j + 2))] [.int r] C G (C9_owes l D cy mAd iAd gAd rAd aM GI GM GR cs1 ms (xs (6 * j + 1)) (xs (6 * j + 2)) r ms1 h9) gL_law_X9_owes rfl rfl rfl (n := 2) (by decide +kernel) ⟨Nat.le_of_ble_eq_true rfl, Nat.le_of_ble_eq_true rfl⟩ (va_recv hK (vaP_iff.mpr (fun q hq => vaP_iff.mp G.1 q (List.mem_append_right _ hq))) (ci := 9) (q0 := 0) rfl rfl) rfl hl.1 rfl (Nat.le_of_ble_eq_true rfl) dL_law_641 ⟨Nat.le_of_ble_eq_true rfl, Nat.le_of_ble_eq_true rfl⟩ (fun U locs G => ?_)
  refine lv_icmp_eq (tgt := 1071) hx hb dL_law_644 (by decide) (fun _ => ?_) (fun c1 => absurd rfl c1)
  exact kk cs1 ms1 _ _ ls hI G hl
set_option maxHeartbeats 4000000 in
set_option maxRecDepth 100000 in
theorem law_c15 {p : Program} {l : Launch} {e : Env} {s : State} {m : MethodId} {below : List Frame} {meth : Method} {c : Code} {D : va_G} {cy : Nat → ClassId} {b L : Nat} {xs : Nat → Int32} {Inv : Nat → CS → MS → Prop} (hO : OPS Inv) (hL : L ≤ 3072) (C : Cx D cy (fun q => s.heap.size ≤ q) p s m meth c code 4 ret wsL_law RL #[Value.ref b]) (hX : va_X b L xs s s.heap) (hbl : b < s.heap.size) (mAd : Nat → Nat) (iAd gAd rAd : Nat → Nat → Nat) (aM : Nat → Nat) (GI GM GR : Nat → Option Nat) (hGI : ∀ k, k < 8 → GI k = some (iAd k 0)) (hGM : ∀ k, k < 2 → GM k = some (gAd k 0)) (hGR : ∀ k, k < 24 → GR k = some (rAd k 0)) (j : Nat) (hj : j < 512) (hjL : 6 * j + 6 ≤ L) (cs : CS) (ms : MS) (hInv : Inv j cs ms) (U : Heap) (locs : List Loc) (ls : Array Slot) (G : Gd D (fun q => s.heap.size ≤ q) s (WW cy mAd iAd gAd rAd aM GI GM GR cs ms) U locs) (hl : lv_has ls 4 [(0, .ref b), (1, .ref (mAd 0)), (2, .ref (aM 0)), (3, .int (nI (6 * j)))]) (kk : ∀ (cs1 : CS) (ms1 : MS) (U : Heap) (locs : List Loc) (ls : Array Slot), Inv (j + 1) cs1 ms1 → Gd D (fun q => s.heap.size ≤ q) s (WW cy mAd iAd gAd rAd aM GI GM GR cs1 ms1) U locs → lv_has ls 4 [(0, .ref b), (1, .ref (mAd 0)), (2, .ref (aM 0)), (3, .int (nI (6 * j)))] → W p l e room_1 s m #[Value.ref b] below meth c U locs 174 5444 (lw_Z below #[Value.ref b] s) (F0 m 1071 ls [])) : W p l e room_1 s m #[Value.ref b] below meth c U locs 174 5444 (lw_Z below #[Value.ref b] s) (F0 m 649 ls []) := by
  obtain ⟨hx, hb, hr, hml, hown, hts, hlk, hK, hA, hE⟩ := id C
  have hbA : ¬ (fun q : Nat => s.heap.size ≤ q) b := Nat.not_le.mpr hbl
  refine lv_aload_n hx hb dL_law_649 rfl (lv_at hl 1 rfl) ?_
  refine lv_aload_n hx hb dL_law_650 rfl (lv_at hl 0 rfl) ?_
  refine lv_iload_n hx hb dL_law_651 rfl (lv_at hl 3 rfl) ?_
  refine lv_iconst (v := 1) hx hb dL_law_652 (by decide) ?_
  refine lv_iadd hx hb dL_law_653 ?_
  refine g_sld hx hb hX hbl hbA G.2.2 (6 * j + 1) (law_ix j 1 rfl) (by omega) hL dL_law_654 ?_
  refine lv_aload_n hx hb dL_law_655 rfl (lv_at hl 0 rfl) ?_
  refine lv_iload_n hx hb dL_law_656 rfl (lv_at hl 3 rfl) ?_
  refine lv_iconst (v := 2) hx hb dL_law_657 (by decide) ?_
  refine lv_iadd hx hb dL_law_658 ?_
  refine g_sld hx hb hX hbl hbA G.2.2 (6 * j + 2) (law_ix j 2 rfl) (by omega) hL dL_law_659 ?_
  refine lv_aload_n hx hb dL_law_660 rfl (lv_at hl 0 rfl) ?_
  refine lv_iload_n hx hb dL_law_661 rfl (lv_at hl 3 rfl) ?_
  refine lv_iconst (v := 3) hx hb dL_law_662 (by decide) ?_
  refine lv_iadd hx hb dL_law_663 ?_
  refine g_sld hx hb hX hbl hbA G.2.2 (6 * j + 3) (law_ix j 3 rfl) (by omega) hL dL_law_664 ?_
  obtain ⟨r, cs1, ms1, h8, h9, hI⟩ := hO.2.2.2.2.2.2.2.2.2.2.2.2.2.2.2.2.1 j cs ms (xs (6 * j + 1)) (xs (6 * j + 2)) (xs (6 * j + 3)) hj hInv
  refine MI.callVx r [.int (xs (6 * j + 1)), .int (xs (6 * j + 2)), .int (xs (6 * j + 3))] [] C G (C8_ahead l D cy mAd iAd gAd rAd aM GI GM GR hGI hGM hGR cs ms (xs (6 * j + 1)) (xs (6 * j + 2)) (xs (6 * j + 3)) r cs1 h8) gL_law_X8_ahead rfl rfl rfl (n := 3) (by decide +kernel) ⟨Nat.le_of_ble_eq_true rfl, Nat.le_of_ble_eq_true rfl⟩ (va_recv hK (vaP_iff.mpr (fun q hq => vaP_iff.mp G.1 q (List.mem_append_left _ (List.mem_append_left _ (List.mem_append_left _ (List.mem_append_left _ hq)))))) (ci := 8) (q0 := 0) rfl rfl) rfl hl.1 rfl (Nat.le_of_ble_eq_true rfl) dL_law_665 ⟨Nat.le_of_ble_eq_true rfl, Nat.le_of_ble_eq_true rfl⟩ (fun U locs G => ?_)
  refine lv_aload_n hx hb dL_law_668 rfl (lv_at hl 2 rfl) ?_
  refine lv_aload_n hx hb dL_law_669 rfl (lv_at hl 0 rfl) ?_
  refine lv_iload_n hx hb dL_law_670 rfl (lv_at hl 3 rfl) ?_
  refine lv_iconst (v := 1) hx hb dL_law_671 (by decide) ?_
  refine lv_iadd hx hb dL_law_672 ?_
  refine g_sld hx hb hX hbl hbA G.2.2 (6 * j + 1) (law_ix j 1 rfl) (by omega) hL dL_law_673 ?_
  refine lv_aload_n hx hb dL_law_674 rfl (lv_at hl 0 rfl) ?_
  refine lv_iload_n hx hb dL_law_675 rfl (lv_at hl 3 rfl) ?_
  refine lv_iconst (v := 2) hx hb dL_law_676 (by decide) ?_
  refine lv_iadd hx hb dL_law_677 ?_
  refine g_sld hx hb hX hbl hbA G.2.2 (6 * j + 2) (law_ix j 2 rfl) (by omega) hL dL_law_678 ?_
  refine lv_aload_n hx hb dL_law_679 rfl (lv_at hl 0 rfl) ?_
  refine lv_iload_n hx hb dL_law_680 rfl (lv_at hl 3 rfl) ?_
  refine lv_iconst (v := 3) hx hb dL_law_681 (by decide) ?_
  refine lv_iadd hx hb dL_law_682 ?_
  refine g_sld hx hb hX hbl hbA G.2.2 (6 * j + 3) (law_ix j 3 rfl) (by omega) hL dL_law_683 ?_
  refine MI.callVx r [.int (xs (6 * j + 1)), .int (xs (6 * j + 2)), .int (xs (6 * j + 3))] [.int r] C G (C9_ahead l D cy mAd iAd gAd rAd aM GI GM GR cs1 ms (xs (6 * j + 1)) (xs (6 * j + 2)) (xs (6 * j + 3)) r ms1 h9) gL_law_X9_ahead rfl rfl rfl (n := 3) (by decide +kernel) ⟨Nat.le_of_ble_eq_true rfl, Nat.le_of_ble_eq_true rfl⟩ (va_recv hK (vaP_iff.mpr (fun q hq => vaP_iff.mp G.1 q (List.mem_append_right _ hq))) (ci := 9) (q0 := 0) rfl rfl) rfl hl.1 rfl (Nat.le_of_ble_eq_true rfl) dL_law_684 ⟨Nat.le_of_ble_eq_true rfl, Nat.le_of_ble_eq_true rfl⟩ (fun U locs G => ?_)
  refine lv_icmp_eq (tgt := 1071) hx hb dL_law_687 (by decide) (fun _ => ?_) (fun c1 => absurd rfl c1)
  exact kk cs1 ms1 _ _ ls hI G hl
set_option maxHeartbeats 4000000 in
set_option maxRecDepth 100000 in
theorem law_c16 {p : Program} {l : Launch} {e : Env} {s : State} {m : MethodId} {below : List Frame} {meth : Method} {c : Code} {D : va_G} {cy : Nat → ClassId} {b L : Nat} {xs : Nat → Int32} {Inv : Nat → CS → MS → Prop} (hO : OPS Inv) (hL : L ≤ 3072) (C : Cx D cy (fun q => s.heap.size ≤ q) p s m meth c code 4 ret wsL_law RL #[Value.ref b]) (hX : va_X b L xs s s.heap) (hbl : b < s.heap.size) (mAd : Nat → Nat) (iAd gAd rAd : Nat → Nat → Nat) (aM : Nat → Nat) (GI GM GR : Nat → Option Nat) (hGI : ∀ k, k < 8 → GI k = some (iAd k 0)) (hGM : ∀ k, k < 2 → GM k = some (gAd k 0)) (hGR : ∀ k, k < 24 → GR k = some (rAd k 0)) (j : Nat) (hj : j < 512) (hjL : 6 * j + 6 ≤ L) (cs : CS) (ms : MS) (hInv : Inv j cs ms) (U : Heap) (locs : List Loc) (ls : Array Slot) (G : Gd D (fun q => s.heap.size ≤ q) s (WW cy mAd iAd gAd rAd aM GI GM GR cs ms) U locs) (hl : lv_has ls 4 [(0, .ref b), (1, .ref (mAd 0)), (2, .ref (aM 0)), (3, .int (nI (6 * j)))]) (kk : ∀ (cs1 : CS) (ms1 : MS) (U : Heap) (locs : List Loc) (ls : Array Slot), Inv (j + 1) cs1 ms1 → Gd D (fun q => s.heap.size ≤ q) s (WW cy mAd iAd gAd rAd aM GI GM GR cs1 ms1) U locs → lv_has ls 4 [(0, .ref b), (1, .ref (mAd 0)), (2, .ref (aM 0)), (3, .int (nI (6 * j)))] → W p l e room_1 s m #[Value.ref b] below meth c U locs 174 5444 (lw_Z below #[Value.ref b] s) (F0 m 1071 ls [])) : W p l e room_1 s m #[Value.ref b] below meth c U locs 174 5444 (lw_Z below #[Value.ref b] s) (F0 m 692 ls []) := by
  obtain ⟨hx, hb, hr, hml, hown, hts, hlk, hK, hA, hE⟩ := id C
  have hbA : ¬ (fun q : Nat => s.heap.size ≤ q) b := Nat.not_le.mpr hbl
  refine lv_aload_n hx hb dL_law_692 rfl (lv_at hl 1 rfl) ?_
  refine lv_aload_n hx hb dL_law_693 rfl (lv_at hl 0 rfl) ?_
  refine lv_iload_n hx hb dL_law_694 rfl (lv_at hl 3 rfl) ?_
  refine lv_iconst (v := 1) hx hb dL_law_695 (by decide) ?_
  refine lv_iadd hx hb dL_law_696 ?_
  refine g_sld hx hb hX hbl hbA G.2.2 (6 * j + 1) (law_ix j 1 rfl) (by omega) hL dL_law_697 ?_
  refine lv_aload_n hx hb dL_law_698 rfl (lv_at hl 0 rfl) ?_
  refine lv_iload_n hx hb dL_law_699 rfl (lv_at hl 3 rfl) ?_
  refine lv_iconst (v := 2) hx hb dL_law_700 (by decide) ?_
  refine lv_iadd hx hb dL_law_701 ?_
  refine g_sld hx hb hX hbl hbA G.2.2 (6 * j + 2) (law_ix j 2 rfl) (by omega) hL dL_law_702 ?_
  refine lv_aload_n hx hb dL_law_703 rfl (lv_at hl 0 rfl) ?_
  refine lv_iload_n hx hb dL_law_704 rfl (lv_at hl 3 rfl) ?_
  refine lv_iconst (v := 3) hx hb dL_law_705 (by decide) ?_
  refine lv_iadd hx hb dL_law_706 ?_
  refine g_sld hx hb hX hbl hbA G.2.2 (6 * j + 3) (law_ix j 3 rfl) (by omega) hL dL_law_707 ?_
  refine lv_aload_n hx hb dL_law_708 rfl (lv_at hl 0 rfl) ?_
  refine lv_iload_n hx hb dL_law_709 rfl (lv_at hl 3 rfl) ?_
  refine lv_iconst (v := 4) hx hb dL_law_710 (by decide) ?_
  refine lv_iadd hx hb dL_law_711 ?_
  refine g_sld hx hb hX hbl hbA G.2.2 (6 * j + 4) (law_ix j 4 rfl) (by omega) hL dL_law_712 ?_
  obtain ⟨r, cs1, ms1, h8, h9, hI⟩ := hO.2.2.2.2.2.2.2.2.2.2.2.2.2.2.2.2.2.1 j cs ms (xs (6 * j + 1)) (xs (6 * j + 2)) (xs (6 * j + 3)) (xs (6 * j + 4)) hj hInv
  refine MI.callVx r [.int (xs (6 * j + 1)), .int (xs (6 * j + 2)), .int (xs (6 * j + 3)), .int (xs (6 * j + 4))] [] C G (C8_sail l D cy mAd iAd gAd rAd aM GI GM GR hGI hGM hGR cs ms (xs (6 * j + 1)) (xs (6 * j + 2)) (xs (6 * j + 3)) (xs (6 * j + 4)) r cs1 h8) gL_law_X8_sail rfl rfl rfl (n := 4) (by decide +kernel) ⟨Nat.le_of_ble_eq_true rfl, Nat.le_of_ble_eq_true rfl⟩ (va_recv hK (vaP_iff.mpr (fun q hq => vaP_iff.mp G.1 q (List.mem_append_left _ (List.mem_append_left _ (List.mem_append_left _ (List.mem_append_left _ hq)))))) (ci := 8) (q0 := 0) rfl rfl) rfl hl.1 rfl (Nat.le_of_ble_eq_true rfl) dL_law_713 ⟨Nat.le_of_ble_eq_true rfl, Nat.le_of_ble_eq_true rfl⟩ (fun U locs G => ?_)
  refine lv_aload_n hx hb dL_law_716 rfl (lv_at hl 2 rfl) ?_
  refine lv_aload_n hx hb dL_law_717 rfl (lv_at hl 0 rfl) ?_
  refine lv_iload_n hx hb dL_law_718 rfl (lv_at hl 3 rfl) ?_
  refine lv_iconst (v := 1) hx hb dL_law_719 (by decide) ?_
  refine lv_iadd hx hb dL_law_720 ?_
  refine g_sld hx hb hX hbl hbA G.2.2 (6 * j + 1) (law_ix j 1 rfl) (by omega) hL dL_law_721 ?_
  refine lv_aload_n hx hb dL_law_722 rfl (lv_at hl 0 rfl) ?_
  refine lv_iload_n hx hb dL_law_723 rfl (lv_at hl 3 rfl) ?_
  refine lv_iconst (v := 2) hx hb dL_law_724 (by decide) ?_
  refine lv_iadd hx hb dL_law_725 ?_
  refine g_sld hx hb hX hbl hbA G.2.2 (6 * j + 2) (law_ix j 2 rfl) (by omega) hL dL_law_726 ?_
  refine lv_aload_n hx hb dL_law_727 rfl (lv_at hl 0 rfl) ?_
  refine lv_iload_n hx hb dL_law_728 rfl (lv_at hl 3 rfl) ?_
  refine lv_iconst (v := 3) hx hb dL_law_729 (by decide) ?_
  refine lv_iadd hx hb dL_law_730 ?_
  refine g_sld hx hb hX hbl hbA G.2.2 (6 * j + 3) (law_ix j 3 rfl) (by omega) hL dL_law_731 ?_
  refine lv_aload_n hx hb dL_law_732 rfl (lv_at hl 0 rfl) ?_
  refine lv_iload_n hx hb dL_law_733 rfl (lv_at hl 3 rfl) ?_
  refine lv_iconst (v := 4) hx hb dL_law_734 (by decide) ?_
  refine lv_iadd hx hb dL_law_735 ?_
  refine g_sld hx hb hX hbl hbA G.2.2 (6 * j + 4) (law_ix j 4 rfl) (by omega) hL dL_law_736 ?_
  refine MI.callVx r [.int (xs (6 * j + 1)), .int (xs (6 * j + 2)), .int (xs (6 * j + 3)), .int (xs (6 * j + 4))] [.int r] C G (C9_sail l D cy mAd iAd gAd rAd aM GI GM GR cs1 ms (xs (6 * j + 1)) (xs (6 * j + 2)) (xs (6 * j + 3)) (xs (6 * j + 4)) r ms1 h9) gL_law_X9_sail rfl rfl rfl (n := 4) (by decide +kernel) ⟨Nat.le_of_ble_eq_true rfl, Nat.le_of_ble_eq_true rfl⟩ (va_recv hK (vaP_iff.mpr (fun q hq => vaP_iff.mp G.1 q (List.mem_append_right _ hq))) (ci := 9) (q0 := 0) rfl rfl) rfl hl.1 rfl (Nat.le_of_ble_eq_true rfl) dL_law_737 ⟨Nat.le_of_ble_eq_true rfl, Nat.le_of_ble_eq_true rfl⟩ (fun U locs G => ?_)
  refine lv_icmp_eq (tgt := 1071) hx hb dL_law_740 (by decide) (fun _ => ?_) (fun c1 => absurd rfl c1)
  exact kk cs1 ms1 _ _ ls hI G hl
set_option maxHeartbeats 4000000 in
set_option maxRecDepth 100000 in
theorem law_c17 {p : Program} {l : Launch} {e : Env} {s : State} {m : MethodId} {below : List Frame} {meth : Method} {c : Code} {D : va_G} {cy : Nat → ClassId} {b L : Nat} {xs : Nat → Int32} {Inv : Nat → CS → MS → Prop} (hO : OPS Inv) (hL : L ≤ 3072) (C : Cx D cy (fun q => s.heap.size ≤ q) p s m meth c code 4 ret wsL_law RL #[Value.ref b]) (hX : va_X b L xs s s.heap) (hbl : b < s.heap.size) (mAd : Nat → Nat) (iAd gAd rAd : Nat → Nat → Nat) (aM : Nat → Nat) (GI GM GR : Nat → Option Nat) (hGI : ∀ k, k < 8 → GI k = some (iAd k 0)) (hGM : ∀ k, k < 2 → GM k = some (gAd k 0)) (hGR : ∀ k, k < 24 → GR k = some (rAd k 0)) (j : Nat) (hj : j < 512) (hjL : 6 * j + 6 ≤ L) (cs : CS) (ms : MS) (hInv : Inv j cs ms) (U : Heap) (locs : List Loc) (ls : Array Slot) (G : Gd D (fun q => s.heap.size ≤ q) s (WW cy mAd iAd gAd rAd aM GI GM GR cs ms) U locs) (hl : lv_has ls 4 [(0, .ref b), (1, .ref (mAd 0)), (2, .ref (aM 0)), (3, .int (nI (6 * j)))]) (kk : ∀ (cs1 : CS) (ms1 : MS) (U : Heap) (locs : List Loc) (ls : Array Slot), Inv (j + 1) cs1 ms1 → Gd D (fun q => s.heap.size ≤ q) s (WW cy mAd iAd gAd rAd aM GI GM GR cs1 ms1) U locs → lv_has ls 4 [(0, .ref b), (1, .ref (mAd 0)), (2, .ref (aM 0)), (3, .int (nI (6 * j)))] → W p l e room_1 s m #[Value.ref b] below meth c U locs 174 5444 (lw_Z below #[Value.ref b] s) (F0 m 1071 ls [])) : W p l e room_1 s m #[Value.ref b] below meth c U locs 174 5444 (lw_Z below #[Value.ref b] s) (F0 m 745 ls []) := by
  obtain ⟨hx, hb, hr, hml, hown, hts, hlk, hK, hA, hE⟩ := id C
  have hbA : ¬ (fun q : Nat => s.heap.size ≤ q) b := Nat.not_le.mpr hbl
  refine lv_aload_n hx hb dL_law_745 rfl (lv_at hl 1 rfl) ?_
  refine lv_aload_n hx hb dL_law_746 rfl (lv_at hl 0 rfl) ?_
  refine lv_iload_n hx hb dL_law_747 rfl (lv_at hl 3 rfl) ?_
  refine lv_iconst (v := 1) hx hb dL_law_748 (by decide) ?_
  refine lv_iadd hx hb dL_law_749 ?_
  refine g_sld hx hb hX hbl hbA G.2.2 (6 * j + 1) (law_ix j 1 rfl) (by omega) hL dL_law_750 ?_
  refine lv_aload_n hx hb dL_law_751 rfl (lv_at hl 0 rfl) ?_
  refine lv_iload_n hx hb dL_law_752 rfl (lv_at hl 3 rfl) ?_
  refine lv_iconst (v := 2) hx hb dL_law_753 (by decide) ?_
  refine lv_iadd hx hb dL_law_754 ?_
  refine g_sld hx hb hX hbl hbA G.2.2 (6 * j + 2) (law_ix j 2 rfl) (by omega) hL dL_law_755 ?_
  obtain ⟨r, cs1, ms1, h8, h9, hI⟩ := hO.2.2.2.2.2.2.2.2.2.2.2.2.2.2.2.2.2.2.1 j cs ms (xs (6 * j + 1)) (xs (6 * j + 2)) hj hInv
  refine MI.callVx r [.int (xs (6 * j + 1)), .int (xs (6 * j + 2))] [] C G (C8_net l D cy mAd iAd gAd rAd aM GI GM GR hGI hGM hGR cs ms (xs (6 * j + 1)) (xs (6 * j + 2)) r cs1 h8) gL_law_X8_net rfl rfl rfl (n := 2) (by decide +kernel) ⟨Nat.le_of_ble_eq_true rfl, Nat.le_of_ble_eq_true rfl⟩ (va_recv hK (vaP_iff.mpr (fun q hq => vaP_iff.mp G.1 q (List.mem_append_left _ (List.mem_append_left _ (List.mem_append_left _ (List.mem_append_left _ hq)))))) (ci := 8) (q0 := 0) rfl rfl) rfl hl.1 rfl (Nat.le_of_ble_eq_true rfl) dL_law_756 ⟨Nat.le_of_ble_eq_true rfl, Nat.le_of_ble_eq_true rfl⟩ (fun U locs G => ?_)
  refine lv_aload_n hx hb dL_law_759 rfl (lv_at hl 2 rfl) ?_
  refine lv_aload_n hx hb dL_law_760 rfl (lv_at hl 0 rfl) ?_
  refine lv_iload_n hx hb dL_law_761 rfl (lv_at hl 3 rfl) ?_
  refine lv_iconst (v := 1) hx hb dL_law_762 (by decide) ?_
  refine lv_iadd hx hb dL_law_763 ?_
  refine g_sld hx hb hX hbl hbA G.2.2 (6 * j + 1) (law_ix j 1 rfl) (by omega) hL dL_law_764 ?_
  refine lv_aload_n hx hb dL_law_765 rfl (lv_at hl 0 rfl) ?_
  refine lv_iload_n hx hb dL_law_766 rfl (lv_at hl 3 rfl) ?_
  refine lv_iconst (v := 2) hx hb dL_law_767 (by decide) ?_
  refine lv_iadd hx hb dL_law_768 ?_
  refine g_sld hx hb hX hbl hbA G.2.2 (6 * j + 2) (law_ix j 2 rfl) (by omega) hL dL_law_769 ?_
  refine MI.callVx r [.int (xs (6 * j + 1)), .int (xs (6 * j + 2))] [.int r] C G (C9_net l D cy mAd iAd gAd rAd aM GI GM GR cs1 ms (xs (6 * j + 1)) (xs (6 * j + 2)) r ms1 h9) gL_law_X9_net rfl rfl rfl (n := 2) (by decide +kernel) ⟨Nat.le_of_ble_eq_true rfl, Nat.le_of_ble_eq_true rfl⟩ (va_recv hK (vaP_iff.mpr (fun q hq => vaP_iff.mp G.1 q (List.mem_append_right _ hq))) (ci := 9) (q0 := 0) rfl rfl) rfl hl.1 rfl (Nat.le_of_ble_eq_true rfl) dL_law_770 ⟨Nat.le_of_ble_eq_true rfl, Nat.le_of_ble_eq_true rfl⟩ (fun U locs G => ?_)
  refine lv_icmp_eq (tgt := 1071) hx hb dL_law_773 (by decide) (fun _ => ?_) (fun c1 => absurd rfl c1)
  exact kk cs1 ms1 _ _ ls hI G hl
set_option maxHeartbeats 4000000 in
set_option maxRecDepth 100000 in
theorem law_c18 {p : Program} {l : Launch} {e : Env} {s : State} {m : MethodId} {below : List Frame} {meth : Method} {c : Code} {D : va_G} {cy : Nat → ClassId} {b L : Nat} {xs : Nat → Int32} {Inv : Nat → CS → MS → Prop} (hO : OPS Inv) (hL : L ≤ 3072) (C : Cx D cy (fun q => s.heap.size ≤ q) p s m meth c code 4 ret wsL_law RL #[Value.ref b]) (hX : va_X b L xs s s.heap) (hbl : b < s.heap.size) (mAd : Nat → Nat) (iAd gAd rAd : Nat → Nat → Nat) (aM : Nat → Nat) (GI GM GR : Nat → Option Nat) (hGI : ∀ k, k < 8 → GI k = some (iAd k 0)) (hGM : ∀ k, k < 2 → GM k = some (gAd k 0)) (hGR : ∀ k, k < 24 → GR k = some (rAd k 0)) (j : Nat) (hj : j < 512) (hjL : 6 * j + 6 ≤ L) (cs : CS) (ms : MS) (hInv : Inv j cs ms) (U : Heap) (locs : List Loc) (ls : Array Slot) (G : Gd D (fun q => s.heap.size ≤ q) s (WW cy mAd iAd gAd rAd aM GI GM GR cs ms) U locs) (hl : lv_has ls 4 [(0, .ref b), (1, .ref (mAd 0)), (2, .ref (aM 0)), (3, .int (nI (6 * j)))]) (kk : ∀ (cs1 : CS) (ms1 : MS) (U : Heap) (locs : List Loc) (ls : Array Slot), Inv (j + 1) cs1 ms1 → Gd D (fun q => s.heap.size ≤ q) s (WW cy mAd iAd gAd rAd aM GI GM GR cs1 ms1) U locs → lv_has ls 4 [(0, .ref b), (1, .ref (mAd 0)), (2, .ref (aM 0)), (3, .int (nI (6 * j)))] → W p l e room_1 s m #[Value.ref b] below meth c U locs 174 5444 (lw_Z below #[Value.ref b] s) (F0 m 1071 ls [])) : W p l e room_1 s m #[Value.ref b] below meth c U locs 174 5444 (lw_Z below #[Value.ref b] s) (F0 m 778 ls []) := by
  obtain ⟨hx, hb, hr, hml, hown, hts, hlk, hK, hA, hE⟩ := id C
  have hbA : ¬ (fun q : Nat => s.heap.size ≤ q) b := Nat.not_le.mpr hbl
  refine lv_aload_n hx hb dL_law_778 rfl (lv_at hl 1 rfl) ?_
  refine lv_aload_n hx hb dL_law_779 rfl (lv_at hl 0 rfl) ?_
  refine lv_iload_n hx hb dL_law_780 rfl (lv_at hl 3 rfl) ?_
  refine lv_iconst (v := 1) hx hb dL_law_781 (by decide) ?_
  refine lv_iadd hx hb dL_law_782 ?_
  refine g_sld hx hb hX hbl hbA G.2.2 (6 * j + 1) (law_ix j 1 rfl) (by omega) hL dL_law_783 ?_
  refine lv_aload_n hx hb dL_law_784 rfl (lv_at hl 0 rfl) ?_
  refine lv_iload_n hx hb dL_law_785 rfl (lv_at hl 3 rfl) ?_
  refine lv_iconst (v := 2) hx hb dL_law_786 (by decide) ?_
  refine lv_iadd hx hb dL_law_787 ?_
  refine g_sld hx hb hX hbl hbA G.2.2 (6 * j + 2) (law_ix j 2 rfl) (by omega) hL dL_law_788 ?_
  refine lv_aload_n hx hb dL_law_789 rfl (lv_at hl 0 rfl) ?_
  refine lv_iload_n hx hb dL_law_790 rfl (lv_at hl 3 rfl) ?_
  refine lv_iconst (v := 3) hx hb dL_law_791 (by decide) ?_
  refine lv_iadd hx hb dL_law_792 ?_
  refine g_sld hx hb hX hbl hbA G.2.2 (6 * j + 3) (law_ix j 3 rfl) (by omega) hL dL_law_793 ?_
  refine lv_aload_n hx hb dL_law_794 rfl (lv_at hl 0 rfl) ?_
  refine lv_iload_n hx hb dL_law_795 rfl (lv_at hl 3 rfl) ?_
  refine lv_iconst (v := 4) hx hb dL_law_796 (by decide) ?_
  refine lv_iadd hx hb dL_law_797 ?_
  refine g_sld hx hb hX hbl hbA G.2.2 (6 * j + 4) (law_ix j 4 rfl) (by omega) hL dL_law_798 ?_
  obtain ⟨r, cs1, ms1, h8, h9, hI⟩ := hO.2.2.2.2.2.2.2.2.2.2.2.2.2.2.2.2.2.2.2.1 j cs ms (xs (6 * j + 1)) (xs (6 * j + 2)) (xs (6 * j + 3)) (xs (6 * j + 4)) hj hInv
  refine MI.callVx r [.int (xs (6 * j + 1)), .int (xs (6 * j + 2)), .int (xs (6 * j + 3)), .int (xs (6 * j + 4))] [] C G (C8_least l D cy mAd iAd gAd rAd aM GI GM GR hGI hGM hGR cs ms (xs (6 * j + 1)) (xs (6 * j + 2)) (xs (6 * j + 3)) (xs (6 * j + 4)) r cs1 h8) gL_law_X8_least rfl rfl rfl (n := 4) (by decide +kernel) ⟨Nat.le_of_ble_eq_true rfl, Nat.le_of_ble_eq_true rfl⟩ (va_recv hK (vaP_iff.mpr (fun q hq => vaP_iff.mp G.1 q (List.mem_append_left _ (List.mem_append_left _ (List.mem_append_left _ (List.mem_append_left _ hq)))))) (ci := 8) (q0 := 0) rfl rfl) rfl hl.1 rfl (Nat.le_of_ble_eq_true rfl) dL_law_799 ⟨Nat.le_of_ble_eq_true rfl, Nat.le_of_ble_eq_true rfl⟩ (fun U locs G => ?_)
  refine lv_aload_n hx hb dL_law_802 rfl (lv_at hl 2 rfl) ?_
  refine lv_aload_n hx hb dL_law_803 rfl (lv_at hl 0 rfl) ?_
  refine lv_iload_n hx hb dL_law_804 rfl (lv_at hl 3 rfl) ?_
  refine lv_iconst (v := 1) hx hb dL_law_805 (by decide) ?_
  refine lv_iadd hx hb dL_law_806 ?_
  refine g_sld hx hb hX hbl hbA G.2.2 (6 * j + 1) (law_ix j 1 rfl) (by omega) hL dL_law_807 ?_
  refine lv_aload_n hx hb dL_law_808 rfl (lv_at hl 0 rfl) ?_
  refine lv_iload_n hx hb dL_law_809 rfl (lv_at hl 3 rfl) ?_
  refine lv_iconst (v := 2) hx hb dL_law_810 (by decide) ?_
  refine lv_iadd hx hb dL_law_811 ?_
  refine g_sld hx hb hX hbl hbA G.2.2 (6 * j + 2) (law_ix j 2 rfl) (by omega) hL dL_law_812 ?_
  refine lv_aload_n hx hb dL_law_813 rfl (lv_at hl 0 rfl) ?_
  refine lv_iload_n hx hb dL_law_814 rfl (lv_at hl 3 rfl) ?_
  refine lv_iconst (v := 3) hx hb dL_law_815 (by decide) ?_
  refine lv_iadd hx hb dL_law_816 ?_
  refine g_sld hx hb hX hbl hbA G.2.2 (6 * j + 3) (law_ix j 3 rfl) (by omega) hL dL_law_817 ?_
  refine lv_aload_n hx hb dL_law_818 rfl (lv_at hl 0 rfl) ?_
  refine lv_iload_n hx hb dL_law_819 rfl (lv_at hl 3 rfl) ?_
  refine lv_iconst (v := 4) hx hb dL_law_820 (by decide) ?_
  refine lv_iadd hx hb dL_law_821 ?_
  refine g_sld hx hb hX hbl hbA G.2.2 (6 * j + 4) (law_ix j 4 rfl) (by omega) hL dL_law_822 ?_
  refine MI.callVx r [.int (xs (6 * j + 1)), .int (xs (6 * j + 2)), .int (xs (6 * j + 3)), .int (xs (6 * j + 4))] [.int r] C G (C9_least l D cy mAd iAd gAd rAd aM GI GM GR cs1 ms (xs (6 * j + 1)) (xs (6 * j + 2)) (xs (6 * j + 3)) (xs (6 * j + 4)) r ms1 h9) gL_law_X9_least rfl rfl rfl (n := 4) (by decide +kernel) ⟨Nat.le_of_ble_eq_true rfl, Nat.le_of_ble_eq_true rfl⟩ (va_recv hK (vaP_iff.mpr (fun q hq => vaP_iff.mp G.1 q (List.mem_append_right _ hq))) (ci := 9) (q0 := 0) rfl rfl) rfl hl.1 rfl (Nat.le_of_ble_eq_true rfl) dL_law_823 ⟨Nat.le_of_ble_eq_true rfl, Nat.le_of_ble_eq_true rfl⟩ (fun U locs G => ?_)
  refine lv_icmp_eq (tgt := 1071) hx hb dL_law_826 (by decide) (fun _ => ?_) (fun c1 => absurd rfl c1)
  exact kk cs1 ms1 _ _ ls hI G hl
set_option maxHeartbeats 4000000 in
set_option maxRecDepth 100000 in
theorem law_c19 {p : Program} {l : Launch} {e : Env} {s : State} {m : MethodId} {below : List Frame} {meth : Method} {c : Code} {D : va_G} {cy : Nat → ClassId} {b L : Nat} {xs : Nat → Int32} {Inv : Nat → CS → MS → Prop} (hO : OPS Inv) (hL : L ≤ 3072) (C : Cx D cy (fun q => s.heap.size ≤ q) p s m meth c code 4 ret wsL_law RL #[Value.ref b]) (hX : va_X b L xs s s.heap) (hbl : b < s.heap.size) (mAd : Nat → Nat) (iAd gAd rAd : Nat → Nat → Nat) (aM : Nat → Nat) (GI GM GR : Nat → Option Nat) (hGI : ∀ k, k < 8 → GI k = some (iAd k 0)) (hGM : ∀ k, k < 2 → GM k = some (gAd k 0)) (hGR : ∀ k, k < 24 → GR k = some (rAd k 0)) (j : Nat) (hj : j < 512) (hjL : 6 * j + 6 ≤ L) (cs : CS) (ms : MS) (hInv : Inv j cs ms) (U : Heap) (locs : List Loc) (ls : Array Slot) (G : Gd D (fun q => s.heap.size ≤ q) s (WW cy mAd iAd gAd rAd aM GI GM GR cs ms) U locs) (hl : lv_has ls 4 [(0, .ref b), (1, .ref (mAd 0)), (2, .ref (aM 0)), (3, .int (nI (6 * j)))]) (kk : ∀ (cs1 : CS) (ms1 : MS) (U : Heap) (locs : List Loc) (ls : Array Slot), Inv (j + 1) cs1 ms1 → Gd D (fun q => s.heap.size ≤ q) s (WW cy mAd iAd gAd rAd aM GI GM GR cs1 ms1) U locs → lv_has ls 4 [(0, .ref b), (1, .ref (mAd 0)), (2, .ref (aM 0)), (3, .int (nI (6 * j)))] → W p l e room_1 s m #[Value.ref b] below meth c U locs 174 5444 (lw_Z below #[Value.ref b] s) (F0 m 1071 ls [])) : W p l e room_1 s m #[Value.ref b] below meth c U locs 174 5444 (lw_Z below #[Value.ref b] s) (F0 m 831 ls []) := by
  obtain ⟨hx, hb, hr, hml, hown, hts, hlk, hK, hA, hE⟩ := id C
  have hbA : ¬ (fun q : Nat => s.heap.size ≤ q) b := Nat.not_le.mpr hbl
  refine lv_aload_n hx hb dL_law_831 rfl (lv_at hl 1 rfl) ?_
  obtain ⟨r, cs1, ms1, h8, h9, hI⟩ := hO.2.2.2.2.2.2.2.2.2.2.2.2.2.2.2.2.2.2.2.2.1 j cs ms  hj hInv
  refine MI.callVx r [] [] C G (C8_run l D cy mAd iAd gAd rAd aM GI GM GR hGI hGM hGR cs ms  r cs1 h8) gL_law_X8_run rfl rfl rfl (n := 0) (by decide +kernel) ⟨Nat.le_of_ble_eq_true rfl, Nat.le_of_ble_eq_true rfl⟩ (va_recv hK (vaP_iff.mpr (fun q hq => vaP_iff.mp G.1 q (List.mem_append_left _ (List.mem_append_left _ (List.mem_append_left _ (List.mem_append_left _ hq)))))) (ci := 8) (q0 := 0) rfl rfl) rfl hl.1 rfl (Nat.le_of_ble_eq_true rfl) dL_law_832 ⟨Nat.le_of_ble_eq_true rfl, Nat.le_of_ble_eq_true rfl⟩ (fun U locs G => ?_)
  refine lv_aload_n hx hb dL_law_835 rfl (lv_at hl 2 rfl) ?_
  refine MI.callVx r [] [.int r] C G (C9_run l D cy mAd iAd gAd rAd aM GI GM GR cs1 ms  r ms1 h9) gL_law_X9_run rfl rfl rfl (n := 0) (by decide +kernel) ⟨Nat.le_of_ble_eq_true rfl, Nat.le_of_ble_eq_true rfl⟩ (va_recv hK (vaP_iff.mpr (fun q hq => vaP_iff.mp G.1 q (List.mem_append_right _ hq))) (ci := 9) (q0 := 0) rfl rfl) rfl hl.1 rfl (Nat.le_of_ble_eq_true rfl) dL_law_836 ⟨Nat.le_of_ble_eq_true rfl, Nat.le_of_ble_eq_true rfl⟩ (fun U locs G => ?_)
  refine lv_icmp_eq (tgt := 1071) hx hb dL_law_839 (by decide) (fun _ => ?_) (fun c1 => absurd rfl c1)
  exact kk cs1 ms1 _ _ ls hI G hl
set_option maxHeartbeats 4000000 in
set_option maxRecDepth 100000 in
theorem law_c20 {p : Program} {l : Launch} {e : Env} {s : State} {m : MethodId} {below : List Frame} {meth : Method} {c : Code} {D : va_G} {cy : Nat → ClassId} {b L : Nat} {xs : Nat → Int32} {Inv : Nat → CS → MS → Prop} (hO : OPS Inv) (hL : L ≤ 3072) (C : Cx D cy (fun q => s.heap.size ≤ q) p s m meth c code 4 ret wsL_law RL #[Value.ref b]) (hX : va_X b L xs s s.heap) (hbl : b < s.heap.size) (mAd : Nat → Nat) (iAd gAd rAd : Nat → Nat → Nat) (aM : Nat → Nat) (GI GM GR : Nat → Option Nat) (hGI : ∀ k, k < 8 → GI k = some (iAd k 0)) (hGM : ∀ k, k < 2 → GM k = some (gAd k 0)) (hGR : ∀ k, k < 24 → GR k = some (rAd k 0)) (j : Nat) (hj : j < 512) (hjL : 6 * j + 6 ≤ L) (cs : CS) (ms : MS) (hInv : Inv j cs ms) (U : Heap) (locs : List Loc) (ls : Array Slot) (G : Gd D (fun q => s.heap.size ≤ q) s (WW cy mAd iAd gAd rAd aM GI GM GR cs ms) U locs) (hl : lv_has ls 4 [(0, .ref b), (1, .ref (mAd 0)), (2, .ref (aM 0)), (3, .int (nI (6 * j)))]) (kk : ∀ (cs1 : CS) (ms1 : MS) (U : Heap) (locs : List Loc) (ls : Array Slot), Inv (j + 1) cs1 ms1 → Gd D (fun q => s.heap.size ≤ q) s (WW cy mAd iAd gAd rAd aM GI GM GR cs1 ms1) U locs → lv_has ls 4 [(0, .ref b), (1, .ref (mAd 0)), (2, .ref (aM 0)), (3, .int (nI (6 * j)))] → W p l e room_1 s m #[Value.ref b] below meth c U locs 174 5444 (lw_Z below #[Value.ref b] s) (F0 m 1071 ls [])) : W p l e room_1 s m #[Value.ref b] below meth c U locs 174 5444 (lw_Z below #[Value.ref b] s) (F0 m 844 ls []) := by
  obtain ⟨hx, hb, hr, hml, hown, hts, hlk, hK, hA, hE⟩ := id C
  have hbA : ¬ (fun q : Nat => s.heap.size ≤ q) b := Nat.not_le.mpr hbl
  refine lv_aload_n hx hb dL_law_844 rfl (lv_at hl 1 rfl) ?_
  refine lv_aload_n hx hb dL_law_845 rfl (lv_at hl 0 rfl) ?_
  refine lv_iload_n hx hb dL_law_846 rfl (lv_at hl 3 rfl) ?_
  refine lv_iconst (v := 1) hx hb dL_law_847 (by decide) ?_
  refine lv_iadd hx hb dL_law_848 ?_
  refine g_sld hx hb hX hbl hbA G.2.2 (6 * j + 1) (law_ix j 1 rfl) (by omega) hL dL_law_849 ?_
  refine lv_aload_n hx hb dL_law_850 rfl (lv_at hl 0 rfl) ?_
  refine lv_iload_n hx hb dL_law_851 rfl (lv_at hl 3 rfl) ?_
  refine lv_iconst (v := 2) hx hb dL_law_852 (by decide) ?_
  refine lv_iadd hx hb dL_law_853 ?_
  refine g_sld hx hb hX hbl hbA G.2.2 (6 * j + 2) (law_ix j 2 rfl) (by omega) hL dL_law_854 ?_
  obtain ⟨r, cs1, ms1, h8, h9, hI⟩ := hO.2.2.2.2.2.2.2.2.2.2.2.2.2.2.2.2.2.2.2.2.2.1 j cs ms (xs (6 * j + 1)) (xs (6 * j + 2)) hj hInv
  refine MI.callVx r [.int (xs (6 * j + 1)), .int (xs (6 * j + 2))] [] C G (C8_frauds l D cy mAd iAd gAd rAd aM GI GM GR hGI hGM hGR cs ms (xs (6 * j + 1)) (xs (6 * j + 2)) r cs1 h8) gL_law_X8_frauds rfl rfl rfl (n := 2) (by decide +kernel) ⟨Nat.le_of_ble_eq_true rfl, Nat.le_of_ble_eq_true rfl⟩ (va_recv hK (vaP_iff.mpr (fun q hq => vaP_iff.mp G.1 q (List.mem_append_left _ (List.mem_append_left _ (List.mem_append_left _ (List.mem_append_left _ hq)))))) (ci := 8) (q0 := 0) rfl rfl) rfl hl.1 rfl (Nat.le_of_ble_eq_true rfl) dL_law_855 ⟨Nat.le_of_ble_eq_true rfl, Nat.le_of_ble_eq_true rfl⟩ (fun U locs G => ?_)
  refine lv_aload_n hx hb dL_law_858 rfl (lv_at hl 2 rfl) ?_
  refine lv_aload_n hx hb dL_law_859 rfl (lv_at hl 0 rfl) ?_
  refine lv_iload_n hx hb dL_law_860 rfl (lv_at hl 3 rfl) ?_
  refine lv_iconst (v := 1) hx hb dL_law_861 (by decide) ?_
  refine lv_iadd hx hb dL_law_862 ?_
  refine g_sld hx hb hX hbl hbA G.2.2 (6 * j + 1) (law_ix j 1 rfl) (by omega) hL dL_law_863 ?_
  refine lv_aload_n hx hb dL_law_864 rfl (lv_at hl 0 rfl) ?_
  refine lv_iload_n hx hb dL_law_865 rfl (lv_at hl 3 rfl) ?_
  refine lv_iconst (v := 2) hx hb dL_law_866 (by decide) ?_
  refine lv_iadd hx hb dL_law_867 ?_
  refine g_sld hx hb hX hbl hbA G.2.2 (6 * j + 2) (law_ix j 2 rfl) (by omega) hL dL_law_868 ?_
  refine MI.callVx r [.int (xs (6 * j + 1)), .int (xs (6 * j + 2))] [.int r] C G (C9_frauds l D cy mAd iAd gAd rAd aM GI GM GR cs1 ms (xs (6 * j + 1)) (xs (6 * j + 2)) r ms1 h9) gL_law_X9_frauds rfl rfl rfl (n := 2) (by decide +kernel) ⟨Nat.le_of_ble_eq_true rfl, Nat.le_of_ble_eq_true rfl⟩ (va_recv hK (vaP_iff.mpr (fun q hq => vaP_iff.mp G.1 q (List.mem_append_right _ hq))) (ci := 9) (q0 := 0) rfl rfl) rfl hl.1 rfl (Nat.le_of_ble_eq_true rfl) dL_law_869 ⟨Nat.le_of_ble_eq_true rfl, Nat.le_of_ble_eq_true rfl⟩ (fun U locs G => ?_)
  refine lv_icmp_eq (tgt := 1071) hx hb dL_law_872 (by decide) (fun _ => ?_) (fun c1 => absurd rfl c1)
  exact kk cs1 ms1 _ _ ls hI G hl
set_option maxHeartbeats 4000000 in
set_option maxRecDepth 100000 in
theorem law_c21 {p : Program} {l : Launch} {e : Env} {s : State} {m : MethodId} {below : List Frame} {meth : Method} {c : Code} {D : va_G} {cy : Nat → ClassId} {b L : Nat} {xs : Nat → Int32} {Inv : Nat → CS → MS → Prop} (hO : OPS Inv) (hL : L ≤ 3072) (C : Cx D cy (fun q => s.heap.size ≤ q) p s m meth c code 4 ret wsL_law RL #[Value.ref b]) (hX : va_X b L xs s s.heap) (hbl : b < s.heap.size) (mAd : Nat → Nat) (iAd gAd rAd : Nat → Nat → Nat) (aM : Nat → Nat) (GI GM GR : Nat → Option Nat) (hGI : ∀ k, k < 8 → GI k = some (iAd k 0)) (hGM : ∀ k, k < 2 → GM k = some (gAd k 0)) (hGR : ∀ k, k < 24 → GR k = some (rAd k 0)) (j : Nat) (hj : j < 512) (hjL : 6 * j + 6 ≤ L) (cs : CS) (ms : MS) (hInv : Inv j cs ms) (U : Heap) (locs : List Loc) (ls : Array Slot) (G : Gd D (fun q => s.heap.size ≤ q) s (WW cy mAd iAd gAd rAd aM GI GM GR cs ms) U locs) (hl : lv_has ls 4 [(0, .ref b), (1, .ref (mAd 0)), (2, .ref (aM 0)), (3, .int (nI (6 * j)))]) (kk : ∀ (cs1 : CS) (ms1 : MS) (U : Heap) (locs : List Loc) (ls : Array Slot), Inv (j + 1) cs1 ms1 → Gd D (fun q => s.heap.size ≤ q) s (WW cy mAd iAd gAd rAd aM GI GM GR cs1 ms1) U locs → lv_has ls 4 [(0, .ref b), (1, .ref (mAd 0)), (2, .ref (aM 0)), (3, .int (nI (6 * j)))] → W p l e room_1 s m #[Value.ref b] below meth c U locs 174 5444 (lw_Z below #[Value.ref b] s) (F0 m 1071 ls [])) : W p l e room_1 s m #[Value.ref b] below meth c U locs 174 5444 (lw_Z below #[Value.ref b] s) (F0 m 877 ls []) := by
  obtain ⟨hx, hb, hr, hml, hown, hts, hlk, hK, hA, hE⟩ := id C
  have hbA : ¬ (fun q : Nat => s.heap.size ≤ q) b := Nat.not_le.mpr hbl
  refine lv_aload_n hx hb dL_law_877 rfl (lv_at hl 1 rfl) ?_
  refine lv_aload_n hx hb dL_law_878 rfl (lv_at hl 0 rfl) ?_
  refine lv_iload_n hx hb dL_law_879 rfl (lv_at hl 3 rfl) ?_
  refine lv_iconst (v := 1) hx hb dL_law_880 (by decide) ?_
  refine lv_iadd hx hb dL_law_881 ?_
  refine g_sld hx hb hX hbl hbA G.2.2 (6 * j + 1) (law_ix j 1 rfl) (by omega) hL dL_law_882 ?_
  obtain ⟨r, cs1, ms1, h8, h9, hI⟩ := hO.2.2.2.2.2.2.2.2.2.2.2.2.2.2.2.2.2.2.2.2.2.2.1 j cs ms (xs (6 * j + 1)) hj hInv
  refine MI.callVx r [.int (xs (6 * j + 1))] [] C G (C8_image l D cy mAd iAd gAd rAd aM GI GM GR hGI hGM hGR cs ms (xs (6 * j + 1)) r cs1 h8) gL_law_X8_image rfl rfl rfl (n := 1) (by decide +kernel) ⟨Nat.le_of_ble_eq_true rfl, Nat.le_of_ble_eq_true rfl⟩ (va_recv hK (vaP_iff.mpr (fun q hq => vaP_iff.mp G.1 q (List.mem_append_left _ (List.mem_append_left _ (List.mem_append_left _ (List.mem_append_left _ hq)))))) (ci := 8) (q0 := 0) rfl rfl) rfl hl.1 rfl (Nat.le_of_ble_eq_true rfl) dL_law_883 ⟨Nat.le_of_ble_eq_true rfl, Nat.le_of_ble_eq_true rfl⟩ (fun U locs G => ?_)
  refine lv_aload_n hx hb dL_law_886 rfl (lv_at hl 2 rfl) ?_
  refine lv_aload_n hx hb dL_law_887 rfl (lv_at hl 0 rfl) ?_
  refine lv_iload_n hx hb dL_law_888 rfl (lv_at hl 3 rfl) ?_
  refine lv_iconst (v := 1) hx hb dL_law_889 (by decide) ?_
  refine lv_iadd hx hb dL_law_890 ?_
  refine g_sld hx hb hX hbl hbA G.2.2 (6 * j + 1) (law_ix j 1 rfl) (by omega) hL dL_law_891 ?_
  refine MI.callVx r [.int (xs (6 * j + 1))] [.int r] C G (C9_image l D cy mAd iAd gAd rAd aM GI GM GR cs1 ms (xs (6 * j + 1)) r ms1 h9) gL_law_X9_image rfl rfl rfl (n := 1) (by decide +kernel) ⟨Nat.le_of_ble_eq_true rfl, Nat.le_of_ble_eq_true rfl⟩ (va_recv hK (vaP_iff.mpr (fun q hq => vaP_iff.mp G.1 q (List.mem_append_right _ hq))) (ci := 9) (q0 := 0) rfl rfl) rfl hl.1 rfl (Nat.le_of_ble_eq_true rfl) dL_law_892 ⟨Nat.le_of_ble_eq_true rfl, Nat.le_of_ble_eq_true rfl⟩ (fun U locs G => ?_)
  refine lv_icmp_eq (tgt := 1071) hx hb dL_law_895 (by decide) (fun _ => ?_) (fun c1 => absurd rfl c1)
  exact kk cs1 ms1 _ _ ls hI G hl
set_option maxHeartbeats 4000000 in
set_option maxRecDepth 100000 in
theorem law_c22 {p : Program} {l : Launch} {e : Env} {s : State} {m : MethodId} {below : List Frame} {meth : Method} {c : Code} {D : va_G} {cy : Nat → ClassId} {b L : Nat} {xs : Nat → Int32} {Inv : Nat → CS → MS → Prop} (hO : OPS Inv) (hL : L ≤ 3072) (C : Cx D cy (fun q => s.heap.size ≤ q) p s m meth c code 4 ret wsL_law RL #[Value.ref b]) (hX : va_X b L xs s s.heap) (hbl : b < s.heap.size) (mAd : Nat → Nat) (iAd gAd rAd : Nat → Nat → Nat) (aM : Nat → Nat) (GI GM GR : Nat → Option Nat) (hGI : ∀ k, k < 8 → GI k = some (iAd k 0)) (hGM : ∀ k, k < 2 → GM k = some (gAd k 0)) (hGR : ∀ k, k < 24 → GR k = some (rAd k 0)) (j : Nat) (hj : j < 512) (hjL : 6 * j + 6 ≤ L) (cs : CS) (ms : MS) (hInv : Inv j cs ms) (U : Heap) (locs : List Loc) (ls : Array Slot) (G : Gd D (fun q => s.heap.size ≤ q) s (WW cy mAd iAd gAd rAd aM GI GM GR cs ms) U locs) (hl : lv_has ls 4 [(0, .ref b), (1, .ref (mAd 0)), (2, .ref (aM 0)), (3, .int (nI (6 * j)))]) (kk : ∀ (cs1 : CS) (ms1 : MS) (U : Heap) (locs : List Loc) (ls : Array Slot), Inv (j + 1) cs1 ms1 → Gd D (fun q => s.heap.size ≤ q) s (WW cy mAd iAd gAd rAd aM GI GM GR cs1 ms1) U locs → lv_has ls 4 [(0, .ref b), (1, .ref (mAd 0)), (2, .ref (aM 0)), (3, .int (nI (6 * j)))] → W p l e room_1 s m #[Value.ref b] below meth c U locs 174 5444 (lw_Z below #[Value.ref b] s) (F0 m 1071 ls [])) : W p l e room_1 s m #[Value.ref b] below meth c U locs 174 5444 (lw_Z below #[Value.ref b] s) (F0 m 900 ls []) := by
  obtain ⟨hx, hb, hr, hml, hown, hts, hlk, hK, hA, hE⟩ := id C
  have hbA : ¬ (fun q : Nat => s.heap.size ≤ q) b := Nat.not_le.mpr hbl
  refine lv_aload_n hx hb dL_law_900 rfl (lv_at hl 1 rfl) ?_
  refine lv_aload_n hx hb dL_law_901 rfl (lv_at hl 0 rfl) ?_
  refine lv_iload_n hx hb dL_law_902 rfl (lv_at hl 3 rfl) ?_
  refine lv_iconst (v := 1) hx hb dL_law_903 (by decide) ?_
  refine lv_iadd hx hb dL_law_904 ?_
  refine g_sld hx hb hX hbl hbA G.2.2 (6 * j + 1) (law_ix j 1 rfl) (by omega) hL dL_law_905 ?_
  obtain ⟨r, cs1, ms1, h8, h9, hI⟩ := hO.2.2.2.2.2.2.2.2.2.2.2.2.2.2.2.2.2.2.2.2.2.2.2.1 j cs ms (xs (6 * j + 1)) hj hInv
  refine MI.callVx r [.int (xs (6 * j + 1))] [] C G (C8_restore l D cy mAd iAd gAd rAd aM GI GM GR hGI hGM hGR cs ms (xs (6 * j + 1)) r cs1 h8) gL_law_X8_restore rfl rfl rfl (n := 1) (by decide +kernel) ⟨Nat.le_of_ble_eq_true rfl, Nat.le_of_ble_eq_true rfl⟩ (va_recv hK (vaP_iff.mpr (fun q hq => vaP_iff.mp G.1 q (List.mem_append_left _ (List.mem_append_left _ (List.mem_append_left _ (List.mem_append_left _ hq)))))) (ci := 8) (q0 := 0) rfl rfl) rfl hl.1 rfl (Nat.le_of_ble_eq_true rfl) dL_law_906 ⟨Nat.le_of_ble_eq_true rfl, Nat.le_of_ble_eq_true rfl⟩ (fun U locs G => ?_)
  refine lv_aload_n hx hb dL_law_909 rfl (lv_at hl 2 rfl) ?_
  refine lv_aload_n hx hb dL_law_910 rfl (lv_at hl 0 rfl) ?_
  refine lv_iload_n hx hb dL_law_911 rfl (lv_at hl 3 rfl) ?_
  refine lv_iconst (v := 1) hx hb dL_law_912 (by decide) ?_
  refine lv_iadd hx hb dL_law_913 ?_
  refine g_sld hx hb hX hbl hbA G.2.2 (6 * j + 1) (law_ix j 1 rfl) (by omega) hL dL_law_914 ?_
  refine MI.callVx r [.int (xs (6 * j + 1))] [.int r] C G (C9_restore l D cy mAd iAd gAd rAd aM GI GM GR cs1 ms (xs (6 * j + 1)) r ms1 h9) gL_law_X9_restore rfl rfl rfl (n := 1) (by decide +kernel) ⟨Nat.le_of_ble_eq_true rfl, Nat.le_of_ble_eq_true rfl⟩ (va_recv hK (vaP_iff.mpr (fun q hq => vaP_iff.mp G.1 q (List.mem_append_right _ hq))) (ci := 9) (q0 := 0) rfl rfl) rfl hl.1 rfl (Nat.le_of_ble_eq_true rfl) dL_law_915 ⟨Nat.le_of_ble_eq_true rfl, Nat.le_of_ble_eq_true rfl⟩ (fun U locs G => ?_)
  refine lv_icmp_eq (tgt := 1071) hx hb dL_law_918 (by decide) (fun _ => ?_) (fun c1 => absurd rfl c1)
  exact kk cs1 ms1 _ _ ls hI G hl
set_option maxHeartbeats 4000000 in
set_option maxRecDepth 100000 in
theorem law_c23 {p : Program} {l : Launch} {e : Env} {s : State} {m : MethodId} {below : List Frame} {meth : Method} {c : Code} {D : va_G} {cy : Nat → ClassId} {b L : Nat} {xs : Nat → Int32} {Inv : Nat → CS → MS → Prop} (hO : OPS Inv) (hL : L ≤ 3072) (C : Cx D cy (fun q => s.heap.size ≤ q) p s m meth c code 4 ret wsL_law RL #[Value.ref b]) (hX : va_X b L xs s s.heap) (hbl : b < s.heap.size) (mAd : Nat → Nat) (iAd gAd rAd : Nat → Nat → Nat) (aM : Nat → Nat) (GI GM GR : Nat → Option Nat) (hGI : ∀ k, k < 8 → GI k = some (iAd k 0)) (hGM : ∀ k, k < 2 → GM k = some (gAd k 0)) (hGR : ∀ k, k < 24 → GR k = some (rAd k 0)) (j : Nat) (hj : j < 512) (hjL : 6 * j + 6 ≤ L) (cs : CS) (ms : MS) (hInv : Inv j cs ms) (U : Heap) (locs : List Loc) (ls : Array Slot) (G : Gd D (fun q => s.heap.size ≤ q) s (WW cy mAd iAd gAd rAd aM GI GM GR cs ms) U locs) (hl : lv_has ls 4 [(0, .ref b), (1, .ref (mAd 0)), (2, .ref (aM 0)), (3, .int (nI (6 * j)))]) (kk : ∀ (cs1 : CS) (ms1 : MS) (U : Heap) (locs : List Loc) (ls : Array Slot), Inv (j + 1) cs1 ms1 → Gd D (fun q => s.heap.size ≤ q) s (WW cy mAd iAd gAd rAd aM GI GM GR cs1 ms1) U locs → lv_has ls 4 [(0, .ref b), (1, .ref (mAd 0)), (2, .ref (aM 0)), (3, .int (nI (6 * j)))] → W p l e room_1 s m #[Value.ref b] below meth c U locs 174 5444 (lw_Z below #[Value.ref b] s) (F0 m 1071 ls [])) : W p l e room_1 s m #[Value.ref b] below meth c U locs 174 5444 (lw_Z below #[Value.ref b] s) (F0 m 923 ls []) := by
  obtain ⟨hx, hb, hr, hml, hown, hts, hlk, hK, hA, hE⟩ := id C
  have hbA : ¬ (fun q : Nat => s.heap.size ≤ q) b := Nat.not_le.mpr hbl
  refine lv_aload_n hx hb dL_law_923 rfl (lv_at hl 1 rfl) ?_
  refine lv_aload_n hx hb dL_law_924 rfl (lv_at hl 0 rfl) ?_
  refine lv_iload_n hx hb dL_law_925 rfl (lv_at hl 3 rfl) ?_
  refine lv_iconst (v := 1) hx hb dL_law_926 (by decide) ?_
  refine lv_iadd hx hb dL_law_927 ?_
  refine g_sld hx hb hX hbl hbA G.2.2 (6 * j + 1) (law_ix j 1 rfl) (by omega) hL dL_law_928 ?_
  obtain ⟨r, cs1, ms1, h8, h9, hI⟩ := hO.2.2.2.2.2.2.2.2.2.2.2.2.2.2.2.2.2.2.2.2.2.2.2.2.1 j cs ms (xs (6 * j + 1)) hj hInv
  refine MI.callVx r [.int (xs (6 * j + 1))] [] C G (C8_kind l D cy mAd iAd gAd rAd aM GI GM GR hGI hGM hGR cs ms (xs (6 * j + 1)) r cs1 h8) gL_law_X8_kind rfl rfl rfl (n := 1) (by decide +kernel) ⟨Nat.le_of_ble_eq_true rfl, Nat.le_of_ble_eq_true rfl⟩ (va_recv hK (vaP_iff.mpr (fun q hq => vaP_iff.mp G.1 q (List.mem_append_left _ (List.mem_append_left _ (List.mem_append_left _ (List.mem_append_left _ hq)))))) (ci := 8) (q0 := 0) rfl rfl) rfl hl.1 rfl (Nat.le_of_ble_eq_true rfl) dL_law_929 ⟨Nat.le_of_ble_eq_true rfl, Nat.le_of_ble_eq_true rfl⟩ (fun U locs G => ?_)
  refine lv_aload_n hx hb dL_law_932 rfl (lv_at hl 2 rfl) ?_
  refine lv_aload_n hx hb dL_law_933 rfl (lv_at hl 0 rfl) ?_
  refine lv_iload_n hx hb dL_law_934 rfl (lv_at hl 3 rfl) ?_
  refine lv_iconst (v := 1) hx hb dL_law_935 (by decide) ?_
  refine lv_iadd hx hb dL_law_936 ?_
  refine g_sld hx hb hX hbl hbA G.2.2 (6 * j + 1) (law_ix j 1 rfl) (by omega) hL dL_law_937 ?_
  refine MI.callVx r [.int (xs (6 * j + 1))] [.int r] C G (C9_kind l D cy mAd iAd gAd rAd aM GI GM GR cs1 ms (xs (6 * j + 1)) r ms1 h9) gL_law_X9_kind rfl rfl rfl (n := 1) (by decide +kernel) ⟨Nat.le_of_ble_eq_true rfl, Nat.le_of_ble_eq_true rfl⟩ (va_recv hK (vaP_iff.mpr (fun q hq => vaP_iff.mp G.1 q (List.mem_append_right _ hq))) (ci := 9) (q0 := 0) rfl rfl) rfl hl.1 rfl (Nat.le_of_ble_eq_true rfl) dL_law_938 ⟨Nat.le_of_ble_eq_true rfl, Nat.le_of_ble_eq_true rfl⟩ (fun U locs G => ?_)
  refine lv_icmp_eq (tgt := 1071) hx hb dL_law_941 (by decide) (fun _ => ?_) (fun c1 => absurd rfl c1)
  exact kk cs1 ms1 _ _ ls hI G hl
set_option maxHeartbeats 4000000 in
set_option maxRecDepth 100000 in
theorem law_c24 {p : Program} {l : Launch} {e : Env} {s : State} {m : MethodId} {below : List Frame} {meth : Method} {c : Code} {D : va_G} {cy : Nat → ClassId} {b L : Nat} {xs : Nat → Int32} {Inv : Nat → CS → MS → Prop} (hO : OPS Inv) (hL : L ≤ 3072) (C : Cx D cy (fun q => s.heap.size ≤ q) p s m meth c code 4 ret wsL_law RL #[Value.ref b]) (hX : va_X b L xs s s.heap) (hbl : b < s.heap.size) (mAd : Nat → Nat) (iAd gAd rAd : Nat → Nat → Nat) (aM : Nat → Nat) (GI GM GR : Nat → Option Nat) (hGI : ∀ k, k < 8 → GI k = some (iAd k 0)) (hGM : ∀ k, k < 2 → GM k = some (gAd k 0)) (hGR : ∀ k, k < 24 → GR k = some (rAd k 0)) (j : Nat) (hj : j < 512) (hjL : 6 * j + 6 ≤ L) (cs : CS) (ms : MS) (hInv : Inv j cs ms) (U : Heap) (locs : List Loc) (ls : Array Slot) (G : Gd D (fun q => s.heap.size ≤ q) s (WW cy mAd iAd gAd rAd aM GI GM GR cs ms) U locs) (hl : lv_has ls 4 [(0, .ref b), (1, .ref (mAd 0)), (2, .ref (aM 0)), (3, .int (nI (6 * j)))]) (kk : ∀ (cs1 : CS) (ms1 : MS) (U : Heap) (locs : List Loc) (ls : Array Slot), Inv (j + 1) cs1 ms1 → Gd D (fun q => s.heap.size ≤ q) s (WW cy mAd iAd gAd rAd aM GI GM GR cs1 ms1) U locs → lv_has ls 4 [(0, .ref b), (1, .ref (mAd 0)), (2, .ref (aM 0)), (3, .int (nI (6 * j)))] → W p l e room_1 s m #[Value.ref b] below meth c U locs 174 5444 (lw_Z below #[Value.ref b] s) (F0 m 1071 ls [])) : W p l e room_1 s m #[Value.ref b] below meth c U locs 174 5444 (lw_Z below #[Value.ref b] s) (F0 m 946 ls []) := by
  obtain ⟨hx, hb, hr, hml, hown, hts, hlk, hK, hA, hE⟩ := id C
  have hbA : ¬ (fun q : Nat => s.heap.size ≤ q) b := Nat.not_le.mpr hbl
  refine lv_aload_n hx hb dL_law_946 rfl (lv_at hl 1 rfl) ?_
  refine lv_aload_n hx hb dL_law_947 rfl (lv_at hl 0 rfl) ?_
  refine lv_iload_n hx hb dL_law_948 rfl (lv_at hl 3 rfl) ?_
  refine lv_iconst (v := 1) hx hb dL_law_949 (by decide) ?_
  refine lv_iadd hx hb dL_law_950 ?_
  refine g_sld hx hb hX hbl hbA G.2.2 (6 * j + 1) (law_ix j 1 rfl) (by omega) hL dL_law_951 ?_
  refine lv_aload_n hx hb dL_law_952 rfl (lv_at hl 0 rfl) ?_
  refine lv_iload_n hx hb dL_law_953 rfl (lv_at hl 3 rfl) ?_
  refine lv_iconst (v := 2) hx hb dL_law_954 (by decide) ?_
  refine lv_iadd hx hb dL_law_955 ?_
  refine g_sld hx hb hX hbl hbA G.2.2 (6 * j + 2) (law_ix j 2 rfl) (by omega) hL dL_law_956 ?_
  obtain ⟨r, cs1, ms1, h8, h9, hI⟩ := hO.2.2.2.2.2.2.2.2.2.2.2.2.2.2.2.2.2.2.2.2.2.2.2.2.2.1 j cs ms (xs (6 * j + 1)) (xs (6 * j + 2)) hj hInv
  refine MI.callVx r [.int (xs (6 * j + 1)), .int (xs (6 * j + 2))] [] C G (C8_as l D cy mAd iAd gAd rAd aM GI GM GR hGI hGM hGR cs ms (xs (6 * j + 1)) (xs (6 * j + 2)) r cs1 h8) gL_law_X8_as rfl rfl rfl (n := 2) (by decide +kernel) ⟨Nat.le_of_ble_eq_true rfl, Nat.le_of_ble_eq_true rfl⟩ (va_recv hK (vaP_iff.mpr (fun q hq => vaP_iff.mp G.1 q (List.mem_append_left _ (List.mem_append_left _ (List.mem_append_left _ (List.mem_append_left _ hq)))))) (ci := 8) (q0 := 0) rfl rfl) rfl hl.1 rfl (Nat.le_of_ble_eq_true rfl) dL_law_957 ⟨Nat.le_of_ble_eq_true rfl, Nat.le_of_ble_eq_true rfl⟩ (fun U locs G => ?_)
  refine lv_aload_n hx hb dL_law_960 rfl (lv_at hl 2 rfl) ?_
  refine lv_aload_n hx hb dL_law_961 rfl (lv_at hl 0 rfl) ?_
  refine lv_iload_n hx hb dL_law_962 rfl (lv_at hl 3 rfl) ?_
  refine lv_iconst (v := 1) hx hb dL_law_963 (by decide) ?_
  refine lv_iadd hx hb dL_law_964 ?_
  refine g_sld hx hb hX hbl hbA G.2.2 (6 * j + 1) (law_ix j 1 rfl) (by omega) hL dL_law_965 ?_
  refine lv_aload_n hx hb dL_law_966 rfl (lv_at hl 0 rfl) ?_
  refine lv_iload_n hx hb dL_law_967 rfl (lv_at hl 3 rfl) ?_
  refine lv_iconst (v := 2) hx hb dL_law_968 (by decide) ?_
  refine lv_iadd hx hb dL_law_969 ?_
  refine g_sld hx hb hX hbl hbA G.2.2 (6 * j + 2) (law_ix j 2 rfl) (by omega) hL dL_law_970 ?_
  refine MI.callVx r [.int (xs (6 * j + 1)), .int (xs (6 * j + 2))] [.int r] C G (C9_as l D cy mAd iAd gAd rAd aM GI GM GR cs1 ms (xs (6 * j + 1)) (xs (6 * j + 2)) r ms1 h9) gL_law_X9_as rfl rfl rfl (n := 2) (by decide +kernel) ⟨Nat.le_of_ble_eq_true rfl, Nat.le_of_ble_eq_true rfl⟩ (va_recv hK (vaP_iff.mpr (fun q hq => vaP_iff.mp G.1 q (List.mem_append_right _ hq))) (ci := 9) (q0 := 0) rfl rfl) rfl hl.1 rfl (Nat.le_of_ble_eq_true rfl) dL_law_971 ⟨Nat.le_of_ble_eq_true rfl, Nat.le_of_ble_eq_true rfl⟩ (fun U locs G => ?_)
  refine lv_icmp_eq (tgt := 1071) hx hb dL_law_974 (by decide) (fun _ => ?_) (fun c1 => absurd rfl c1)
  exact kk cs1 ms1 _ _ ls hI G hl
set_option maxHeartbeats 4000000 in
set_option maxRecDepth 100000 in
theorem law_c25 {p : Program} {l : Launch} {e : Env} {s : State} {m : MethodId} {below : List Frame} {meth : Method} {c : Code} {D : va_G} {cy : Nat → ClassId} {b L : Nat} {xs : Nat → Int32} {Inv : Nat → CS → MS → Prop} (hO : OPS Inv) (hL : L ≤ 3072) (C : Cx D cy (fun q => s.heap.size ≤ q) p s m meth c code 4 ret wsL_law RL #[Value.ref b]) (hX : va_X b L xs s s.heap) (hbl : b < s.heap.size) (mAd : Nat → Nat) (iAd gAd rAd : Nat → Nat → Nat) (aM : Nat → Nat) (GI GM GR : Nat → Option Nat) (hGI : ∀ k, k < 8 → GI k = some (iAd k 0)) (hGM : ∀ k, k < 2 → GM k = some (gAd k 0)) (hGR : ∀ k, k < 24 → GR k = some (rAd k 0)) (j : Nat) (hj : j < 512) (hjL : 6 * j + 6 ≤ L) (cs : CS) (ms : MS) (hInv : Inv j cs ms) (U : Heap) (locs : List Loc) (ls : Array Slot) (G : Gd D (fun q => s.heap.size ≤ q) s (WW cy mAd iAd gAd rAd aM GI GM GR cs ms) U locs) (hl : lv_has ls 4 [(0, .ref b), (1, .ref (mAd 0)), (2, .ref (aM 0)), (3, .int (nI (6 * j)))]) (kk : ∀ (cs1 : CS) (ms1 : MS) (U : Heap) (locs : List Loc) (ls : Array Slot), Inv (j + 1) cs1 ms1 → Gd D (fun q => s.heap.size ≤ q) s (WW cy mAd iAd gAd rAd aM GI GM GR cs1 ms1) U locs → lv_has ls 4 [(0, .ref b), (1, .ref (mAd 0)), (2, .ref (aM 0)), (3, .int (nI (6 * j)))] → W p l e room_1 s m #[Value.ref b] below meth c U locs 174 5444 (lw_Z below #[Value.ref b] s) (F0 m 1071 ls [])) : W p l e room_1 s m #[Value.ref b] below meth c U locs 174 5444 (lw_Z below #[Value.ref b] s) (F0 m 979 ls []) := by
  obtain ⟨hx, hb, hr, hml, hown, hts, hlk, hK, hA, hE⟩ := id C
  have hbA : ¬ (fun q : Nat => s.heap.size ≤ q) b := Nat.not_le.mpr hbl
  refine lv_aload_n hx hb dL_law_979 rfl (lv_at hl 1 rfl) ?_
  refine lv_aload_n hx hb dL_law_980 rfl (lv_at hl 0 rfl) ?_
  refine lv_iload_n hx hb dL_law_981 rfl (lv_at hl 3 rfl) ?_
  refine lv_iconst (v := 1) hx hb dL_law_982 (by decide) ?_
  refine lv_iadd hx hb dL_law_983 ?_
  refine g_sld hx hb hX hbl hbA G.2.2 (6 * j + 1) (law_ix j 1 rfl) (by omega) hL dL_law_984 ?_
  refine lv_aload_n hx hb dL_law_985 rfl (lv_at hl 0 rfl) ?_
  refine lv_iload_n hx hb dL_law_986 rfl (lv_at hl 3 rfl) ?_
  refine lv_iconst (v := 2) hx hb dL_law_987 (by decide) ?_
  refine lv_iadd hx hb dL_law_988 ?_
  refine g_sld hx hb hX hbl hbA G.2.2 (6 * j + 2) (law_ix j 2 rfl) (by omega) hL dL_law_989 ?_
  obtain ⟨r, cs1, ms1, h8, h9, hI⟩ := hO.2.2.2.2.2.2.2.2.2.2.2.2.2.2.2.2.2.2.2.2.2.2.2.2.2.2.1 j cs ms (xs (6 * j + 1)) (xs (6 * j + 2)) hj hInv
  refine MI.callVx r [.int (xs (6 * j + 1)), .int (xs (6 * j + 2))] [] C G (C8_ask l D cy mAd iAd gAd rAd aM GI GM GR hGI hGM hGR cs ms (xs (6 * j + 1)) (xs (6 * j + 2)) r cs1 h8) gL_law_X8_ask rfl rfl rfl (n := 2) (by decide +kernel) ⟨Nat.le_of_ble_eq_true rfl, Nat.le_of_ble_eq_true rfl⟩ (va_recv hK (vaP_iff.mpr (fun q hq => vaP_iff.mp G.1 q (List.mem_append_left _ (List.mem_append_left _ (List.mem_append_left _ (List.mem_append_left _ hq)))))) (ci := 8) (q0 := 0) rfl rfl) rfl hl.1 rfl (Nat.le_of_ble_eq_true rfl) dL_law_990 ⟨Nat.le_of_ble_eq_true rfl, Nat.le_of_ble_eq_true rfl⟩ (fun U locs G => ?_)
  refine lv_aload_n hx hb dL_law_993 rfl (lv_at hl 2 rfl) ?_
  refine lv_aload_n hx hb dL_law_994 rfl (lv_at hl 0 rfl) ?_
  refine lv_iload_n hx hb dL_law_995 rfl (lv_at hl 3 rfl) ?_
  refine lv_iconst (v := 1) hx hb dL_law_996 (by decide) ?_
  refine lv_iadd hx hb dL_law_997 ?_
  refine g_sld hx hb hX hbl hbA G.2.2 (6 * j + 1) (law_ix j 1 rfl) (by omega) hL dL_law_998 ?_
  refine lv_aload_n hx hb dL_law_999 rfl (lv_at hl 0 rfl) ?_
  refine lv_iload_n hx hb dL_law_1000 rfl (lv_at hl 3 rfl) ?_
  refine lv_iconst (v := 2) hx hb dL_law_1001 (by decide) ?_
  refine lv_iadd hx hb dL_law_1002 ?_
  refine g_sld hx hb hX hbl hbA G.2.2 (6 * j + 2) (law_ix j 2 rfl) (by omega) hL dL_law_1003 ?_
  refine MI.callVx r [.int (xs (6 * j + 1)), .int (xs (6 * j + 2))] [.int r] C G (C9_ask l D cy mAd iAd gAd rAd aM GI GM GR cs1 ms (xs (6 * j + 1)) (xs (6 * j + 2)) r ms1 h9) gL_law_X9_ask rfl rfl rfl (n := 2) (by decide +kernel) ⟨Nat.le_of_ble_eq_true rfl, Nat.le_of_ble_eq_true rfl⟩ (va_recv hK (vaP_iff.mpr (fun q hq => vaP_iff.mp G.1 q (List.mem_append_right _ hq))) (ci := 9) (q0 := 0) rfl rfl) rfl hl.1 rfl (Nat.le_of_ble_eq_true rfl) dL_law_1004 ⟨Nat.le_of_ble_eq_true rfl, Nat.le_of_ble_eq_true rfl⟩ (fun U locs G => ?_)
  refine lv_icmp_eq (tgt := 1071) hx hb dL_law_1007 (by decide) (fun _ => ?_) (fun c1 => absurd rfl c1)
  exact kk cs1 ms1 _ _ ls hI G hl
set_option maxHeartbeats 4000000 in
set_option maxRecDepth 100000 in
theorem law_c26 {p : Program} {l : Launch} {e : Env} {s : State} {m : MethodId} {below : List Frame} {meth : Method} {c : Code} {D : va_G} {cy : Nat → ClassId} {b L : Nat} {xs : Nat → Int32} {Inv : Nat → CS → MS → Prop} (hO : OPS Inv) (hL : L ≤ 3072) (C : Cx D cy (fun q => s.heap.size ≤ q) p s m meth c code 4 ret wsL_law RL #[Value.ref b]) (hX : va_X b L xs s s.heap) (hbl : b < s.heap.size) (mAd : Nat → Nat) (iAd gAd rAd : Nat → Nat → Nat) (aM : Nat → Nat) (GI GM GR : Nat → Option Nat) (hGI : ∀ k, k < 8 → GI k = some (iAd k 0)) (hGM : ∀ k, k < 2 → GM k = some (gAd k 0)) (hGR : ∀ k, k < 24 → GR k = some (rAd k 0)) (j : Nat) (hj : j < 512) (hjL : 6 * j + 6 ≤ L) (cs : CS) (ms : MS) (hInv : Inv j cs ms) (U : Heap) (locs : List Loc) (ls : Array Slot) (G : Gd D (fun q => s.heap.size ≤ q) s (WW cy mAd iAd gAd rAd aM GI GM GR cs ms) U locs) (hl : lv_has ls 4 [(0, .ref b), (1, .ref (mAd 0)), (2, .ref (aM 0)), (3, .int (nI (6 * j)))]) (kk : ∀ (cs1 : CS) (ms1 : MS) (U : Heap) (locs : List Loc) (ls : Array Slot), Inv (j + 1) cs1 ms1 → Gd D (fun q => s.heap.size ≤ q) s (WW cy mAd iAd gAd rAd aM GI GM GR cs1 ms1) U locs → lv_has ls 4 [(0, .ref b), (1, .ref (mAd 0)), (2, .ref (aM 0)), (3, .int (nI (6 * j)))] → W p l e room_1 s m #[Value.ref b] below meth c U locs 174 5444 (lw_Z below #[Value.ref b] s) (F0 m 1071 ls [])) : W p l e room_1 s m #[Value.ref b] below meth c U locs 174 5444 (lw_Z below #[Value.ref b] s) (F0 m 1012 ls []) := by
  obtain ⟨hx, hb, hr, hml, hown, hts, hlk, hK, hA, hE⟩ := id C
  have hbA : ¬ (fun q : Nat => s.heap.size ≤ q) b := Nat.not_le.mpr hbl
  refine lv_aload_n hx hb dL_law_1012 rfl (lv_at hl 1 rfl) ?_
  refine lv_aload_n hx hb dL_law_1013 rfl (lv_at hl 0 rfl) ?_
  refine lv_iload_n hx hb dL_law_1014 rfl (lv_at hl 3 rfl) ?_
  refine lv_iconst (v := 1) hx hb dL_law_1015 (by decide) ?_
  refine lv_iadd hx hb dL_law_1016 ?_
  refine g_sld hx hb hX hbl hbA G.2.2 (6 * j + 1) (law_ix j 1 rfl) (by omega) hL dL_law_1017 ?_
  obtain ⟨r, cs1, ms1, h8, h9, hI⟩ := hO.2.2.2.2.2.2.2.2.2.2.2.2.2.2.2.2.2.2.2.2.2.2.2.2.2.2.2.1 j cs ms (xs (6 * j + 1)) hj hInv
  refine MI.callVx r [.int (xs (6 * j + 1))] [] C G (C8_trace l D cy mAd iAd gAd rAd aM GI GM GR hGI hGM hGR cs ms (xs (6 * j + 1)) r cs1 h8) gL_law_X8_trace rfl rfl rfl (n := 1) (by decide +kernel) ⟨Nat.le_of_ble_eq_true rfl, Nat.le_of_ble_eq_true rfl⟩ (va_recv hK (vaP_iff.mpr (fun q hq => vaP_iff.mp G.1 q (List.mem_append_left _ (List.mem_append_left _ (List.mem_append_left _ (List.mem_append_left _ hq)))))) (ci := 8) (q0 := 0) rfl rfl) rfl hl.1 rfl (Nat.le_of_ble_eq_true rfl) dL_law_1018 ⟨Nat.le_of_ble_eq_true rfl, Nat.le_of_ble_eq_true rfl⟩ (fun U locs G => ?_)
  refine lv_aload_n hx hb dL_law_1021 rfl (lv_at hl 2 rfl) ?_
  refine lv_aload_n hx hb dL_law_1022 rfl (lv_at hl 0 rfl) ?_
  refine lv_iload_n hx hb dL_law_1023 rfl (lv_at hl 3 rfl) ?_
  refine lv_iconst (v := 1) hx hb dL_law_1024 (by decide) ?_
  refine lv_iadd hx hb dL_law_1025 ?_
  refine g_sld hx hb hX hbl hbA G.2.2 (6 * j + 1) (law_ix j 1 rfl) (by omega) hL dL_law_1026 ?_
  refine MI.callVx r [.int (xs (6 * j + 1))] [.int r] C G (C9_trace l D cy mAd iAd gAd rAd aM GI GM GR cs1 ms (xs (6 * j + 1)) r ms1 h9) gL_law_X9_trace rfl rfl rfl (n := 1) (by decide +kernel) ⟨Nat.le_of_ble_eq_true rfl, Nat.le_of_ble_eq_true rfl⟩ (va_recv hK (vaP_iff.mpr (fun q hq => vaP_iff.mp G.1 q (List.mem_append_right _ hq))) (ci := 9) (q0 := 0) rfl rfl) rfl hl.1 rfl (Nat.le_of_ble_eq_true rfl) dL_law_1027 ⟨Nat.le_of_ble_eq_true rfl, Nat.le_of_ble_eq_true rfl⟩ (fun U locs G => ?_)
  refine lv_icmp_eq (tgt := 1071) hx hb dL_law_1030 (by decide) (fun _ => ?_) (fun c1 => absurd rfl c1)
  exact kk cs1 ms1 _ _ ls hI G hl
set_option maxHeartbeats 4000000 in
set_option maxRecDepth 100000 in
theorem law_c27 {p : Program} {l : Launch} {e : Env} {s : State} {m : MethodId} {below : List Frame} {meth : Method} {c : Code} {D : va_G} {cy : Nat → ClassId} {b L : Nat} {xs : Nat → Int32} {Inv : Nat → CS → MS → Prop} (hO : OPS Inv) (hL : L ≤ 3072) (C : Cx D cy (fun q => s.heap.size ≤ q) p s m meth c code 4 ret wsL_law RL #[Value.ref b]) (hX : va_X b L xs s s.heap) (hbl : b < s.heap.size) (mAd : Nat → Nat) (iAd gAd rAd : Nat → Nat → Nat) (aM : Nat → Nat) (GI GM GR : Nat → Option Nat) (hGI : ∀ k, k < 8 → GI k = some (iAd k 0)) (hGM : ∀ k, k < 2 → GM k = some (gAd k 0)) (hGR : ∀ k, k < 24 → GR k = some (rAd k 0)) (j : Nat) (hj : j < 512) (hjL : 6 * j + 6 ≤ L) (cs : CS) (ms : MS) (hInv : Inv j cs ms) (U : Heap) (locs : List Loc) (ls : Array Slot) (G : Gd D (fun q => s.heap.size ≤ q) s (WW cy mAd iAd gAd rAd aM GI GM GR cs ms) U locs) (hl : lv_has ls 4 [(0, .ref b), (1, .ref (mAd 0)), (2, .ref (aM 0)), (3, .int (nI (6 * j)))]) (kk : ∀ (cs1 : CS) (ms1 : MS) (U : Heap) (locs : List Loc) (ls : Array Slot), Inv (j + 1) cs1 ms1 → Gd D (fun q => s.heap.size ≤ q) s (WW cy mAd iAd gAd rAd aM GI GM GR cs1 ms1) U locs → lv_has ls 4 [(0, .ref b), (1, .ref (mAd 0)), (2, .ref (aM 0)), (3, .int (nI (6 * j)))] → W p l e room_1 s m #[Value.ref b] below meth c U locs 174 5444 (lw_Z below #[Value.ref b] s) (F0 m 1071 ls [])) : W p l e room_1 s m #[Value.ref b] below meth c U locs 174 5444 (lw_Z below #[Value.ref b] s) (F0 m 1035 ls []) := by
  obtain ⟨hx, hb, hr, hml, hown, hts, hlk, hK, hA, hE⟩ := id C
  have hbA : ¬ (fun q : Nat => s.heap.size ≤ q) b := Nat.not_le.mpr hbl
  refine lv_aload_n hx hb dL_law_1035 rfl (lv_at hl 1 rfl) ?_
  refine lv_aload_n hx hb dL_law_1036 rfl (lv_at hl 0 rfl) ?_
  refine lv_iload_n hx hb dL_law_1037 rfl (lv_at hl 3 rfl) ?_
  refine lv_iconst (v := 1) hx hb dL_law_1038 (by decide) ?_
  refine lv_iadd hx hb dL_law_1039 ?_
  refine g_sld hx hb hX hbl hbA G.2.2 (6 * j + 1) (law_ix j 1 rfl) (by omega) hL dL_law_1040 ?_
  obtain ⟨r, cs1, ms1, h8, h9, hI⟩ := hO.2.2.2.2.2.2.2.2.2.2.2.2.2.2.2.2.2.2.2.2.2.2.2.2.2.2.2.2.1 j cs ms (xs (6 * j + 1)) hj hInv
  refine MI.callVx r [.int (xs (6 * j + 1))] [] C G (C8_count l D cy mAd iAd gAd rAd aM GI GM GR hGI hGM hGR cs ms (xs (6 * j + 1)) r cs1 h8) gL_law_X8_count rfl rfl rfl (n := 1) (by decide +kernel) ⟨Nat.le_of_ble_eq_true rfl, Nat.le_of_ble_eq_true rfl⟩ (va_recv hK (vaP_iff.mpr (fun q hq => vaP_iff.mp G.1 q (List.mem_append_left _ (List.mem_append_left _ (List.mem_append_left _ (List.mem_append_left _ hq)))))) (ci := 8) (q0 := 0) rfl rfl) rfl hl.1 rfl (Nat.le_of_ble_eq_true rfl) dL_law_1041 ⟨Nat.le_of_ble_eq_true rfl, Nat.le_of_ble_eq_true rfl⟩ (fun U locs G => ?_)
  refine lv_aload_n hx hb dL_law_1044 rfl (lv_at hl 2 rfl) ?_
  refine lv_aload_n hx hb dL_law_1045 rfl (lv_at hl 0 rfl) ?_
  refine lv_iload_n hx hb dL_law_1046 rfl (lv_at hl 3 rfl) ?_
  refine lv_iconst (v := 1) hx hb dL_law_1047 (by decide) ?_
  refine lv_iadd hx hb dL_law_1048 ?_
  refine g_sld hx hb hX hbl hbA G.2.2 (6 * j + 1) (law_ix j 1 rfl) (by omega) hL dL_law_1049 ?_
  refine MI.callVx r [.int (xs (6 * j + 1))] [.int r] C G (C9_count l D cy mAd iAd gAd rAd aM GI GM GR cs1 ms (xs (6 * j + 1)) r ms1 h9) gL_law_X9_count rfl rfl rfl (n := 1) (by decide +kernel) ⟨Nat.le_of_ble_eq_true rfl, Nat.le_of_ble_eq_true rfl⟩ (va_recv hK (vaP_iff.mpr (fun q hq => vaP_iff.mp G.1 q (List.mem_append_right _ hq))) (ci := 9) (q0 := 0) rfl rfl) rfl hl.1 rfl (Nat.le_of_ble_eq_true rfl) dL_law_1050 ⟨Nat.le_of_ble_eq_true rfl, Nat.le_of_ble_eq_true rfl⟩ (fun U locs G => ?_)
  refine lv_icmp_eq (tgt := 1071) hx hb dL_law_1053 (by decide) (fun _ => ?_) (fun c1 => absurd rfl c1)
  exact kk cs1 ms1 _ _ ls hI G hl
set_option maxHeartbeats 4000000 in
set_option maxRecDepth 100000 in
theorem law_c28 {p : Program} {l : Launch} {e : Env} {s : State} {m : MethodId} {below : List Frame} {meth : Method} {c : Code} {D : va_G} {cy : Nat → ClassId} {b L : Nat} {xs : Nat → Int32} {Inv : Nat → CS → MS → Prop} (hO : OPS Inv) (hL : L ≤ 3072) (C : Cx D cy (fun q => s.heap.size ≤ q) p s m meth c code 4 ret wsL_law RL #[Value.ref b]) (hX : va_X b L xs s s.heap) (hbl : b < s.heap.size) (mAd : Nat → Nat) (iAd gAd rAd : Nat → Nat → Nat) (aM : Nat → Nat) (GI GM GR : Nat → Option Nat) (hGI : ∀ k, k < 8 → GI k = some (iAd k 0)) (hGM : ∀ k, k < 2 → GM k = some (gAd k 0)) (hGR : ∀ k, k < 24 → GR k = some (rAd k 0)) (j : Nat) (hj : j < 512) (hjL : 6 * j + 6 ≤ L) (cs : CS) (ms : MS) (hInv : Inv j cs ms) (U : Heap) (locs : List Loc) (ls : Array Slot) (G : Gd D (fun q => s.heap.size ≤ q) s (WW cy mAd iAd gAd rAd aM GI GM GR cs ms) U locs) (hl : lv_has ls 4 [(0, .ref b), (1, .ref (mAd 0)), (2, .ref (aM 0)), (3, .int (nI (6 * j)))]) (kk : ∀ (cs1 : CS) (ms1 : MS) (U : Heap) (locs : List Loc) (ls : Array Slot), Inv (j + 1) cs1 ms1 → Gd D (fun q => s.heap.size ≤ q) s (WW cy mAd iAd gAd rAd aM GI GM GR cs1 ms1) U locs → lv_has ls 4 [(0, .ref b), (1, .ref (mAd 0)), (2, .ref (aM 0)), (3, .int (nI (6 * j)))] → W p l e room_1 s m #[Value.ref b] below meth c U locs 174 5444 (lw_Z below #[Value.ref b] s) (F0 m 1071 ls [])) : W p l e room_1 s m #[Value.ref b] below meth c U locs 174 5444 (lw_Z below #[Value.ref b] s) (F0 m 1058 ls []) := by
  obtain ⟨hx, hb, hr, hml, hown, hts, hlk, hK, hA, hE⟩ := id C
  have hbA : ¬ (fun q : Nat => s.heap.size ≤ q) b := Nat.not_le.mpr hbl
  refine lv_aload_n hx hb dL_law_1058 rfl (lv_at hl 1 rfl) ?_
  obtain ⟨r, cs1, ms1, h8, h9, hI⟩ := hO.2.2.2.2.2.2.2.2.2.2.2.2.2.2.2.2.2.2.2.2.2.2.2.2.2.2.2.2.2 j cs ms  hj hInv
  refine MI.callVx r [] [] C G (C8_status l D cy mAd iAd gAd rAd aM GI GM GR hGI hGM hGR cs ms  r cs1 h8) gL_law_X8_status rfl rfl rfl (n := 0) (by decide +kernel) ⟨Nat.le_of_ble_eq_true rfl, Nat.le_of_ble_eq_true rfl⟩ (va_recv hK (vaP_iff.mpr (fun q hq => vaP_iff.mp G.1 q (List.mem_append_left _ (List.mem_append_left _ (List.mem_append_left _ (List.mem_append_left _ hq)))))) (ci := 8) (q0 := 0) rfl rfl) rfl hl.1 rfl (Nat.le_of_ble_eq_true rfl) dL_law_1059 ⟨Nat.le_of_ble_eq_true rfl, Nat.le_of_ble_eq_true rfl⟩ (fun U locs G => ?_)
  refine lv_aload_n hx hb dL_law_1062 rfl (lv_at hl 2 rfl) ?_
  refine MI.callVx r [] [.int r] C G (C9_status l D cy mAd iAd gAd rAd aM GI GM GR cs1 ms  r ms1 h9) gL_law_X9_status rfl rfl rfl (n := 0) (by decide +kernel) ⟨Nat.le_of_ble_eq_true rfl, Nat.le_of_ble_eq_true rfl⟩ (va_recv hK (vaP_iff.mpr (fun q hq => vaP_iff.mp G.1 q (List.mem_append_right _ hq))) (ci := 9) (q0 := 0) rfl rfl) rfl hl.1 rfl (Nat.le_of_ble_eq_true rfl) dL_law_1063 ⟨Nat.le_of_ble_eq_true rfl, Nat.le_of_ble_eq_true rfl⟩ (fun U locs G => ?_)
  refine lv_icmp_eq (tgt := 1071) hx hb dL_law_1066 (by decide) (fun _ => ?_) (fun c1 => absurd rfl c1)
  exact kk cs1 ms1 _ _ ls hI G hl
set_option maxHeartbeats 4000000 in
set_option maxRecDepth 100000 in
theorem law_loop {p : Program} {l : Launch} {e : Env} {s : State} {m : MethodId} {below : List Frame} {meth : Method} {c : Code} {D : va_G} {cy : Nat → ClassId} {b L : Nat} {xs : Nat → Int32} {Inv : Nat → CS → MS → Prop} (hO : OPS Inv) (hL : L ≤ 3072) (C : Cx D cy (fun q => s.heap.size ≤ q) p s m meth c code 4 ret wsL_law RL #[Value.ref b]) (hX : va_X b L xs s s.heap) (hbl : b < s.heap.size) (mAd : Nat → Nat) (iAd gAd rAd : Nat → Nat → Nat) (aM : Nat → Nat) (GI GM GR : Nat → Option Nat) (hGI : ∀ k, k < 8 → GI k = some (iAd k 0)) (hGM : ∀ k, k < 2 → GM k = some (gAd k 0)) (hGR : ∀ k, k < 24 → GR k = some (rAd k 0)) :
    ∀ (n j : Nat) (cs : CS) (ms : MS), L ≤ 6 * j + n → 6 * j ≤ L → Inv j cs ms → ∀ (U : Heap) (locs : List Loc) (ls : Array Slot), Gd D (fun q => s.heap.size ≤ q) s (WW cy mAd iAd gAd rAd aM GI GM GR cs ms) U locs → lv_has ls 4 [(0, .ref b), (1, .ref (mAd 0)), (2, .ref (aM 0)), (3, .int (nI (6 * j)))] → W p l e room_1 s m #[Value.ref b] below meth c U locs 174 5444 (lw_Z below #[Value.ref b] s) (F0 m 18 ls []) := by
  obtain ⟨hx, hb, hr, hml, hown, hts, hlk, hK, hA, hE⟩ := id C
  have hbA : ¬ (fun q : Nat => s.heap.size ≤ q) b := Nat.not_le.mpr hbl
  intro n
  induction n using Nat.strongRecOn with
  | ind n ih =>
    intro j cs ms hn hjL hInv U locs ls G hl
    refine lv_iload_n hx hb dL_law_18 rfl (lv_at hl 3 rfl) ?_
    refine lv_aload_n hx hb dL_law_19 rfl (lv_at hl 0 rfl) ?_
    refine va_slen hx hb hX hbl hbA G.2.2 dL_law_20 ?_
    refine lv_bipush (v := 6) hx hb dL_law_21 (by decide) ?_
    refine lv_isub hx hb dL_law_23 ?_
    refine lv_icmp_gt (tgt := 1077) hx hb dL_law_24 (by decide) (fun c1 => ?_) (fun c1 => ?_)
    · refine lv_iconst (v := 1) hx hb dL_law_1077 (by decide) ?_
      refine va_forget (fun q hq => G.2.2.2.2 q hq) ?_
      refine W.widen (k := 600000) (n := 7302250) (Nat.le_of_ble_eq_true rfl) (Nat.le_of_ble_eq_true rfl) ?_
      exact lw_ret hx hb hr hlk dL_law_1078
    · have hin : 6 * j + 6 ≤ L := law_in hL (by omega) c1
      have kk : ∀ (cs1 : CS) (ms1 : MS) (U : Heap) (locs : List Loc) (ls : Array Slot), Inv (j + 1) cs1 ms1 → Gd D (fun q => s.heap.size ≤ q) s (WW cy mAd iAd gAd rAd aM GI GM GR cs1 ms1) U locs → lv_has ls 4 [(0, .ref b), (1, .ref (mAd 0)), (2, .ref (aM 0)), (3, .int (nI (6 * j)))] → W p l e room_1 s m #[Value.ref b] below meth c U locs 174 5444 (lw_Z below #[Value.ref b] s) (F0 m 1071 ls []) := by
        intro cs1 ms1 U locs ls hI G hl
        refine lv_iinc (v := nI (6 * (j + 1))) (lv' := [(3, .int (nI (6 * (j + 1)))), (0, .ref b), (1, .ref (mAd 0)), (2, .ref (aM 0))]) hx hb dL_law_1071 hl (k := 3) rfl (by rw [show 6 * (j + 1) = 6 * j + 6 by omega]; exact law_ix j 6 rfl) (by decide) rfl (fun ls hl => ?_)
        refine lv_goto (tgt := 18) hx hb dL_law_1074 (by decide) ?_
        exact ih (L - 6 * (j + 1)) (by omega) (j + 1) cs1 ms1 (by omega) (by omega) hI _ _ ls G (lv_sub hl [1, 2, 3, 0] rfl)
      refine lv_aload_n hx hb dL_law_27 rfl (lv_at hl 0 rfl) ?_
      refine lv_iload_n hx hb dL_law_28 rfl (lv_at hl 3 rfl) ?_
      refine g_sld hx hb hX hbl hbA G.2.2 (6 * j) rfl (by omega) hL dL_law_29 ?_
      refine lv_bipush (v := 31) hx hb dL_law_30 (by decide) ?_
      refine lv_iand hx hb dL_law_32 ?_
      generalize xs (6 * j) &&& 31 = x
      by_cases e0 : x = 0
      · refine lv_tableIn (off := 131) (tgt := 164) hx hb dL_law_33 (by rw [e0]; decide) (by rw [e0]; decide) (by rw [e0]; decide) (by decide) ?_
        exact law_c0 hO hL C hX hbl mAd iAd gAd rAd aM GI GM GR hGI hGM hGR j (by omega) hin cs ms hInv _ _ ls G hl kk
      by_cases e1 : x = 1
      · refine lv_tableIn (off := 174) (tgt := 207) hx hb dL_law_33 (by rw [e1]; decide) (by rw [e1]; decide) (by rw [e1]; decide) (by decide) ?_
        exact law_c1 hO hL C hX hbl mAd iAd gAd rAd aM GI GM GR hGI hGM hGR j (by omega) hin cs ms hInv _ _ ls G hl kk
      by_cases e2 : x = 2
      · refine lv_tableIn (off := 217) (tgt := 250) hx hb dL_law_33 (by rw [e2]; decide) (by rw [e2]; decide) (by rw [e2]; decide) (by decide) ?_
        exact law_c2 hO hL C hX hbl mAd iAd gAd rAd aM GI GM GR hGI hGM hGR j (by omega) hin cs ms hInv _ _ ls G hl kk
      by_cases e3 : x = 3
      · refine lv_tableIn (off := 280) (tgt := 313) hx hb dL_law_33 (by rw [e3]; decide) (by rw [e3]; decide) (by rw [e3]; decide) (by decide) ?_
        exact law_c3 hO hL C hX hbl mAd iAd gAd rAd aM GI GM GR hGI hGM hGR j (by omega) hin cs ms hInv _ _ ls G hl kk
      by_cases e4 : x = 4
      · refine lv_tableIn (off := 303) (tgt := 336) hx hb dL_law_33 (by rw [e4]; decide) (by rw [e4]; decide) (by rw [e4]; decide) (by decide) ?_
        exact law_c4 hO hL C hX hbl mAd iAd gAd rAd aM GI GM GR hGI hGM hGR j (by omega) hin cs ms hInv _ _ ls G hl kk
      by_cases e5 : x = 5
      · refine lv_tableIn (off := 366) (tgt := 399) hx hb dL_law_33 (by rw [e5]; decide) (by rw [e5]; decide) (by rw [e5]; decide) (by decide) ?_
        exact law_c5 hO hL C hX hbl mAd iAd gAd rAd aM GI GM GR hGI hGM hGR j (by omega) hin cs ms hInv _ _ ls G hl kk
      by_cases e6 : x = 6
      · refine lv_tableIn (off := 379) (tgt := 412) hx hb dL_law_33 (by rw [e6]; decide) (by rw [e6]; decide) (by rw [e6]; decide) (by decide) ?_
        exact law_c6 hO hL C hX hbl mAd iAd gAd rAd aM GI GM GR hGI hGM hGR j (by omega) hin cs ms hInv _ _ ls G hl kk
      by_cases e7 : x = 7
      · refine lv_tableIn (off := 392) (tgt := 425) hx hb dL_law_33 (by rw [e7]; decide) (by rw [e7]; decide) (by rw [e7]; decide) (by decide) ?_
        exact law_c7 hO hL C hX hbl mAd iAd gAd rAd aM GI GM GR hGI hGM hGR j (by omega) hin cs ms hInv _ _ ls G hl kk
      by_cases e8 : x = 8
      · refine lv_tableIn (off := 415) (tgt := 448) hx hb dL_law_33 (by rw [e8]; decide) (by rw [e8]; decide) (by rw [e8]; decide) (by decide) ?_
        exact law_c8 hO hL C hX hbl mAd iAd gAd rAd aM GI GM GR hGI hGM hGR j (by omega) hin cs ms hInv _ _ ls G hl kk
      by_cases e9 : x = 9
      · refine lv_tableIn (off := 458) (tgt := 491) hx hb dL_law_33 (by rw [e9]; decide) (by rw [e9]; decide) (by rw [e9]; decide) (by decide) ?_
        exact law_c9 hO hL C hX hbl mAd iAd gAd rAd aM GI GM GR hGI hGM hGR j (by omega) hin cs ms hInv _ _ ls G hl kk
      by_cases e10 : x = 10
      · refine lv_tableIn (off := 501) (tgt := 534) hx hb dL_law_33 (by rw [e10]; decide) (by rw [e10]; decide) (by rw [e10]; decide) (by decide) ?_
        exact law_c10 hO hL C hX hbl mAd iAd gAd rAd aM GI GM GR hGI hGM hGR j (by omega) hin cs ms hInv _ _ ls G hl kk
      by_cases e11 : x = 11
      · refine lv_tableIn (off := 524) (tgt := 557) hx hb dL_law_33 (by rw [e11]; decide) (by rw [e11]; decide) (by rw [e11]; decide) (by decide) ?_
        exact law_c11 hO hL C hX hbl mAd iAd gAd rAd aM GI GM GR hGI hGM hGR j (by omega) hin cs ms hInv _ _ ls G hl kk
      by_cases e12 : x = 12
      · refine lv_tableIn (off := 537) (tgt := 570) hx hb dL_law_33 (by rw [e12]; decide) (by rw [e12]; decide) (by rw [e12]; decide) (by decide) ?_
        exact law_c12 hO hL C hX hbl mAd iAd gAd rAd aM GI GM GR hGI hGM hGR j (by omega) hin cs ms hInv _ _ ls G hl kk
      by_cases e13 : x = 13
      · refine lv_tableIn (off := 550) (tgt := 583) hx hb dL_law_33 (by rw [e13]; decide) (by rw [e13]; decide) (by rw [e13]; decide) (by decide) ?_
        exact law_c13 hO hL C hX hbl mAd iAd gAd rAd aM GI GM GR hGI hGM hGR j (by omega) hin cs ms hInv _ _ ls G hl kk
      by_cases e14 : x = 14
      · refine lv_tableIn (off := 583) (tgt := 616) hx hb dL_law_33 (by rw [e14]; decide) (by rw [e14]; decide) (by rw [e14]; decide) (by decide) ?_
        exact law_c14 hO hL C hX hbl mAd iAd gAd rAd aM GI GM GR hGI hGM hGR j (by omega) hin cs ms hInv _ _ ls G hl kk
      by_cases e15 : x = 15
      · refine lv_tableIn (off := 616) (tgt := 649) hx hb dL_law_33 (by rw [e15]; decide) (by rw [e15]; decide) (by rw [e15]; decide) (by decide) ?_
        exact law_c15 hO hL C hX hbl mAd iAd gAd rAd aM GI GM GR hGI hGM hGR j (by omega) hin cs ms hInv _ _ ls G hl kk
      by_cases e16 : x = 16
      · refine lv_tableIn (off := 659) (tgt := 692) hx hb dL_law_33 (by rw [e16]; decide) (by rw [e16]; decide) (by rw [e16]; decide) (by decide) ?_
        exact law_c16 hO hL C hX hbl mAd iAd gAd rAd aM GI GM GR hGI hGM hGR j (by omega) hin cs ms hInv _ _ ls G hl kk
      by_cases e17 : x = 17
      · refine lv_tableIn (off := 712) (tgt := 745) hx hb dL_law_33 (by rw [e17]; decide) (by rw [e17]; decide) (by rw [e17]; decide) (by decide) ?_
        exact law_c17 hO hL C hX hbl mAd iAd gAd rAd aM GI GM GR hGI hGM hGR j (by omega) hin cs ms hInv _ _ ls G hl kk
      by_cases e18 : x = 18
      · refine lv_tableIn (off := 745) (tgt := 778) hx hb dL_law_33 (by rw [e18]; decide) (by rw [e18]; decide) (by rw [e18]; decide) (by decide) ?_
        exact law_c18 hO hL C hX hbl mAd iAd gAd rAd aM GI GM GR hGI hGM hGR j (by omega) hin cs ms hInv _ _ ls G hl kk
      by_cases e19 : x = 19
      · refine lv_tableIn (off := 798) (tgt := 831) hx hb dL_law_33 (by rw [e19]; decide) (by rw [e19]; decide) (by rw [e19]; decide) (by decide) ?_
        exact law_c19 hO hL C hX hbl mAd iAd gAd rAd aM GI GM GR hGI hGM hGR j (by omega) hin cs ms hInv _ _ ls G hl kk
      by_cases e20 : x = 20
      · refine lv_tableIn (off := 811) (tgt := 844) hx hb dL_law_33 (by rw [e20]; decide) (by rw [e20]; decide) (by rw [e20]; decide) (by decide) ?_
        exact law_c20 hO hL C hX hbl mAd iAd gAd rAd aM GI GM GR hGI hGM hGR j (by omega) hin cs ms hInv _ _ ls G hl kk
      by_cases e21 : x = 21
      · refine lv_tableIn (off := 844) (tgt := 877) hx hb dL_law_33 (by rw [e21]; decide) (by rw [e21]; decide) (by rw [e21]; decide) (by decide) ?_
        exact law_c21 hO hL C hX hbl mAd iAd gAd rAd aM GI GM GR hGI hGM hGR j (by omega) hin cs ms hInv _ _ ls G hl kk
      by_cases e22 : x = 22
      · refine lv_tableIn (off := 867) (tgt := 900) hx hb dL_law_33 (by rw [e22]; decide) (by rw [e22]; decide) (by rw [e22]; decide) (by decide) ?_
        exact law_c22 hO hL C hX hbl mAd iAd gAd rAd aM GI GM GR hGI hGM hGR j (by omega) hin cs ms hInv _ _ ls G hl kk
      by_cases e23 : x = 23
      · refine lv_tableIn (off := 890) (tgt := 923) hx hb dL_law_33 (by rw [e23]; decide) (by rw [e23]; decide) (by rw [e23]; decide) (by decide) ?_
        exact law_c23 hO hL C hX hbl mAd iAd gAd rAd aM GI GM GR hGI hGM hGR j (by omega) hin cs ms hInv _ _ ls G hl kk
      by_cases e24 : x = 24
      · refine lv_tableIn (off := 913) (tgt := 946) hx hb dL_law_33 (by rw [e24]; decide) (by rw [e24]; decide) (by rw [e24]; decide) (by decide) ?_
        exact law_c24 hO hL C hX hbl mAd iAd gAd rAd aM GI GM GR hGI hGM hGR j (by omega) hin cs ms hInv _ _ ls G hl kk
      by_cases e25 : x = 25
      · refine lv_tableIn (off := 946) (tgt := 979) hx hb dL_law_33 (by rw [e25]; decide) (by rw [e25]; decide) (by rw [e25]; decide) (by decide) ?_
        exact law_c25 hO hL C hX hbl mAd iAd gAd rAd aM GI GM GR hGI hGM hGR j (by omega) hin cs ms hInv _ _ ls G hl kk
      by_cases e26 : x = 26
      · refine lv_tableIn (off := 979) (tgt := 1012) hx hb dL_law_33 (by rw [e26]; decide) (by rw [e26]; decide) (by rw [e26]; decide) (by decide) ?_
        exact law_c26 hO hL C hX hbl mAd iAd gAd rAd aM GI GM GR hGI hGM hGR j (by omega) hin cs ms hInv _ _ ls G hl kk
      by_cases e27 : x = 27
      · refine lv_tableIn (off := 1002) (tgt := 1035) hx hb dL_law_33 (by rw [e27]; decide) (by rw [e27]; decide) (by rw [e27]; decide) (by decide) ?_
        exact law_c27 hO hL C hX hbl mAd iAd gAd rAd aM GI GM GR hGI hGM hGR j (by omega) hin cs ms hInv _ _ ls G hl kk
      by_cases e28 : x = 28
      · refine lv_tableIn (off := 1025) (tgt := 1058) hx hb dL_law_33 (by rw [e28]; decide) (by rw [e28]; decide) (by rw [e28]; decide) (by decide) ?_
        exact law_c28 hO hL C hX hbl mAd iAd gAd rAd aM GI GM GR hGI hGM hGR j (by omega) hin cs ms hInv _ _ ls G hl kk
      have hout := sw_out (x := x) (lo := 0) (hi := 28) (fun k h1 h2 => by
          have hk : k = 0 ∨ k = 1 ∨ k = 2 ∨ k = 3 ∨ k = 4 ∨ k = 5 ∨ k = 6 ∨ k = 7 ∨ k = 8 ∨ k = 9 ∨ k = 10 ∨ k = 11 ∨ k = 12 ∨ k = 13 ∨ k = 14 ∨ k = 15 ∨ k = 16 ∨ k = 17 ∨ k = 18 ∨ k = 19 ∨ k = 20 ∨ k = 21 ∨ k = 22 ∨ k = 23 ∨ k = 24 ∨ k = 25 ∨ k = 26 ∨ k = 27 ∨ k = 28 := by omega
          rcases hk with rfl | rfl | rfl | rfl | rfl | rfl | rfl | rfl | rfl | rfl | rfl | rfl | rfl | rfl | rfl | rfl | rfl | rfl | rfl | rfl | rfl | rfl | rfl | rfl | rfl | rfl | rfl | rfl | rfl
          · exact e0
          · exact e1
          · exact e2
          · exact e3
          · exact e4
          · exact e5
          · exact e6
          · exact e7
          · exact e8
          · exact e9
          · exact e10
          · exact e11
          · exact e12
          · exact e13
          · exact e14
          · exact e15
          · exact e16
          · exact e17
          · exact e18
          · exact e19
          · exact e20
          · exact e21
          · exact e22
          · exact e23
          · exact e24
          · exact e25
          · exact e26
          · exact e27
          · exact e28)
      refine lv_tableOut (tgt := 1071) hx hb dL_law_33 hout (by decide) ?_
      exact kk cs ms _ _ ls (hO.1 j cs ms hInv) G hl
