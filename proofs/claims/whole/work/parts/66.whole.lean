def c0S : CS := (fun _ => 0, fun k => if k = 0 then lanF else fun _ => 0, fun _ _ => 0, fun _ _ => 0, fun _ _ _ => 0, fun _ _ => 0, fun _ _ _ => 0)
def m0S : MS := (fun _ => 0, fun k => if k = 0 then laneI else fun _ => 0)
set_option maxRecDepth 100000 in
theorem lk_law : Cond.classLink RL 7 RX8 ∈ lw_tbl ∧ Cond.classLink RL 10 RX9 ∈ lw_tbl ∧ Cond.initialized RX8 ∈ lw_tbl ∧ Cond.initialized RX9 ∈ lw_tbl ∧ Cond.methodLink RL 9 yX8_init ∈ lw_tbl ∧ Cond.methodLink RL 12 yX9_init ∈ lw_tbl ∧ Cond.instanceMethod yX8_init ∈ lw_tbl ∧ Cond.instanceMethod yX9_init ∈ lw_tbl := by decide +kernel
set_option maxHeartbeats 4000000 in
set_option maxRecDepth 100000 in
theorem whole_of {Inv : Nat → CS → MS → Prop} (hO : OPS Inv) (hI : Inv 0 c0S m0S) {p : Program} {e : Env} {s : State} {m : MethodId} {below : List Frame} {meth : Method} {c : Code} (l : Launch) {b L : Nat} {xs : Nat → Int32} (hL : L ≤ 3072) (C0 : lw_At p s m meth c b L xs) : W p l e room_1 s m #[Value.ref b] below meth c s.heap [] 0 0 (lw_Z below #[Value.ref b] s) (entryFrame m ([Value.ref b] : List Value).toArray 4) := by
  obtain ⟨hx, hb, hr, hml, hown, hts, hX, hbl, hlocks, hgv⟩ := id C0
  obtain ⟨D, cy, hK, hE, hN⟩ := st_world hts hgv
  have hA : ∀ q : Nat, s.heap.size ≤ q → (fun q : Nat => s.heap.size ≤ q) q := fun _ h => h
  have C : Cx D cy (fun q => s.heap.size ≤ q) p s m meth c code 4 ret wsL_law RL #[Value.ref b] := ⟨hx, hb, hr, hml, hown, fun w h => hts w (wsL_law_in w h), hlocks, hK, hA, hE⟩
  obtain ⟨k1, k2, k3, k4, k5, k6, k7, k8⟩ := lk_law
  have G : Gd D (fun q => s.heap.size ≤ q) s [] s.heap [] := ⟨fun k q h => by simp at h, ⟨fun i j p q h => by simp at h, fun k q h => by simp at h⟩, va_S.rf⟩
  have hl := lv_entry ([.ref b]) (n := 4) (Nat.le_of_ble_eq_true rfl)
  rw [lg_entry_eq]
  generalize (lg_sl ([.ref b]) ++ List.replicate (4 - (lg_sl ([.ref b])).length) Slot.unset).toArray = ls at hl ⊢
  have hl : lv_has ls 4 [(0, .ref b)] := hl
  refine va_new (ci := 8) (fs := [.null, .null, .null, .null, .null, .null, .null, .null, .null, .int 0, .int 0]) (C := RX8) (T := TX8) (N := 11) hx hb hts li_wsX80 tyX8 tyX8_ok hown (hts _ k1) (hts _ ft_is.2.2.2.2.2.2.2.2.1) (hts _ k3) hK G.1 G.2.1 G.2.2 hA rfl (fun j hj => by rcases (show j = 0 ∨ j = 1 ∨ j = 2 ∨ j = 3 ∨ j = 4 ∨ j = 5 ∨ j = 6 ∨ j = 7 ∨ j = 8 ∨ j = 9 ∨ j = 10 by omega) with rfl | rfl | rfl | rfl | rfl | rfl | rfl | rfl | rfl | rfl | rfl <;> rfl) (Nat.le_of_ble_eq_true rfl) (Nat.le_of_ble_eq_true rfl) dL_law_0 (fun q1 U hP hD hS => ?_)
  have G : Gd D (fun q => s.heap.size ≤ q) s ([] ++ [(q1, .inr (8, [.null, .null, .null, .null, .null, .null, .null, .null, .null, .int 0, .int 0]))]) _ _ := ⟨hP, hD, hS⟩
  refine lv_dup hx hb dL_law_3 rfl ?_
  refine MN.callI [.ref q1] C hN G (c_X8_init l D cy q1) gL_law_X8_init rfl rfl rfl (hts _ k3) (hts _ k5) (hts _ k7) rfl (by decide +kernel) ⟨Nat.le_of_ble_eq_true rfl, Nat.le_of_ble_eq_true rfl⟩ hl.1 rfl (Nat.le_of_ble_eq_true rfl) dL_law_4 ⟨Nat.le_of_ble_eq_true rfl, Nat.le_of_ble_eq_true rfl⟩ (fun u U locs hu G2 => ?_)
  obtain ⟨mAd, iAd, gAd, rAd, GI, GM, GR⟩ := u
  obtain ⟨h1, hGI, hGM, hGR⟩ := hu
  dsimp only at h1 hGI hGM hGR
  subst h1
  have G : Gd D (fun q => s.heap.size ≤ q) s (WC cy mAd iAd gAd rAd GI GM GR c0S) _ _ := G2
  refine lv_astore_n (lv' := [(1, .ref (mAd 0)), (0, .ref b)]) hx hb dL_law_7 rfl hl (by decide) rfl (fun ls hl => ?_)
  refine va_new (ci := 9) (fs := [.int 0, .int 0, .null, .null, .null, .null, .null, .null, .null, .int 0, .null, .int 0, .int 0, .int 0, .int 0, .int 0, .int 0, .int 0, .int 0, .int 0, .null, .null, .int 0, .null, .null, .null, .int 0]) (C := RX9) (T := TX9) (N := 27) hx hb hts li_wsX90 tyX9 tyX9_ok hown (hts _ k2) (hts _ ft_is.2.2.2.2.2.2.2.2.2) (hts _ k4) hK G.1 G.2.1 G.2.2 hA rfl (fun j hj => by rcases (show j = 0 ∨ j = 1 ∨ j = 2 ∨ j = 3 ∨ j = 4 ∨ j = 5 ∨ j = 6 ∨ j = 7 ∨ j = 8 ∨ j = 9 ∨ j = 10 ∨ j = 11 ∨ j = 12 ∨ j = 13 ∨ j = 14 ∨ j = 15 ∨ j = 16 ∨ j = 17 ∨ j = 18 ∨ j = 19 ∨ j = 20 ∨ j = 21 ∨ j = 22 ∨ j = 23 ∨ j = 24 ∨ j = 25 ∨ j = 26 by omega) with rfl | rfl | rfl | rfl | rfl | rfl | rfl | rfl | rfl | rfl | rfl | rfl | rfl | rfl | rfl | rfl | rfl | rfl | rfl | rfl | rfl | rfl | rfl | rfl | rfl | rfl | rfl <;> rfl) (Nat.le_of_ble_eq_true rfl) (Nat.le_of_ble_eq_true rfl) dL_law_8 (fun q2 U hP hD hS => ?_)
  have G : Gd D (fun q => s.heap.size ≤ q) s (WC cy mAd iAd gAd rAd GI GM GR c0S ++ [(q2, .inr (9, [.int 0, .int 0, .null, .null, .null, .null, .null, .null, .null, .int 0, .null, .int 0, .int 0, .int 0, .int 0, .int 0, .int 0, .int 0, .int 0, .int 0, .null, .null, .int 0, .null, .null, .null, .int 0]))]) _ _ := ⟨hP, hD, hS⟩
  refine lv_dup hx hb dL_law_11 rfl ?_
  refine MN.callI [.ref q2] C hN G (c_X9_init l D cy q2) gL_law_X9_init rfl rfl rfl (hts _ k4) (hts _ k6) (hts _ k8) rfl (by decide +kernel) ⟨Nat.le_of_ble_eq_true rfl, Nat.le_of_ble_eq_true rfl⟩ hl.1 rfl (Nat.le_of_ble_eq_true rfl) dL_law_12 ⟨Nat.le_of_ble_eq_true rfl, Nat.le_of_ble_eq_true rfl⟩ (fun aM U locs hu G2 => ?_)
  subst hu
  have G : Gd D (fun q => s.heap.size ≤ q) s (WW cy mAd iAd gAd rAd aM GI GM GR c0S m0S) _ _ := G2
  refine lv_astore_n (lv' := [(2, .ref (aM 0)), (1, .ref (mAd 0)), (0, .ref b)]) hx hb dL_law_15 rfl hl (by decide) rfl (fun ls hl => ?_)
  refine lv_iconst (v := 0) hx hb dL_law_16 (by decide) ?_
  refine lv_istore_n (lv' := [(3, .int 0), (2, .ref (aM 0)), (1, .ref (mAd 0)), (0, .ref b)]) hx hb dL_law_17 rfl hl (by decide) rfl (fun ls hl => ?_)
  exact law_loop hO hL C hX hbl mAd iAd gAd rAd aM GI GM GR hGI hGM hGR L 0 c0S m0S (by omega) (Nat.zero_le _) hI _ _ ls G (lv_sub hl [3, 2, 1, 0] rfl)
