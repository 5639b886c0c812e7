/-! ===== constructors of Rows and Past ===== -/
theorem fam_congr {N : Nat} {f g : Nat → va_W} (h : ∀ k, k < N → f k = g k) : fam N f = fam N g := by
  unfold fam
  rw [List.flatMap_def, List.flatMap_def]
  congr 1
  exact List.map_congr_left (fun k hk => h k (List.mem_range.mp hk))
theorem fam_succ (N : Nat) (f : Nat → va_W) : fam (N + 1) f = fam N f ++ f N := by
  unfold fam
  rw [List.range_succ, List.flatMap_append]
  simp
section CON2
variable {p : Program} {l : Launch} {e : Env} {R : Room} {s : State} {m : MethodId} {args : Array Value} {below : List Frame} {meth : Method} {c : Code} {H : Heap} {locs : List Loc} {D : va_G} {cy : Nat → ClassId} {A : Nat → Prop} {cc : ByteArray} {nL : Nat} {ret : Option FieldType} {Ts : List Cond} {own : String} {pc : Nat} {ls : Array Slot} {Q : State → Prop} {cells slots : Nat} {rest : List Value} {w w1 : va_W}
theorem g_newq (C : Cx D cy A p s m meth c cc nL ret Ts own args) (G : Gd D A s w H locs) {Cn : String} {index : Nat} (t0 : Nat) (hclink : (Cond.classLink own index Cn).before args s = true) (hover : va_AO Cn s) (ht : (tyL cy)[t0]? = some (cy t0, .object Cn)) {n : Int32} (N' : Nat)
    (hn : ¬ n < 0) (hN : n.toNatClampNeg = N') (hbytes : N' * 4 ≤ 536870912) (hcells : cells + 1 ≤ R.cells) (hslots : slots + N' ≤ R.slots) (hdg : decode cc pc = .ok (.anewarray index, 3))
    (kk : ∀ (q : Nat) (H1 : Heap), Gd D A s (w ++ [(q, .inl (cy t0, N', .inr (.inr (.inr (.inr (fun _ => none))))))]) H1 locs → W p l e R s m args below meth c H1 locs (cells + 1) (slots + N') Q (F0 m (pc + 3) ls (.ref q :: rest))) : W p l e R s m args below meth c H locs cells slots Q (F0 m pc ls (.int n :: rest)) := by
  obtain ⟨hx, hb, hr, hml, hown, hts, hlk, hK, hA, hE⟩ := C
  refine va_newq hx hb hown hclink hover hK G.1 G.2.1 G.2.2 hA hn hN hbytes hcells hslots hdg (fun q cA H1 hK1 hP hD hS => ?_)
  obtain ⟨-, -, -, -, -, h1⟩ := (hK.2 t0 _ ht).2
  obtain ⟨-, -, -, -, -, h2⟩ := (hK1.2 (tyL cy).length (cA, .object Cn) (by rw [List.getElem?_append_right (Nat.le_refl _), Nat.sub_self]; rfl)).2
  have e : cA = cy t0 := Option.some.inj (h2.symm.trans h1)
  subst e
  exact kk q H1 ⟨hP, hD, hS⟩
/-- new int[n][k]: the outer array, and the rows as a family -/
theorem g_mna (C : Cx D cy A p s m meth c cc nL ret Ts own args) (G : Gd D A s w H locs) {index : Nat} (hclink : (Cond.classLink own index ("[" ++ (FieldType.array .int).toString)).before args s = true) (hover : va_AOA .int s) (harr : (Cond.arrayClass .int).before args s = true)
    (hcells : cells + (1 + 8) ≤ R.cells) (hslots : slots + (8 + 8 * 40) ≤ R.slots) (hdg : decode cc pc = .ok (.multianewarray index 2, 4))
    (kk : ∀ (q : Nat) (r : Nat → Nat) (H1 : Heap), Gd D A s ((w ++ [(q, .inl (cy 5, 8, .inr (.inr (.inr (.inr (fun i => if i < 8 then some (r i) else none))))))]) ++ w_FItm cy (fun k _ => r k) (fun _ _ => 0)) H1 locs → W p l e R s m args below meth c H1 locs (cells + 1 + 8) (slots + 8 + 8 * 40) Q (F0 m (pc + 4) ls (.ref q :: rest))) : W p l e R s m args below meth c H locs cells slots Q (F0 m pc ls (.int 40 :: .int 8 :: rest)) := by
  obtain ⟨hx, hb, hr, hml, hown, hts, hlk, hK, hA, hE⟩ := C
  have hcy : s.vm.findClass (FieldType.array .int).toString = some (cy 1) := (hK.2 1 _ rfl).2
  have hw : w ++ va_pl [] (fun _ => Sum.inr (0, [])) = w := List.append_nil w
  refine va_mna (X := w) (L := []) (f := fun _ => Sum.inr (0, [])) (ty := .int) (cy := cy 1) (N' := 8) (K' := 40) (z := (40, .inl (fun _ => 0))) hx hb hown hclink hover harr hcy hK (by rw [hw]; exact G.1) (by rw [hw]; exact G.2.1) G.2.2 hA (by decide) (by decide) (by decide) (by decide) (by decide) (by show 40 * 4 ≤ 536870912; omega) (by decide) rfl rfl hcells hslots (fun c' => ?_) hdg (fun q r cA H1 h1 h2 hK1 hP hD hS => ?_)
  · rw [vp_cell_i]
    show ({ cls := c', slots := Array.replicate 40 (.int 0), vm := .none } : Cell) = _
    exact arrV_new c' 40 (.int 0)
  · have e1 : cA = cy 5 := by
      have a1 : s.vm.findClass ("[" ++ (FieldType.array .int).toString) = some (cy 5) := (hK.2 5 _ rfl).2
      have a2 : s.vm.findClass ("[" ++ (FieldType.array .int).toString) = some cA := (hK1.2 (tyL cy).length (cA, .array .int) (by rw [List.getElem?_append_right (Nat.le_refl _), Nat.sub_self]; rfl)).2
      exact Option.some.inj (a2.symm.trans a1)
    subst e1
    have e2 : va_pl ([] ++ (List.range 8).map r) (vr_up (fun _ => Sum.inr (0, [])) ((List.range 8).map r) (Sum.inl (cy 1, (40, .inl (fun _ => 0))))) = w_FItm cy (fun k _ => r k) (fun _ _ => 0) := by
      rw [List.nil_append]
      unfold va_pl
      have : ((List.range 8).map r).map (fun a => (a, vr_up (fun _ => (Sum.inr (0, []) : va_E)) ((List.range 8).map r) (Sum.inl (cy 1, (40, .inl (fun _ => 0)))) a)) = ((List.range 8).map r).map (fun a => (a, (Sum.inl (cy 1, (40, .inl (fun _ => 0))) : va_E))) := List.map_congr_left (fun a ha => by rw [vr_up_in ha])
      rw [this]
      rfl
    rw [e2] at hP hD
    exact kk q r H1 ⟨hP, hD, hS⟩
end CON2
theorem fill8 : (f_J7_fill_53178 8 (fun _ => 0) (-1)).isSome = true := by decide +kernel
def lanF : Nat → Int32 := (f_J7_fill_53178 8 (fun _ => 0) (-1)).getD (fun _ => 0)
theorem lanF_eq : f_J7_fill_53178 8 (fun _ => 0) (-1) = some lanF := by
  unfold lanF
  cases h : f_J7_fill_53178 8 (fun _ => 0) (-1) with
  | none => have := fill8; rw [h] at this; cases this
  | some z => rfl
theorem lanF_at : ∀ k, k < 8 → lanF k = -1 := by decide +kernel
set_option maxHeartbeats 4000000 in
set_option maxRecDepth 100000 in
theorem c_X6_init (l : Launch) (D : va_G) (cy : Nat → ClassId) (h0 : Nat) : MN l yX6_init wsX6_init ({ frames := 1, cells := 11, slots := 344, locals := 40 } : Room) D cy [.ref h0] [(h0, .inr (6, [.null, .null, .null]))] 11 344 (fun u : (Nat → Nat) × (Nat → Nat → Nat) × (Nat → Option Nat) => u.1 0 = h0 ∧ ∀ k, k < 8 → u.2.2 k = some (u.2.1 k 0)) (fun u => w_Rows cy u.1 u.2.2 lanF (fun _ => 0) ++ w_FItm cy u.2.1 (fun _ _ => 0)) := by
  refine met_startN (cc := cX6_init) (nL := 1) (ret := none) RX6 rfl rfl (by decide) rfl (Nat.le_of_ble_eq_true rfl) ?_
  intro p e s m below meth c A ls C hN hin G hl
  have hl : lv_has ls 1 [(0, .ref h0)] := hl
  obtain ⟨hx, hb, hr, hml, hown, hts, hlk, hK, hA, hE⟩ := id C
  have lk0 := hts (Cond.methodLink RX6 3 objectInit) (List.mem_of_getElem? (i := 1) rfl)
  have lk1 := hts (Cond.instanceMethod objectInit) (List.mem_of_getElem? (i := 2) rfl)
  have lk2 := hts (Cond.code objectInit ⟨#[0xb1]⟩ 1 none) (List.mem_of_getElem? (i := 3) rfl)
  have lk3 := hts (Cond.classLink RX6 9 "[[I") (List.mem_of_getElem? (i := 4) rfl)
  have lk4 := hts (Cond.arrayClass .int) (List.mem_of_getElem? (i := 5) rfl)
  have lk5 := hts (Cond.fieldLink RX6 11 "TideDebts$Rows" "items" "[[I") (List.mem_of_getElem? (i := 6) rfl)
  have lk6 := hts (Cond.fieldLink RX6 16 "TideDebts$Rows" "lanes" "[I") (List.mem_of_getElem? (i := 7) rfl)
  have lk7 := hts (Cond.fieldLink RX6 20 "TideDebts$Rows" "sizes" "[I") (List.mem_of_getElem? (i := 8) rfl)
  have hiX6 : ∀ w ∈ u_ws RX6 TX6 3, w ∈ wsX6_init := fun _ h => List.mem_cons_of_mem _ (List.mem_append_right _ h)
  refine lv_aload_n hx hb dX6_init_0 rfl (lv_at hl 0 rfl) ?_
  refine W.objInit hx hb hown lk0 lk1 lk2 rfl (by rw [hml]; exact hl.1) rfl dX6_init_1 (Nat.le_of_ble_eq_true rfl) (Nat.le_of_ble_eq_true rfl) ?_
  refine W.eq (g2 := F0 m 4 ls []) rfl ?_
  refine lv_aload_n hx hb dX6_init_4 rfl (lv_at hl 0 rfl) ?_
  refine lv_bipush (v := 8) hx hb dX6_init_5 (by decide) ?_
  refine lv_bipush (v := 40) hx hb dX6_init_7 (by decide) ?_
  refine g_mna C G lk3 hN.1.2.2 lk4 (Nat.le_of_ble_eq_true rfl) (Nat.le_of_ble_eq_true rfl) dX6_init_9 (fun q r U G => ?_)
  generalize hF : w_FItm cy (fun k _ => r k) (fun _ _ => 0) = F at G
  generalize hGI : (fun i => if i < 8 then some (r i) else none) = GI at G
  have G : Gd D A s ([(h0, .inr (6, [.null, .null, .null])), (q, .inl (cy 5, 8, .inr (.inr (.inr (.inr GI)))))] ++ F) _ _ := G
  refine va_putF (D := D) (ci := 6) (v := .ref q) (ty := tyX6 0) (C := RX6) (T := TX6) (N := 3) hx hb hts hiX6 tyX6 tyX6_ok nmX6 hown hK G.1 G.2.1 G.2.2 0 rfl rfl 0 (by decide) lk5 (fun _ h9 => h9) rfl hin rfl (tyX6_ok 0 (by decide)) rfl rfl (Nat.le_of_ble_eq_true rfl) dX6_init_13 (fun U locs hP hD hS => ?_)
  have G : Gd D A s ([(h0, .inr (6, [.ref q, .null, .null])), (q, .inl (cy 5, 8, .inr (.inr (.inr (.inr GI)))))] ++ F) _ _ := ⟨hP, hD, hS⟩
  refine lv_aload_n hx hb dX6_init_16 rfl (lv_at hl 0 rfl) ?_
  refine lv_bipush (v := 8) hx hb dX6_init_17 (by decide) ?_
  refine g_newa (atype := .int) (ty := .int) C G 1 lk4 rfl rfl (by intro _ h; cases h) 8 (a0 := (8, .inl (fun _ => 0))) (fun cA => vp_cell_i cA 8 (fun _ => 0)) (by decide) (by decide) (by show 8 * 4 ≤ 536870912; omega) (Nat.le_of_ble_eq_true rfl) (Nat.le_of_ble_eq_true rfl) dX6_init_19 (fun q1 U G => ?_)
  have G := G.perm (perm_sw _ _ _)
  have G : Gd D A s ([(h0, .inr (6, [.ref q, .null, .null])), (q, .inl (cy 5, 8, .inr (.inr (.inr (.inr GI))))), (q1, .inl (cy 1, 8, .inl (fun _ => 0)))] ++ F) _ _ := G
  refine va_putF (D := D) (ci := 6) (v := .ref q1) (ty := tyX6 1) (C := RX6) (T := TX6) (N := 3) hx hb hts hiX6 tyX6 tyX6_ok nmX6 hown hK G.1 G.2.1 G.2.2 0 rfl rfl 1 (by decide) lk6 (fun _ h9 => h9) rfl hin rfl (tyX6_ok 1 (by decide)) rfl rfl (Nat.le_of_ble_eq_true rfl) dX6_init_21 (fun U locs hP hD hS => ?_)
  have G : Gd D A s ([(h0, .inr (6, [.ref q, .ref q1, .null])), (q, .inl (cy 5, 8, .inr (.inr (.inr (.inr GI))))), (q1, .inl (cy 1, 8, .inl (fun _ => 0)))] ++ F) _ _ := ⟨hP, hD, hS⟩
  refine lv_aload_n hx hb dX6_init_24 rfl (lv_at hl 0 rfl) ?_
  refine lv_bipush (v := 8) hx hb dX6_init_25 (by decide) ?_
  refine g_newa (atype := .int) (ty := .int) C G 1 lk4 rfl rfl (by intro _ h; cases h) 8 (a0 := (8, .inl (fun _ => 0))) (fun cA => vp_cell_i cA 8 (fun _ => 0)) (by decide) (by decide) (by show 8 * 4 ≤ 536870912; omega) (Nat.le_of_ble_eq_true rfl) (Nat.le_of_ble_eq_true rfl) dX6_init_27 (fun q2 U G => ?_)
  have G := G.perm (perm_sw _ _ _)
  have G : Gd D A s ([(h0, .inr (6, [.ref q, .ref q1, .null])), (q, .inl (cy 5, 8, .inr (.inr (.inr (.inr GI))))), (q1, .inl (cy 1, 8, .inl (fun _ => 0))), (q2, .inl (cy 1, 8, .inl (fun _ => 0)))] ++ F) _ _ := G
  refine va_putF (D := D) (ci := 6) (v := .ref q2) (ty := tyX6 2) (C := RX6) (T := TX6) (N := 3) hx hb hts hiX6 tyX6 tyX6_ok nmX6 hown hK G.1 G.2.1 G.2.2 0 rfl rfl 2 (by decide) lk7 (fun _ h9 => h9) rfl hin rfl (tyX6_ok 2 (by decide)) rfl rfl (Nat.le_of_ble_eq_true rfl) dX6_init_29 (fun U locs hP hD hS => ?_)
  have G : Gd D A s ([(h0, .inr (6, [.ref q, .ref q1, .ref q2])), (q, .inl (cy 5, 8, .inr (.inr (.inr (.inr GI))))), (q1, .inl (cy 1, 8, .inl (fun _ => 0))), (q2, .inl (cy 1, 8, .inl (fun _ => 0)))] ++ F) _ _ := ⟨hP, hD, hS⟩
  refine lv_aload_n hx hb dX6_init_32 rfl (lv_at hl 0 rfl) ?_
  refine va_get (D := D) (ci := 6) (v := .ref q1) (C := RX6) (T := TX6) (N := 3) hx hb hts hiX6 hown hK G.1 0 rfl rfl 1 (by decide) lk6 (fun _ h9 => h9) rfl dX6_init_33 ?_
  refine lv_iconst (v := (-1)) hx hb dX6_init_36 (by decide) ?_
  refine MV.callS [.ref q1, .int (-1)] [] [2] C G (c_J7_fill_53178 l D cy (fun _ => q1) 8 (fun _ => 0) (-1) lanF lanF_eq) gX6_init_J7_fill_53178 rfl rfl rfl (n := 2) (by decide +kernel) ⟨Nat.le_of_ble_eq_true rfl, Nat.le_of_ble_eq_true rfl⟩ rfl rfl rfl rfl hl.1 rfl (Nat.le_of_ble_eq_true rfl) dX6_init_37 ⟨Nat.le_of_ble_eq_true rfl, Nat.le_of_ble_eq_true rfl⟩ (fun U locs G => ?_)
  have G : Gd D A s ((h0, .inr (6, [.ref q, .ref q1, .ref q2])) :: ([(q, .inl (cy 5, 8, .inr (.inr (.inr (.inr GI)))))] ++ [(q1, .inl (cy 1, 8, .inl lanF)), (q2, .inl (cy 1, 8, .inl (fun _ => 0)))]) ++ F) _ _ := G
  have G := G.perm (List.Perm.append_right F (List.Perm.cons _ List.perm_append_comm))
  subst hF
  exact ret_N C G (adl [h0, q1, q2, q], (fun k _ => r k), GI) ⟨rfl, fun k hk => by subst hGI; exact if_pos hk⟩ rfl dX6_init_40
section PAST
variable {p : Program} {l : Launch} {e : Env} {s : State} {m : MethodId} {below : List Frame} {meth : Method} {c : Code} {D : va_G} {cy : Nat → ClassId} {A : Nat → Prop} {h0 : Nat}
abbrev rmP : Room := { frames := 2, cells := 97, slots := 1272, locals := 60 }
abbrev poP (h0 : Nat) : (Nat → Nat) × (Nat → Nat → Nat) × (Nat → Option Nat) → Prop := fun u => u.1 0 = h0 ∧ ∀ k, k < 24 → u.2.2 k = some (u.2.1 k 0)
abbrev wP (cy : Nat → ClassId) : (Nat → Nat) × (Nat → Nat → Nat) × (Nat → Option Nat) → va_W := fun u => w_Past cy u.1 u.2.2 0 0 ++ w_FRing cy u.2.1 (fun _ => 0) (fun _ _ => 0) (fun _ _ => 0) (fun _ _ => 0)
set_option maxHeartbeats 4000000 in
set_option maxRecDepth 100000 in
theorem wl_X5_init (C : Cx D cy A p s m meth c cX5_init 2 none wsX5_init RX5 #[.ref h0]) (hN : NX s) (q : Nat) : ∀ (n i : Nat) (G0 : Nat → Option Nat) (ra : Nat → Nat → Nat) (U : Heap) (locs : List Loc) (ls : Array Slot), i + n = 24 → (∀ k, k < i → G0 k = some (ra k 0)) →
    Gd D A s ([(h0, .inr (5, [.ref q, .int 0, .int 0])), (q, .inl (cy 4, 24, .inr (.inr (.inr (.inr G0)))))] ++ fam i (fun k => w_Led cy (ra k) 0 (fun _ => 0) (fun _ => 0) (fun _ => 0))) U locs → lv_has ls 2 [(0, .ref h0), (1, .int (nI i))] →
    W p l e rmP s m #[.ref h0] below meth c U locs (1 + 4 * i) (24 + 52 * i) (MQ below (MQn D cy (poP h0) (wP cy) A) #[.ref h0] s 97 1272 A) (F0 m 15 ls []) := by
  obtain ⟨hx, hb, hr, hml, hown, hts, hlk, hK, hA, hE⟩ := id C
  have lk0 := hts (Cond.fieldLink RX5 11 "TideDebts$Past" "ledgers" "[LTideDebts$Ledger;") (List.mem_of_getElem? (i := 5) rfl)
  have lk1 := hts (Cond.classLink RX5 9 RX3) (List.mem_of_getElem? (i := 4) rfl)
  have lk2 := hts (Cond.instantiable RX3 4) (List.mem_of_getElem? (i := 6) rfl)
  have lk3 := hts (Cond.initialized RX3) (List.mem_of_getElem? (i := 7) rfl)
  have lk4 := hts (Cond.instanceMethod yX3_init) (List.mem_of_getElem? (i := 8) rfl)
  have hiX5 : ∀ w ∈ u_ws RX5 TX5 3, w ∈ wsX5_init := fun _ h => List.mem_cons_of_mem _ (List.mem_append_left _ (List.mem_append_right _ h))
  have hiX3 : ∀ w ∈ u_ws RX3 TX3 4, w ∈ wsX5_init := fun _ h => List.mem_cons_of_mem _ (List.mem_append_right _ h)
  intro n
  induction n with
  | zero =>
    intro i G0 ra U locs ls hi hG0 G hl
    have hi : i = 24 := hi
    subst hi
    refine lv_iload_n hx hb dX5_init_15 rfl (lv_at hl 1 rfl) ?_
    refine lv_bipush (v := 24) hx hb dX5_init_16 (by decide) ?_
    refine lv_icmp_ge (tgt := 40) hx hb dX5_init_18 (by decide) (fun _ => ?_) (fun c1 => absurd (by decide) c1)
    exact ret_N (post := poP h0) (B := wP cy) C G (adl [h0, q], ra, G0) ⟨rfl, hG0⟩ rfl dX5_init_40
  | succ n ih =>
    intro i G0 ra U locs ls hi hG0 G hl
    have hlt : i < 24 := by omega
    refine lv_iload_n hx hb dX5_init_15 rfl (lv_at hl 1 rfl) ?_
    refine lv_bipush (v := 24) hx hb dX5_init_16 (by decide) ?_
    refine lv_icmp_ge (tgt := 40) hx hb dX5_init_18 (by decide) (fun c1 => absurd c1 (nI_ge hlt (by decide))) (fun _ => ?_)
    refine lv_aload_n hx hb dX5_init_21 rfl (lv_at hl 0 rfl) ?_
    refine va_get (D := D) (ci := 5) (v := .ref q) (C := RX5) (T := TX5) (N := 3) hx hb hts hiX5 hown hK G.1 0 rfl rfl 0 (by decide) lk0 (fun _ h9 => h9) rfl dX5_init_22 ?_
    refine lv_iload_n hx hb dX5_init_25 rfl (lv_at hl 1 rfl) ?_
    refine va_new (ci := 3) (fs := [.null, .null, .null, .int 0]) (C := RX3) (T := TX3) (N := 4) hx hb hts hiX3 tyX3 tyX3_ok hown lk1 lk2 lk3 hK G.1 G.2.1 G.2.2 hA rfl (fun j hj => by rcases (show j = 0 ∨ j = 1 ∨ j = 2 ∨ j = 3 by omega) with rfl | rfl | rfl | rfl <;> rfl) (by show 1 + 4 * i + 1 ≤ 97; omega) (by show 24 + 52 * i + 4 ≤ 1272; omega) dX5_init_26 (fun q1 U hP hD hS => ?_)
    generalize hf : fam i (fun k => w_Led cy (ra k) 0 (fun _ => 0) (fun _ => 0) (fun _ => 0)) = F at hP hD
    have G1 : Gd D A s (([(h0, .inr (5, [.ref q, .int 0, .int 0])), (q, .inl (cy 4, 24, .inr (.inr (.inr (.inr G0)))))] ++ F) ++ [(q1, .inr (3, [.null, .null, .null, .int 0]))]) _ _ := ⟨hP, hD, hS⟩
    refine lv_dup hx hb dX5_init_29 rfl ?_
    refine MN.callIN [.ref q1, .int (nI i), .ref q] C hN G1 (c_X3_init l D cy q1) gX5_init_X3_init_n17 rfl rfl rfl (hN.2.2.2) lk3 lk4 rfl (by decide +kernel) ⟨Nat.le_of_ble_eq_true rfl, Nat.le_of_ble_eq_true rfl⟩ hl.1 rfl (Nat.le_of_ble_eq_true rfl) dX5_init_30 ⟨by show 1 + 4 * i + 1 + 3 ≤ 97; omega, by show 24 + 52 * i + 4 + 48 ≤ 1272; omega⟩ (fun u1 U locs hu G2 => ?_)
    subst hu
    have G2 := G2.perm (perm_sw _ _ _)
    have G2 : Gd D A s ([(h0, .inr (5, [.ref q, .int 0, .int 0])), (q, .inl (cy 4, 24, .inr (.inr (.inr (.inr G0)))))] ++ w_Led cy u1 0 (fun _ => 0) (fun _ => 0) (fun _ => 0) ++ F) _ _ := G2
    refine va_astq hx hb hK G2.1 G2.2.1 G2.2.2 1 4 2 3 rfl rfl rfl rfl (nI_in hlt (by decide)) dX5_init_33 (fun U locs hP hD hS => ?_)
    have G3 : Gd D A s ([(h0, .inr (5, [.ref q, .int 0, .int 0])), (q, .inl (cy 4, 24, .inr (.inr (.inr (.inr (va_up G0 (nI i).toNatClampNeg (some (u1 0))))))))] ++ w_Led cy u1 0 (fun _ => 0) (fun _ => 0) (fun _ => 0) ++ F) _ _ := ⟨hP, hD, hS⟩
    rw [nI_clamp (by omega)] at G3
    have G3 := G3.perm (perm_sw _ _ _)
    rw [List.append_assoc] at G3
    have ef : F ++ w_Led cy u1 0 (fun _ => 0) (fun _ => 0) (fun _ => 0) = fam (i + 1) (fun k => w_Led cy (va_up ra i u1 k) 0 (fun _ => 0) (fun _ => 0) (fun _ => 0)) := by
      rw [fam_succ, ← hf]
      congr 1
      · exact fam_congr (fun k hk => by rw [va_up_ne _ _ (by omega)])
      · rw [va_up_self]
    rw [ef] at G3
    refine lv_iinc (v := nI (i + 1)) (lv' := [(1, .int (nI (i + 1))), (0, .ref h0)]) hx hb dX5_init_34 hl (k := 1) rfl (nI_1 i) (by decide) rfl (fun ls hl => ?_)
    refine lv_goto (tgt := 15) hx hb dX5_init_37 (by decide) ?_
    have hw := ih (i + 1) (va_up G0 i (some (u1 0))) (va_up ra i u1) _ _ ls (by omega) (fun k hk => by
      by_cases hki : k = i
      · subst hki; rw [va_up_self, va_up_self]
      · rw [va_up_ne _ _ hki, va_up_ne _ _ hki]; exact hG0 k (by omega)) G3 (lv_sub hl [1, 0] rfl)
    have e1 : 1 + 4 * i + 1 + 3 = 1 + 4 * (i + 1) := by omega
    have e2 : 24 + 52 * i + 4 + 48 = 24 + 52 * (i + 1) := by omega
    rw [e1, e2]
    exact hw
end PAST
set_option maxHeartbeats 4000000 in
set_option maxRecDepth 100000 in
theorem c_X5_init (l : Launch) (D : va_G) (cy : Nat → ClassId) (h0 : Nat) : MN l yX5_init wsX5_init rmP D cy [.ref h0] [(h0, .inr (5, [.null, .int 0, .int 0]))] 97 1272 (poP h0) (wP cy) := by
  refine met_startN (cc := cX5_init) (nL := 2) (ret := none) RX5 rfl rfl (by decide) rfl (Nat.le_of_ble_eq_true rfl) ?_
  intro p e s m below meth c A ls C hN hin G hl
  have hl : lv_has ls 2 [(0, .ref h0)] := hl
  obtain ⟨hx, hb, hr, hml, hown, hts, hlk, hK, hA, hE⟩ := id C
  have lk0 := hts (Cond.methodLink RX5 3 objectInit) (List.mem_of_getElem? (i := 1) rfl)
  have lk1 := hts (Cond.instanceMethod objectInit) (List.mem_of_getElem? (i := 2) rfl)
  have lk2 := hts (Cond.code objectInit ⟨#[0xb1]⟩ 1 none) (List.mem_of_getElem? (i := 3) rfl)
  have lk3 := hts (Cond.classLink RX5 9 RX3) (List.mem_of_getElem? (i := 4) rfl)
  have lk5 := hts (Cond.fieldLink RX5 11 "TideDebts$Past" "ledgers" "[LTideDebts$Ledger;") (List.mem_of_getElem? (i := 5) rfl)
  have hiX5 : ∀ w ∈ u_ws RX5 TX5 3, w ∈ wsX5_init := fun _ h => List.mem_cons_of_mem _ (List.mem_append_left _ (List.mem_append_right _ h))
  refine lv_aload_n hx hb dX5_init_0 rfl (lv_at hl 0 rfl) ?_
  refine W.objInit hx hb hown lk0 lk1 lk2 rfl (by rw [hml]; exact hl.1) rfl dX5_init_1 (Nat.le_of_ble_eq_true rfl) (Nat.le_of_ble_eq_true rfl) ?_
  refine W.eq (g2 := F0 m 4 ls []) rfl ?_
  refine lv_aload_n hx hb dX5_init_4 rfl (lv_at hl 0 rfl) ?_
  refine lv_bipush (v := 24) hx hb dX5_init_5 (by decide) ?_
  refine g_newq C G 4 lk3 hN.1.1 rfl 24 (by decide) (by decide) (by omega) (Nat.le_of_ble_eq_true rfl) (Nat.le_of_ble_eq_true rfl) dX5_init_7 (fun q U G => ?_)
  have G : Gd D A s [(h0, .inr (5, [.null, .int 0, .int 0])), (q, .inl (cy 4, 24, .inr (.inr (.inr (.inr (fun _ => none))))))] _ _ := G
  refine va_putF (D := D) (ci := 5) (v := .ref q) (ty := tyX5 0) (C := RX5) (T := TX5) (N := 3) hx hb hts hiX5 tyX5 tyX5_ok nmX5 hown hK G.1 G.2.1 G.2.2 0 rfl rfl 0 (by decide) lk5 (fun _ h9 => h9) rfl hin rfl (tyX5_ok 0 (by decide)) rfl rfl (Nat.le_of_ble_eq_true rfl) dX5_init_10 (fun U locs hP hD hS => ?_)
  have G : Gd D A s ([(h0, .inr (5, [.ref q, .int 0, .int 0])), (q, .inl (cy 4, 24, .inr (.inr (.inr (.inr (fun _ => none))))))] ++ fam 0 (fun k => w_Led cy ((fun _ _ => 0 : Nat → Nat → Nat) k) 0 (fun _ => 0) (fun _ => 0) (fun _ => 0))) _ _ := ⟨hP, hD, hS⟩
  refine lv_iconst (v := 0) hx hb dX5_init_13 (by decide) ?_
  refine lv_istore_n (lv' := [(1, .int 0), (0, .ref h0)]) hx hb dX5_init_14 rfl hl (by decide) rfl (fun ls hl => ?_)
  exact wl_X5_init C hN q 24 0 (fun _ => none) (fun _ _ => 0) _ _ ls rfl (fun k hk => absurd hk (by omega)) G (lv_sub hl [1, 0] rfl)
