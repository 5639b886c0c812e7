/-! ===== the law's start: what the Statement gives, the two objects made, the loop ===== -/
theorem vk_S.congr {N : Nat} {len : List Nat} {byt : List (List Int32)} {adK adV adK' adV' : Nat → Nat} {A : Nat → Prop} {U : State} {H : Heap} (h : vk_S N len byt adK adV A U H) (hK : ∀ i, i < N → adK' i = adK i) (hV : ∀ i, i < N → adV' i = adV i) : vk_S N len byt adK' adV' A U H := by
  refine ⟨fun i hi => ?_, fun i j hi hj e => ?_⟩
  · rw [hK i hi, hV i hi]
    exact h.1 i hi
  · rw [hK i hi, hK j hj] at e
    exact h.2 i j hi hj e
def tmS (i : Nat) : Term := Term.string "TideDebts$Tape" ([43, 60, 84, 86, 88, 90, 92].getD i 0)
abbrev gn1 : Cond := Jvm.Cond.and given_1 narrow_1
set_option maxRecDepth 100000 in
theorem fs_ex : ∀ i, i < 7 → Cond.exactly (tmS i) "java/lang/String" ∈ flatC gn1 := by decide +kernel
set_option maxRecDepth 100000 in
theorem fs_co : ∀ i, i < 7 → Cond.eq (.field (tmS i) "java/lang/String" "coder" "B") (.int 0) ∈ flatC gn1 := by decide +kernel
set_option maxRecDepth 100000 in
theorem fs_ar : ∀ i, i < 7 → Cond.arrayOf (.field (tmS i) "java/lang/String" "value" "[B") .byte ∈ flatC gn1 := by decide +kernel
set_option maxRecDepth 100000 in
theorem fs_le : ∀ i, i < 7 → Cond.eq (.length (.field (tmS i) "java/lang/String" "value" "[B")) (.int (Int32.ofNat (xtL.getD i 0))) ∈ flatC gn1 := by decide +kernel
set_option maxRecDepth 100000 in
theorem fs_el : ∀ i, i < 7 → ∀ j, j < xtL.getD i 0 → Cond.eq (.elem (.field (tmS i) "java/lang/String" "value" "[B") (.int (Int32.ofNat j))) (.int ((xtB.getD i []).getD j 0)) ∈ flatC gn1 := by decide +kernel
set_option maxRecDepth 100000 in
theorem fs_ne : ∀ i, i < 7 → ∀ j, j < 7 → i ≠ j → (Cond.not (Cond.eq (tmS i) (tmS j)) ∈ flatC gn1 ∨ Cond.not (Cond.eq (tmS j) (tmS i)) ∈ flatC gn1) := by decide +kernel
abbrev tmA : Term := Term.static "TideDebts$Chart" "IS_ALSO" "[I"
abbrev tmZ : Term := Term.static "TideDebts$Asker" "SIZE_OF_KIND" "[I"
abbrev tmM : Term := Term.static "TideDebts$Asker" "MARK_OF_KIND" "[I"
set_option maxRecDepth 100000 in
theorem fs_tA : Cond.arrayOf tmA .int ∈ flatC gn1 ∧ Cond.eq (.length tmA) (.int (Int32.ofNat 6)) ∈ flatC gn1 ∧ ∀ j, j < 6 → Cond.eq (.elem tmA (.int (Int32.ofNat j))) (.int (tbA.getD j 0)) ∈ flatC gn1 := by decide +kernel
set_option maxRecDepth 100000 in
theorem fs_tZ : Cond.arrayOf tmZ .int ∈ flatC gn1 ∧ Cond.eq (.length tmZ) (.int (Int32.ofNat 6)) ∈ flatC gn1 ∧ ∀ j, j < 6 → Cond.eq (.elem tmZ (.int (Int32.ofNat j))) (.int (tbS.getD j 0)) ∈ flatC gn1 := by decide +kernel
set_option maxRecDepth 100000 in
theorem fs_tM : Cond.arrayOf tmM .int ∈ flatC gn1 ∧ Cond.eq (.length tmM) (.int (Int32.ofNat 6)) ∈ flatC gn1 ∧ ∀ j, j < 6 → Cond.eq (.elem tmM (.int (Int32.ofNat j))) (.int (tbM.getD j 0)) ∈ flatC gn1 := by decide +kernel
set_option maxRecDepth 100000 in
theorem fs_cs : Cond.eq (Term.static "java/lang/String" "COMPACT_STRINGS" "Z") (.int 1) ∈ flatC gn1 ∧ Cond.isRef (Term.static "jdk/internal/util/Preconditions" "SIOOBE_FORMATTER" "Ljava/util/function/BiFunction;") ∈ flatC gn1 := by decide +kernel
set_option maxRecDepth 100000 in
theorem ft_st : Cond.laysStatic "TideDebts$Chart" "IS_ALSO" "[I" ∈ lw_tbl ∧ Cond.laysStatic "TideDebts$Asker" "SIZE_OF_KIND" "[I" ∈ lw_tbl ∧ Cond.laysStatic "TideDebts$Asker" "MARK_OF_KIND" "[I" ∈ lw_tbl ∧ Cond.laysStatic "java/lang/String" "COMPACT_STRINGS" "Z" ∈ lw_tbl ∧ Cond.laysStatic "jdk/internal/util/Preconditions" "SIOOBE_FORMATTER" "Ljava/util/function/BiFunction;" ∈ lw_tbl := by decide +kernel
set_option maxRecDepth 100000 in
theorem ft_in : Cond.initialized "TideDebts$Chart" ∈ lw_tbl ∧ Cond.initialized "TideDebts$Asker" ∈ lw_tbl ∧ Cond.initialized "java/lang/String" ∈ lw_tbl ∧ Cond.initialized "jdk/internal/util/Preconditions" ∈ lw_tbl := by decide +kernel
set_option maxRecDepth 100000 in
theorem ft_sr : Cond.stringRef "TideDebts$Tape" 43 "tide" ∈ lw_tbl ∧ Cond.stringRef "TideDebts$Tape" 60 "water" ∈ lw_tbl ∧ Cond.stringRef "TideDebts$Tape" 84 "cove" ∈ lw_tbl ∧ Cond.stringRef "TideDebts$Tape" 86 "lagoon" ∈ lw_tbl ∧ Cond.stringRef "TideDebts$Tape" 88 "pool" ∈ lw_tbl ∧ Cond.stringRef "TideDebts$Tape" 90 "dyke" ∈ lw_tbl ∧ Cond.stringRef "TideDebts$Tape" 92 "well" ∈ lw_tbl := by decide +kernel
set_option maxRecDepth 100000 in
theorem ft_ac : Cond.arrayClass .byte ∈ lw_tbl ∧ Cond.arrayClass .int ∈ lw_tbl ∧ Cond.arrayClass .boolean ∈ lw_tbl ∧ Cond.arrayOver (.object "TideDebts$Bay") ∈ lw_tbl ∧ Cond.arrayOver (.object "TideDebts$Ledger") ∈ lw_tbl ∧ Cond.arrayOver (.array .int) ∈ lw_tbl := by decide +kernel
set_option maxRecDepth 100000 in
theorem ft_nl : (Cond.methodLinkNest RX8 18 yX7_init RX8 ∈ lw_tbl ∧ Cond.methodLinkNest RX8 25 yX2_init RX8 ∈ lw_tbl ∧ Cond.methodLinkNest RX8 32 yX1_init RX8 ∈ lw_tbl ∧ Cond.methodLinkNest RX8 50 yX3_init RX8 ∈ lw_tbl ∧ Cond.methodLinkNest RX8 57 yX4_init RX8 ∈ lw_tbl ∧ Cond.methodLinkNest RX8 64 yX0_init RX8 ∈ lw_tbl) ∧ (Cond.methodLinkNest RX1 9 yX2_init RX8 ∈ lw_tbl ∧ Cond.methodLinkNest RX1 18 yX3_init RX8 ∈ lw_tbl) ∧ Cond.methodLinkNest RX5 17 yX3_init RX8 ∈ lw_tbl := by decide +kernel
set_option maxRecDepth 100000 in
theorem ft_is : Cond.instantiable RX0 2 ∈ lw_tbl ∧ Cond.instantiable RX1 3 ∈ lw_tbl ∧ Cond.instantiable RX2 5 ∈ lw_tbl ∧ Cond.instantiable RX3 4 ∈ lw_tbl ∧ Cond.instantiable RX4 5 ∈ lw_tbl ∧ Cond.instantiable RX5 3 ∈ lw_tbl ∧ Cond.instantiable RX6 3 ∈ lw_tbl ∧ Cond.instantiable RX7 7 ∈ lw_tbl ∧ Cond.instantiable RX8 11 ∈ lw_tbl ∧ Cond.instantiable RX9 27 ∈ lw_tbl := by decide +kernel
section START
variable {s : State} {b : Nat}
/-- an array class of a primitive type -/
theorem st_prim {args : Array Value} {ty : FieldType} (h : (Cond.arrayClass ty).before args s = true) (hp : ∀ C, ty ≠ .object C) : ∃ cA : ClassId, ArrOfT s cA ty ∧ va_RA s cA ty := by
  obtain ⟨c, k, comp, h1, h2, h3⟩ := Cond.arrayClass_spec h
  refine ⟨c, fun n z => ⟨fun k h => (by cases h), k, h2, comp, h3⟩, ?_⟩
  cases ty with
  | object C => exact absurd rfl (hp C)
  | _ => exact h1
theorem st_obj {args : Array Value} {C : String} (h : (Cond.arrayOver (.object C)).before args s = true) : ∃ cA : ClassId, ArrOfT s cA (.object C) ∧ va_RA s cA (.object C) := by
  obtain ⟨comp, c, k, h1, -, h2, h3, h4⟩ := Cond.arrayOver_spec h
  exact ⟨c, fun n z => ⟨fun k h => (by cases h), k, h2, comp, h3⟩, k, comp, h2, h3, h1, h4⟩
theorem st_arr {args : Array Value} {ty : FieldType} (h : (Cond.arrayOver (.array ty)).before args s = true) : ∃ cA : ClassId, ArrOfT s cA (.array ty) ∧ va_RA s cA (.array ty) := by
  obtain ⟨comp, c, k, -, h2, h3, h4⟩ := Cond.arrayOver_specA h
  exact ⟨c, fun n z => ⟨fun k h => (by cases h), k, h2, comp, h3⟩, h4⟩
theorem st_tab {args : Array Value} {A : Nat → Prop} {C n d : String} {l : List Int32} (hl : (Cond.laysStatic C n d).before args s = true) (hini : (Cond.initialized C).before args s = true) (h1 : (Cond.arrayOf (Term.static C n d) .int).before args s = true) (h2 : (Cond.eq (.length (Term.static C n d)) (.int (Int32.ofNat 6))).before args s = true) (h3 : ∀ j, j < 6 → (Cond.eq (.elem (Term.static C n d) (.int (Int32.ofNat j))) (.int (l.getD j 0))).before args s = true) (hA : ∀ a : Nat, a < s.heap.size → ¬ A a) :
    ∃ t : Nat, va_Z C n d (.ref t) A s s.heap ∧ va_T .int t 6 (fun j => .int (l.getD j 0)) A s s.heap := by
  obtain ⟨t, ht, hT⟩ := va_Tof (f := fun j => .int (l.getD j 0)) (A := A) (by decide) h1 (va_eqt h2) (fun j hj => va_eqt (h3 j hj)) hA
  exact ⟨t, va_Zof hl hini ht hA, hT⟩
def cyF (l0 l1 : List Nat) (adK adV : Nat → Nat) : Nat → Nat := fun k => if k < 10 then l0.getD k 0 else if k < 20 then l1.getD (k - 10) 0 else if k < 30 then adK (k - 20) else adV (k - 30)
theorem st_world (hts : ∀ w ∈ lw_tbl, w.before #[Value.ref b] s = true) (hgv : gn1.before #[Value.ref b] s = true) : ∃ (D : va_G) (cy : Nat → ClassId), va_K D vwCl (tyL cy) s ∧ Ext cy (fun q => s.heap.size ≤ q) s ∧ NX s := by
  have hs := flat_of_before _ hgv
  have hA : ∀ a : Nat, a < s.heap.size → ¬ (fun q : Nat => s.heap.size ≤ q) a := fun a h => Nat.not_le.mpr h
  obtain ⟨i0, i1, i2, i3, i4, i5, i6, i7, i8, i9⟩ := ft_is
  obtain ⟨c0, s0, k0⟩ := u_known (C := RX0) (T := TX0) (N := 2) (n := 2) hts li_wsX00 (hts _ i0)
  obtain ⟨c1, s1, k1⟩ := u_known (C := RX1) (T := TX1) (N := 3) (n := 3) hts li_wsX10 (hts _ i1)
  obtain ⟨c2, s2, k2⟩ := u_known (C := RX2) (T := TX2) (N := 5) (n := 5) hts li_wsX20 (hts _ i2)
  obtain ⟨c3, s3, k3⟩ := u_known (C := RX3) (T := TX3) (N := 4) (n := 4) hts li_wsX30 (hts _ i3)
  obtain ⟨c4, s4, k4⟩ := u_known (C := RX4) (T := TX4) (N := 5) (n := 5) hts li_wsX40 (hts _ i4)
  obtain ⟨c5, s5, k5⟩ := u_known (C := RX5) (T := TX5) (N := 3) (n := 3) hts li_wsX50 (hts _ i5)
  obtain ⟨c6, s6, k6⟩ := u_known (C := RX6) (T := TX6) (N := 3) (n := 3) hts li_wsX60 (hts _ i6)
  obtain ⟨c7, s7, k7⟩ := u_known (C := RX7) (T := TX7) (N := 7) (n := 7) hts li_wsX70 (hts _ i7)
  obtain ⟨c8, s8, k8⟩ := u_known (C := RX8) (T := TX8) (N := 11) (n := 11) hts li_wsX80 (hts _ i8)
  obtain ⟨c9, s9, k9⟩ := u_known (C := RX9) (T := TX9) (N := 27) (n := 27) hts li_wsX90 (hts _ i9)
  obtain ⟨a0, a1, a2, a3, a4, a5⟩ := ft_ac
  obtain ⟨b0, b00, b01⟩ := st_prim (hts _ a0) (by intro _ h; cases h)
  obtain ⟨b1, b10, b11⟩ := st_prim (hts _ a1) (by intro _ h; cases h)
  obtain ⟨b2, b20, b21⟩ := st_prim (hts _ a2) (by intro _ h; cases h)
  obtain ⟨b3, b30, b31⟩ := st_obj (hts _ a3)
  obtain ⟨b4, b40, b41⟩ := st_obj (hts _ a4)
  obtain ⟨b5, b50, b51⟩ := st_arr (hts _ a5)
  obtain ⟨l0, l1, l2, l3, l4⟩ := ft_st
  obtain ⟨n0, n1, n2, n3⟩ := ft_in
  obtain ⟨t0, z0, y0⟩ := st_tab (l := tbA) (hts _ l0) (hts _ n0) (hs _ fs_tA.1) (hs _ fs_tA.2.1) (fun j hj => hs _ (fs_tA.2.2 j hj)) hA
  obtain ⟨t1, z1, y1⟩ := st_tab (l := tbS) (hts _ l1) (hts _ n1) (hs _ fs_tZ.1) (hs _ fs_tZ.2.1) (fun j hj => hs _ (fs_tZ.2.2 j hj)) hA
  obtain ⟨t2, z2, y2⟩ := st_tab (l := tbM) (hts _ l2) (hts _ n1) (hs _ fs_tM.1) (hs _ fs_tM.2.1) (fun j hj => hs _ (fs_tM.2.2 j hj)) hA
  obtain ⟨adK, adV, vS, vE⟩ := vk_Sof (N := 7) (tm := tmS) (len := xtL) (byt := xtB) (A := fun q => s.heap.size ≤ q) (by decide) (fun i hi => hs _ (fs_ex i hi)) (fun i hi => hs _ (fs_co i hi)) (fun i hi => hs _ (fs_ar i hi)) (fun i hi => hs _ (fs_le i hi)) (fun i hi j hj => hs _ (fs_el i hi j hj)) (fun i j hi hj hij => (fs_ne i hi j hj hij).elim (fun h => Or.inl (hs _ h)) (fun h => Or.inr (hs _ h))) hA
  obtain ⟨r0, r1, r2, r3, r4, r5, r6⟩ := ft_sr
  obtain ⟨⟨m0, m1, m2, m3, m4, m5⟩, ⟨m6, m7⟩, m8⟩ := ft_nl
  refine ⟨(fun k => [c0, c1, c2, c3, c4, c5, c6, c7, c8, c9].getD k c0, fun k => [s0, s1, s2, s3, s4, s5, s6, s7, s8, s9].getD k s0), cyF [b0, b1, b2, b3, b4, b5] [t0, t1, t2] adK adV, ⟨?_, ?_⟩, ⟨⟨⟨z0, y0⟩, ⟨z1, y1⟩, ⟨z2, y2⟩, va_Zof (hts _ l3) (hts _ n2) (va_eqi (hs _ fs_cs.1)) hA, ?_, va_Zqof (hts _ l4) (hts _ n3) (hs _ fs_cs.2) hA⟩, ?_⟩, ?_⟩
  · intro k q hq
    match k, hq with
    | 0, hq => cases hq; exact k0
    | 1, hq => cases hq; exact k1
    | 2, hq => cases hq; exact k2
    | 3, hq => cases hq; exact k3
    | 4, hq => cases hq; exact k4
    | 5, hq => cases hq; exact k5
    | 6, hq => cases hq; exact k6
    | 7, hq => cases hq; exact k7
    | 8, hq => cases hq; exact k8
    | 9, hq => cases hq; exact k9
    | k + 10, hq => simp [vwCl] at hq
  · intro k q hq
    match k, hq with
    | 0, hq => cases hq; exact ⟨b00, b01⟩
    | 1, hq => cases hq; exact ⟨b10, b11⟩
    | 2, hq => cases hq; exact ⟨b20, b21⟩
    | 3, hq => cases hq; exact ⟨b30, b31⟩
    | 4, hq => cases hq; exact ⟨b40, b41⟩
    | 5, hq => cases hq; exact ⟨b50, b51⟩
    | k + 6, hq => simp [tyL] at hq
  · refine vS.congr (fun i hi => ?_) (fun i hi => ?_)
    · show cyF _ _ _ _ (20 + i) = _
      unfold cyF
      rw [if_neg (by omega), if_neg (by omega), if_pos (by omega), show 20 + i - 20 = i by omega]
    · show cyF _ _ _ _ (30 + i) = _
      unfold cyF
      rw [if_neg (by omega), if_neg (by omega), if_neg (by omega), show 30 + i - 30 = i by omega]
  · exact ⟨vk_R.of (hts _ r0) (vE 0 (by decide)), vk_R.of (hts _ r1) (vE 1 (by decide)), vk_R.of (hts _ r2) (vE 2 (by decide)), vk_R.of (hts _ r3) (vE 3 (by decide)), vk_R.of (hts _ r4) (vE 4 (by decide)), vk_R.of (hts _ r5) (vE 5 (by decide)), vk_R.of (hts _ r6) (vE 6 (by decide))⟩
  · exact ⟨⟨va_AO.of (hts _ a4), va_AO.of (hts _ a3), hts _ a5⟩, ⟨va_Nw.of rfl (hts _ m0), va_Nw.of rfl (hts _ m1), va_Nw.of rfl (hts _ m2), va_Nw.of rfl (hts _ m3), va_Nw.of rfl (hts _ m4), va_Nw.of rfl (hts _ m5)⟩, ⟨va_Nw.of rfl (hts _ m6), va_Nw.of rfl (hts _ m7)⟩, va_Nw.of rfl (hts _ m8)⟩
end START
