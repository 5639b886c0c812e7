/-! ===== contracts over larger worlds: frames, permutations, families ===== -/
theorem Met.mono {l : Launch} {y : MethodName} {ws : List Cond} {rm : Room} {Pc Pc' : Array Value → State → Prop} {Qc Qc' : Array Value → State → Outcome → State → Prop} {mc ms : Nat} {free free' : Addr → Prop} (h : Met l y ws rm Pc Qc mc ms free) (hp : ∀ a s, Pc' a s → Pc a s) (hq : ∀ a s o t, Pc' a s → Qc a s o t → Qc' a s o t) (hf : ∀ q, free q → free' q) : Met l y ws rm Pc' Qc' mc ms free' := by
  intro p e h1 h2 h3 s m args below h4 h5 h6 h7
  obtain ⟨n, o, g1, g2, g3, g4, L, g5, g6⟩ := h p e h1 h2 h3 s m args below h4 h5 (hp _ _ h6) h7
  exact ⟨n, o, g1, g2, g3, hq _ _ _ _ h6 g4, L, g5, fun q hh => hf _ (g6 q hh)⟩
theorem vaP_iff {D : va_G} {cl : List vw_C} {ws : va_W} {H : Heap} : va_P D cl ws H ↔ ∀ q ∈ ws, va_at D cl q H := by
  constructor
  · intro h q hq
    obtain ⟨k, hk⟩ := List.getElem?_of_mem hq
    exact h k q hk
  · intro h k q hk
    exact h q (List.mem_of_getElem? hk)
theorem vaA_iff {ws : va_W} {sz q : Nat} : va_A ws sz q ↔ (∃ e, (q, e) ∈ ws) ∨ sz ≤ q := by
  constructor
  · rintro (⟨k, e, h⟩ | h)
    · exact Or.inl ⟨e, List.mem_of_getElem? h⟩
    · exact Or.inr h
  · rintro (⟨e, h⟩ | h)
    · obtain ⟨k, hk⟩ := List.getElem?_of_mem h
      exact Or.inl ⟨k, e, hk⟩
    · exact Or.inr h
theorem vaD_iff {A : Nat → Prop} {ws : va_W} : va_D A ws ↔ (ws.map (fun q => q.1)).Nodup ∧ ∀ q ∈ ws, A q.1 := by
  constructor
  · rintro ⟨h1, h2⟩
    refine ⟨?_, fun q hq => ?_⟩
    · unfold List.Nodup
      rw [List.pairwise_iff_getElem]
      intro i j hi hj hij he
      rw [List.length_map] at hi hj
      rw [List.getElem_map, List.getElem_map] at he
      have := h1 i j _ _ (List.getElem?_eq_getElem hi) (List.getElem?_eq_getElem hj) he
      omega
    · obtain ⟨k, hk⟩ := List.getElem?_of_mem hq
      exact h2 k q hk
  · rintro ⟨h1, h2⟩
    refine ⟨fun i j p q hp hq he => ?_, fun k q hk => h2 q (List.mem_of_getElem? hk)⟩
    unfold List.Nodup at h1
    rw [List.pairwise_iff_getElem] at h1
    obtain ⟨hi, rfl⟩ := List.getElem?_eq_some_iff.mp hp
    obtain ⟨hj, rfl⟩ := List.getElem?_eq_some_iff.mp hq
    rcases Nat.lt_trichotomy i j with h | h | h
    · exact absurd (by rw [List.getElem_map, List.getElem_map]; exact he) (h1 i j (by rw [List.length_map]; exact hi) (by rw [List.length_map]; exact hj) h)
    · exact h
    · exact absurd (by rw [List.getElem_map, List.getElem_map]; exact he.symm) (h1 j i (by rw [List.length_map]; exact hj) (by rw [List.length_map]; exact hi) h)
theorem Ext.narrow {cy : Nat → ClassId} {A B : Nat → Prop} {U : State} (h : Ext cy A U) (hAB : ∀ q, B q → A q) : Ext cy B U := ⟨h.1.go (Vm.Alike.refl U.vm) (fun _ _ _ => rfl) hAB, h.2⟩
section REF
variable {D : va_G} {cy : Nat → ClassId} {w w1 W W1 X : va_W} {sz : Nat} {U t : State}
theorem ref_sub (hp : (w ++ X).Perm W) : ∀ q, va_A w sz q → va_A W sz q := by
  intro q h
  rcases vaA_iff.mp h with ⟨e, h⟩ | h
  · exact vaA_iff.mpr (Or.inl ⟨e, hp.mem_iff.mp (List.mem_append_left _ h)⟩)
  · exact vaA_iff.mpr (Or.inr h)
theorem ref_P {H : Heap} (hp : (w ++ X).Perm W) (h : va_P D vwCl W H) : va_P D vwCl w H := vaP_iff.mpr (fun q hq => vaP_iff.mp h q (hp.mem_iff.mp (List.mem_append_left _ hq)))
theorem ref_D {A : Nat → Prop} (hp : (w ++ X).Perm W) (h : va_D A W) : va_D A (w ++ X) := by
  obtain ⟨h1, h2⟩ := vaD_iff.mp h
  exact vaD_iff.mpr ⟨(hp.map _).nodup_iff.mpr h1, fun q hq => h2 q (hp.mem_iff.mp hq)⟩
theorem ref_Dl {A : Nat → Prop} (h : va_D A (w ++ X)) : va_D A w := by
  obtain ⟨h1, h2⟩ := vaD_iff.mp h
  rw [List.map_append] at h1
  exact vaD_iff.mpr ⟨(List.nodup_append.mp h1).1, fun q hq => h2 q (List.mem_append_left _ hq)⟩
/-- the cells beside the callee's are apart from it -/
theorem ref_out (hp : (w ++ X).Perm W) (hs : U.heap.size = sz) (hP : va_P D vwCl W U.heap) (hD : va_D (fun _ => True) W) : ∀ q ∈ X, q.1 < U.heap.size ∧ ¬ va_A w sz q.1 := by
  intro q hq
  have hlt := (vaP_iff.mp hP q (hp.mem_iff.mp (List.mem_append_right _ hq))).lt
  refine ⟨hlt, fun h => ?_⟩
  rcases vaA_iff.mp h with ⟨e, h⟩ | h
  · have h1 := (vaD_iff.mp (ref_D hp hD)).1
    rw [List.map_append] at h1
    exact (List.nodup_append.mp h1).2.2 q.1 (List.mem_map.mpr ⟨(q.1, e), h, rfl⟩) q.1 (List.mem_map.mpr ⟨q, hq, rfl⟩) rfl
  · omega
theorem ref_post (hp : (w ++ X).Perm W) (hp1 : (w1 ++ X).Perm W1) (hs : U.heap.size = sz) (hP : va_P D vwCl W U.heap) (hD : va_D (fun _ => True) W) (hP1 : va_P D vwCl w1 t.heap) (hD1 : va_D (va_A w sz) w1) (hF : va_F (va_A w sz) U t) :
    va_P D vwCl W1 t.heap ∧ va_D (va_A W sz) W1 ∧ va_F (va_A W sz) U t := by
  have ho := ref_out hp hs hP hD
  refine ⟨vaP_iff.mpr (fun q hq => ?_), ?_, hF.1, fun q h1 h2 => hF.2 q h1 (fun z => h2 (ref_sub hp q z))⟩
  · rcases List.mem_append.mp (hp1.mem_iff.mpr hq) with h | h
    · exact vaP_iff.mp hP1 q h
    · exact (vaP_iff.mp hP q (hp.mem_iff.mp (List.mem_append_right _ h))).kept (hF.2 q.1 (ho q h).1 (ho q h).2)
  · have hDX := (vaD_iff.mp (ref_D hp hD)).1
    rw [List.map_append] at hDX
    obtain ⟨n1, n2⟩ := vaD_iff.mp hD1
    have : va_D (va_A W sz) (w1 ++ X) := by
      refine vaD_iff.mpr ⟨?_, fun q hq => ?_⟩
      · rw [List.map_append]
        refine List.nodup_append.mpr ⟨n1, (List.nodup_append.mp hDX).2.1, fun a ha b hb hab => ?_⟩
        obtain ⟨x, hx, rfl⟩ := List.mem_map.mp ha
        obtain ⟨z, hz, rfl⟩ := List.mem_map.mp hb
        exact (ho z hz).2 (hab ▸ n2 x hx)
      · rcases List.mem_append.mp hq with h | h
        · exact ref_sub hp _ (n2 q h)
        · exact vaA_iff.mpr (Or.inl ⟨q.2, hp.mem_iff.mp (List.mem_append_right _ h)⟩)
    obtain ⟨m1, m2⟩ := vaD_iff.mp this
    exact vaD_iff.mpr ⟨(hp1.map _).nodup_iff.mp m1, fun q hq => m2 q (hp1.mem_iff.mpr hq)⟩
end REF
theorem MI.reframe {l : Launch} {y : MethodName} {ws : List Cond} {rm : Room} {D : va_G} {cy : Nat → ClassId} {av : List Value} {w w1 W W1 : va_W} {r : Int32} (X : va_W) (hM : MI l y ws rm D cy av w r w1) (hp : (w ++ X).Perm W) (hp1 : (w1 ++ X).Perm W1) : MI l y ws rm D cy av W r W1 := by
  intro sz
  refine Met.mono (hM sz) ?_ ?_ (ref_sub hp)
  · rintro a U ⟨h0, h1, hP, hK, hD, hE⟩
    exact ⟨h0, h1, ref_P hp hP, hK, ref_Dl (ref_D hp hD), hE.narrow (ref_sub hp)⟩
  · rintro a U o t ⟨h0, h1, hP, hK, hD, hE⟩ ⟨⟨r', u, ho, hr, hP1, hK1, hD1⟩, hF⟩
    obtain ⟨g1, g2, g3⟩ := ref_post hp hp1 h1 hP hD hP1 hD1 hF
    exact ⟨⟨r', u, ho, hr, g1, hK1, g2⟩, g3⟩
theorem MV.reframe {l : Launch} {y : MethodName} {ws : List Cond} {rm : Room} {D : va_G} {cy : Nat → ClassId} {av : List Value} {w w1 W W1 : va_W} (X : va_W) (hM : MV l y ws rm D cy av w w1) (hp : (w ++ X).Perm W) (hp1 : (w1 ++ X).Perm W1) : MV l y ws rm D cy av W W1 := by
  intro sz
  refine Met.mono (hM sz) ?_ ?_ (ref_sub hp)
  · rintro a U ⟨h0, h1, hP, hK, hD, hE⟩
    exact ⟨h0, h1, ref_P hp hP, hK, ref_Dl (ref_D hp hD), hE.narrow (ref_sub hp)⟩
  · rintro a U o t ⟨h0, h1, hP, hK, hD, hE⟩ ⟨⟨u, ho, hr, hP1, hK1, hD1⟩, hF⟩
    obtain ⟨g1, g2, g3⟩ := ref_post hp hp1 h1 hP hD hP1 hD1 hF
    exact ⟨⟨u, ho, hr, g1, hK1, g2⟩, g3⟩
def fam (N : Nat) (f : Nat → va_W) : va_W := (List.range N).flatMap f
theorem fam_perm {N k : Nat} (hk : k < N) (f : Nat → va_W) : (fam N f).Perm (f k ++ ((List.range N).erase k).flatMap f) := by
  have h := (List.perm_cons_erase (List.mem_range.mpr hk)).flatMap_right f
  rw [List.flatMap_cons] at h
  exact h
theorem fam_rest {N k : Nat} {f g : Nat → va_W} (h : ∀ j, j ≠ k → g j = f j) : ((List.range N).erase k).flatMap g = ((List.range N).erase k).flatMap f := by
  have hn : (List.range N).Nodup := List.nodup_range
  rw [List.flatMap_def, List.flatMap_def]
  congr 1
  apply List.map_congr_left
  intro j hj
  exact h j (fun e => by subst e; exact (List.Nodup.mem_erase_iff hn).mp hj |>.1 rfl)
/-- one member of a family -/
theorem MI.member {l : Launch} {y : MethodName} {ws : List Cond} {rm : Room} {D : va_G} {cy : Nat → ClassId} {av : List Value} {P P1 : va_W} {r : Int32} {N k : Nat} {f g : Nat → va_W} (hk : k < N) (hg : ∀ j, j ≠ k → g j = f j) (hM : MI l y ws rm D cy av (P ++ f k) r (P1 ++ g k)) : MI l y ws rm D cy av (P ++ fam N f) r (P1 ++ fam N g) := by
  refine MI.reframe (((List.range N).erase k).flatMap f) hM ?_ ?_
  · rw [List.append_assoc]
    exact (List.Perm.append_left P (fam_perm hk f)).symm
  · rw [List.append_assoc, ← fam_rest hg]
    exact (List.Perm.append_left P1 (fam_perm hk g)).symm
theorem MV.member {l : Launch} {y : MethodName} {ws : List Cond} {rm : Room} {D : va_G} {cy : Nat → ClassId} {av : List Value} {P P1 : va_W} {N k : Nat} {f g : Nat → va_W} (hk : k < N) (hg : ∀ j, j ≠ k → g j = f j) (hM : MV l y ws rm D cy av (P ++ f k) (P1 ++ g k)) : MV l y ws rm D cy av (P ++ fam N f) (P1 ++ fam N g) := by
  refine MV.reframe (((List.range N).erase k).flatMap f) hM ?_ ?_
  · rw [List.append_assoc]
    exact (List.Perm.append_left P (fam_perm hk f)).symm
  · rw [List.append_assoc, ← fam_rest hg]
    exact (List.Perm.append_left P1 (fam_perm hk g)).symm
theorem MI.tail {l : Launch} {y : MethodName} {ws : List Cond} {rm : Room} {D : va_G} {cy : Nat → ClassId} {av : List Value} {w w1 : va_W} {r : Int32} (T : va_W) (hM : MI l y ws rm D cy av w r w1) : MI l y ws rm D cy av (w ++ T) r (w1 ++ T) := hM.reframe T (List.Perm.refl _) (List.Perm.refl _)
theorem MV.tail {l : Launch} {y : MethodName} {ws : List Cond} {rm : Room} {D : va_G} {cy : Nat → ClassId} {av : List Value} {w w1 : va_W} (T : va_W) (hM : MV l y ws rm D cy av w w1) : MV l y ws rm D cy av (w ++ T) (w1 ++ T) := hM.reframe T (List.Perm.refl _) (List.Perm.refl _)
theorem fam_len {N : Nat} {f g : Nat → va_W} (h : ∀ k, (f k).length = (g k).length) : (fam N f).length = (fam N g).length := by
  unfold fam
  rw [List.length_flatMap, List.length_flatMap]
  congr 1
  exact List.map_congr_left (fun k _ => h k)
/-- behind a call whose world has a block in common with the caller's end -/
theorem Gd.putT {D : va_G} {A : Nat → Prop} {s : State} {W w w1 T T1 : va_W} {H H1 : Heap} {locs locs1 : List Loc} (G : Gd D A s (W ++ T) H locs) (isC : List Nat) (hC : isC.map (fun i => W[i]?) = w.map some) (hL : isC.length = w1.length) (hT : T1.length = T.length)
    (hk : ∀ q : Nat, q < H.size → ¬ va_A (w ++ T) H.size q → H1[q]? = H[q]?) (hF : ∀ q, va_A (w ++ T) H.size q → A q) (hP1 : va_P D vwCl (w1 ++ T1) H1) (hD1 : va_D (va_A (w ++ T) H.size) (w1 ++ T1)) (hS : va_S A s.heap H1 locs1) : Gd D A s (pt W isC w1 ++ T1) H1 locs1 := by
  have hin : ∀ i ∈ isC, i < W.length := by
    intro i hi
    obtain ⟨j, hj⟩ := List.getElem?_of_mem hi
    have h1 : (isC.map (fun i => W[i]?))[j]? = some (W[i]?) := by rw [List.getElem?_map, hj]; rfl
    rw [hC, List.getElem?_map] at h1
    rcases Nat.lt_or_ge i W.length with z | z
    · exact z
    · rw [List.getElem?_eq_none z] at h1
      cases hw : w[j]? with
      | none => rw [hw] at h1; cases h1
      | some q => rw [hw] at h1; cases h1
  have hLw : isC.length = w.length := by
    have h2 : (isC.map (fun i => W[i]?)).length = (w.map some).length := by rw [hC]
    rwa [List.length_map, List.length_map] at h2
  refine G.putG (w := w ++ T) (w1 := w1 ++ T1) (isC ++ List.range' W.length T.length) ?_ ?_ hk hF hP1 hD1 hS
  · rw [List.map_append, List.map_append]
    congr 1
    · rw [← hC]
      exact List.map_congr_left (fun i hi => List.getElem?_append_left (hin i hi))
    · apply List.ext_getElem?
      intro j
      rw [List.getElem?_map, List.getElem?_map]
      by_cases hj : j < T.length
      · rw [List.getElem?_range' hj, List.getElem?_eq_getElem hj]
        show some ((W ++ T)[W.length + 1 * j]?) = some (some T[j])
        rw [List.getElem?_append_right (by omega), show W.length + 1 * j - W.length = j by omega, List.getElem?_eq_getElem hj]
      · rw [List.getElem?_eq_none (by rw [List.length_range']; omega), List.getElem?_eq_none (by omega)]
        rfl
  · intro k q hq
    by_cases hkl : k < W.length
    · rw [List.getElem?_append_left (by rw [pt_len]; exact hkl)] at hq
      rcases pt_get W isC w1 k q hL hq with ⟨j, a, b⟩ | ⟨a, b⟩
      · have hj1 : j < isC.length := (List.getElem?_eq_some_iff.mp a).1
        have hj2 : j < w1.length := (List.getElem?_eq_some_iff.mp b).1
        exact Or.inl ⟨j, by rw [List.getElem?_append_left hj1]; exact a, by rw [List.getElem?_append_left hj2]; exact b⟩
      · refine Or.inr ⟨fun h => ?_, by rw [List.getElem?_append_left hkl]; exact b⟩
        rcases List.mem_append.mp h with h | h
        · exact a h
        · have := List.mem_range'_1.mp h
          omega
    · rw [List.getElem?_append_right (by rw [pt_len]; omega), pt_len] at hq
      have hlt : k - W.length < T1.length := (List.getElem?_eq_some_iff.mp hq).1
      refine Or.inl ⟨isC.length + (k - W.length), ?_, ?_⟩
      · rw [List.getElem?_append_right (by omega), show isC.length + (k - W.length) - isC.length = k - W.length by omega, List.getElem?_range' (by omega)]
        congr 1
        omega
      · rw [hL, List.getElem?_append_right (by omega), show w1.length + (k - W.length) - w1.length = k - W.length by omega]
        exact hq
section CALLST
variable {p : Program} {l : Launch} {e : Env} {R : Room} {s : State} {m : MethodId} {args : Array Value} {below : List Frame} {meth : Method} {c : Code} {H : Heap} {locs : List Loc} {D : va_G} {cy : Nat → ClassId} {A : Nat → Prop} {cc : ByteArray} {nL : Nat} {ret : Option FieldType} {Ts : List Cond} {own : String} {pc : Nat} {ls : Array Slot} {Q : State → Prop}
variable {y : MethodName} {wy wy' : List Cond} {rm : Room} {w w1 W0 T T1 : va_W} {b index maxL n ci q0 cells slots : Nat} {bytes : ByteArray} {rt : Option FieldType} {Cn : String} {fs : List Value} {q : vw_C} {st0 : List Value}
theorem MI.callVt (r : Int32) (As rest : List Value) (isC : List Nat) (C : Cx D cy A p s m meth c cc nL ret Ts own args) (G : Gd D A s (W0 ++ T) H locs) (hM : MI l y wy rm D cy (.ref b :: As) (w ++ T) r (w1 ++ T1))
    (hT : GoodIn Ts (wsV own index Cn y wy)) (hw : wy = Cond.code y bytes maxL rt :: wy') (hrc : rm.cells = 0) (hrs : rm.slots = 0)
    (hd : y.cls = Cn ∧ y.cls ≠ "java/lang/invoke/MethodHandle" ∧ y.cls ≠ "java/lang/invoke/VarHandle" ∧ (parseMethodDescriptor y.desc).map (fun d => d.parameters.length) = some n) (hR : rm.frames + 1 ≤ R.frames ∧ 8 + (maxL + 11) + rm.locals ≤ R.locals)
    (he : (W0 ++ T)[q0]? = some (b, .inr (ci, fs))) (hc : vwCl[ci]? = some q) (hq : q.1 = Cn) (hC : isC.map (fun i => W0[i]?) = w.map some) (hnd : va_nd isC = true) (hL : isC.length = w1.length) (hTl : T1.length = T.length)
    (hn : As.length = n) (hl : ls.size = nL) (hst : st0 = As.reverse ++ .ref b :: rest) (hrm : (rest.map fun v => v.category).sum ≤ 8) (hdg : decode cc pc = .ok (.invokevirtual index, 3)) (hf : cells ≤ R.cells ∧ slots ≤ R.slots)
    (kk : ∀ (H1 : Heap) (locs1 : List Loc), Gd D A s (pt W0 isC w1 ++ T1) H1 locs1 → W p l e R s m args below meth c H1 locs1 cells slots Q (F0 m (pc + 3) ls (.int r :: rest))) : W p l e R s m args below meth c H locs cells slots Q (F0 m pc ls st0) := by
  obtain ⟨hx, hb, hr, hml, hown, hts, hlk, hK, hA, hE⟩ := C
  have hsub : ∀ q ∈ w, q ∈ W0 := by
    intro q hq
    obtain ⟨j, hj⟩ := List.getElem?_of_mem hq
    have h1 : (w.map some)[j]? = some (some q) := by rw [List.getElem?_map, hj]; rfl
    rw [← hC, List.getElem?_map] at h1
    cases hi : isC[j]? with
    | none => rw [hi] at h1; cases h1
    | some i => rw [hi] at h1; exact List.mem_of_getElem? (Option.some.inj h1)
  have hsub2 : ∀ q ∈ w ++ T, q ∈ W0 ++ T := fun q hq => (List.mem_append.mp hq).elim (fun h => List.mem_append_left _ (hsub q h)) (fun h => List.mem_append_right _ h)
  have hFc : ∀ q, va_A (w ++ T) H.size q → A q := by
    intro q h
    rcases vaA_iff.mp h with ⟨e, h⟩ | h
    · exact (vaD_iff.mp G.2.1).2 _ (hsub2 _ h)
    · exact hA q (Nat.le_trans G.2.2.1 h)
  have hDw : va_D A (w ++ T) := by
    obtain ⟨n1, n2⟩ := vaD_iff.mp G.2.1
    have hw0 : va_D A W0 := ref_Dl G.2.1
    have hww : va_D A w := hw0.sub isC hnd hC
    rw [List.map_append] at n1
    obtain ⟨m1, m2, m3⟩ := List.nodup_append.mp n1
    refine vaD_iff.mpr ⟨?_, fun q hq => n2 q (hsub2 q hq)⟩
    rw [List.map_append]
    refine List.nodup_append.mpr ⟨(vaD_iff.mp hww).1, m2, fun a ha b hb => ?_⟩
    obtain ⟨x, hx, rfl⟩ := List.mem_map.mp ha
    exact m3 x.1 (List.mem_map.mpr ⟨x, hsub x hx, rfl⟩) b hb
  refine va_calli (va_runV (As := As) (rest := rest) ⟨hx, hb, hml, hown, hts⟩ (hM H.size) (cwV n hts hT hw hrc hrs hd hR) ⟨MPre.blind, by have := va_recv hK G.1 hc he; rw [hq] at this; exact this, fun U hU hW => ⟨rfl, by rw [hU], by rw [hU]; exact vaP_iff.mpr (fun q hq => vaP_iff.mp G.1 q (hsub2 q hq)), va_K.moved hW.alike hK, hDw.weaken (fun _ _ _ _ => trivial), hE.call G.2.2 hW hU hFc⟩⟩ rfl hn hl hst (lv_room hrm) hdg hf) G.2.2 (fun q _ h => hFc q h) hFc (fun r' u t H1 locs1 ht hvm hw' hB hz1 hk1 hS => ?_)
  obtain ⟨hP1, hK1, hD1⟩ := hB
  rw [ht] at hP1
  subst hw'
  exact kk H1 locs1 (G.putT isC hC hL hTl hk1 hFc hP1 hD1 hS)
theorem MV.callVt (As rest : List Value) (isC : List Nat) (C : Cx D cy A p s m meth c cc nL ret Ts own args) (G : Gd D A s (W0 ++ T) H locs) (hM : MV l y wy rm D cy (.ref b :: As) (w ++ T) (w1 ++ T1))
    (hT : GoodIn Ts (wsV own index Cn y wy)) (hw : wy = Cond.code y bytes maxL rt :: wy') (hrc : rm.cells = 0) (hrs : rm.slots = 0)
    (hd : y.cls = Cn ∧ y.cls ≠ "java/lang/invoke/MethodHandle" ∧ y.cls ≠ "java/lang/invoke/VarHandle" ∧ (parseMethodDescriptor y.desc).map (fun d => d.parameters.length) = some n) (hR : rm.frames + 1 ≤ R.frames ∧ 8 + (maxL + 11) + rm.locals ≤ R.locals)
    (he : (W0 ++ T)[q0]? = some (b, .inr (ci, fs))) (hc : vwCl[ci]? = some q) (hq : q.1 = Cn) (hC : isC.map (fun i => W0[i]?) = w.map some) (hnd : va_nd isC = true) (hL : isC.length = w1.length) (hTl : T1.length = T.length)
    (hn : As.length = n) (hl : ls.size = nL) (hst : st0 = As.reverse ++ .ref b :: rest) (hrm : (rest.map fun v => v.category).sum ≤ 8) (hdg : decode cc pc = .ok (.invokevirtual index, 3)) (hf : cells ≤ R.cells ∧ slots ≤ R.slots)
    (kk : ∀ (H1 : Heap) (locs1 : List Loc), Gd D A s (pt W0 isC w1 ++ T1) H1 locs1 → W p l e R s m args below meth c H1 locs1 cells slots Q (F0 m (pc + 3) ls (rest))) : W p l e R s m args below meth c H locs cells slots Q (F0 m pc ls st0) := by
  obtain ⟨hx, hb, hr, hml, hown, hts, hlk, hK, hA, hE⟩ := C
  have hsub : ∀ q ∈ w, q ∈ W0 := by
    intro q hq
    obtain ⟨j, hj⟩ := List.getElem?_of_mem hq
    have h1 : (w.map some)[j]? = some (some q) := by rw [List.getElem?_map, hj]; rfl
    rw [← hC, List.getElem?_map] at h1
    cases hi : isC[j]? with
    | none => rw [hi] at h1; cases h1
    | some i => rw [hi] at h1; exact List.mem_of_getElem? (Option.some.inj h1)
  have hsub2 : ∀ q ∈ w ++ T, q ∈ W0 ++ T := fun q hq => (List.mem_append.mp hq).elim (fun h => List.mem_append_left _ (hsub q h)) (fun h => List.mem_append_right _ h)
  have hFc : ∀ q, va_A (w ++ T) H.size q → A q := by
    intro q h
    rcases vaA_iff.mp h with ⟨e, h⟩ | h
    · exact (vaD_iff.mp G.2.1).2 _ (hsub2 _ h)
    · exact hA q (Nat.le_trans G.2.2.1 h)
  have hDw : va_D A (w ++ T) := by
    obtain ⟨n1, n2⟩ := vaD_iff.mp G.2.1
    have hw0 : va_D A W0 := ref_Dl G.2.1
    have hww : va_D A w := hw0.sub isC hnd hC
    rw [List.map_append] at n1
    obtain ⟨m1, m2, m3⟩ := List.nodup_append.mp n1
    refine vaD_iff.mpr ⟨?_, fun q hq => n2 q (hsub2 q hq)⟩
    rw [List.map_append]
    refine List.nodup_append.mpr ⟨(vaD_iff.mp hww).1, m2, fun a ha b hb => ?_⟩
    obtain ⟨x, hx, rfl⟩ := List.mem_map.mp ha
    exact m3 x.1 (List.mem_map.mpr ⟨x, hsub x hx, rfl⟩) b hb
  refine va_callv (va_runV (As := As) (rest := rest) ⟨hx, hb, hml, hown, hts⟩ (hM H.size) (cwV n hts hT hw hrc hrs hd hR) ⟨MPre.blind, by have := va_recv hK G.1 hc he; rw [hq] at this; exact this, fun U hU hW => ⟨rfl, by rw [hU], by rw [hU]; exact vaP_iff.mpr (fun q hq => vaP_iff.mp G.1 q (hsub2 q hq)), va_K.moved hW.alike hK, hDw.weaken (fun _ _ _ _ => trivial), hE.call G.2.2 hW hU hFc⟩⟩ rfl hn hl hst (lv_room hrm) hdg hf) G.2.2 (fun q _ h => hFc q h) hFc (fun u t H1 locs1 ht hvm hw' hB hz1 hk1 hS => ?_)
  obtain ⟨hP1, hK1, hD1⟩ := hB
  rw [ht] at hP1
  exact kk H1 locs1 (G.putT isC hC hL hTl hk1 hFc hP1 hD1 hS)
end CALLST
theorem met_startF {l : Launch} {y : MethodName} {ws ws' : List Cond} {rm : Room} {D : va_G} {cy : Nat → ClassId} {av : List Value} {w : va_W} {Qf : (Nat → Prop) → Array Value → State → Outcome → State → Prop} {cc : ByteArray} {nL : Nat} {ret : Option FieldType}
    (own : String) (ho : y.cls = own) (hy : plainFor y = true) (hw : ws = Cond.code y cc nL ret :: ws') (hn : (lg_sl av).length ≤ nL)
    (body : ∀ (p : Program) (e : Env) (s : State) (m : MethodId) (below : List Frame) (meth : Method) (c : Code) (A : Nat → Prop) (ls : Array Slot), Cx D cy A p s m meth c cc nL ret ws own av.toArray → Gd D A s w s.heap [] → lv_has ls nL (lv_args 0 av) → W p l e rm s m av.toArray below meth c s.heap [] 0 0 (MQ below (Qf A) av.toArray s 0 0 A) (F0 m 0 ls [])) :
    ∀ sz, Met l y ws rm (MPre D cy av w sz) (Qf (va_A w sz)) 0 0 (va_A w sz) := by
  intro sz
  refine va_MetF (cc := cc) (maxL := nL) (ret := ret) hy hw ?_
  intro p e s m args below meth c s₁ B hml hv
  obtain ⟨rfl, hsz, hP, hK, hD0, hE⟩ := hv
  subst hsz
  have hts := atoms_spec (ws := ws) B.pre
  have hown : s.vm.findClass own = some m.cls := ho ▸ findClass_of_methodNamed B.named
  have hl := lv_entry av (n := nL) hn
  rw [lg_entry_eq]
  exact body p e s m below meth c (va_A w s.heap.size) _ ⟨B.exec, B.bytes, B.returns, hml, hown, hts, B.notSynchronized, hK, fun q h => Or.inr h, hE⟩ ⟨hP, hD0.self, va_S.rf⟩ hl
