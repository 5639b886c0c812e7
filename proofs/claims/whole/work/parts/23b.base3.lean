/-! ===== calls whose world has many places: what is behind is told place by place ===== -/
theorem put2_get {W W1 w1 : va_W} {isC isR : List Nat} {N : Nat} (hN : W1.length = N) (hcov : ∀ k, k < N → k ∈ isC ∨ k ∈ isR) (hdis : ∀ k ∈ isR, k ∉ isC) (h1 : isC.map (fun i => W1[i]?) = w1.map some) (h2 : ∀ i ∈ isR, ∃ x, W1[i]? = some x ∧ W[i]? = some x) :
    ∀ (k : Nat) (q : Nat × va_E), W1[k]? = some q → (∃ j : Nat, isC[j]? = some k ∧ w1[j]? = some q) ∨ (k ∉ isC ∧ W[k]? = some q) := by
  intro k q hq
  have hk : k < N := by rw [← hN]; exact (List.getElem?_eq_some_iff.mp hq).1
  rcases hcov k hk with h | h
  · obtain ⟨j, hj⟩ := List.getElem?_of_mem h
    have h3 : (isC.map (fun i => W1[i]?))[j]? = some (W1[k]?) := by rw [List.getElem?_map, hj]; rfl
    rw [h1, List.getElem?_map, hq] at h3
    cases hw : w1[j]? with
    | none => rw [hw] at h3; cases h3
    | some x => rw [hw] at h3; exact Or.inl ⟨j, hj, by rw [Option.some.inj (Option.some.inj h3)] at hw; exact hw⟩
  · obtain ⟨x, g1, g2⟩ := h2 k h
    rw [hq] at g1
    exact Or.inr ⟨hdis k h, by rw [g2]; exact g1.symm⟩
section CALLS2
variable {p : Program} {l : Launch} {e : Env} {R : Room} {s : State} {m : MethodId} {args : Array Value} {below : List Frame} {meth : Method} {c : Code} {H : Heap} {locs : List Loc} {D : va_G} {cy : Nat → ClassId} {A : Nat → Prop} {cc : ByteArray} {nL : Nat} {ret : Option FieldType} {Ts : List Cond} {own : String} {pc : Nat} {ls : Array Slot} {Q : State → Prop}
variable {y : MethodName} {wy wy' : List Cond} {rm : Room} {w w1 W0 : va_W} {b index maxL n ci q0 cells slots N : Nat} {bytes : ByteArray} {rt : Option FieldType} {Cn : String} {fs : List Value} {q : vw_C} {st0 : List Value}
theorem MV.callV2 (As rest : List Value) (isC isR : List Nat) (W1 : va_W) (C : Cx D cy A p s m meth c cc nL ret Ts own args) (G : Gd D A s W0 H locs) (hM : MV l y wy rm D cy (.ref b :: As) w w1)
    (hT : GoodIn Ts (wsV own index Cn y wy)) (hw : wy = Cond.code y bytes maxL rt :: wy') (hrc : rm.cells = 0) (hrs : rm.slots = 0)
    (hd : y.cls = Cn ∧ y.cls ≠ "java/lang/invoke/MethodHandle" ∧ y.cls ≠ "java/lang/invoke/VarHandle" ∧ (parseMethodDescriptor y.desc).map (fun d => d.parameters.length) = some n) (hR : rm.frames + 1 ≤ R.frames ∧ 8 + (maxL + 11) + rm.locals ≤ R.locals)
    (he : W0[q0]? = some (b, .inr (ci, fs))) (hc : vwCl[ci]? = some q) (hq : q.1 = Cn) (hC : isC.map (fun i => W0[i]?) = w.map some) (hnd : va_nd isC = true)
    (hN : W1.length = N) (hcov : ∀ k, k < N → k ∈ isC ∨ k ∈ isR) (hdis : ∀ k ∈ isR, k ∉ isC) (h1 : isC.map (fun i => W1[i]?) = w1.map some) (h2 : ∀ i ∈ isR, ∃ x, W1[i]? = some x ∧ W0[i]? = some x)
    (hn : As.length = n) (hl : ls.size = nL) (hst : st0 = As.reverse ++ .ref b :: rest) (hrm : (rest.map fun v => v.category).sum ≤ 8) (hdg : decode cc pc = .ok (.invokevirtual index, 3)) (hf : cells ≤ R.cells ∧ slots ≤ R.slots)
    (kk : ∀ (H1 : Heap) (locs1 : List Loc), Gd D A s W1 H1 locs1 → W p l e R s m args below meth c H1 locs1 cells slots Q (F0 m (pc + 3) ls rest)) : W p l e R s m args below meth c H locs cells slots Q (F0 m pc ls st0) := by
  obtain ⟨hx, hb, hr, hml, hown, hts, hlk, hK, hA, hE⟩ := C
  have hFc := va_free (wc := w) G.2.1 G.2.2 hA isC hC
  refine va_callv (va_runV (As := As) (rest := rest) ⟨hx, hb, hml, hown, hts⟩ (hM H.size) (cwV n hts hT hw hrc hrs hd hR) ⟨MPre.blind, by have := va_recv hK G.1 hc he; rw [hq] at this; exact this, call_pre hK hE hA G isC hC hnd⟩ rfl hn hl hst (lv_room hrm) hdg hf) G.2.2 (fun q _ h => hFc q h) hFc (fun u t H1 locs1 ht hvm hw' hB hz1 hk1 hS => ?_)
  obtain ⟨hP1, hK1, hD1⟩ := hB
  rw [ht] at hP1
  exact kk H1 locs1 (G.putG isC hC (put2_get hN hcov hdis h1 h2) hk1 hFc hP1 hD1 hS)
end CALLS2
