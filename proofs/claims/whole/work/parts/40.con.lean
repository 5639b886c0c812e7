/-! ===== constructors: contracts of methods that make cells ===== -/
theorem va_AOA.moved {ty : FieldType} {u U : State} (hvm : u.vm.Alike U.vm) (h : va_AOA ty u) : va_AOA ty U := Jvm.Stand.arrayOver_alikeB hvm h
abbrev nL8 (i : Nat) (y : MethodName) (U : State) : Prop := va_Nw (.methodLinkNest RX8 i y RX8) U
def NX (U : State) : Prop := (va_AO RX3 U ∧ va_AO RX1 U ∧ va_AOA .int U) ∧ (nL8 18 yX7_init U ∧ nL8 25 yX2_init U ∧ nL8 32 yX1_init U ∧ nL8 50 yX3_init U ∧ nL8 57 yX4_init U ∧ nL8 64 yX0_init U) ∧
  (va_Nw (.methodLinkNest RX1 9 yX2_init RX8) U ∧ va_Nw (.methodLinkNest RX1 18 yX3_init RX8) U) ∧ va_Nw (.methodLinkNest RX5 17 yX3_init RX8) U
theorem NX.warm {s U : State} (hW : s.WarmedH U.vm) (h : NX s) : NX U := by
  obtain ⟨⟨a1, a2, a3⟩, ⟨b1, b2, b3, b4, b5, b6⟩, ⟨c1, c2⟩, d1⟩ := h
  exact ⟨⟨a1.moved hW.alike, a2.moved hW.alike, a3.moved hW.alike⟩, ⟨b1.warmM hW, b2.warmM hW, b3.warmM hW, b4.warmM hW, b5.warmM hW, b6.warmM hW⟩, ⟨c1.warmM hW, c2.warmM hW⟩, d1.warmM hW⟩
theorem NX.blind {U : State} {g : JFrame} {mk : MethodId} {a : Array Value} (h : NX U) : NX (U.calling g mk a) := by
  obtain ⟨⟨a1, a2, a3⟩, ⟨b1, b2, b3, b4, b5, b6⟩, ⟨c1, c2⟩, d1⟩ := h
  exact ⟨⟨a1.moved (Vm.Alike.refl U.vm), a2.moved (Vm.Alike.refl U.vm), a3.moved (Vm.Alike.refl U.vm)⟩, ⟨b1.same rfl rfl, b2.same rfl rfl, b3.same rfl rfl, b4.same rfl rfl, b5.same rfl rfl, b6.same rfl rfl⟩, ⟨c1.same rfl rfl, c2.same rfl rfl⟩, d1.same rfl rfl⟩
def MPreN (D : va_G) (cy : Nat → ClassId) (av : List Value) (w : va_W) (sz : Nat) : Array Value → State → Prop := fun a U => MPre D cy av w sz a U ∧ NX U
def MQn {S : Type} (D : va_G) (cy : Nat → ClassId) (post : S → Prop) (B : S → va_W) (A : Nat → Prop) : Array Value → State → Outcome → State → Prop := va_Qv post (fun u t => va_P D vwCl (B u) t.heap ∧ va_K D vwCl (tyL cy) t ∧ va_D A (B u)) A
def MN {S : Type} (l : Launch) (y : MethodName) (ws : List Cond) (rm : Room) (D : va_G) (cy : Nat → ClassId) (av : List Value) (w : va_W) (mc ms : Nat) (post : S → Prop) (B : S → va_W) : Prop := ∀ sz, Met l y ws rm (MPreN D cy av w sz) (MQn D cy post B (va_A w sz)) mc ms (va_A w sz)
theorem met_startN {S : Type} {l : Launch} {y : MethodName} {ws ws' : List Cond} {rm : Room} {D : va_G} {cy : Nat → ClassId} {av : List Value} {w : va_W} {mc ms : Nat} {post : S → Prop} {B : S → va_W} {cc : ByteArray} {nL : Nat} {ret : Option FieldType}
    (own : String) (ho : y.cls = own) (hnm : y.name = "<init>") (hy : plainName y.cls = true) (hw : ws = Cond.code y cc nL ret :: ws') (hn : (lg_sl av).length ≤ nL)
    (body : ∀ (p : Program) (e : Env) (s : State) (m : MethodId) (below : List Frame) (meth : Method) (c : Code) (A : Nat → Prop) (ls : Array Slot), Cx D cy A p s m meth c cc nL ret ws own av.toArray → NX s → meth.name = "<init>" → Gd D A s w s.heap [] → lv_has ls nL (lv_args 0 av) → W p l e rm s m av.toArray below meth c s.heap [] 0 0 (MQ below (MQn D cy post B A) av.toArray s mc ms A) (F0 m 0 ls [])) :
    MN l y ws rm D cy av w mc ms post B := by
  intro sz
  refine Met.ofW (cc := cc) (maxL := nL) (ret := ret) hy hw ?_
  intro p e s m args below meth c s₁ BB hml hv
  obtain ⟨⟨rfl, hsz, hP, hK, hD0, hE⟩, hN⟩ := hv
  subst hsz
  have hts := atoms_spec (ws := ws) BB.pre
  have hown : s.vm.findClass own = some m.cls := ho ▸ findClass_of_methodNamed BB.named
  have hin : meth.name = "<init>" := hnm ▸ (name_of_methodNamed BB.named BB.method).1
  have hl := lv_entry av (n := nL) hn
  rw [lg_entry_eq]
  exact body p e s m below meth c (va_A w s.heap.size) _ ⟨BB.exec, BB.bytes, BB.returns, hml, hown, hts, BB.notSynchronized, hK, fun q h => Or.inr h, hE⟩ hN hin ⟨hP, hD0.self, va_S.rf⟩ hl
section CON
variable {p : Program} {l : Launch} {e : Env} {R : Room} {s : State} {m : MethodId} {args : Array Value} {below : List Frame} {meth : Method} {c : Code} {H : Heap} {locs : List Loc} {D : va_G} {cy : Nat → ClassId} {A : Nat → Prop} {cc : ByteArray} {nL : Nat} {ret : Option FieldType} {Ts : List Cond} {own : String} {pc : Nat} {ls : Array Slot} {Q : State → Prop} {cells slots : Nat} {rest : List Value} {w w1 : va_W}
theorem ret_N {S : Type} {post : S → Prop} {B : S → va_W} (C : Cx D cy A p s m meth c cc nL none Ts own args) (G : Gd D A s w1 H locs) (u : S) (hu : post u) (hB : B u = w1) (hdg : decode cc pc = .ok (.return_, 1)) : W p l e R s m args below meth c H locs cells slots (MQ below (MQn D cy post B A) args s cells slots A) (F0 m pc ls []) := by
  obtain ⟨hx, hb, hr, -, -, -, hlk, hK, -, -⟩ := C
  subst hB
  exact W.vret hx hb hr (fun t ht hW => ⟨⟨u, rfl, hu, by rw [ht]; exact G.1, va_K.moved hW.alike hK, G.2.1⟩, G.2.2.F ht⟩) G.2.2.2.2 hdg hlk
theorem Gd.perm (G : Gd D A s w H locs) (h : w.Perm w1) : Gd D A s w1 H locs := by
  obtain ⟨hP, hD, hS⟩ := G
  obtain ⟨h1, h2⟩ := vaD_iff.mp hD
  exact ⟨vaP_iff.mpr (fun q hq => vaP_iff.mp hP q (h.mem_iff.mpr hq)), vaD_iff.mpr ⟨(h.map _).nodup_iff.mp h1, fun q hq => h2 q (h.mem_iff.mpr hq)⟩, hS⟩
theorem g_newa (C : Cx D cy A p s m meth c cc nL ret Ts own args) (G : Gd D A s w H locs) {atype : ArrayType} {ty : FieldType} (t0 : Nat) (harr : (Cond.arrayClass (newarray.typeOf atype)).before args s = true) (hty : newarray.typeOf atype = ty) (ht : (tyL cy)[t0]? = some (cy t0, ty)) (hp : ∀ C', ty ≠ .object C') {n : Int32} (N' : Nat) {a0 : vp_A}
    (ha : ∀ cA : ClassId, vp_cell cA a0 = arrV cA N' (fun _ => defaultValue ty)) (hn : ¬ n < 0) (hN : n.toNatClampNeg = N') (hbytes : N' * componentBytes ty ≤ 536870912) (hcells : cells + 1 ≤ R.cells) (hslots : slots + N' ≤ R.slots) (hdg : decode cc pc = .ok (.newarray atype, 2))
    (kk : ∀ (q : Nat) (H1 : Heap), Gd D A s (w ++ [(q, .inl (cy t0, a0))]) H1 locs → W p l e R s m args below meth c H1 locs (cells + 1) (slots + N') Q (F0 m (pc + 2) ls (.ref q :: rest))) : W p l e R s m args below meth c H locs cells slots Q (F0 m pc ls (.int n :: rest)) := by
  obtain ⟨hx, hb, hr, hml, hown, hts, hlk, hK, hA, hE⟩ := C
  refine va_newa hx hb harr hty hK G.1 G.2.1 G.2.2 hA ha hn hN hbytes hcells hslots hdg (fun q cA H1 hK1 hP hD hS => ?_)
  have h1 := (hK.2 t0 _ ht).2
  have h2 := (hK1.2 (tyL cy).length (cA, ty) (by rw [List.getElem?_append_right (Nat.le_refl _), Nat.sub_self]; rfl)).2
  have e : cA = cy t0 := by
    cases ty with
    | object C' => exact absurd rfl (hp C')
    | _ => exact Option.some.inj (h2.symm.trans h1)
  subst e
  exact kk q H1 ⟨hP, hD, hS⟩
end CON
section CONC
variable {p : Program} {l : Launch} {e : Env} {R : Room} {s : State} {m : MethodId} {args : Array Value} {below : List Frame} {meth : Method} {c : Code} {H : Heap} {locs : List Loc} {D : va_G} {cy : Nat → ClassId} {A : Nat → Prop} {cc : ByteArray} {nL : Nat} {ret : Option FieldType} {Ts : List Cond} {own : String} {pc : Nat} {ls : Array Slot} {Q : State → Prop} {cells slots mc ms : Nat}
variable {S : Type} {post : S → Prop} {B : S → va_W} {y : MethodName} {wy wy' : List Cond} {rm : Room} {w w1 : va_W} {b index maxL : Nat} {bytes : ByteArray} {x : va_E} {st0 : List Value}
theorem con_free (hA : ∀ q, s.heap.size ≤ q → A q) (G : Gd D A s (w ++ [(b, x)]) H locs) : ∀ q, va_A [(b, x)] H.size q → A q := by
  intro q h
  rcases vaA_iff.mp h with ⟨e, h⟩ | h
  · exact (vaD_iff.mp G.2.1).2 _ (List.mem_append_right _ h)
  · exact hA q (Nat.le_trans G.2.2.1 h)
theorem con_after {H1 : Heap} {locs1 : List Loc} {w2 : va_W} (G : Gd D A s (w ++ [(b, x)]) H locs) (hF : ∀ q, va_A [(b, x)] H.size q → A q) (hk : ∀ q : Nat, q < H.size → ¬ va_A [(b, x)] H.size q → H1[q]? = H[q]?) (hP1 : va_P D vwCl w2 H1) (hD1 : va_D (va_A [(b, x)] H.size) w2) (hS : va_S A s.heap H1 locs1) : Gd D A s (w ++ w2) H1 locs1 := by
  obtain ⟨hP, hD, -⟩ := G
  obtain ⟨n1, n2⟩ := vaD_iff.mp hD
  rw [List.map_append] at n1
  obtain ⟨m1, m2, m3⟩ := List.nodup_append.mp n1
  have ho : ∀ q ∈ w, q.1 < H.size ∧ ¬ va_A [(b, x)] H.size q.1 := by
    intro q hq
    have hlt := (vaP_iff.mp hP q (List.mem_append_left _ hq)).lt
    refine ⟨hlt, fun h => ?_⟩
    rcases vaA_iff.mp h with ⟨e, h⟩ | h
    · have hb : q.1 = b := by
        rcases List.mem_singleton.mp h with h
        exact congrArg Prod.fst h
      exact m3 q.1 (List.mem_map.mpr ⟨q, hq, rfl⟩) b (List.mem_map.mpr ⟨(b, x), List.mem_singleton.mpr rfl, rfl⟩) hb
    · omega
  obtain ⟨k1, k2⟩ := vaD_iff.mp hD1
  refine ⟨vaP_iff.mpr (fun q hq => ?_), vaD_iff.mpr ⟨?_, fun q hq => ?_⟩, hS⟩
  · rcases List.mem_append.mp hq with h | h
    · exact (vaP_iff.mp hP q (List.mem_append_left _ h)).kept (hk q.1 (ho q h).1 (ho q h).2)
    · exact vaP_iff.mp hP1 q h
  · rw [List.map_append]
    refine List.nodup_append.mpr ⟨m1, k1, fun a ha d hd had => ?_⟩
    obtain ⟨z, hz, rfl⟩ := List.mem_map.mp ha
    obtain ⟨v, hv, rfl⟩ := List.mem_map.mp hd
    exact (ho z hz).2 (had ▸ k2 v hv)
  · rcases List.mem_append.mp hq with h | h
    · exact n2 q (List.mem_append_left _ h)
    · exact hF _ (k2 q h)
theorem con_pre (hK : va_K D vwCl (tyL cy) s) (hE : Ext cy A s) (hN : NX s) (hA : ∀ q, s.heap.size ≤ q → A q) (G : Gd D A s (w ++ [(b, x)]) H locs) : FrameBlind (MPreN D cy [.ref b] [(b, x)] H.size) ∧ ∀ U : State, U.heap = H → s.WarmedH U.vm → MPreN D cy [.ref b] [(b, x)] H.size ([Value.ref b] : List Value).toArray U := by
  refine ⟨fun a U g mk q => ⟨MPre.blind a U g mk q.1, q.2.blind⟩, fun U hU hW => ⟨⟨rfl, by rw [hU], by rw [hU]; exact vaP_iff.mpr (fun q hq => vaP_iff.mp G.1 q (List.mem_append_right _ hq)), va_K.moved hW.alike hK, ?_, hE.call G.2.2 hW hU (con_free hA G)⟩, hN.warm hW⟩⟩
  refine vaD_iff.mpr ⟨?_, fun _ _ => trivial⟩
  simp
/-- a constructor on the cell that was made last -/
theorem MN.callI (rest : List Value) (C : Cx D cy A p s m meth c cc nL ret Ts own args) (hN : NX s) (G : Gd D A s (w ++ [(b, x)]) H locs) (hM : MN l y wy rm D cy [.ref b] [(b, x)] mc ms post B)
    (hT : GoodIn Ts wy) (hw : wy = Cond.code y bytes maxL none :: wy') (hrc : rm.cells = mc) (hrs : rm.slots = ms) (hini : (Cond.initialized y.cls).before args s = true) (hlk : (Cond.methodLink own index y).before args s = true) (hinm : (Cond.instanceMethod y).before args s = true) (hy1 : y.name = "<init>")
    (hd : y.cls ≠ "java/lang/invoke/MethodHandle" ∧ y.cls ≠ "java/lang/invoke/VarHandle" ∧ (parseMethodDescriptor y.desc).map (fun d => d.parameters.length) = some 0) (hR : rm.frames + 1 ≤ R.frames ∧ 8 + (maxL + 11) + rm.locals ≤ R.locals)
    (hl : ls.size = nL) (hst : st0 = .ref b :: rest) (hrm : (rest.map fun v => v.category).sum ≤ 8) (hdg : decode cc pc = .ok (.invokespecial index, 3)) (hf : cells + mc ≤ R.cells ∧ slots + ms ≤ R.slots)
    (kk : ∀ (u : S) (H1 : Heap) (locs1 : List Loc), post u → Gd D A s (w ++ B u) H1 locs1 → W p l e R s m args below meth c H1 locs1 (cells + mc) (slots + ms) Q (F0 m (pc + 3) ls rest)) : W p l e R s m args below meth c H locs cells slots Q (F0 m pc ls st0) := by
  obtain ⟨hx, hb, hr, hml, hown, hts, hlk', hK, hA, hE⟩ := C
  have hFc := con_free hA G
  refine va_callv (va_runI (As := []) (rest := rest) ⟨hx, hb, hml, hown, hts⟩ (hM H.size) (cwI 0 hts hT hw hrc hrs hini hlk hinm hy1 hd hR) (con_pre hK hE hN hA G) rfl rfl hl hst (lv_room hrm) hdg hf) G.2.2 (fun q _ h => hFc q h) hFc (fun u t H1 locs1 ht hvm hw' hB hz1 hk1 hS => ?_)
  obtain ⟨hP1, hK1, hD1⟩ := hB
  rw [ht] at hP1
  exact kk u H1 locs1 hw' (con_after G hFc hk1 hP1 hD1 hS)
theorem MN.callIN (rest : List Value) (C : Cx D cy A p s m meth c cc nL ret Ts own args) (hN : NX s) (G : Gd D A s (w ++ [(b, x)]) H locs) (hM : MN l y wy rm D cy [.ref b] [(b, x)] mc ms post B)
    (hT : GoodIn Ts wy) (hw : wy = Cond.code y bytes maxL none :: wy') (hrc : rm.cells = mc) (hrs : rm.slots = ms) {host : String} (hlk : va_Nw (.methodLinkNest own index y host) s) (hini : (Cond.initialized y.cls).before args s = true) (hinm : (Cond.instanceMethod y).before args s = true) (hy1 : y.name = "<init>")
    (hd : y.cls ≠ "java/lang/invoke/MethodHandle" ∧ y.cls ≠ "java/lang/invoke/VarHandle" ∧ (parseMethodDescriptor y.desc).map (fun d => d.parameters.length) = some 0) (hR : rm.frames + 1 ≤ R.frames ∧ 8 + (maxL + 11) + rm.locals ≤ R.locals)
    (hl : ls.size = nL) (hst : st0 = .ref b :: rest) (hrm : (rest.map fun v => v.category).sum ≤ 8) (hdg : decode cc pc = .ok (.invokespecial index, 3)) (hf : cells + mc ≤ R.cells ∧ slots + ms ≤ R.slots)
    (kk : ∀ (u : S) (H1 : Heap) (locs1 : List Loc), post u → Gd D A s (w ++ B u) H1 locs1 → W p l e R s m args below meth c H1 locs1 (cells + mc) (slots + ms) Q (F0 m (pc + 3) ls rest)) : W p l e R s m args below meth c H locs cells slots Q (F0 m pc ls st0) := by
  obtain ⟨hx, hb, hr, hml, hown, hts, hlk', hK, hA, hE⟩ := C
  have hFc := con_free hA G
  refine va_callv (va_runIN (As := []) (rest := rest) ⟨hx, hb, hml, hown, hts⟩ (hM H.size) ⟨va_cnB 0 hts hT hw hrc hrs hlk hini hd hR, hy1, hinm⟩ (con_pre hK hE hN hA G) rfl rfl hl hst (lv_room hrm) hdg hf) G.2.2 (fun q _ h => hFc q h) hFc (fun u t H1 locs1 ht hvm hw' hB hz1 hk1 hS => ?_)
  obtain ⟨hP1, hK1, hD1⟩ := hB
  rw [ht] at hP1
  exact kk u H1 locs1 hw' (con_after G hFc hk1 hP1 hD1 hS)
end CONC
def adl (l : List Nat) (k : Nat) : Nat := l.getD k 0
theorem perm_sw (a f b : va_W) : ((a ++ f) ++ b).Perm ((a ++ b) ++ f) := by
  rw [List.append_assoc, List.append_assoc]
  exact List.Perm.append_left a List.perm_append_comm
theorem perm_sw2 (a f b g : va_W) : ((a ++ f) ++ (b ++ g)).Perm ((a ++ b) ++ (f ++ g)) := by
  rw [List.append_assoc, List.append_assoc]
  refine List.Perm.append_left a ?_
  rw [← List.append_assoc, ← List.append_assoc]
  exact List.Perm.append_right g List.perm_append_comm
