/-! ===== contracts of one shape, and the rows over them ===== -/
abbrev tyL (cy : Nat → ClassId) : List (ClassId × FieldType) := [(cy 0, .byte), (cy 1, .int), (cy 2, .boolean), (cy 3, .object "TideDebts$Bay"), (cy 4, .object "TideDebts$Ledger"), (cy 5, .array .int)]
/-! ===== what stands outside every world: static tables, the texts' constants; their addresses are cy 10 .. ===== -/
def xtL : List Nat := [4, 5, 4, 6, 4, 4, 4]
def xtB : List (List Int32) := [[116, 105, 100, 101], [119, 97, 116, 101, 114], [99, 111, 118, 101], [108, 97, 103, 111, 111, 110], [112, 111, 111, 108], [100, 121, 107, 101], [119, 101, 108, 108]]
def tbA : List Int32 := [0, 0, 1, 1, 0, 4]
def tbS : List Int32 := [10, 11, 12, 11, 13, 14]
def tbM : List Int32 := [20, 21, 24, 22, 23, 23]
def ExT (cy : Nat → ClassId) (A : Nat → Prop) (U : State) (H : Heap) : Prop :=
  (va_Z "TideDebts$Chart" "IS_ALSO" "[I" (.ref (cy 10)) A U H ∧ va_T .int (cy 10) 6 (fun j => .int (tbA.getD j 0)) A U H) ∧
  (va_Z "TideDebts$Asker" "SIZE_OF_KIND" "[I" (.ref (cy 11)) A U H ∧ va_T .int (cy 11) 6 (fun j => .int (tbS.getD j 0)) A U H) ∧
  (va_Z "TideDebts$Asker" "MARK_OF_KIND" "[I" (.ref (cy 12)) A U H ∧ va_T .int (cy 12) 6 (fun j => .int (tbM.getD j 0)) A U H) ∧
  va_Z "java/lang/String" "COMPACT_STRINGS" "Z" (.int 1) A U H ∧ vk_S 7 xtL xtB (fun i => cy (20 + i)) (fun i => cy (30 + i)) A U H ∧ va_Zq "jdk/internal/util/Preconditions" "SIOOBE_FORMATTER" "Ljava/util/function/BiFunction;" A U H
def ExR (cy : Nat → ClassId) (U : State) : Prop :=
  vk_R "TideDebts$Tape" 43 "tide" (cy 20) U ∧ vk_R "TideDebts$Tape" 60 "water" (cy 21) U ∧ vk_R "TideDebts$Tape" 84 "cove" (cy 22) U ∧ vk_R "TideDebts$Tape" 86 "lagoon" (cy 23) U ∧
  vk_R "TideDebts$Tape" 88 "pool" (cy 24) U ∧ vk_R "TideDebts$Tape" 90 "dyke" (cy 25) U ∧ vk_R "TideDebts$Tape" 92 "well" (cy 26) U
def Ext (cy : Nat → ClassId) (A : Nat → Prop) (U : State) : Prop := ExT cy A U U.heap ∧ ExR cy U
theorem ExT.go {cy : Nat → ClassId} {A B : Nat → Prop} {s U : State} {H H1 : Heap} (h : ExT cy A s H) (hvm : s.vm.Alike U.vm) (hq : ∀ a : Nat, a < H.size → ¬ A a → H1[a]? = H[a]?) (hAB : ∀ q, B q → A q) : ExT cy B U H1 := by
  obtain ⟨⟨a1, a2⟩, ⟨b1, b2⟩, ⟨c1, c2⟩, d1, d2, d3⟩ := h
  exact ⟨⟨((a1.moved hvm).kept hq).narrow hAB, ((a2.moved hvm).kept hq).narrow hAB⟩, ⟨((b1.moved hvm).kept hq).narrow hAB, ((b2.moved hvm).kept hq).narrow hAB⟩, ⟨((c1.moved hvm).kept hq).narrow hAB, ((c2.moved hvm).kept hq).narrow hAB⟩, ((d1.moved hvm).kept hq).narrow hAB, ((d2.moved hvm).kept hq).narrow hAB, ((d3.moved hvm).kept hq).narrow hAB⟩
theorem Ext.call {cy : Nat → ClassId} {A B : Nat → Prop} {s U : State} {H : Heap} {locs : List Loc} (h : Ext cy A s) (hS : va_S A s.heap H locs) (hW : s.WarmedH U.vm) (hU : U.heap = H) (hAB : ∀ q, B q → A q) : Ext cy B U := by
  obtain ⟨h1, g1, g2, g3, g4, g5, g6, g7⟩ := h
  refine ⟨?_, g1.warm hW, g2.warm hW, g3.warm hW, g4.warm hW, g5.warm hW, g6.warm hW, g7.warm hW⟩
  rw [hU]
  exact h1.go hW.alike hS.2.1 hAB
theorem Ext.blind {cy : Nat → ClassId} {A : Nat → Prop} {U : State} {g : JFrame} {mk : MethodId} {a : Array Value} (h : Ext cy A U) : Ext cy A (U.calling g mk a) := by
  obtain ⟨h1, g1, g2, g3, g4, g5, g6, g7⟩ := h
  exact ⟨h1.go (Vm.Alike.refl U.vm) (fun _ _ _ => rfl) (fun _ h => h), g1.same rfl, g2.same rfl, g3.same rfl, g4.same rfl, g5.same rfl, g6.same rfl, g7.same rfl⟩
/-- the world w stands in H, its cells apart and in A; since the start nothing outside A has changed -/
def Gd (D : va_G) (A : Nat → Prop) (s : State) (w : va_W) (H : Heap) (locs : List Loc) : Prop := va_P D vwCl w H ∧ va_D A w ∧ va_S A s.heap H locs
/-- what a method knows of the machine it runs in -/
def Cx (D : va_G) (cy : Nat → ClassId) (A : Nat → Prop) (p : Program) (s : State) (m : MethodId) (meth : Method) (c : Code) (cc : ByteArray) (nL : Nat) (ret : Option FieldType) (ws : List Cond) (own : String) (args : Array Value) : Prop :=
  p.tables.exec = Jvm.exec ∧ c.code = cc ∧ meth.sig.returnType = ret ∧ c.maxLocals = nL ∧ s.vm.findClass own = some m.cls ∧ (∀ w ∈ ws, w.before args s = true) ∧ meth.locks = false ∧ va_K D vwCl (tyL cy) s ∧ (∀ q, s.heap.size ≤ q → A q) ∧ Ext cy A s
def MPre (D : va_G) (cy : Nat → ClassId) (av : List Value) (w : va_W) (sz : Nat) : Array Value → State → Prop := va_Pc av (fun U => U.heap.size = sz ∧ va_P D vwCl w U.heap ∧ va_K D vwCl (tyL cy) U ∧ va_D (fun _ => True) w ∧ Ext cy (va_A w sz) U)
def MQi (D : va_G) (cy : Nat → ClassId) (r : Int32) (w1 : va_W) (A : Nat → Prop) : Array Value → State → Outcome → State → Prop := va_Qi (fun r' (_ : Unit) => r' = r) (fun _ t => va_P D vwCl w1 t.heap ∧ va_K D vwCl (tyL cy) t ∧ va_D A w1) A
def MQl (D : va_G) (cy : Nat → ClassId) (r : Int64) (w1 : va_W) (A : Nat → Prop) : Array Value → State → Outcome → State → Prop := va_Ql (fun r' (_ : Unit) => r' = r) (fun _ t => va_P D vwCl w1 t.heap ∧ va_K D vwCl (tyL cy) t ∧ va_D A w1) A
def MQv (D : va_G) (cy : Nat → ClassId) (w1 : va_W) (A : Nat → Prop) : Array Value → State → Outcome → State → Prop := va_Qv (fun (_ : Unit) => True) (fun _ t => va_P D vwCl w1 t.heap ∧ va_K D vwCl (tyL cy) t ∧ va_D A w1) A
/-- from the world w the method answers r, and the world is w1 -/
def MI (l : Launch) (y : MethodName) (ws : List Cond) (rm : Room) (D : va_G) (cy : Nat → ClassId) (av : List Value) (w : va_W) (r : Int32) (w1 : va_W) : Prop := ∀ sz, Met l y ws rm (MPre D cy av w sz) (MQi D cy r w1 (va_A w sz)) 0 0 (va_A w sz)
def ML (l : Launch) (y : MethodName) (ws : List Cond) (rm : Room) (D : va_G) (cy : Nat → ClassId) (av : List Value) (w : va_W) (r : Int64) (w1 : va_W) : Prop := ∀ sz, Met l y ws rm (MPre D cy av w sz) (MQl D cy r w1 (va_A w sz)) 0 0 (va_A w sz)
def MV (l : Launch) (y : MethodName) (ws : List Cond) (rm : Room) (D : va_G) (cy : Nat → ClassId) (av : List Value) (w : va_W) (w1 : va_W) : Prop := ∀ sz, Met l y ws rm (MPre D cy av w sz) (MQv D cy w1 (va_A w sz)) 0 0 (va_A w sz)
theorem met_start {l : Launch} {y : MethodName} {ws ws' : List Cond} {rm : Room} {D : va_G} {cy : Nat → ClassId} {av : List Value} {w : va_W} {Qf : (Nat → Prop) → Array Value → State → Outcome → State → Prop} {cc : ByteArray} {nL : Nat} {ret : Option FieldType}
    (own : String) (ho : y.cls = own) (hy : plainName y.cls = true) (hw : ws = Cond.code y cc nL ret :: ws') (hn : (lg_sl av).length ≤ nL)
    (body : ∀ (p : Program) (e : Env) (s : State) (m : MethodId) (below : List Frame) (meth : Method) (c : Code) (A : Nat → Prop) (ls : Array Slot), Cx D cy A p s m meth c cc nL ret ws own av.toArray → Gd D A s w s.heap [] → lv_has ls nL (lv_args 0 av) → W p l e rm s m av.toArray below meth c s.heap [] 0 0 (MQ below (Qf A) av.toArray s 0 0 A) (F0 m 0 ls [])) :
    ∀ sz, Met l y ws rm (MPre D cy av w sz) (Qf (va_A w sz)) 0 0 (va_A w sz) := by
  intro sz
  refine Met.ofW (cc := cc) (maxL := nL) (ret := ret) hy hw ?_
  intro p e s m args below meth c s₁ B hml hv
  obtain ⟨rfl, hsz, hP, hK, hD0, hE⟩ := hv
  subst hsz
  have hts := atoms_spec (ws := ws) B.pre
  have hown : s.vm.findClass own = some m.cls := ho ▸ findClass_of_methodNamed B.named
  have hl := lv_entry av (n := nL) hn
  rw [lg_entry_eq]
  exact body p e s m below meth c (va_A w s.heap.size) _ ⟨B.exec, B.bytes, B.returns, hml, hown, hts, B.notSynchronized, hK, fun q h => Or.inr h, hE⟩ ⟨hP, hD0.self, va_S.rf⟩ hl
section RET
variable {p : Program} {l : Launch} {e : Env} {R : Room} {s : State} {m : MethodId} {args : Array Value} {below : List Frame} {meth : Method} {c : Code} {H : Heap} {locs : List Loc} {D : va_G} {cy : Nat → ClassId} {A : Nat → Prop} {cc : ByteArray} {nL : Nat} {ret : Option FieldType} {ws : List Cond} {own : String} {w1 : va_W} {pc : Nat} {ls : Array Slot}
theorem ret_i (C : Cx D cy A p s m meth c cc nL (some .int) ws own args) (G : Gd D A s w1 H locs) {v r : Int32} (hv : v = r) (hdg : decode cc pc = .ok (.ireturn, 1)) : W p l e R s m args below meth c H locs 0 0 (MQ below (MQi D cy r w1 A) args s 0 0 A) (F0 m pc ls [.int v]) := by
  obtain ⟨hx, hb, hr, -, -, -, hlk, hK, -, -⟩ := C
  subst hv
  exact W.iret hx hb hr (fun t ht hW => ⟨⟨v, (), rfl, rfl, by rw [ht]; exact G.1, va_K.moved hW.alike hK, G.2.1⟩, G.2.2.F ht⟩) G.2.2.2.2 hdg hlk
theorem ret_z (C : Cx D cy A p s m meth c cc nL (some .boolean) ws own args) (G : Gd D A s w1 H locs) {v r : Int32} (hv : v = r) (hn : narrow .boolean (.int v) = .int v) (hdg : decode cc pc = .ok (.ireturn, 1)) : W p l e R s m args below meth c H locs 0 0 (MQ below (MQi D cy r w1 A) args s 0 0 A) (F0 m pc ls [.int v]) := by
  obtain ⟨hx, hb, hr, -, -, -, hlk, hK, -, -⟩ := C
  subst hv
  exact W.zret hx hb hr hn (fun t ht hW => ⟨⟨v, (), rfl, rfl, by rw [ht]; exact G.1, va_K.moved hW.alike hK, G.2.1⟩, G.2.2.F ht⟩) G.2.2.2.2 hdg hlk
theorem ret_l (C : Cx D cy A p s m meth c cc nL (some .long) ws own args) (G : Gd D A s w1 H locs) {v r : Int64} (hv : v = r) (hdg : decode cc pc = .ok (.lreturn, 1)) : W p l e R s m args below meth c H locs 0 0 (MQ below (MQl D cy r w1 A) args s 0 0 A) (F0 m pc ls [.long v]) := by
  obtain ⟨hx, hb, hr, -, -, -, hlk, hK, -, -⟩ := C
  subst hv
  exact W.lret hx hb hr (fun t ht hW => ⟨⟨v, (), rfl, rfl, by rw [ht]; exact G.1, va_K.moved hW.alike hK, G.2.1⟩, G.2.2.F ht⟩) G.2.2.2.2 hdg hlk
theorem ret_v (C : Cx D cy A p s m meth c cc nL none ws own args) (G : Gd D A s w1 H locs) (hdg : decode cc pc = .ok (.return_, 1)) : W p l e R s m args below meth c H locs 0 0 (MQ below (MQv D cy w1 A) args s 0 0 A) (F0 m pc ls []) := by
  obtain ⟨hx, hb, hr, -, -, -, hlk, hK, -, -⟩ := C
  exact W.vret hx hb hr (fun t ht hW => ⟨⟨(), rfl, trivial, by rw [ht]; exact G.1, va_K.moved hW.alike hK, G.2.1⟩, G.2.2.F ht⟩) G.2.2.2.2 hdg hlk
end RET
/-- the world W with w1 at the places is -/
def pt (W : va_W) : List Nat → va_W → va_W
  | i :: is, q :: w1 => (pt W is w1).set i q
  | _, _ => W
theorem pt_len (W : va_W) : ∀ (is : List Nat) (w1 : va_W), (pt W is w1).length = W.length
  | [], w1 => by unfold pt; rfl
  | i :: is, [] => by unfold pt; rfl
  | i :: is, q :: w1 => by
    show ((pt W is w1).set i q).length = _
    rw [List.length_set, pt_len W is w1]
theorem pt_get (W : va_W) : ∀ (is : List Nat) (w1 : va_W) (k : Nat) (q : Nat × va_E), is.length = w1.length → (pt W is w1)[k]? = some q → (∃ j : Nat, is[j]? = some k ∧ w1[j]? = some q) ∨ (k ∉ is ∧ W[k]? = some q)
  | [], w1, k, q, _, h => by
    unfold pt at h
    exact Or.inr ⟨List.not_mem_nil, h⟩
  | i :: is, [], k, q, hl, h => by simp at hl
  | i :: is, x :: w1, k, q, hl, h => by
    have h : ((pt W is w1).set i x)[k]? = some q := h
    by_cases hk : k = i
    · subst hk
      have hlt : k < (pt W is w1).length := by
        rcases Nat.lt_or_ge k (pt W is w1).length with z | z
        · exact z
        · rw [List.getElem?_eq_none (by rw [List.length_set]; exact z)] at h; cases h
      rw [List.getElem?_set_self hlt] at h
      cases h
      exact Or.inl ⟨0, rfl, rfl⟩
    · rw [List.getElem?_set_ne (Ne.symm hk)] at h
      rcases pt_get W is w1 k q (by simpa using hl) h with ⟨j, a, b⟩ | ⟨a, b⟩
      · exact Or.inl ⟨j + 1, a, b⟩
      · exact Or.inr ⟨fun z => (List.mem_cons.mp z).elim hk a, b⟩
/-- behind a call: the callee's cells at their places, the others as they were -/
theorem Gd.putG {D : va_G} {A : Nat → Prop} {s : State} {W w w1 W1 : va_W} {H H1 : Heap} {locs locs1 : List Loc} (G : Gd D A s W H locs) (isC : List Nat) (hC : isC.map (fun i => W[i]?) = w.map some)
    (hW1 : ∀ (k : Nat) (q : Nat × va_E), W1[k]? = some q → (∃ j : Nat, isC[j]? = some k ∧ w1[j]? = some q) ∨ (k ∉ isC ∧ W[k]? = some q))
    (hk : ∀ q : Nat, q < H.size → ¬ va_A w H.size q → H1[q]? = H[q]?) (hF : ∀ q, va_A w H.size q → A q) (hP1 : va_P D vwCl w1 H1) (hD1 : va_D (va_A w H.size) w1) (hS : va_S A s.heap H1 locs1) : Gd D A s W1 H1 locs1 := by
  obtain ⟨hP, hD, -⟩ := G
  have at' : ∀ (j i : Nat), isC[j]? = some i → ∃ q, w[j]? = some q ∧ W[i]? = some q := by
    intro j i hj
    have h1 : (isC.map (fun i => W[i]?))[j]? = some (W[i]?) := by rw [List.getElem?_map, hj]; rfl
    rw [hC, List.getElem?_map] at h1
    cases hw : w[j]? with
    | none => rw [hw] at h1; cases h1
    | some q => rw [hw] at h1; exact ⟨q, rfl, (Option.some.inj h1).symm⟩
  have apart : ∀ (k : Nat) (q : Nat × va_E), k ∉ isC → W[k]? = some q → q.1 < H.size ∧ ¬ va_A w H.size q.1 := by
    intro k q hn hq
    have hl := (hP k q hq).lt
    refine ⟨hl, fun h => ?_⟩
    rcases h with ⟨j, e, h⟩ | h
    · have hj : j < isC.length := by
        have h2 : (isC.map (fun i => W[i]?)).length = (w.map some).length := by rw [hC]
        rw [List.length_map, List.length_map] at h2
        rw [h2]
        exact (List.getElem?_eq_some_iff.mp h).1
      obtain ⟨q2, h3, h4⟩ := at' j isC[j] (List.getElem?_eq_getElem hj)
      rw [h] at h3
      cases h3
      have := hD.1 k _ q (q.1, e) hq h4 rfl
      exact hn (this ▸ List.getElem_mem hj)
    · omega
  refine ⟨fun k q hq => ?_, ⟨fun i j x y hx hy hxy => ?_, fun k q hq => ?_⟩, hS⟩
  · rcases hW1 k q hq with ⟨j, a, b⟩ | ⟨a, b⟩
    · exact hP1 j q b
    · obtain ⟨g1, g2⟩ := apart k q a b
      exact (hP k q b).kept (hk q.1 g1 g2)
  · rcases hW1 i x hx with ⟨i2, a1, b1⟩ | ⟨a1, b1⟩ <;> rcases hW1 j y hy with ⟨j2, a2, b2⟩ | ⟨a2, b2⟩
    · have := hD1.1 i2 j2 x y b1 b2 hxy
      subst this
      rw [a1] at a2
      exact Option.some.inj a2
    · exact absurd (hxy ▸ hD1.2 i2 x b1) (apart j y a2 b2).2
    · exact absurd (hxy ▸ hD1.2 j2 y b2) (apart i x a1 b1).2
    · exact hD.1 i j x y b1 b2 hxy
  · rcases hW1 k q hq with ⟨j, a, b⟩ | ⟨a, b⟩
    · exact hF _ (hD1.2 j q b)
    · exact hD.2 k q b
theorem Gd.put {D : va_G} {A : Nat → Prop} {s : State} {W w w1 : va_W} {H H1 : Heap} {locs locs1 : List Loc} (G : Gd D A s W H locs) (isC : List Nat) (hC : isC.map (fun i => W[i]?) = w.map some) (hL : isC.length = w1.length)
    (hk : ∀ q : Nat, q < H.size → ¬ va_A w H.size q → H1[q]? = H[q]?) (hF : ∀ q, va_A w H.size q → A q) (hP1 : va_P D vwCl w1 H1) (hD1 : va_D (va_A w H.size) w1) (hS : va_S A s.heap H1 locs1) (_hnd : va_nd isC = true) : Gd D A s (pt W isC w1) H1 locs1 :=
  G.putG isC hC (fun k q => pt_get W isC w1 k q hL) hk hF hP1 hD1 hS
theorem MPre.blind {D : va_G} {cy : Nat → ClassId} {av : List Value} {w : va_W} {sz : Nat} : FrameBlind (MPre D cy av w sz) := fun a U g mk q => by
  obtain ⟨q0, q1, qP, qK, qD, qE⟩ := q
  exact ⟨q0, q1, qP, va_K.moved (u := U) (U := U.calling g mk a) (Vm.Alike.refl U.vm) qK, qD, qE.blind⟩
section CALLS
variable {p : Program} {l : Launch} {e : Env} {R : Room} {s : State} {m : MethodId} {args : Array Value} {below : List Frame} {meth : Method} {c : Code} {H : Heap} {locs : List Loc} {D : va_G} {cy : Nat → ClassId} {A : Nat → Prop} {cc : ByteArray} {nL : Nat} {ret : Option FieldType} {Ts : List Cond} {own : String} {pc : Nat} {ls : Array Slot} {Q : State → Prop}
variable {y : MethodName} {wy wy' : List Cond} {rm : Room} {w w1 W0 : va_W} {b index maxL n ci q0 cells slots : Nat} {bytes : ByteArray} {rt : Option FieldType} {Cn : String} {fs : List Value} {q : vw_C} {st0 : List Value}
theorem call_pre {av : List Value} (hK : va_K D vwCl (tyL cy) s) (hE : Ext cy A s) (hA : ∀ q, s.heap.size ≤ q → A q) (G : Gd D A s W0 H locs) (isC : List Nat) (hC : isC.map (fun i => W0[i]?) = w.map some) (hnd : va_nd isC = true) : ∀ U : State, U.heap = H → s.WarmedH U.vm → MPre D cy av w H.size av.toArray U := by
  intro U hU hW
  have hf : isC.filterMap (fun i => W0[i]?) = w := by
    have h2 : (isC.map (fun i => W0[i]?)).filterMap id = (w.map some).filterMap id := by rw [hC]
    simpa [List.filterMap_map, Function.comp_def] using h2
  exact ⟨rfl, by rw [hU], by rw [hU]; exact G.1.sub isC hf, va_K.moved hW.alike hK, (G.2.1.sub isC hnd hC).weaken (fun _ _ _ _ => trivial), hE.call G.2.2 hW hU (va_free (wc := w) G.2.1 G.2.2 hA isC hC)⟩
theorem MI.callV (r : Int32) (As rest : List Value) (isC : List Nat) (C : Cx D cy A p s m meth c cc nL ret Ts own args) (G : Gd D A s W0 H locs) (hM : MI l y wy rm D cy (.ref b :: As) w r w1)
    (hT : GoodIn Ts (wsV own index Cn y wy)) (hw : wy = Cond.code y bytes maxL rt :: wy') (hrc : rm.cells = 0) (hrs : rm.slots = 0)
    (hd : y.cls = Cn ∧ y.cls ≠ "java/lang/invoke/MethodHandle" ∧ y.cls ≠ "java/lang/invoke/VarHandle" ∧ (parseMethodDescriptor y.desc).map (fun d => d.parameters.length) = some n) (hR : rm.frames + 1 ≤ R.frames ∧ 8 + (maxL + 11) + rm.locals ≤ R.locals)
    (he : W0[q0]? = some (b, .inr (ci, fs))) (hc : vwCl[ci]? = some q) (hq : q.1 = Cn) (hC : isC.map (fun i => W0[i]?) = w.map some) (hnd : va_nd isC = true) (hL : isC.length = w1.length)
    (hn : As.length = n) (hl : ls.size = nL) (hst : st0 = As.reverse ++ .ref b :: rest) (hrm : (rest.map fun v => v.category).sum ≤ 8) (hdg : decode cc pc = .ok (.invokevirtual index, 3)) (hf : cells ≤ R.cells ∧ slots ≤ R.slots)
    (kk : ∀ (H1 : Heap) (locs1 : List Loc), Gd D A s (pt W0 isC w1) H1 locs1 → W p l e R s m args below meth c H1 locs1 cells slots Q (F0 m (pc + 3) ls (.int r :: rest))) : W p l e R s m args below meth c H locs cells slots Q (F0 m pc ls st0) := by
  obtain ⟨hx, hb, hr, hml, hown, hts, hlk, hK, hA, hE⟩ := C
  have hFc := va_free (wc := w) G.2.1 G.2.2 hA isC hC
  refine va_calli (va_runV (As := As) (rest := rest) ⟨hx, hb, hml, hown, hts⟩ (hM H.size) (cwV n hts hT hw hrc hrs hd hR) ⟨MPre.blind, by have := va_recv hK G.1 hc he; rw [hq] at this; exact this, call_pre hK hE hA G isC hC hnd⟩ rfl hn hl hst (lv_room hrm) hdg hf) G.2.2 (fun q _ h => hFc q h) hFc (fun r' u t H1 locs1 ht hvm hw' hB hz1 hk1 hS => ?_)
  obtain ⟨hP1, hK1, hD1⟩ := hB
  rw [ht] at hP1
  subst hw'
  exact kk H1 locs1 (G.put isC hC hL hk1 hFc hP1 hD1 hS hnd)
theorem ML.callV (r : Int64) (As rest : List Value) (isC : List Nat) (C : Cx D cy A p s m meth c cc nL ret Ts own args) (G : Gd D A s W0 H locs) (hM : ML l y wy rm D cy (.ref b :: As) w r w1)
    (hT : GoodIn Ts (wsV own index Cn y wy)) (hw : wy = Cond.code y bytes maxL rt :: wy') (hrc : rm.cells = 0) (hrs : rm.slots = 0)
    (hd : y.cls = Cn ∧ y.cls ≠ "java/lang/invoke/MethodHandle" ∧ y.cls ≠ "java/lang/invoke/VarHandle" ∧ (parseMethodDescriptor y.desc).map (fun d => d.parameters.length) = some n) (hR : rm.frames + 1 ≤ R.frames ∧ 8 + (maxL + 11) + rm.locals ≤ R.locals)
    (he : W0[q0]? = some (b, .inr (ci, fs))) (hc : vwCl[ci]? = some q) (hq : q.1 = Cn) (hC : isC.map (fun i => W0[i]?) = w.map some) (hnd : va_nd isC = true) (hL : isC.length = w1.length)
    (hn : As.length = n) (hl : ls.size = nL) (hst : st0 = As.reverse ++ .ref b :: rest) (hrm : (rest.map fun v => v.category).sum ≤ 8) (hdg : decode cc pc = .ok (.invokevirtual index, 3)) (hf : cells ≤ R.cells ∧ slots ≤ R.slots)
    (kk : ∀ (H1 : Heap) (locs1 : List Loc), Gd D A s (pt W0 isC w1) H1 locs1 → W p l e R s m args below meth c H1 locs1 cells slots Q (F0 m (pc + 3) ls (.long r :: rest))) : W p l e R s m args below meth c H locs cells slots Q (F0 m pc ls st0) := by
  obtain ⟨hx, hb, hr, hml, hown, hts, hlk, hK, hA, hE⟩ := C
  have hFc := va_free (wc := w) G.2.1 G.2.2 hA isC hC
  refine va_calll (va_runV (As := As) (rest := rest) ⟨hx, hb, hml, hown, hts⟩ (hM H.size) (cwV n hts hT hw hrc hrs hd hR) ⟨MPre.blind, by have := va_recv hK G.1 hc he; rw [hq] at this; exact this, call_pre hK hE hA G isC hC hnd⟩ rfl hn hl hst (lv_room hrm) hdg hf) G.2.2 (fun q _ h => hFc q h) hFc (fun r' u t H1 locs1 ht hvm hw' hB hz1 hk1 hS => ?_)
  obtain ⟨hP1, hK1, hD1⟩ := hB
  rw [ht] at hP1
  subst hw'
  exact kk H1 locs1 (G.put isC hC hL hk1 hFc hP1 hD1 hS hnd)
theorem MV.callV (As rest : List Value) (isC : List Nat) (C : Cx D cy A p s m meth c cc nL ret Ts own args) (G : Gd D A s W0 H locs) (hM : MV l y wy rm D cy (.ref b :: As) w w1)
    (hT : GoodIn Ts (wsV own index Cn y wy)) (hw : wy = Cond.code y bytes maxL rt :: wy') (hrc : rm.cells = 0) (hrs : rm.slots = 0)
    (hd : y.cls = Cn ∧ y.cls ≠ "java/lang/invoke/MethodHandle" ∧ y.cls ≠ "java/lang/invoke/VarHandle" ∧ (parseMethodDescriptor y.desc).map (fun d => d.parameters.length) = some n) (hR : rm.frames + 1 ≤ R.frames ∧ 8 + (maxL + 11) + rm.locals ≤ R.locals)
    (he : W0[q0]? = some (b, .inr (ci, fs))) (hc : vwCl[ci]? = some q) (hq : q.1 = Cn) (hC : isC.map (fun i => W0[i]?) = w.map some) (hnd : va_nd isC = true) (hL : isC.length = w1.length)
    (hn : As.length = n) (hl : ls.size = nL) (hst : st0 = As.reverse ++ .ref b :: rest) (hrm : (rest.map fun v => v.category).sum ≤ 8) (hdg : decode cc pc = .ok (.invokevirtual index, 3)) (hf : cells ≤ R.cells ∧ slots ≤ R.slots)
    (kk : ∀ (H1 : Heap) (locs1 : List Loc), Gd D A s (pt W0 isC w1) H1 locs1 → W p l e R s m args below meth c H1 locs1 cells slots Q (F0 m (pc + 3) ls rest)) : W p l e R s m args below meth c H locs cells slots Q (F0 m pc ls st0) := by
  obtain ⟨hx, hb, hr, hml, hown, hts, hlk, hK, hA, hE⟩ := C
  have hFc := va_free (wc := w) G.2.1 G.2.2 hA isC hC
  refine va_callv (va_runV (As := As) (rest := rest) ⟨hx, hb, hml, hown, hts⟩ (hM H.size) (cwV n hts hT hw hrc hrs hd hR) ⟨MPre.blind, by have := va_recv hK G.1 hc he; rw [hq] at this; exact this, call_pre hK hE hA G isC hC hnd⟩ rfl hn hl hst (lv_room hrm) hdg hf) G.2.2 (fun q _ h => hFc q h) hFc (fun u t H1 locs1 ht hvm hw' hB hz1 hk1 hS => ?_)
  obtain ⟨hP1, hK1, hD1⟩ := hB
  rw [ht] at hP1
  exact kk H1 locs1 (G.put isC hC hL hk1 hFc hP1 hD1 hS hnd)
theorem MI.callS (r : Int32) (As rest : List Value) (isC : List Nat) (C : Cx D cy A p s m meth c cc nL ret Ts own args) (G : Gd D A s W0 H locs) (hM : MI l y wy rm D cy As w r w1)
    (hT : GoodIn Ts (va_wsS own index y wy)) (hw : wy = Cond.code y bytes maxL rt :: wy') (hrc : rm.cells = 0) (hrs : rm.slots = 0)
    (hd : y.cls ≠ "java/lang/invoke/MethodHandle" ∧ y.cls ≠ "java/lang/invoke/VarHandle" ∧ (parseMethodDescriptor y.desc).map (fun d => d.parameters.length) = some n) (hR : rm.frames + 1 ≤ R.frames ∧ 8 + (maxL + 11) + rm.locals ≤ R.locals)
    (hC : isC.map (fun i => W0[i]?) = w.map some) (hnd : va_nd isC = true) (hL : isC.length = w1.length)
    (hn : As.length = n) (hl : ls.size = nL) (hst : st0 = As.reverse ++ rest) (hrm : (rest.map fun v => v.category).sum ≤ 8) (hdg : decode cc pc = .ok (.invokestatic index, 3)) (hf : cells ≤ R.cells ∧ slots ≤ R.slots)
    (kk : ∀ (H1 : Heap) (locs1 : List Loc), Gd D A s (pt W0 isC w1) H1 locs1 → W p l e R s m args below meth c H1 locs1 cells slots Q (F0 m (pc + 3) ls (.int r :: rest))) : W p l e R s m args below meth c H locs cells slots Q (F0 m pc ls st0) := by
  obtain ⟨hx, hb, hr, hml, hown, hts, hlk, hK, hA, hE⟩ := C
  have hFc := va_free (wc := w) G.2.1 G.2.2 hA isC hC
  refine va_calli (va_runS (As := As) (rest := rest) ⟨hx, hb, hml, hown, hts⟩ (hM H.size) (va_cwS n hts hT hw hrc hrs hd hR) ⟨MPre.blind, call_pre hK hE hA G isC hC hnd⟩ rfl hn hl hst (lv_room hrm) hdg hf) G.2.2 (fun q _ h => hFc q h) hFc (fun r' u t H1 locs1 ht hvm hw' hB hz1 hk1 hS => ?_)
  obtain ⟨hP1, hK1, hD1⟩ := hB
  rw [ht] at hP1
  subst hw'
  exact kk H1 locs1 (G.put isC hC hL hk1 hFc hP1 hD1 hS hnd)
theorem MV.callS (As rest : List Value) (isC : List Nat) (C : Cx D cy A p s m meth c cc nL ret Ts own args) (G : Gd D A s W0 H locs) (hM : MV l y wy rm D cy As w w1)
    (hT : GoodIn Ts (va_wsS own index y wy)) (hw : wy = Cond.code y bytes maxL rt :: wy') (hrc : rm.cells = 0) (hrs : rm.slots = 0)
    (hd : y.cls ≠ "java/lang/invoke/MethodHandle" ∧ y.cls ≠ "java/lang/invoke/VarHandle" ∧ (parseMethodDescriptor y.desc).map (fun d => d.parameters.length) = some n) (hR : rm.frames + 1 ≤ R.frames ∧ 8 + (maxL + 11) + rm.locals ≤ R.locals)
    (hC : isC.map (fun i => W0[i]?) = w.map some) (hnd : va_nd isC = true) (hL : isC.length = w1.length)
    (hn : As.length = n) (hl : ls.size = nL) (hst : st0 = As.reverse ++ rest) (hrm : (rest.map fun v => v.category).sum ≤ 8) (hdg : decode cc pc = .ok (.invokestatic index, 3)) (hf : cells ≤ R.cells ∧ slots ≤ R.slots)
    (kk : ∀ (H1 : Heap) (locs1 : List Loc), Gd D A s (pt W0 isC w1) H1 locs1 → W p l e R s m args below meth c H1 locs1 cells slots Q (F0 m (pc + 3) ls rest)) : W p l e R s m args below meth c H locs cells slots Q (F0 m pc ls st0) := by
  obtain ⟨hx, hb, hr, hml, hown, hts, hlk, hK, hA, hE⟩ := C
  have hFc := va_free (wc := w) G.2.1 G.2.2 hA isC hC
  refine va_callv (va_runS (As := As) (rest := rest) ⟨hx, hb, hml, hown, hts⟩ (hM H.size) (va_cwS n hts hT hw hrc hrs hd hR) ⟨MPre.blind, call_pre hK hE hA G isC hC hnd⟩ rfl hn hl hst (lv_room hrm) hdg hf) G.2.2 (fun q _ h => hFc q h) hFc (fun u t H1 locs1 ht hvm hw' hB hz1 hk1 hS => ?_)
  obtain ⟨hP1, hK1, hD1⟩ := hB
  rw [ht] at hP1
  exact kk H1 locs1 (G.put isC hC hL hk1 hFc hP1 hD1 hS hnd)
theorem MI.callVw (r : Int32) (As rest : List Value) (C : Cx D cy A p s m meth c cc nL ret Ts own args) (G : Gd D A s w H locs) (hM : MI l y wy rm D cy (.ref b :: As) w r w1)
    (hT : GoodIn Ts (wsV own index Cn y wy)) (hw : wy = Cond.code y bytes maxL rt :: wy') (hrc : rm.cells = 0) (hrs : rm.slots = 0)
    (hd : y.cls = Cn ∧ y.cls ≠ "java/lang/invoke/MethodHandle" ∧ y.cls ≠ "java/lang/invoke/VarHandle" ∧ (parseMethodDescriptor y.desc).map (fun d => d.parameters.length) = some n) (hR : rm.frames + 1 ≤ R.frames ∧ 8 + (maxL + 11) + rm.locals ≤ R.locals)
    (he : w[q0]? = some (b, .inr (ci, fs))) (hc : vwCl[ci]? = some q) (hq : q.1 = Cn)
    (hn : As.length = n) (hl : ls.size = nL) (hst : st0 = As.reverse ++ .ref b :: rest) (hrm : (rest.map fun v => v.category).sum ≤ 8) (hdg : decode cc pc = .ok (.invokevirtual index, 3)) (hf : cells ≤ R.cells ∧ slots ≤ R.slots)
    (kk : ∀ (H1 : Heap) (locs1 : List Loc), Gd D A s w1 H1 locs1 → W p l e R s m args below meth c H1 locs1 cells slots Q (F0 m (pc + 3) ls (.int r :: rest))) : W p l e R s m args below meth c H locs cells slots Q (F0 m pc ls st0) := by
  obtain ⟨hx, hb, hr, hml, hown, hts, hlk, hK, hA, hE⟩ := C
  have hFc : ∀ q, va_A w H.size q → A q := by
    intro q h
    rcases h with ⟨k, e, h⟩ | h
    · exact G.2.1.2 k (q, e) h
    · exact hA q (Nat.le_trans G.2.2.1 h)
  refine va_calli (va_runV (As := As) (rest := rest) ⟨hx, hb, hml, hown, hts⟩ (hM H.size) (cwV n hts hT hw hrc hrs hd hR) ⟨MPre.blind, by have := va_recv hK G.1 hc he; rw [hq] at this; exact this, fun U hU hW => ⟨rfl, by rw [hU], by rw [hU]; exact G.1, va_K.moved hW.alike hK, G.2.1.weaken (fun _ _ _ _ => trivial), hE.call G.2.2 hW hU hFc⟩⟩ rfl hn hl hst (lv_room hrm) hdg hf) G.2.2 (fun q _ h => hFc q h) hFc (fun r' u t H1 locs1 ht hvm hw' hB hz1 hk1 hS => ?_)
  obtain ⟨hP1, hK1, hD1⟩ := hB
  rw [ht] at hP1
  subst hw'
  exact kk H1 locs1 ⟨hP1, hD1.weaken (fun k q _ h => hFc q.1 h), hS⟩
theorem ML.callVw (r : Int64) (As rest : List Value) (C : Cx D cy A p s m meth c cc nL ret Ts own args) (G : Gd D A s w H locs) (hM : ML l y wy rm D cy (.ref b :: As) w r w1)
    (hT : GoodIn Ts (wsV own index Cn y wy)) (hw : wy = Cond.code y bytes maxL rt :: wy') (hrc : rm.cells = 0) (hrs : rm.slots = 0)
    (hd : y.cls = Cn ∧ y.cls ≠ "java/lang/invoke/MethodHandle" ∧ y.cls ≠ "java/lang/invoke/VarHandle" ∧ (parseMethodDescriptor y.desc).map (fun d => d.parameters.length) = some n) (hR : rm.frames + 1 ≤ R.frames ∧ 8 + (maxL + 11) + rm.locals ≤ R.locals)
    (he : w[q0]? = some (b, .inr (ci, fs))) (hc : vwCl[ci]? = some q) (hq : q.1 = Cn)
    (hn : As.length = n) (hl : ls.size = nL) (hst : st0 = As.reverse ++ .ref b :: rest) (hrm : (rest.map fun v => v.category).sum ≤ 8) (hdg : decode cc pc = .ok (.invokevirtual index, 3)) (hf : cells ≤ R.cells ∧ slots ≤ R.slots)
    (kk : ∀ (H1 : Heap) (locs1 : List Loc), Gd D A s w1 H1 locs1 → W p l e R s m args below meth c H1 locs1 cells slots Q (F0 m (pc + 3) ls (.long r :: rest))) : W p l e R s m args below meth c H locs cells slots Q (F0 m pc ls st0) := by
  obtain ⟨hx, hb, hr, hml, hown, hts, hlk, hK, hA, hE⟩ := C
  have hFc : ∀ q, va_A w H.size q → A q := by
    intro q h
    rcases h with ⟨k, e, h⟩ | h
    · exact G.2.1.2 k (q, e) h
    · exact hA q (Nat.le_trans G.2.2.1 h)
  refine va_calll (va_runV (As := As) (rest := rest) ⟨hx, hb, hml, hown, hts⟩ (hM H.size) (cwV n hts hT hw hrc hrs hd hR) ⟨MPre.blind, by have := va_recv hK G.1 hc he; rw [hq] at this; exact this, fun U hU hW => ⟨rfl, by rw [hU], by rw [hU]; exact G.1, va_K.moved hW.alike hK, G.2.1.weaken (fun _ _ _ _ => trivial), hE.call G.2.2 hW hU hFc⟩⟩ rfl hn hl hst (lv_room hrm) hdg hf) G.2.2 (fun q _ h => hFc q h) hFc (fun r' u t H1 locs1 ht hvm hw' hB hz1 hk1 hS => ?_)
  obtain ⟨hP1, hK1, hD1⟩ := hB
  rw [ht] at hP1
  subst hw'
  exact kk H1 locs1 ⟨hP1, hD1.weaken (fun k q _ h => hFc q.1 h), hS⟩
theorem MV.callVw (As rest : List Value) (C : Cx D cy A p s m meth c cc nL ret Ts own args) (G : Gd D A s w H locs) (hM : MV l y wy rm D cy (.ref b :: As) w w1)
    (hT : GoodIn Ts (wsV own index Cn y wy)) (hw : wy = Cond.code y bytes maxL rt :: wy') (hrc : rm.cells = 0) (hrs : rm.slots = 0)
    (hd : y.cls = Cn ∧ y.cls ≠ "java/lang/invoke/MethodHandle" ∧ y.cls ≠ "java/lang/invoke/VarHandle" ∧ (parseMethodDescriptor y.desc).map (fun d => d.parameters.length) = some n) (hR : rm.frames + 1 ≤ R.frames ∧ 8 + (maxL + 11) + rm.locals ≤ R.locals)
    (he : w[q0]? = some (b, .inr (ci, fs))) (hc : vwCl[ci]? = some q) (hq : q.1 = Cn)
    (hn : As.length = n) (hl : ls.size = nL) (hst : st0 = As.reverse ++ .ref b :: rest) (hrm : (rest.map fun v => v.category).sum ≤ 8) (hdg : decode cc pc = .ok (.invokevirtual index, 3)) (hf : cells ≤ R.cells ∧ slots ≤ R.slots)
    (kk : ∀ (H1 : Heap) (locs1 : List Loc), Gd D A s w1 H1 locs1 → W p l e R s m args below meth c H1 locs1 cells slots Q (F0 m (pc + 3) ls (rest))) : W p l e R s m args below meth c H locs cells slots Q (F0 m pc ls st0) := by
  obtain ⟨hx, hb, hr, hml, hown, hts, hlk, hK, hA, hE⟩ := C
  have hFc : ∀ q, va_A w H.size q → A q := by
    intro q h
    rcases h with ⟨k, e, h⟩ | h
    · exact G.2.1.2 k (q, e) h
    · exact hA q (Nat.le_trans G.2.2.1 h)
  refine va_callv (va_runV (As := As) (rest := rest) ⟨hx, hb, hml, hown, hts⟩ (hM H.size) (cwV n hts hT hw hrc hrs hd hR) ⟨MPre.blind, by have := va_recv hK G.1 hc he; rw [hq] at this; exact this, fun U hU hW => ⟨rfl, by rw [hU], by rw [hU]; exact G.1, va_K.moved hW.alike hK, G.2.1.weaken (fun _ _ _ _ => trivial), hE.call G.2.2 hW hU hFc⟩⟩ rfl hn hl hst (lv_room hrm) hdg hf) G.2.2 (fun q _ h => hFc q h) hFc (fun u t H1 locs1 ht hvm hw' hB hz1 hk1 hS => ?_)
  obtain ⟨hP1, hK1, hD1⟩ := hB
  rw [ht] at hP1
  exact kk H1 locs1 ⟨hP1, hD1.weaken (fun k q _ h => hFc q.1 h), hS⟩
end CALLS
/-! ===== the pure words that methods are read as ===== -/
def gd {α : Type} (b : Bool) (x : Option α) : Option α := if b = true then x else none
theorem gd_t {α : Type} {x : Option α} : gd true x = x := rfl
theorem gd_some {α : Type} {b : Bool} {x : Option α} {r : α} (h : gd b x = some r) : b = true ∧ x = some r := by
  cases b with
  | false => cases h
  | true => exact ⟨rfl, h⟩
def ix (i : Int32) : Nat := i.toNatClampNeg
def inb (i : Int32) (n : Nat) : Bool := !(decide (i < 0)) && decide (ix i < n)
theorem inb_in {i : Int32} {n : Nat} (h : inb i n = true) : vp_in i n := by
  unfold inb at h
  simp only [Bool.and_eq_true, Bool.not_eq_true', decide_eq_false_iff_not, decide_eq_true_eq] at h
  intro q
  rcases q with q | q
  · exact h.1 q
  · exact absurd h.2 (Nat.not_lt.mpr q)
def isz (v : Int32) : Bool := decide (v = 0) || decide (v = 1)
theorem isz_n {v : Int32} (h : isz v = true) : narrow .boolean (.int v) = .int v := by
  unfold isz at h
  simp only [Bool.or_eq_true, decide_eq_true_eq] at h
  rcases h with rfl | rfl <;> rfl
def nm {α β : Type} (e : α) (k : α → Option β) : Option β := k e
theorem nm_h {α β : Type} {e : α} {k : α → Option β} {r : β} {x : α} (h : nm e k = some r) (ex : x = e) : k x = some r := by subst ex; exact h
def bd {α β : Type} (x : Option α) (k : α → Option β) : Option β := match x with
  | none => none
  | some a => k a
theorem bd_some {α β : Type} {x : Option α} {k : α → Option β} {r : β} (h : bd x k = some r) : ∃ a, x = some a ∧ k a = some r := by
  cases x with
  | none => cases h
  | some a => exact ⟨a, rfl, h⟩
theorem if_t {α : Type} {c : Prop} {_ : Decidable c} {a b : Option α} {r : α} (H : (if c then a else b) = some r) (h : c) : a = some r := by rw [if_pos h] at H; exact H
theorem if_f {α : Type} {c : Prop} {_ : Decidable c} {a b : Option α} {r : α} (H : (if c then a else b) = some r) (h : ¬ c) : b = some r := by rw [if_neg h] at H; exact H
theorem if_t' {α : Type} {c : Prop} {_ : Decidable c} {a b : Option α} {r : α} (H : (if c then b else a) = some r) (h : ¬ c) : a = some r := by rw [if_neg h] at H; exact H
theorem sw_out {x : Int32} {lo hi : Int} (h : ∀ k : Int, lo ≤ k → k ≤ hi → x ≠ Int32.ofInt k) : x.toInt < lo ∨ hi < x.toInt := by
  rcases Int.lt_or_le x.toInt lo with q | q
  · exact Or.inl q
  · rcases Int.lt_or_le hi x.toInt with q2 | q2
    · exact Or.inr q2
    · exact absurd (Int32.ofInt_toInt x).symm (h x.toInt q q2)
theorem isz_f {v : Int32} (h : isz v = true) : fits .boolean (.int v) = true := by
  unfold isz at h
  simp only [Bool.or_eq_true, decide_eq_true_eq] at h
  rcases h with rfl | rfl <;> rfl
def cpb (sp dp n : Int32) (n0 n1 : Nat) : Bool := decide (¬ sp < 0) && (decide (¬ dp < 0) && (decide (¬ n < 0) && (decide (ix sp + ix n ≤ n0) && decide (ix dp + ix n ≤ n1))))
section CPB
variable {sp dp n : Int32} {n0 n1 : Nat}
theorem cpb_all (h : cpb sp dp n n0 n1 = true) : ¬ sp < 0 ∧ ¬ dp < 0 ∧ ¬ n < 0 ∧ ix sp + ix n ≤ n0 ∧ ix dp + ix n ≤ n1 := by
  unfold cpb at h
  simpa only [Bool.and_eq_true, decide_eq_true_eq] using h
theorem cpb_1 (h : cpb sp dp n n0 n1 = true) : ¬ sp < 0 := (cpb_all h).1
theorem cpb_2 (h : cpb sp dp n n0 n1 = true) : ¬ dp < 0 := (cpb_all h).2.1
theorem cpb_3 (h : cpb sp dp n n0 n1 = true) : ¬ n < 0 := (cpb_all h).2.2.1
theorem cpb_4 (h : cpb sp dp n n0 n1 = true) : sp.toNatClampNeg + n.toNatClampNeg ≤ n0 := (cpb_all h).2.2.2.1
theorem cpb_5 (h : cpb sp dp n n0 n1 = true) : dp.toNatClampNeg + n.toNatClampNeg ≤ n1 := (cpb_all h).2.2.2.2
end CPB
section LD
variable {p : Program} {l : Launch} {e : Env} {R : Room} {s : State} {m : MethodId} {args : Array Value} {below : List Frame} {meth : Method} {c : Code} {H : Heap} {locs : List Loc} {cells slots : Nat} {Q : State → Prop} {cc : ByteArray} {pc : Nat} {ls : Array Slot} {rest : List Value} {D : va_G} {cl : List vw_C} {a : Nat} {tys : List (ClassId × FieldType)} {ws : va_W}
theorem g_iald (hexec : p.tables.exec = Jvm.exec) (hb : c.code = cc) (hK : va_K D cl tys s) (hP : va_P D cl ws H) (q0 t0 : Nat) {cA : ClassId} {n : Nat} {f : Nat → Int32} (ha : ws[q0]? = some (a, .inl (cA, n, .inl f))) (ht : tys[t0]? = some (cA, .int)) {i v : Int32} (hi : inb i n = true) (hv : f i.toNatClampNeg = v) (hdg : decode cc pc = .ok (.iaload, 1))
    (kk : W p l e R s m args below meth c H locs cells slots Q (F0 m (pc + 1) ls (.int v :: rest))) : W p l e R s m args below meth c H locs cells slots Q (F0 m pc ls (.int i :: .ref a :: rest)) := by
  subst hv
  exact va_iald hexec hb hK hP q0 t0 ha ht (inb_in hi) hdg kk
theorem g_bald (hexec : p.tables.exec = Jvm.exec) (hb : c.code = cc) (hK : va_K D cl tys s) (hP : va_P D cl ws H) (q0 t0 : Nat) {cA : ClassId} {n : Nat} {f : Nat → Int32} (ha : ws[q0]? = some (a, .inl (cA, n, .inl f))) (ht : tys[t0]? = some (cA, .byte)) {i v : Int32} (hi : inb i n = true) (hv : f i.toNatClampNeg = v) (hdg : decode cc pc = .ok (.baload, 1))
    (kk : W p l e R s m args below meth c H locs cells slots Q (F0 m (pc + 1) ls (.int v :: rest))) : W p l e R s m args below meth c H locs cells slots Q (F0 m pc ls (.int i :: .ref a :: rest)) := by
  subst hv
  exact va_bald hexec hb hK hP q0 t0 ha ht (inb_in hi) hdg kk
theorem g_zald (hexec : p.tables.exec = Jvm.exec) (hb : c.code = cc) (hK : va_K D cl tys s) (hP : va_P D cl ws H) (q0 t0 : Nat) {cA : ClassId} {n : Nat} {f : Nat → Int32} (ha : ws[q0]? = some (a, .inl (cA, n, .inl f))) (ht : tys[t0]? = some (cA, .boolean)) {i v : Int32} (hi : inb i n = true) (hv : f i.toNatClampNeg = v) (hdg : decode cc pc = .ok (.baload, 1))
    (kk : W p l e R s m args below meth c H locs cells slots Q (F0 m (pc + 1) ls (.int v :: rest))) : W p l e R s m args below meth c H locs cells slots Q (F0 m pc ls (.int i :: .ref a :: rest)) := by
  subst hv
  exact va_zald hexec hb hK hP q0 t0 ha ht (inb_in hi) hdg kk
theorem g_aald (hexec : p.tables.exec = Jvm.exec) (hb : c.code = cc) (hK : va_K D cl tys s) (hP : va_P D cl ws H) (q0 t0 : Nat) {cA : ClassId} {ty : FieldType} {n x : Nat} {f : Nat → Option Nat} (ha : ws[q0]? = some (a, .inl (cA, n, .inr (.inr (.inr (.inr f)))))) (ht : tys[t0]? = some (cA, ty)) (hty : ty.isReference = true) {i : Int32} (hi : inb i n = true) (hv : f i.toNatClampNeg = some x) (hdg : decode cc pc = .ok (.aaload, 1))
    (kk : W p l e R s m args below meth c H locs cells slots Q (F0 m (pc + 1) ls (.ref x :: rest))) : W p l e R s m args below meth c H locs cells slots Q (F0 m pc ls (.int i :: .ref a :: rest)) := by
  have hin := inb_in hi
  have hlt : i.toNatClampNeg < n := Nat.not_le.mp fun q => hin (Or.inr q)
  refine W.aald (v := va_rf (f i.toNatClampNeg)) (ty := ty) hexec hb (hP q0 _ ha) ((hK.2 t0 _ ht).1 n (fun j => va_rf (f j))) hty (fun q => by cases q) (by show ¬ (i < 0 ∨ (arrV _ _ _).slots.size ≤ _); rw [arrV_size]; exact hin) (by show (arrV _ _ _).slots[_]? = _; rw [arrV_read _ _ hlt]) rfl rfl hdg ?_
  rw [hv]
  exact kk
end LD
