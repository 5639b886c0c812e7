theorem owed8_L {deb : Nat → Int32} {a : Nat} (ha : a < 6) : ∀ (m i f : Nat), i + m = 6 → m < f → f_X3_owedBy_L4 deb (nI a) f (sm (fun k => deb (6 * a + k)) i) (nI i) = some (sm (fun k => deb (6 * a + k)) 6) := by
  intro m
  induction m with
  | zero =>
    intro i f hi hf
    obtain ⟨f, rfl⟩ : ∃ f', f = f' + 1 := ⟨f - 1, by omega⟩
    rw [f_X3_owedBy_L4_s, if_pos (by rw [show (6 : Int32) = nI 6 from rfl, nI_leI (by omega) (by omega)]; omega), show i = 6 by omega]
  | succ m ih =>
    intro i f hi hf
    obtain ⟨f, rfl⟩ : ∃ f', f = f' + 1 := ⟨f - 1, by omega⟩
    rw [f_X3_owedBy_L4_s, if_neg (by rw [show (6 : Int32) = nI 6 from rfl, nI_leI (by omega) (by omega)]; omega), debt8 deb ha (by omega), bd_s, nI_1]
    exact ih (i + 1) f (by omega) (by omega)
theorem owed8 {deb : Nat → Int32} {a : Nat} (ha : a < 6) : f_X3_owedBy deb (nI a) = some (sm (fun k => deb (6 * a + k)) 6) := by
  have e := owed8_L (deb := deb) ha 6 0 2000 (by omega) (by omega)
  change f_X3_owedBy_L4 deb (nI a) 2000 0 0 = _ at e
  simp only [f_X3_owedBy, e, bd_s]
theorem bal8 {deb : Nat → Int32} {a : Nat} (ha : a < 6) : f_X3_balance deb (nI a) = some (sm (fun k => deb (6 * a + k)) 6 - sm (fun k => deb (6 * k + a)) 6) := by
  have e := bal8_L (deb := deb) ha (sm (fun k => deb (6 * a + k)) 6) 6 0 2000 (by omega) (by omega)
  rw [show sm (fun k => deb (6 * k + a)) 0 = 0 from rfl, Int32.sub_zero, show nI 0 = 0 from rfl] at e
  simp only [f_X3_balance, owed8 ha, e, bd_s]
theorem bal9_L {deb bay : Nat → Int32} {n a : Nat} (hn : n ≤ 6) (hb : bay 1 = nI n) (ha : a < 6) (ho : ∀ i, i < 36 → deb i = bay (39 + i)) : ∀ (m i f : Nat), i + m = n → m < f → f_X9_balanceOf_L4 bay (nI a) f (sm (fun k => deb (6 * a + k)) i - sm (fun k => deb (6 * k + a)) i) (nI i) = some (sm (fun k => deb (6 * a + k)) n - sm (fun k => deb (6 * k + a)) n) := by
  intro m
  induction m with
  | zero =>
    intro i f hi hf
    obtain ⟨f, rfl⟩ : ∃ f', f = f' + 1 := ⟨f - 1, by omega⟩
    rw [f_X9_balanceOf_L4_s, hb, if_pos (by rw [nI_leI (by omega) (by omega)]; omega), show i = n by omega]
  | succ m ih =>
    intro i f hi hf
    obtain ⟨f, rfl⟩ : ∃ f', f = f' + 1 := ⟨f - 1, by omega⟩
    rw [f_X9_balanceOf_L4_s, hb, if_neg (by rw [nI_leI (by omega) (by omega)]; omega), debt9, bd_s, gd_k (inb_nI (by omega) (by decide)), debt9, bd_s, gd_k (inb_nI (by omega) (by decide)), ix_nI (by omega), ix_nI (by omega), ← ho _ (by omega), ← ho _ (by omega), nI_1, ← ih (i + 1) f (by omega) (by omega)]
    congr 1
    change _ = (sm (fun k => deb (6 * a + k)) i + deb (6 * a + i)) - (sm (fun k => deb (6 * k + a)) i + deb (6 * i + a))
    generalize sm (fun k => deb (6 * a + k)) i = x
    generalize sm (fun k => deb (6 * k + a)) i = y
    simp only [Int32.sub_eq_add_neg, Int32.neg_add, Int32.add_assoc]
    congr 1
    rw [← Int32.add_assoc, Int32.add_comm (-y), Int32.add_assoc]
theorem bal9 {deb bay : Nat → Int32} {n a : Nat} (hn : n ≤ 6) (hb : bay 1 = nI n) (ha : a < n) (ho : ∀ i, i < 36 → deb i = bay (39 + i)) (hz : ∀ a b, a < 6 → b < 6 → n ≤ a ∨ n ≤ b → deb (6 * a + b) = 0) : f_X9_balanceOf bay (nI a) = f_X3_balance deb (nI a) := by
  have e := bal9_L hn hb (show a < 6 by omega) ho n 0 2000 (by omega) (by omega)
  change f_X9_balanceOf_L4 bay (nI a) 2000 (0 - 0) 0 = _ at e
  rw [Int32.sub_zero] at e
  rw [bal8 (by omega)]
  simp only [f_X9_balanceOf, e, bd_s]
  have s1 := sm_zero (f := fun k => deb (6 * a + k)) (n := n) (fun k h1 h2 => hz a k (by omega) h2 (Or.inr h1)) (6 - n) (by omega)
  have s2 := sm_zero (f := fun k => deb (6 * k + a)) (n := n) (fun k h1 h2 => hz k a h2 (by omega) (Or.inl h1)) (6 - n) (by omega)
  rw [show n + (6 - n) = 6 by omega] at s1 s2
  rw [s1, s2]
