/-! ===== sums ===== -/
def sm (f : Nat → Int32) : Nat → Int32
  | 0 => 0
  | n + 1 => sm f n + f n
theorem sm_zero {f : Nat → Int32} {n : Nat} (h : ∀ k, n ≤ k → k < 6 → f k = 0) : ∀ m, n + m ≤ 6 → sm f (n + m) = sm f n := by
  intro m
  induction m with
  | zero => intro _; rfl
  | succ m ih =>
    intro hm
    change sm f (n + m) + f (n + m) = _
    rw [h (n + m) (by omega) (by omega), Int32.add_zero]
    exact ih (by omega)
theorem bal8_L {deb : Nat → Int32} {a : Nat} (ha : a < 6) (z : Int32) : ∀ (m i f : Nat), i + m = 6 → m < f → f_X3_balance_L8 deb (nI a) f (z - sm (fun k => deb (6 * k + a)) i) (nI i) = some (z - sm (fun k => deb (6 * k + a)) 6) := by
  intro m
  induction m with
  | zero =>
    intro i f hi hf
    obtain ⟨f, rfl⟩ : ∃ f', f = f' + 1 := ⟨f - 1, by omega⟩
    rw [f_X3_balance_L8_s, if_pos (by rw [show (6 : Int32) = nI 6 from rfl, nI_leI (by omega) (by omega)]; omega), show i = 6 by omega]
  | succ m ih =>
    intro i f hi hf
    obtain ⟨f, rfl⟩ : ∃ f', f = f' + 1 := ⟨f - 1, by omega⟩
    rw [f_X3_balance_L8_s, if_neg (by rw [show (6 : Int32) = nI 6 from rfl, nI_leI (by omega) (by omega)]; omega), debt8 deb (by omega) ha, bd_s, nI_1, ← ih (i + 1) f (by omega) (by omega)]
    congr 1
    change _ = z - (sm (fun k => deb (6 * k + a)) i + deb (6 * i + a))
    simp only [Int32.sub_eq_add_neg, Int32.neg_add, Int32.add_assoc]
