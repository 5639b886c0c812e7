theorem debt9 (a b : Nat) : f_X9_debt (nI a) (nI b) = some (nI (39 + (6 * a + b))) := by
  unfold f_X9_debt
  rw [show (39 : Int32) = nI 39 from rfl, show (6 : Int32) = nI 6 from rfl, pk_mul, nI_add, nI_add, Nat.add_assoc]
theorem debt8 {a b : Nat} (deb : Nat → Int32) (ha : a < 6) (hb : b < 6) : f_X3_debt deb (nI a) (nI b) = some (deb (6 * a + b)) := by
  unfold f_X3_debt
  rw [show (6 : Int32) = nI 6 from rfl, pk_mul, nI_add, gd_k (inb_nI (by omega) (by decide)), ix_nI (by omega), Nat.mul_comm a 6]
theorem two8 {bay : Nat → Int32} {n : Nat} (hn : n ≤ 6) (hb : bay 1 = nI n) (p q : Int32) : (∃ a b, a < n ∧ b < n ∧ a ≠ b ∧ p = nI a ∧ q = nI b ∧ f_X8_areTwoWaters (nI n) p q = some 1 ∧ f_X9_areTwo bay p q = some 1) ∨ (f_X8_areTwoWaters (nI n) p q = some 0 ∧ f_X9_areTwo bay p q = some 0) := by
  rcases place p n (by omega) with ⟨a, ha, rfl⟩ | h
  · rcases place q n (by omega) with ⟨b, hb', rfl⟩ | h
    · by_cases e : nI a = nI b
      · exact Or.inr ⟨by simp only [f_X8_areTwoWaters, isW8 hn ha, isW8 hn hb', bd_s, if10, if_pos e], by simp only [f_X9_areTwo, isW9 hn hb ha, isW9 hn hb hb', bd_s, if10, if_pos e]⟩
      · exact Or.inl ⟨a, b, ha, hb', fun q => e (by rw [q]), rfl, rfl, by simp only [f_X8_areTwoWaters, isW8 hn ha, isW8 hn hb', bd_s, if10, if_neg e], by simp only [f_X9_areTwo, isW9 hn hb ha, isW9 hn hb hb', bd_s, if10, if_neg e]⟩
    · exact Or.inr ⟨by simp only [f_X8_areTwoWaters, isW8 hn ha, isW8_no hn h, bd_s, if10, if_true], by simp only [f_X9_areTwo, isW9 hn hb ha, isW9_no hn hb h, bd_s, if10, if_true]⟩
  · exact Or.inr ⟨by simp only [f_X8_areTwoWaters, isW8_no hn h, bd_s, if_true], by simp only [f_X9_areTwo, isW9_no hn hb h, bd_s, if_true]⟩
theorem op_owes {bay deb : Nat → Int32} {wat : Int32} {n : Nat} (thrown p q : Int32) (hw : wat = nI n) (hn : n ≤ 6) (hb : bay 1 = wat) (ho : ∀ i, i < 36 → deb i = bay (39 + i)) : ∃ (r thrown' : Int32), f_X8_owes wat deb p q = some r ∧ f_X9_owes thrown bay p q = some (r, thrown') := by
  subst hw
  rcases two8 hn hb p q with ⟨a, b, ha, hb', -, rfl, rfl, e1, e2⟩ | ⟨e1, e2⟩
  · have g2 : ∀ {α : Type} (x : Option α), gd (inb (nI (39 + (6 * a + b))) 75) x = x := fun x => gd_k (inb_nI (by omega) (by decide)) x
    exact ⟨deb (6 * a + b), 0, by simp only [f_X8_owes, e1, bd_s, if10, debt8 deb (show a < 6 by omega) (show b < 6 by omega)], by simp only [f_X9_owes, e2, bd_s, if10, debt9, g2, ix_nI (show 39 + (6 * a + b) < 2 ^ 31 by omega), ho (6 * a + b) (by omega)]⟩
  · exact ⟨-1000001, 0, by simp only [f_X8_owes, e1, bd_s, if_true], by simp only [f_X9_owes, e2, bd_s, if_true]⟩
