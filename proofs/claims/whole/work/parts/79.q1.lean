/-! ===== waters ===== -/
theorem isW8 {n w : Nat} (hn : n ≤ 6) (hw : w < n) : f_X8_isWater (nI n) (nI w) = some 1 := by
  unfold f_X8_isWater
  rw [if_neg (nI_pos (by omega)), if_neg (by rw [nI_leI (by omega) (by omega)]; omega)]
theorem isW8_no {n : Nat} {p : Int32} (hn : n ≤ 6) (h : p.toInt < 0 ∨ (n : Int) ≤ p.toInt) : f_X8_isWater (nI n) p = some 0 := by
  unfold f_X8_isWater
  rcases h with h | h
  · rw [if_pos (i32_lt.mpr h)]
  · rw [if_neg (fun q => by have := i32_lt.mp q; change p.toInt < 0 at this; omega), if_pos (i32_le.mpr (by rw [nI_toInt (by omega)]; exact h))]
theorem isW9_eq {bay : Nat → Int32} {n : Nat} (hn : n ≤ 6) (hb : bay 1 = nI n) (p : Int32) : f_X9_in p.toInt64 0 ((bay 1 - 1 : Int32).toInt64) = some (if (0 : Int) ≤ p.toInt ∧ p.toInt ≤ (n : Int) - 1 then 1 else 0) := by
  have hin := in_eq p.toInt64 0 ((bay 1 - 1 : Int32).toInt64)
  rw [t64, t64, hb, show (1 : Int32) = nI 1 from rfl, pk_sub_toInt (by omega) (by omega)] at hin
  rw [hb]
  exact hin
theorem isW9 {bay : Nat → Int32} {n w : Nat} (hn : n ≤ 6) (hb : bay 1 = nI n) (hw : w < n) : f_X9_isWater bay (nI w) = some 1 := by
  unfold f_X9_isWater
  rw [isW9_eq hn hb, if_pos (by rw [nI_toInt (by omega)]; omega)]
  rfl
theorem isW9_no {bay : Nat → Int32} {n : Nat} {p : Int32} (hn : n ≤ 6) (hb : bay 1 = nI n) (h : p.toInt < 0 ∨ (n : Int) ≤ p.toInt) : f_X9_isWater bay p = some 0 := by
  unfold f_X9_isWater
  rw [isW9_eq hn hb, if_neg (by omega)]
  rfl
theorem op_kind {bay kin : Nat → Int32} {wat : Int32} {n : Nat} (thrown p : Int32) (hw : wat = nI n) (hn : n ≤ 6) (hb : bay 1 = wat) (hk : ∀ w, w < n → kin w = bay (15 + 4 * w)) : ∃ (r thrown' : Int32), f_X8_kind wat kin p = some r ∧ f_X9_kind thrown bay p = some (r, thrown') := by
  subst hw
  rcases place p n (by omega) with ⟨w, hw, rfl⟩ | h
  · have g1 : ∀ {α : Type} (x : Option α), gd (inb (nI w) 6) x = x := fun x => gd_k (inb_nI (by omega) (by decide)) x
    have g2 : ∀ {α : Type} (x : Option α), gd (inb (nI (15 + 4 * w + 0)) 75) x = x := fun x => gd_k (inb_nI (by omega) (by decide)) x
    have e := at_eq w 0
    rw [show nI 0 = 0 from rfl] at e
    exact ⟨kin w, 0, by simp only [f_X8_kind, isW8 hn hw, bd_s, if10, g1, ix_nI (show w < 2 ^ 31 by omega)], by simp only [f_X9_kind, isW9 hn hb hw, bd_s, if10, e, g2, ix_nI (show 15 + 4 * w + 0 < 2 ^ 31 by omega), hk w hw]; rfl⟩
  · exact ⟨-1000001, 0, by simp only [f_X8_kind, isW8_no hn h, bd_s, if_true], by simp only [f_X9_kind, isW9_no hn hb h, bd_s, if_true]⟩
