theorem op_water {bay sil dep arr deb : Nat → Int32} {wat : Int32} {n : Nat} (thrown p q : Int32) (hw : wat = nI n) (hn : n ≤ 6) (hb : bay 1 = wat) (ho : ∀ i, i < 36 → deb i = bay (39 + i)) (hz : ∀ a b, a < 6 → b < 6 → n ≤ a ∨ n ≤ b → deb (6 * a + b) = 0) (hd : ∀ w, w < 6 → dep w = bay (16 + 4 * w)) (hr : ∀ w, w < 6 → arr w = bay (17 + 4 * w)) (hs : ∀ w, w < n → sil w = bay (18 + 4 * w)) : ∃ (r thrown' : Int32), f_X8_water wat sil dep arr deb p q = some r ∧ f_X9_water thrown bay p q = some (r, thrown') := by
  subst hw
  rcases place p n (by omega) with ⟨w, hw, rfl⟩ | h
  · have hin := in_eq q.toInt64 0 3
    rw [t64] at hin
    change f_X9_in q.toInt64 0 3 = some (if (0 : Int) ≤ q.toInt ∧ q.toInt ≤ 3 then 1 else 0) at hin
    have g1 : ∀ {α : Type} (x : Option α), gd (inb (nI w) 6) x = x := fun x => gd_k (inb_nI (by omega) (by decide)) x
    have hx := ix_nI (show w < 2 ^ 31 by omega)
    have g2 : ∀ (k : Nat), k < 19 → ∀ {α : Type} (x : Option α), gd (inb (nI (k + 4 * w)) 75) x = x := fun k hk {α} x => gd_k (inb_nI (by omega) (by decide)) x
    rcases place q 4 (by omega) with ⟨t, ht, rfl⟩ | h
    · rw [nI_toInt (by omega), if_pos (by omega)] at hin
      rcases (show t = 0 ∨ t = 1 ∨ t = 2 ∨ t = 3 by omega) with rfl | rfl | rfl | rfl
      · have e : f_X9_at (nI w) (1 + nI 0) = some (nI (16 + 4 * w)) := by rw [show (1 : Int32) + nI 0 = nI 1 from rfl, at_eq, show 15 + 4 * w + 1 = 16 + 4 * w by omega]
        exact ⟨dep w, 0, by simp only [f_X8_water, isW8 hn hw, bd_s, if10, if_pos (show nI 0 = 0 from rfl), g1, hx], by simp only [f_X9_water, isW9 hn hb hw, bd_s, if10, hin, if_neg (show ¬ nI 0 = 3 by decide), e, g2 16 (by decide), ix_nI (show 16 + 4 * w < 2 ^ 31 by omega), hd w (by omega)]⟩
      · have e : f_X9_at (nI w) (1 + nI 1) = some (nI (17 + 4 * w)) := by rw [show (1 : Int32) + nI 1 = nI 2 from rfl, at_eq, show 15 + 4 * w + 2 = 17 + 4 * w by omega]
        exact ⟨arr w, 0, by simp only [f_X8_water, isW8 hn hw, bd_s, if10, if_neg (show ¬ nI 1 = 0 by decide), if_pos (show nI 1 = 1 from rfl), g1, hx], by simp only [f_X9_water, isW9 hn hb hw, bd_s, if10, hin, if_neg (show ¬ nI 1 = 3 by decide), e, g2 17 (by decide), ix_nI (show 17 + 4 * w < 2 ^ 31 by omega), hr w (by omega)]⟩
      · have e : f_X9_at (nI w) (1 + nI 2) = some (nI (18 + 4 * w)) := by rw [show (1 : Int32) + nI 2 = nI 3 from rfl, at_eq, show 15 + 4 * w + 3 = 18 + 4 * w by omega]
        exact ⟨sil w, 0, by simp only [f_X8_water, isW8 hn hw, bd_s, if10, if_neg (show ¬ nI 2 = 0 by decide), if_neg (show ¬ nI 2 = 1 by decide), if_pos (show nI 2 = 2 from rfl), g1, hx], by simp only [f_X9_water, isW9 hn hb hw, bd_s, if10, hin, if_neg (show ¬ nI 2 = 3 by decide), e, g2 18 (by decide), ix_nI (show 18 + 4 * w < 2 ^ 31 by omega), hs w hw]⟩
      · have b8 := bal8 (deb := deb) (show w < 6 by omega)
        have b9 := (bal9 hn hb hw ho hz).trans b8
        exact ⟨sm (fun k => deb (6 * w + k)) 6 - sm (fun k => deb (6 * k + w)) 6, 0, by simp only [f_X8_water, isW8 hn hw, bd_s, if10, if_neg (show ¬ nI 3 = 0 by decide), if_neg (show ¬ nI 3 = 1 by decide), if_neg (show ¬ nI 3 = 2 by decide), if_pos (show nI 3 = 3 from rfl), b8], by simp only [f_X9_water, isW9 hn hb hw, bd_s, if10, hin, if_pos (show nI 3 = 3 from rfl), b9]⟩
    · rw [if_neg (by omega)] at hin
      have c0 : ¬ q = 0 := fun z => by subst z; revert h; decide
      have c1 : ¬ q = 1 := fun z => by subst z; revert h; decide
      have c2 : ¬ q = 2 := fun z => by subst z; revert h; decide
      have c3 : ¬ q = 3 := fun z => by subst z; revert h; decide
      exact ⟨-1000001, 0, by simp only [f_X8_water, isW8 hn hw, bd_s, if10, if_neg c0, if_neg c1, if_neg c2, if_neg c3], by simp only [f_X9_water, isW9 hn hb hw, bd_s, if10, hin, if_true]⟩
  · exact ⟨-1000001, 0, by simp only [f_X8_water, isW8_no hn h, bd_s, if_true], by simp only [f_X9_water, isW9_no hn hb h, bd_s, if_true]⟩
