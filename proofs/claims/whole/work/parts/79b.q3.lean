theorem kinds : ∀ k, k < 6 → ∀ t, t < 6 → 1 ≤ k → (f_X2_isOne (nI k) (nI t) = some 1 ∧ f_X9_isOf (nI k) (nI t) = some 1) ∨ (f_X2_isOne (nI k) (nI t) = some 0 ∧ f_X9_isOf (nI k) (nI t) = some 0) := by
  decide +kernel
theorem op_as {lfi status : Int32} {bay kin : Nat → Int32} {wat : Int32} {n : Nat} (thrown p q : Int32) (hs : lfi = status) (hw : wat = nI n) (hn : n ≤ 6) (hb : bay 1 = wat) (hk : ∀ w, w < n → kin w = bay (15 + 4 * w) ∧ ∃ k, 1 ≤ k ∧ k < 6 ∧ kin w = nI k) : ∃ (r lfi' status' thrown' : Int32), f_X8_as lfi wat kin p q = some (r, lfi') ∧ f_X9_as thrown status bay p q = some (r, thrown', status') ∧ lfi' = status' := by
  subst hw
  rcases place p n (by omega) with ⟨w, hw, rfl⟩ | h
  · have hin := in_eq q.toInt64 0 5
    rw [t64] at hin
    change f_X9_in q.toInt64 0 5 = some (if (0 : Int) ≤ q.toInt ∧ q.toInt ≤ 5 then 1 else 0) at hin
    rcases place q 6 (by omega) with ⟨t, ht, rfl⟩ | h
    · rw [nI_toInt (by omega), if_pos (by omega)] at hin
      have c1 : ¬ nI t < 0 := nI_pos (by omega)
      have c2 : nI t < 6 := i32_lt.mpr (by rw [nI_toInt (by omega)]; change (t : Int) < 6; omega)
      have g1 : ∀ {α : Type} (x : Option α), gd (inb (nI w) 6) x = x := fun x => gd_k (inb_nI (by omega) (by decide)) x
      have g2 : ∀ {α : Type} (x : Option α), gd (inb (nI (15 + 4 * w + 0)) 75) x = x := fun x => gd_k (inb_nI (by omega) (by decide)) x
      have e := at_eq w 0
      rw [show nI 0 = 0 from rfl] at e
      obtain ⟨e1, k, hk1, hk2, e2⟩ := hk w hw
      have e3 : bay (15 + 4 * w + 0) = nI k := by rw [Nat.add_zero, ← e1, e2]
      rcases kinds k hk2 t ht hk1 with ⟨u, v⟩ | ⟨u, v⟩
      · exact ⟨nI w, 0, 0, 0, by simp only [f_X8_as, isW8 hn hw, bd_s, if10, if_neg c1, if_pos c2, g1, ix_nI (show w < 2 ^ 31 by omega), e2, u, f_X8_fine], by simp only [f_X9_as, isW9 hn hb hw, bd_s, if10, hin, e, g2, ix_nI (show 15 + 4 * w + 0 < 2 ^ 31 by omega), e3, v], rfl⟩
      · exact ⟨(-1000010) - 3, 3, 3, 0, by simp only [f_X8_as, isW8 hn hw, bd_s, if10, if_neg c1, if_pos c2, g1, ix_nI (show w < 2 ^ 31 by omega), e2, u, if_true, f_X8_found], by simp only [f_X9_as, isW9 hn hb hw, bd_s, if10, hin, e, g2, ix_nI (show 15 + 4 * w + 0 < 2 ^ 31 by omega), e3, v, if_true, f_X9_finding], rfl⟩
    · rw [if_neg (by omega)] at hin
      have e9 : f_X9_as thrown status bay (nI w) q = some (-1000001, 0, status) := by simp only [f_X9_as, isW9 hn hb hw, bd_s, if10, hin, if_true]
      refine ⟨-1000001, lfi, status, 0, ?_, e9, hs⟩
      by_cases c1 : q < 0
      · simp only [f_X8_as, isW8 hn hw, bd_s, if10, if_pos c1]
      · have c1' : ¬ q.toInt < 0 := fun z => c1 (lt0.mpr z)
        have c2 : ¬ q < 6 := fun z => by have := i32_lt.mp z; change q.toInt < 6 at this; omega
        simp only [f_X8_as, isW8 hn hw, bd_s, if10, if_neg c1, if_neg c2]
  · exact ⟨-1000001, lfi, status, 0, by simp only [f_X8_as, isW8_no hn h, bd_s, if_true], by simp only [f_X9_as, isW9_no hn hb h, bd_s, if_true], hs⟩
