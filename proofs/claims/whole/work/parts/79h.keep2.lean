theorem op_keep {B n : Nat} {sta wat : Int32} {lev kin sil : Nat → Int32} {hour : Int32} {dep arr deb bay : Nat → Int32} {nxt kep : Int32} {r_hour : Nat → Int32} {r_dep r_arr r_deb : Nat → Nat → Int32} {acts : Int32} {was : Nat → Int32} (hC : ChartR n sta wat lev kin sil bay) (hL : LedR B n hour dep arr deb bay) (hR : RingR B n sta wat lev kin sil nxt kep r_hour r_dep r_arr r_deb acts was) :
    ∃ nxt' kep' r_hour' r_dep' r_arr' r_deb' acts' was', f_X5_keep nxt kep hour dep arr deb r_hour r_dep r_arr r_deb = some (nxt', kep', r_hour', r_dep', r_arr', r_deb') ∧ f_X9_keep acts bay was = some (acts', was') ∧ RingR B n sta wat lev kin sil nxt' kep' r_hour' r_dep' r_arr' r_deb' acts' was' := by
  obtain ⟨a, x, ha, hx, rfl, rfl, rfl, hT⟩ := hR
  have g1 : ∀ {α : Type} (z : Option α), gd (inb (nI x) 24) z = z := fun z => gd_k (inb_nI hx (by decide)) z
  have en : (nI x + 1) - (nI x + 1) / 24 * 24 = nI ((x + 1) % 24) := by
    rw [nI_1, show (24 : Int32) = nI 24 from rfl, pk_rem (by omega) (by decide) (by decide)]
  have e8 : ∀ k, (if 24 < nI a + 1 then 24 else nI a + 1) = nI k → f_X5_keep (nI x) (nI a) hour dep arr deb r_hour r_dep r_arr r_deb = some (nI ((x + 1) % 24), nI k, va_up r_hour x hour, va_up r_dep x (va_cpy dep (r_dep x) 0 0 6), va_up r_arr x (va_cpy arr (r_arr x) 0 0 6), va_up r_deb x (va_cpy deb (r_deb x) 0 0 36)) := by
    intro k hk
    simp only [f_X5_keep, f_X5_keep_m, g1, f_X3_takeFrom, bd_s, ix_nI (show x < 2 ^ 31 by omega), en, hk]
  have hnew : LedR B n hour (va_cpy dep (r_dep x) 0 0 6) (va_cpy arr (r_arr x) 0 0 6) (va_cpy deb (r_deb x) 0 0 36) bay := LedR_f hL (fun w hw => cpy0 _ _ hw) (fun w hw => cpy0 _ _ hw) (fun w hw => cpy0 _ _ hw)
  /- from the blocks to the ring -/
  have key : ∀ (a' : Nat) (was' : Nat → Int32), a' ≤ 24 → 1 ≤ a' → a' ≤ a + 1 → (∀ q, q < 75 → was' (75 * (a' - 1) + q) = bay q) → (∀ t, 1 ≤ t → t < a' → ∀ q, q < 75 → was' (75 * (a' - 1 - t) + q) = was (75 * (a - 1 - (t - 1)) + q)) → RingR B n sta wat lev kin sil (nI ((x + 1) % 24)) (nI a') (va_up r_hour x hour) (va_up r_dep x (va_cpy dep (r_dep x) 0 0 6)) (va_up r_arr x (va_cpy arr (r_arr x) 0 0 6)) (va_up r_deb x (va_cpy deb (r_deb x) 0 0 36)) (nI a') was' := by
    intro a' was' h1 h2 h3 h4 h5
    refine ⟨a', (x + 1) % 24, h1, Nat.mod_lt _ (by decide), rfl, rfl, rfl, fun t ht => ?_⟩
    by_cases ht0 : t = 0
    · subst ht0
      rw [show ((x + 1) % 24 + 23 - 0) % 24 = x by omega, va_up_self, va_up_self, va_up_self, va_up_self]
      exact ⟨ChartR_g hC h4, LedR_g hnew h4⟩
    · obtain ⟨p1, p2⟩ := hT (t - 1) (by omega)
      have ey : ((x + 1) % 24 + 23 - t) % 24 = (x + 23 - (t - 1)) % 24 := by omega
      have ne : (x + 23 - (t - 1)) % 24 ≠ x := by omega
      rw [ey, va_up_ne _ _ ne, va_up_ne _ _ ne, va_up_ne _ _ ne, va_up_ne _ _ ne]
      exact ⟨ChartR_g p1 (h5 t (by omega) ht), LedR_g p2 (h5 t (by omega) ht)⟩
  by_cases h24 : a = 24
  · subst h24
    have c : f_X9_keep (nI 24) bay was = some (nI 24, fun q => if 75 * 23 + 0 ≤ q ∧ q < 75 * 23 + 75 then bay (q - 75 * 23) else if 0 ≤ q ∧ q < 1725 then was (q + 75) else was q) := by
      have k1 := keep11 1725 0 2000 was (by omega) (by omega)
      have k2 := keep51 23 (by decide) bay 75 0 2000 (fun q => if 0 ≤ q ∧ q < 1725 then was (q + 75) else was q) (by omega) (by omega)
      rw [show nI 0 = 0 from rfl] at k1 k2
      simp only [f_X9_keep, if_pos (show nI 24 = 24 from rfl), k1, bd_s, show nI 24 - 1 = nI 23 from rfl, k2]
      rfl
    refine ⟨_, _, _, _, _, _, _, _, e8 24 rfl, c, key 24 _ (by omega) (by omega) (by omega) (fun q hq => ?_) (fun t h1 h2 q hq => ?_)⟩
    · rw [if_pos (by omega)]
      exact congrArg bay (by omega)
    · rw [if_neg (by omega), if_pos (by omega)]
      exact congrArg was (by omega)
  · have na : ¬ nI a = 24 := fun q => by
      have := i32_eq.mp q
      rw [nI_toInt (by omega)] at this
      change (a : Int) = 24 at this
      omega
    have c : f_X9_keep (nI a) bay was = some (nI (a + 1), fun q => if 75 * a + 0 ≤ q ∧ q < 75 * a + 75 then bay (q - 75 * a) else was q) := by
      have k2 := keep51 a (by omega) bay 75 0 2000 was (by omega) (by omega)
      rw [show nI 0 = 0 from rfl] at k2
      simp only [f_X9_keep, if_neg na, k2, bd_s, nI_1]
    have hk : (if 24 < nI a + 1 then 24 else nI a + 1) = nI (a + 1) := by
      rw [nI_1, if_neg (fun q => by
        have := i32_lt.mp q
        rw [nI_toInt (by omega)] at this
        change (24 : Int) < ((a + 1 : Nat) : Int) at this
        omega)]
    refine ⟨_, _, _, _, _, _, _, _, e8 (a + 1) hk, c, key (a + 1) _ (by omega) (by omega) (by omega) (fun q hq => ?_) (fun t h1 h2 q hq => ?_)⟩
    · rw [if_pos (by omega)]
      congr 1
      omega
    · rw [if_neg (by omega)]
      congr 1
      omega
