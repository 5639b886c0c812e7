/-! ===== rows: copy ===== -/
theorem copy_up (a i b j n : Nat) (hS : 40 * a + i + n ≤ 320) (hT : 40 * b + j + n ≤ 320) (hd : 40 * b + j ≤ 40 * a + i ∨ 40 * a + i + n ≤ 40 * b + j) : ∀ (m t f : Nat) (item : Nat → Int32), t + m = n → m < f → f_X9_copy_L143 (nI a) (nI i) (nI b) (nI j) (nI n) 1 f item (nI t) = some (fun q => if 40 * b + j + t ≤ q ∧ q < 40 * b + j + n then item (40 * a + i + (q - (40 * b + j))) else item q) := by
  intro m
  induction m with
  | zero =>
    intro t f item ht hf
    obtain ⟨f, rfl⟩ : ∃ f', f = f' + 1 := ⟨f - 1, by omega⟩
    rw [f_X9_copy_L143_s, if_pos (by rw [nI_leI (by omega) (by omega)]; omega)]
    congr 1
    funext q
    rw [if_neg (by omega)]
  | succ m ih =>
    intro t f item ht hf
    obtain ⟨f, rfl⟩ : ∃ f', f = f' + 1 := ⟨f - 1, by omega⟩
    rw [f_X9_copy_L143_s, if_neg (by rw [nI_leI (by omega) (by omega)]; omega), if10, ix40, ix40, nI_add, nI_add, gd_k (inb_nI (by omega) (by omega)), gd_k (inb_nI (by omega) (by omega)), ix_nI (by omega), ix_nI (by omega), nI_1, ih (t + 1) f _ (by omega) (by omega)]
    congr 1
    funext q
    by_cases h1 : 40 * b + j + (t + 1) ≤ q ∧ q < 40 * b + j + n
    · rw [if_pos h1, if_pos (by omega), upd_n _ _ (by omega)]
    · rw [if_neg h1]
      by_cases h2 : q = 40 * b + j + t
      · subst h2
        rw [upd_s, if_pos (by omega)]
        congr 1
        omega
      · rw [upd_n _ _ h2, if_neg (by omega)]
theorem copy_dn (a i b j n : Nat) (hS : 40 * a + i + n ≤ 320) (hT : 40 * b + j + n ≤ 320) (hd : 40 * a + i ≤ 40 * b + j ∨ 40 * b + j + n ≤ 40 * a + i) : ∀ (m t f : Nat) (item : Nat → Int32), t + m = n → m < f → f_X9_copy_L143 (nI a) (nI i) (nI b) (nI j) (nI n) 0 f item (nI t) = some (fun q => if 40 * b + j ≤ q ∧ q < 40 * b + j + m then item (40 * a + i + (q - (40 * b + j))) else item q) := by
  intro m
  induction m with
  | zero =>
    intro t f item ht hf
    obtain ⟨f, rfl⟩ : ∃ f', f = f' + 1 := ⟨f - 1, by omega⟩
    rw [f_X9_copy_L143_s, if_pos (by rw [nI_leI (by omega) (by omega)]; omega)]
    congr 1
    funext q
    rw [if_neg (by omega)]
  | succ m ih =>
    intro t f item ht hf
    obtain ⟨f, rfl⟩ : ∃ f', f = f' + 1 := ⟨f - 1, by omega⟩
    have e : (nI n - 1) - nI t = nI m := by
      rw [show (1 : Int32) = nI 1 from rfl, pk_sub (by omega), pk_sub (by omega)]
      congr 1
      omega
    rw [f_X9_copy_L143_s, if_neg (by rw [nI_leI (by omega) (by omega)]; omega), if00, e, ix40, ix40, nI_add, nI_add, gd_k (inb_nI (by omega) (by omega)), gd_k (inb_nI (by omega) (by omega)), ix_nI (by omega), ix_nI (by omega), nI_1, ih (t + 1) f _ (by omega) (by omega)]
    congr 1
    funext q
    by_cases h1 : 40 * b + j ≤ q ∧ q < 40 * b + j + m
    · rw [if_pos h1, if_pos (by omega), upd_n _ _ (by omega)]
    · rw [if_neg h1]
      by_cases h2 : q = 40 * b + j + m
      · subst h2
        rw [upd_s, if_pos (by omega)]
        congr 1
        omega
      · rw [upd_n _ _ h2, if_neg (by omega)]
