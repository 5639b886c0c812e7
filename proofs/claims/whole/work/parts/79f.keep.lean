/-! ===== what is kept: the reference's loops ===== -/
theorem ix75 {r k : Nat} : 75 * nI r + nI k = nI (75 * r + k) := by
  rw [show (75 : Int32) = nI 75 from rfl, pk_mul, nI_add]
theorem keep51 (a : Nat) (ha : a < 24) (bay : Nat → Int32) : ∀ (m i f : Nat) (was : Nat → Int32), i + m = 75 → m < f → f_X9_keep_L51 (nI a) bay f was (nI i) = some (fun q => if 75 * a + i ≤ q ∧ q < 75 * a + 75 then bay (q - 75 * a) else was q) := by
  intro m
  induction m with
  | zero =>
    intro i f was hi hf
    obtain ⟨f, rfl⟩ : ∃ f', f = f' + 1 := ⟨f - 1, by omega⟩
    rw [f_X9_keep_L51_s, if_pos (by rw [show (75 : Int32) = nI 75 from rfl, nI_leI (by omega) (by omega)]; omega)]
    congr 1
    funext q
    rw [if_neg (by omega)]
  | succ m ih =>
    intro i f was hi hf
    obtain ⟨f, rfl⟩ : ∃ f', f = f' + 1 := ⟨f - 1, by omega⟩
    rw [f_X9_keep_L51_s, if_neg (by rw [show (75 : Int32) = nI 75 from rfl, nI_leI (by omega) (by omega)]; omega), gd_k (inb_nI (by omega) (by decide)), ix75, gd_k (inb_nI (by omega) (by decide)), ix_nI (by omega), ix_nI (by omega), nI_1, ih (i + 1) f _ (by omega) (by omega)]
    congr 1
    funext q
    by_cases h1 : 75 * a + (i + 1) ≤ q ∧ q < 75 * a + 75
    · rw [if_pos h1, if_pos (by omega)]
    · rw [if_neg h1]
      by_cases h2 : q = 75 * a + i
      · subst h2
        rw [upd_s, if_pos (by omega)]
        congr 1
        omega
      · rw [upd_n _ _ h2, if_neg (by omega)]
theorem keep11 : ∀ (m i f : Nat) (was : Nat → Int32), i + m = 1725 → m < f → f_X9_keep_L11 f was (nI i) = some (fun q => if i ≤ q ∧ q < 1725 then was (q + 75) else was q) := by
  intro m
  induction m with
  | zero =>
    intro i f was hi hf
    obtain ⟨f, rfl⟩ : ∃ f', f = f' + 1 := ⟨f - 1, by omega⟩
    rw [f_X9_keep_L11_s, if_pos (by rw [show (1725 : Int32) = nI 1725 from rfl, nI_leI (by omega) (by omega)]; omega)]
    congr 1
    funext q
    rw [if_neg (by omega)]
  | succ m ih =>
    intro i f was hi hf
    obtain ⟨f, rfl⟩ : ∃ f', f = f' + 1 := ⟨f - 1, by omega⟩
    rw [f_X9_keep_L11_s, if_neg (by rw [show (1725 : Int32) = nI 1725 from rfl, nI_leI (by omega) (by omega)]; omega), show nI i + 75 = nI (i + 75) from by rw [show (75 : Int32) = nI 75 from rfl, nI_add], gd_k (inb_nI (by omega) (by decide)), gd_k (inb_nI (by omega) (by decide)), ix_nI (by omega), ix_nI (by omega), nI_1, ih (i + 1) f _ (by omega) (by omega)]
    congr 1
    funext q
    by_cases h1 : i + 1 ≤ q ∧ q < 1725
    · rw [if_pos h1, if_pos (by omega), upd_n _ _ (by omega)]
    · rw [if_neg h1]
      by_cases h2 : q = i
      · subst h2
        rw [upd_s, if_pos (by omega)]
      · rw [upd_n _ _ h2, if_neg (by omega)]
theorem undo27 (a : Nat) (ha : a < 24) (was : Nat → Int32) : ∀ (m i f : Nat) (bay : Nat → Int32), i + m = 75 → m < f → f_X9_undo_L27 (nI a) was f bay (nI i) = some (fun q => if i ≤ q ∧ q < 75 then was (75 * a + q) else bay q) := by
  intro m
  induction m with
  | zero =>
    intro i f was hi hf
    obtain ⟨f, rfl⟩ : ∃ f', f = f' + 1 := ⟨f - 1, by omega⟩
    rw [f_X9_undo_L27_s, if_pos (by rw [show (75 : Int32) = nI 75 from rfl, nI_leI (by omega) (by omega)]; omega)]
    congr 1
    funext q
    rw [if_neg (by omega)]
  | succ m ih =>
    intro i f bay hi hf
    obtain ⟨f, rfl⟩ : ∃ f', f = f' + 1 := ⟨f - 1, by omega⟩
    rw [f_X9_undo_L27_s, if_neg (by rw [show (75 : Int32) = nI 75 from rfl, nI_leI (by omega) (by omega)]; omega), ix75, gd_k (inb_nI (by omega) (by decide)), gd_k (inb_nI (by omega) (by decide)), ix_nI (by omega), ix_nI (by omega), nI_1, ih (i + 1) f _ (by omega) (by omega)]
    congr 1
    funext q
    by_cases h1 : i + 1 ≤ q ∧ q < 75
    · rw [if_pos h1, if_pos (by omega)]
    · rw [if_neg h1]
      by_cases h2 : q = i
      · subst h2
        rw [upd_s, if_pos (by omega)]
      · rw [upd_n _ _ h2, if_neg (by omega)]
