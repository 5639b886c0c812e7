/-! ===== count ===== -/
theorem present_L {lan lane : Nat → Int32} (h : ∀ r, r < 8 → lan r = lane r ∧ (lane r = -1 ∨ lane r = 0 ∨ lane r = 1 ∨ lane r = 2)) : ∀ (m i f g : Nat) (x : Int32), i + m = 8 → m < f → m < g → ∃ r, f_X6_present_L4 lan f x (nI i) = some r ∧ f_X9_count_L54 lane g x (nI i) = some r := by
  intro m
  induction m with
  | zero =>
    intro i f g x hi hf hg
    obtain ⟨f, rfl⟩ : ∃ f', f = f' + 1 := ⟨f - 1, by omega⟩
    obtain ⟨g, rfl⟩ : ∃ f', g = f' + 1 := ⟨g - 1, by omega⟩
    have h0 : (8 : Int32) ≤ nI i := by rw [show (8 : Int32) = nI 8 from rfl, nI_leI (by omega) (by omega)]; omega
    exact ⟨x, by rw [f_X6_present_L4_s, if_pos h0], by rw [f_X9_count_L54_s, if_pos h0]⟩
  | succ m ih =>
    intro i f g x hi hf hg
    obtain ⟨f, rfl⟩ : ∃ f', f = f' + 1 := ⟨f - 1, by omega⟩
    obtain ⟨g, rfl⟩ : ∃ f', g = f' + 1 := ⟨g - 1, by omega⟩
    have h0 : ¬ (8 : Int32) ≤ nI i := by rw [show (8 : Int32) = nI 8 from rfl, nI_leI (by omega) (by omega)]; omega
    have g1 : ∀ {α : Type} (x : Option α), gd (inb (nI i) 8) x = x := fun x => gd_k (inb_nI (by omega) (by decide)) x
    have hx := ix_nI (show i < 2 ^ 31 by omega)
    obtain ⟨e1, e2⟩ := h i (by omega)
    by_cases hl : lane i = -1
    · have hl' : lane i < 0 := by rw [hl]; decide
      obtain ⟨r, k1, k2⟩ := ih (i + 1) f g x (by omega) (by omega) (by omega)
      refine ⟨r, ?_, ?_⟩
      · simp only [f_X6_present_L4_s, if_neg h0, f_X6_isMissing, g1, hx, e1, if_pos hl, bd_s, if10, nI_1, k1]
      · simp only [f_X9_count_L54_s, if_neg h0, g1, hx, if_pos hl', Int32.add_zero, nI_1, k2]
    · have hl' : ¬ lane i < 0 := fun q => by
        have e1 := i32_lt.mp q; have e2 := i32_le.mp ((lane_ge e2).mpr hl); omega
      obtain ⟨r, k1, k2⟩ := ih (i + 1) f g (x + 1) (by omega) (by omega) (by omega)
      refine ⟨r, ?_, ?_⟩
      · simp only [f_X6_present_L4_s, if_neg h0, f_X6_isMissing, g1, hx, e1, if_neg hl, bd_s, if_true, nI_1, k1]
      · simp only [f_X9_count_L54_s, if_neg h0, g1, hx, if_neg hl', nI_1, k2]
theorem debts_L {deb bay : Nat → Int32} (h : ∀ i, i < 36 → deb i = bay (39 + i)) : ∀ (m i f g : Nat) (x : Int32), i + m = 36 → m < f → m < g → ∃ r, f_X3_debtsAboveNone_L4 deb f x (nI i) = some r ∧ f_X9_count_L133 bay g x (nI (39 + i)) = some r := by
  intro m
  induction m with
  | zero =>
    intro i f g x hi hf hg
    obtain ⟨f, rfl⟩ : ∃ f', f = f' + 1 := ⟨f - 1, by omega⟩
    obtain ⟨g, rfl⟩ : ∃ f', g = f' + 1 := ⟨g - 1, by omega⟩
    have h0 : (36 : Int32) ≤ nI i := by rw [show (36 : Int32) = nI 36 from rfl, nI_leI (by omega) (by omega)]; omega
    have h1 : (75 : Int32) ≤ nI (39 + i) := by rw [show (75 : Int32) = nI 75 from rfl, nI_leI (by omega) (by omega)]; omega
    exact ⟨x, by rw [f_X3_debtsAboveNone_L4_s, if_pos h0], by rw [f_X9_count_L133_s, if_pos h1]⟩
  | succ m ih =>
    intro i f g x hi hf hg
    obtain ⟨f, rfl⟩ : ∃ f', f = f' + 1 := ⟨f - 1, by omega⟩
    obtain ⟨g, rfl⟩ : ∃ f', g = f' + 1 := ⟨g - 1, by omega⟩
    have h0 : ¬ (36 : Int32) ≤ nI i := by rw [show (36 : Int32) = nI 36 from rfl, nI_leI (by omega) (by omega)]; omega
    have h1 : ¬ (75 : Int32) ≤ nI (39 + i) := by rw [show (75 : Int32) = nI 75 from rfl, nI_leI (by omega) (by omega)]; omega
    have g1 : ∀ {α : Type} (x : Option α), gd (inb (nI i) 36) x = x := fun x => gd_k (inb_nI (by omega) (by decide)) x
    have g2 : ∀ {α : Type} (x : Option α), gd (inb (nI (39 + i)) 75) x = x := fun x => gd_k (inb_nI (by omega) (by decide)) x
    have hx := ix_nI (show i < 2 ^ 31 by omega)
    have hy := ix_nI (show 39 + i < 2 ^ 31 by omega)
    have e := h i (by omega)
    by_cases hl : bay (39 + i) ≤ 0
    · obtain ⟨r, k1, k2⟩ := ih (i + 1) f g x (by omega) (by omega) (by omega)
      refine ⟨r, ?_, ?_⟩
      · simp only [f_X3_debtsAboveNone_L4_s, if_neg h0, g1, hx, e, if_pos hl, nI_1, k1]
      · simp only [f_X9_count_L133_s, if_neg h1, g2, hy, if_pos hl, Int32.add_zero, nI_1]
        exact k2
    · obtain ⟨r, k1, k2⟩ := ih (i + 1) f g (x + 1) (by omega) (by omega) (by omega)
      refine ⟨r, ?_, ?_⟩
      · simp only [f_X3_debtsAboveNone_L4_s, if_neg h0, g1, hx, e, if_neg hl, nI_1, k1]
      · simp only [f_X9_count_L133_s, if_neg h1, g2, hy, if_neg hl, nI_1]
        exact k2
