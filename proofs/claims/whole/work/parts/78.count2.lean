theorem at_eq (w k : Nat) : f_X9_at (nI w) (nI k) = some (nI (15 + 4 * w + k)) := by
  unfold f_X9_at
  rw [show (15 : Int32) = nI 15 from rfl, show (4 : Int32) = nI 4 from rfl, pk_mul, nI_add, nI_add]
/-- past the waters the class adds nothing -/
theorem depth_Z {dep : Nat → Int32} {n : Nat} (h : ∀ w, n ≤ w → w < 6 → dep w = 0) : ∀ (m i f : Nat) (x : Int32), i + m = 6 → n ≤ i → m < f → f_X3_depthInAll_L4 dep f x (nI i) = some x := by
  intro m
  induction m with
  | zero =>
    intro i f x hi hn hf
    obtain ⟨f, rfl⟩ : ∃ f', f = f' + 1 := ⟨f - 1, by omega⟩
    rw [f_X3_depthInAll_L4_s, if_pos (by rw [show (6 : Int32) = nI 6 from rfl, nI_leI (by omega) (by omega)]; omega)]
  | succ m ih =>
    intro i f x hi hn hf
    obtain ⟨f, rfl⟩ : ∃ f', f = f' + 1 := ⟨f - 1, by omega⟩
    rw [f_X3_depthInAll_L4_s, if_neg (by rw [show (6 : Int32) = nI 6 from rfl, nI_leI (by omega) (by omega)]; omega), gd_k (inb_nI (by omega) (by decide)), ix_nI (by omega), h i hn (by omega), Int32.add_zero, nI_1]
    exact ih (i + 1) f x (by omega) (by omega) (by omega)
theorem depth_L {dep bay : Nat → Int32} {n : Nat} (hn : n ≤ 6) (hb : bay 1 = nI n) (h : ∀ w, w < 6 → dep w = bay (16 + 4 * w)) (hz : ∀ w, n ≤ w → w < 6 → dep w = 0) : ∀ (m i f g : Nat) (x : Int32), i + m = n → 6 < f + i → m < g → ∃ r, f_X3_depthInAll_L4 dep f x (nI i) = some r ∧ f_X9_count_L94 bay g x (nI i) = some r := by
  intro m
  induction m with
  | zero =>
    intro i f g x hi hf hg
    obtain ⟨g, rfl⟩ : ∃ f', g = f' + 1 := ⟨g - 1, by omega⟩
    exact ⟨x, depth_Z hz (6 - i) i f x (by omega) (by omega) (by omega), by rw [f_X9_count_L94_s, hb, if_pos (by rw [nI_leI (by omega) (by omega)]; omega)]⟩
  | succ m ih =>
    intro i f g x hi hf hg
    obtain ⟨f, rfl⟩ : ∃ f', f = f' + 1 := ⟨f - 1, by omega⟩
    obtain ⟨g, rfl⟩ : ∃ f', g = f' + 1 := ⟨g - 1, by omega⟩
    obtain ⟨r, k1, k2⟩ := ih (i + 1) f g (x + dep i) (by omega) (by omega) (by omega)
    refine ⟨r, ?_, ?_⟩
    · rw [f_X3_depthInAll_L4_s, if_neg (by rw [show (6 : Int32) = nI 6 from rfl, nI_leI (by omega) (by omega)]; omega), gd_k (inb_nI (by omega) (by decide)), ix_nI (by omega), nI_1]
      exact k1
    · rw [f_X9_count_L94_s, hb, if_neg (by rw [nI_leI (by omega) (by omega)]; omega), show (1 : Int32) = nI 1 from rfl, at_eq, bd_s, gd_k (inb_nI (by omega) (by decide)), ix_nI (by omega), nI_add, show 15 + 4 * i + 1 = 16 + 4 * i by omega, ← h i (by omega)]
      exact k2
theorem op_count {lan lane deb dep bay : Nat → Int32} {len taped wat hour kep acts : Int32} {n : Nat} (thrown p : Int32) (h1 : ∀ r, r < 8 → lan r = lane r ∧ (lane r = -1 ∨ lane r = 0 ∨ lane r = 1 ∨ lane r = 2)) (hl : len = taped) (hw : wat = nI n) (hn : n ≤ 6) (hb1 : bay 1 = wat) (hb2 : bay 2 = hour) (hk : kep = acts) (hd : ∀ w, w < 6 → dep w = bay (16 + 4 * w)) (hz : ∀ w, n ≤ w → w < 6 → dep w = 0) (ho : ∀ i, i < 36 → deb i = bay (39 + i)) :
    ∃ (r thrown' : Int32), f_X8_count lan len wat hour dep deb kep p = some r ∧ f_X9_count thrown acts taped lane bay p = some (r, thrown') := by
  by_cases c0 : p = 0
  · obtain ⟨r, a, b⟩ := present_L h1 8 0 2000 2000 0 (by omega) (by omega) (by omega)
    rw [show nI 0 = 0 from rfl] at a b
    exact ⟨r, 0, by simp only [f_X8_count, if_pos c0, f_X6_present, a, bd_s], by simp only [f_X9_count, if_pos c0, b, bd_s]⟩
  by_cases c1 : p = 1
  · subst c1
    exact ⟨wat, 0, by simp only [f_X8_count, if_neg c0, if_true], by simp only [f_X9_count, if_neg c0, if_true]; rw [← hb1]; rfl⟩
  by_cases c2 : p = 2
  · subst c2
    exact ⟨hour, 0, by simp only [f_X8_count, if_neg c0, if_neg c1, if_true], by simp only [f_X9_count, if_neg c0, if_neg c1, if_true]; rw [← hb2]; rfl⟩
  by_cases c3 : p = 3
  · obtain ⟨r, a, b⟩ := depth_L hn (hb1.trans hw) hd hz n 0 2000 2000 0 (by omega) (by omega) (by omega)
    rw [show nI 0 = 0 from rfl] at a b
    exact ⟨r, 0, by simp only [f_X8_count, if_neg c0, if_neg c1, if_neg c2, if_pos c3, f_X3_depthInAll, a, bd_s], by simp only [f_X9_count, if_neg c0, if_neg c1, if_neg c2, if_pos c3, b, bd_s]⟩
  by_cases c4 : p = 4
  · exact ⟨acts, 0, by simp only [f_X8_count, if_neg c0, if_neg c1, if_neg c2, if_neg c3, if_pos c4, hk], by simp only [f_X9_count, if_neg c0, if_neg c1, if_neg c2, if_neg c3, if_pos c4]⟩
  by_cases c5 : p = 5
  · obtain ⟨r, a, b⟩ := debts_L ho 36 0 2000 2000 0 (by omega) (by omega) (by omega)
    rw [show nI 0 = 0 from rfl] at a
    rw [show nI (39 + 0) = 39 from rfl] at b
    exact ⟨r, 0, by simp only [f_X8_count, if_neg c0, if_neg c1, if_neg c2, if_neg c3, if_neg c4, if_pos c5, f_X3_debtsAboveNone, a, bd_s], by simp only [f_X9_count, if_neg c0, if_neg c1, if_neg c2, if_neg c3, if_neg c4, if_pos c5, b, bd_s]⟩
  by_cases c6 : p = 6
  · exact ⟨taped, 0, by simp only [f_X8_count, if_neg c0, if_neg c1, if_neg c2, if_neg c3, if_neg c4, if_neg c5, if_pos c6, hl], by simp only [f_X9_count, if_neg c0, if_neg c1, if_neg c2, if_neg c3, if_neg c4, if_neg c5, if_pos c6]⟩
  exact ⟨-1000001, 0, by simp only [f_X8_count, if_neg c0, if_neg c1, if_neg c2, if_neg c3, if_neg c4, if_neg c5, if_neg c6], by simp only [f_X9_count, if_neg c0, if_neg c1, if_neg c2, if_neg c3, if_neg c4, if_neg c5, if_neg c6]⟩
