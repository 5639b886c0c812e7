/-! ===== tokens ===== -/
theorem chr_L : ∀ b, b < 256 → f_X7_isLetter (nI b).toInt8.toInt32 = f_X9_isLetter (nI b) := by decide +kernel
theorem chr_F : ∀ b, b < 256 → f_X7_isFigure (nI b).toInt8.toInt32 = f_X9_isFigure (nI b) := by decide +kernel
theorem chr_B : ∀ b, b < 256 → f_X7_isBlank (nI b).toInt8.toInt32 = (if nI b = 32 then some 1 else if nI b = 10 then some 1 else some 0) := by decide +kernel
theorem chr_S : ∀ b, b < 256 → (((nI b).toInt8.toInt32 = 59 ↔ nI b = 59)) := by decide +kernel
theorem chr_Lv : ∀ b, b < 256 → (f_X9_isLetter (nI b) = some 1 ∧ 97 ≤ b ∧ b ≤ 122 ∧ (nI b).toInt8.toInt32 = nI b) ∨ f_X9_isLetter (nI b) = some 0 := by decide +kernel
theorem chr_Fv : ∀ b, b < 256 → (f_X9_isFigure (nI b) = some 1 ∧ 48 ≤ b ∧ b ≤ 57 ∧ (nI b).toInt8.toInt32 = nI b) ∨ f_X9_isFigure (nI b) = some 0 := by decide +kernel
theorem none_L : f_X9_isLetter (-1000000) = some 0 := by decide
theorem none_F : f_X9_isFigure (-1000000) = some 0 := by decide
theorem byteAt_in {n k b : Nat} {tape : Nat → Int32} (hn : n ≤ 400) (hk : k < n) (e : tape k = nI b) : f_X9_byteAt (nI n) tape (nI k) = some (nI b) := by
  simp only [f_X9_byteAt, if_neg (nI_ge hk (by omega)), gd_k (inb_nI (show k < 400 by omega) (by decide)), ix_nI (show k < 2 ^ 31 by omega), e]
theorem byteAt_out {n k : Nat} {tape : Nat → Int32} (hn : n ≤ 400) (hk : n ≤ k) (hk2 : k < 2 ^ 31) : f_X9_byteAt (nI n) tape (nI k) = some (-1000000) := by
  simp only [f_X9_byteAt, if_pos (nI_le hk hk2)]
theorem blank_L {n : Nat} {byt tape : Nat → Int32} (hn : n ≤ 400) (hT : TapeQ n byt tape) : ∀ (m c f g : Nat), c + m = n → m < f → m < g → ∃ s, c ≤ s ∧ s ≤ n ∧ f_X7_step_L8 (nI n) byt f (nI c) = some (nI s) ∧ f_X9_next_L0 (nI n) tape g (nI c) = some (nI s) := by
  intro m
  induction m with
  | zero =>
    intro c f g hc hf hg
    obtain ⟨f, rfl⟩ : ∃ f', f = f' + 1 := ⟨f - 1, by omega⟩
    obtain ⟨g, rfl⟩ : ∃ f', g = f' + 1 := ⟨g - 1, by omega⟩
    refine ⟨c, Nat.le_refl c, by omega, ?_, ?_⟩
    · rw [f_X7_step_L8_s, if_pos (nI_le (by omega) (by omega))]
    · rw [f_X9_next_L0_s, byteAt_out hn (by omega) (by omega), bd_s, if_neg (by decide), bd_s, if_neg (by decide)]
  | succ m ih =>
    intro c f g hc hf hg
    obtain ⟨f, rfl⟩ : ∃ f', f = f' + 1 := ⟨f - 1, by omega⟩
    obtain ⟨g, rfl⟩ : ∃ f', g = f' + 1 := ⟨g - 1, by omega⟩
    obtain ⟨b, hb, e1, e2⟩ := hT c (by omega)
    have hc1 : ¬ nI n ≤ nI c := nI_ge (by omega) (by omega)
    have e8 : f_X7_step_L8 (nI n) byt (f + 1) (nI c) = if (if nI b = 32 then (1 : Int32) else if nI b = 10 then 1 else 0) = 0 then some (nI c) else f_X7_step_L8 (nI n) byt f (nI (c + 1)) := by
      rw [f_X7_step_L8_s, if_neg hc1, gd_k (inb_nI (by omega) (by decide)), ix_nI (by omega), e2, chr_B b hb, nI_1]
      split
      · rw [bd_s]
      · split
        · rw [bd_s]
        · rw [bd_s]
    have e9 : f_X9_next_L0 (nI n) tape (g + 1) (nI c) = if (if nI b = 32 then (1 : Int32) else if nI b = 10 then 1 else 0) = 0 then some (nI c) else f_X9_next_L0 (nI n) tape g (nI (c + 1)) := by
      rw [f_X9_next_L0_s, byteAt_in hn (by omega) e1, bd_s, bd_s, nI_1]
      split
      · rw [if10]
      · split
        · rw [if10]
        · rw [if_pos rfl]
    rw [e8, e9]
    by_cases q : (if nI b = 32 then (1 : Int32) else if nI b = 10 then 1 else 0) = 0
    · rw [if_pos q, if_pos q]
      exact ⟨c, Nat.le_refl c, by omega, rfl, rfl⟩
    · rw [if_neg q, if_neg q]
      obtain ⟨s, h1, h2, h3, h4⟩ := ih (c + 1) f g (by omega) (by omega) (by omega)
      exact ⟨s, by omega, h2, h3, h4⟩
def Let (byt tape : Nat → Int32) (s c : Nat) : Prop := ∀ k, s ≤ k → k < c → ∃ b, 97 ≤ b ∧ b ≤ 122 ∧ tape k = nI b ∧ byt k = nI b
theorem let_L {n : Nat} {byt tape : Nat → Int32} (hn : n ≤ 400) (hT : TapeQ n byt tape) : ∀ (m e f g : Nat), e + m = n → m < f → m < g → ∃ c, e ≤ c ∧ c ≤ n ∧ f_X7_stepOverLetters_L0 (nI n) byt f (nI e) = some (nI c) ∧ f_X9_next_L77 (nI n) tape g (nI e) = some (nI c) ∧ Let byt tape e c := by
  intro m
  induction m with
  | zero =>
    intro c f g hc hf hg
    obtain ⟨f, rfl⟩ : ∃ f', f = f' + 1 := ⟨f - 1, by omega⟩
    obtain ⟨g, rfl⟩ : ∃ f', g = f' + 1 := ⟨g - 1, by omega⟩
    refine ⟨c, Nat.le_refl c, by omega, ?_, ?_, fun k h1 h2 => absurd h1 (by omega)⟩
    · rw [f_X7_stepOverLetters_L0_s, if_pos (nI_le (by omega) (by omega))]
    · rw [f_X9_next_L77_s, byteAt_out hn (by omega) (by omega), bd_s, none_L, bd_s, if_pos rfl]
  | succ m ih =>
    intro c f g hc hf hg
    obtain ⟨f, rfl⟩ : ∃ f', f = f' + 1 := ⟨f - 1, by omega⟩
    obtain ⟨g, rfl⟩ : ∃ f', g = f' + 1 := ⟨g - 1, by omega⟩
    obtain ⟨b, hb, e1, e2⟩ := hT c (by omega)
    have hc1 : ¬ nI n ≤ nI c := nI_ge (by omega) (by omega)
    rw [f_X7_stepOverLetters_L0_s, if_neg hc1, gd_k (inb_nI (by omega) (by decide)), ix_nI (by omega), e2, chr_L b hb, f_X9_next_L77_s, byteAt_in hn (by omega) e1, bd_s, nI_1]
    rcases chr_Lv b hb with ⟨q, q1, q2, q3⟩ | q
    · rw [q, bd_s, if10, bd_s, if10]
      obtain ⟨s, h1, h2, h3, h4, h5⟩ := ih (c + 1) f g (by omega) (by omega) (by omega)
      refine ⟨s, by omega, h2, h3, h4, fun k z1 z2 => ?_⟩
      by_cases z : k = c
      · subst z; exact ⟨b, q1, q2, e1, by rw [e2, q3]⟩
      · exact h5 k (by omega) z2
    · rw [q, bd_s, if_pos rfl, bd_s, if_pos rfl]
      exact ⟨c, Nat.le_refl c, by omega, rfl, rfl, fun k h1 h2 => absurd h1 (by omega)⟩
/-! numbers -/
def dv (tape : Nat → Int32) (s : Nat) : Nat → Int32
  | 0 => 0
  | L + 1 => dv tape s L * 10 + (tape (s + L) - 48)
def Fig (tape : Nat → Int32) (s c : Nat) : Prop := ∀ k, s ≤ k → k < c → ∃ b, 48 ≤ b ∧ b ≤ 57 ∧ tape k = nI b
theorem dv_b {tape : Nat → Int32} {s : Nat} : ∀ L, Fig tape s (s + L) → ∃ v, v < 10 ^ L ∧ dv tape s L = nI v
  | 0, _ => ⟨0, by decide, rfl⟩
  | L + 1, h => by
    obtain ⟨v, hv, ev⟩ := dv_b L (fun k h1 h2 => h k h1 (by omega))
    obtain ⟨b, h1, h2, e⟩ := h (s + L) (by omega) (by omega)
    refine ⟨v * 10 + (b - 48), ?_, ?_⟩
    · rw [Nat.pow_succ]; omega
    · change dv tape s L * 10 + (tape (s + L) - 48) = _
      rw [ev, e, show (10 : Int32) = nI 10 from rfl, pk_mul, show (48 : Int32) = nI 48 from rfl, pk_sub h1, nI_add]
theorem fig_L {n s : Nat} {byt tape : Nat → Int32} (hn : n ≤ 400) (hT : TapeQ n byt tape) : ∀ (m e f g : Nat), s ≤ e → e + m = n → m < f → m < g → Fig tape s e → ∃ c, e ≤ c ∧ c ≤ n ∧ f_X7_stepOverFigures_L5 (nI n) byt f (nI e) (dv tape s (e - s)) = some (nI c, dv tape s (c - s)) ∧ f_X9_next_L119 (nI n) tape g (nI e) = some (nI c) ∧ Fig tape s c := by
  intro m
  induction m with
  | zero =>
    intro c f g hs hc hf hg hF
    obtain ⟨f, rfl⟩ : ∃ f', f = f' + 1 := ⟨f - 1, by omega⟩
    obtain ⟨g, rfl⟩ : ∃ f', g = f' + 1 := ⟨g - 1, by omega⟩
    refine ⟨c, Nat.le_refl c, by omega, ?_, ?_, hF⟩
    · rw [f_X7_stepOverFigures_L5_s, if_pos (nI_le (by omega) (by omega))]
    · rw [f_X9_next_L119_s, byteAt_out hn (by omega) (by omega), bd_s, none_F, bd_s, if_pos rfl]
  | succ m ih =>
    intro c f g hs hc hf hg hF
    obtain ⟨f, rfl⟩ : ∃ f', f = f' + 1 := ⟨f - 1, by omega⟩
    obtain ⟨g, rfl⟩ : ∃ f', g = f' + 1 := ⟨g - 1, by omega⟩
    obtain ⟨b, hb, e1, e2⟩ := hT c (by omega)
    have hc1 : ¬ nI n ≤ nI c := nI_ge (by omega) (by omega)
    rw [f_X7_stepOverFigures_L5_s, if_neg hc1, gd_k (inb_nI (by omega) (by decide)), ix_nI (by omega), e2, chr_F b hb, f_X9_next_L119_s, byteAt_in hn (by omega) e1, bd_s, nI_1]
    rcases chr_Fv b hb with ⟨q, q1, q2, q3⟩ | q
    · rw [q, bd_s, if10, bd_s, if10]
      obtain ⟨x, h1, h2, h3, h4, h5⟩ := ih (c + 1) f g (by omega) (by omega) (by omega) (by omega) (fun k z1 z2 => by
        by_cases z : k = c
        · subst z; exact ⟨b, q1, q2, e1⟩
        · exact hF k z1 (by omega))
      refine ⟨x, by omega, h2, ?_, h4, h5⟩
      rw [show c + 1 - s = (c - s) + 1 by omega] at h3
      change f_X7_stepOverFigures_L5 (nI n) byt f (nI (c + 1)) (dv tape s (c - s) * 10 + (tape (s + (c - s)) - 48)) = _ at h3
      rw [show s + (c - s) = c by omega, e1] at h3
      rw [q3]
      exact h3
    · rw [q, bd_s, if_pos rfl, bd_s, if_pos rfl]
      exact ⟨c, Nat.le_refl c, by omega, rfl, rfl, hF⟩
theorem figs9_L {tape : Nat → Int32} {s c : Nat} (hc : c ≤ 400) : ∀ (m k f : Nat), s ≤ k → k + m = c → m < f → f_X9_figures_L7 3 (nI c) tape f (dv tape s (k - s)) (nI k) = some (dv tape s (c - s)) := by
  intro m
  induction m with
  | zero =>
    intro k f hs hk hf
    obtain ⟨f, rfl⟩ : ∃ f', f = f' + 1 := ⟨f - 1, by omega⟩
    rw [f_X9_figures_L7_s, if_pos (nI_le (by omega) (by omega)), show k = c by omega]
  | succ m ih =>
    intro k f hs hk hf
    obtain ⟨f, rfl⟩ : ∃ f', f = f' + 1 := ⟨f - 1, by omega⟩
    have h := ih (k + 1) f (by omega) (by omega) (by omega)
    rw [show k + 1 - s = (k - s) + 1 by omega] at h
    change f_X9_figures_L7 3 (nI c) tape f (dv tape s (k - s) * 10 + (tape (s + (k - s)) - 48)) _ = _ at h
    rw [show s + (k - s) = k by omega] at h
    rw [f_X9_figures_L7_s, if_neg (nI_ge (by omega) (by omega)), if_pos rfl, gd_k (inb_nI (by omega) (by decide)), ix_nI (by omega), nI_1, Int32.mul_comm 10, ← h]
    congr 1
    simp only [Int32.sub_eq_add_neg, Int32.add_assoc]
/-! a token -/
def Tok (byt tape : Nat → Int32) (tok token num : Int32) (s c : Nat) : Prop :=
  (tok = 0 ∧ token = 1) ∨ (tok = 1 ∧ token = 2 ∧ Let byt tape s c) ∨ (tok = 2 ∧ token = 3 ∧ f_X9_figures 3 (nI s) (nI c) tape = some num ∧ ∃ v, v ≤ 999 ∧ num = nI v) ∨ (tok = 3 ∧ token = 4) ∨ (tok = 4 ∧ token = 0)
theorem next_R {n c : Nat} {byt tape : Nat → Int32} (hn : n ≤ 400) (hT : TapeQ n byt tape) (hc : c ≤ n) (tok stt num token start till : Int32) : ∃ tok' num' token' s' c', f_X7_step (nI n) tok stt (nI c) num byt = some (tok', nI s', nI c', num') ∧ f_X9_next (nI n) (nI c) token start till tape = some (nI c', token', nI s', nI c') ∧ s' ≤ c' ∧ c' ≤ n ∧ Tok byt tape tok' token' num' s' c' := by
  obtain ⟨s, h1, h2, b8, b9⟩ := blank_L hn hT (n - c) c 2000 2000 (by omega) (by omega) (by omega)
  by_cases hs : s < n
  · obtain ⟨b, hb, e1, e2⟩ := hT s hs
    have q8 : nI s < nI n := nI_lt hs (by omega)
    have a9 := byteAt_in hn hs e1
    have nn : ¬ nI b = -1000000 := fun z => by
      have := i32_eq.mp z
      rw [nI_toInt (by omega)] at this
      change (b : Int) = -1000000 at this
      omega
    have g4 : ∀ {α : Type} (x : Option α), gd (inb (nI s) 400) x = x := fun x => gd_k (inb_nI (by omega) (by decide)) x
    have x4 := ix_nI (show s < 2 ^ 31 by omega)
    rcases chr_Lv b hb with ⟨q, q1, q2, q3⟩ | q
    · obtain ⟨c', k1, k2, k8, k9, k5⟩ := let_L hn hT (n - s) s 2000 2000 (by omega) (by omega) (by omega)
      exact ⟨1, num, 2, s, c', by simp only [f_X7_step, b8, bd_s, if_pos q8, g4, x4, e2, chr_L b hb, q, if10, f_X7_stepOverLetters, k8], by simp only [f_X9_next, b9, bd_s, a9, if_neg nn, q, if10, k9], k1, k2, Or.inr (Or.inl ⟨rfl, rfl, k5⟩)⟩
    · rcases chr_Fv b hb with ⟨w, w1, w2, w3⟩ | w
      · obtain ⟨c', k1, k2, k8, k9, k5⟩ := fig_L (s := s) hn hT (n - s) s 2000 2000 (Nat.le_refl s) (by omega) (by omega) (by omega) (fun k z1 z2 => absurd z1 (by omega))
        rw [Nat.sub_self] at k8
        change f_X7_stepOverFigures_L5 (nI n) byt 2000 (nI s) 0 = _ at k8
        have ed : nI c' - nI s = nI (c' - s) := pk_sub k1
        by_cases z : c' - s ≤ 3
        · have z8 : ¬ 3 < nI (c' - s) := lt_lit (k := 3) (by decide) (by omega) z
          have z9 : nI (c' - s) ≤ 3 := by rw [show (3 : Int32) = nI 3 from rfl]; exact nI_le z (by decide)
          have F := figs9_L (tape := tape) (s := s) (c := c') (by omega) (c' - s) s 2000 (Nat.le_refl s) (by omega) (by omega)
          rw [Nat.sub_self] at F
          change f_X9_figures_L7 3 (nI c') tape 2000 0 (nI s) = _ at F
          obtain ⟨v, hv, ev⟩ := dv_b (tape := tape) (s := s) (c' - s) (by rw [show s + (c' - s) = c' by omega]; exact k5)
          refine ⟨2, dv tape s (c' - s), 3, s, c', by simp only [f_X7_step, b8, bd_s, if_pos q8, g4, x4, e2, chr_L b hb, q, if_true, chr_F b hb, w, if10, f_X7_stepOverFigures, k8, ed, if_neg z8], by simp only [f_X9_next, b9, bd_s, a9, if_neg nn, q, if_true, w, if10, k9, ed, if_pos z9], k1, k2, Or.inr (Or.inr (Or.inl ⟨rfl, rfl, by simp only [f_X9_figures, F, bd_s], v, ?_, ev⟩))⟩
          have := Nat.pow_le_pow_right (show 0 < 10 by decide) z
          omega
        · have z8 : 3 < nI (c' - s) := by rw [show (3 : Int32) = nI 3 from rfl]; exact nI_lt (by omega) (by omega)
          have z9 : ¬ nI (c' - s) ≤ 3 := by rw [show (3 : Int32) = nI 3 from rfl]; exact nI_ge (by omega) (by omega)
          exact ⟨4, dv tape s (c' - s), 0, s, c', by simp only [f_X7_step, b8, bd_s, if_pos q8, g4, x4, e2, chr_L b hb, q, if_true, chr_F b hb, w, if10, f_X7_stepOverFigures, k8, ed, if_pos z8], by simp only [f_X9_next, b9, bd_s, a9, if_neg nn, q, if_true, w, if10, k9, ed, if_neg z9], k1, k2, Or.inr (Or.inr (Or.inr (Or.inr ⟨rfl, rfl⟩)))⟩
      · by_cases z : nI b = 59
        · exact ⟨3, num, 4, s, s + 1, by simp only [f_X7_step, b8, bd_s, if_pos q8, g4, x4, e2, chr_L b hb, q, if_true, chr_F b hb, w, if_pos ((chr_S b hb).mpr z), nI_1], by simp only [f_X9_next, b9, bd_s, a9, if_neg nn, q, if_true, w, if_pos z, nI_1], by omega, by omega, Or.inr (Or.inr (Or.inr (Or.inl ⟨rfl, rfl⟩)))⟩
        · exact ⟨4, num, 0, s, s + 1, by simp only [f_X7_step, b8, bd_s, if_pos q8, g4, x4, e2, chr_L b hb, q, if_true, chr_F b hb, w, if_neg (fun y => z ((chr_S b hb).mp y)), nI_1], by simp only [f_X9_next, b9, bd_s, a9, if_neg nn, q, if_true, w, if_neg z, nI_1], by omega, by omega, Or.inr (Or.inr (Or.inr (Or.inr ⟨rfl, rfl⟩)))⟩
  · have q8 : ¬ nI s < nI n := nI_nlt (by omega) (by omega)
    exact ⟨0, num, 1, s, s, by simp only [f_X7_step, b8, bd_s, if_neg q8], by simp only [f_X9_next, b9, bd_s, byteAt_out hn (show n ≤ s by omega) (by omega), if_true], Nat.le_refl s, h2, Or.inl ⟨rfl, rfl⟩⟩
