/-! ===== the ledger and the chart against a block of 75 ===== -/
def LedR (B n : Nat) (hour : Int32) (dep arr deb : Nat → Int32) (g : Nat → Int32) : Prop :=
  (g 2 = hour ∧ ∃ h, h ≤ B ∧ hour = nI h) ∧
  (∀ w, w < 6 → dep w = g (16 + 4 * w) ∧ (∃ d, d ≤ B ∧ dep w = nI d) ∧ arr w = g (17 + 4 * w) ∧ (∃ d, d ≤ B ∧ arr w = nI d) ∧ (n ≤ w → dep w = 0 ∧ arr w = 0)) ∧
  (∀ i, i < 36 → deb i = g (39 + i) ∧ ∃ d, d ≤ 9999 ∧ deb i = nI d) ∧
  (∀ a b, a < 6 → b < 6 → n ≤ a ∨ n ≤ b ∨ a = b → deb (6 * a + b) = 0)
def ChartR (n : Nat) (sta wat : Int32) (lev kin sil : Nat → Int32) (g : Nat → Int32) : Prop :=
  (g 0 = sta ∧ (sta = 1 ∨ (sta = 0 ∧ n = 0))) ∧ (g 1 = wat ∧ wat = nI n ∧ n ≤ 6) ∧
  (∀ h, h < 12 → lev h = g (3 + h) ∧ ∃ d, d ≤ 40 ∧ lev h = nI d) ∧
  (∀ w, w < n → kin w = g (15 + 4 * w) ∧ (∃ k, 1 ≤ k ∧ k < 6 ∧ kin w = nI k) ∧ sil w = g (18 + 4 * w) ∧ ∃ d, d ≤ 9999 ∧ sil w = nI d)
theorem LedR_g {B n : Nat} {hour : Int32} {dep arr deb g g' : Nat → Int32} (h : LedR B n hour dep arr deb g) (e : ∀ q, q < 75 → g' q = g q) : LedR B n hour dep arr deb g' := by
  obtain ⟨⟨h1, h2⟩, h3, h4, h5⟩ := h
  refine ⟨⟨by rw [e 2 (by decide)]; exact h1, h2⟩, fun w hw => ?_, fun i hi => ?_, h5⟩
  · obtain ⟨a, b, c, d⟩ := h3 w hw
    exact ⟨by rw [e _ (by omega)]; exact a, b, by rw [e _ (by omega)]; exact c, d⟩
  · obtain ⟨a, b⟩ := h4 i hi
    exact ⟨by rw [e _ (by omega)]; exact a, b⟩
theorem ChartR_g {n : Nat} {sta wat : Int32} {lev kin sil g g' : Nat → Int32} (h : ChartR n sta wat lev kin sil g) (e : ∀ q, q < 75 → g' q = g q) : ChartR n sta wat lev kin sil g' := by
  obtain ⟨⟨h1, h2⟩, ⟨h3, h4, h5⟩, h6, h7⟩ := h
  refine ⟨⟨by rw [e 0 (by decide)]; exact h1, h2⟩, ⟨by rw [e 1 (by decide)]; exact h3, h4, h5⟩, fun w hw => ?_, fun w hw => ?_⟩
  · obtain ⟨a, b⟩ := h6 w hw
    exact ⟨by rw [e _ (by omega)]; exact a, b⟩
  · obtain ⟨a, b, c, d⟩ := h7 w hw
    exact ⟨by rw [e _ (by omega)]; exact a, b, by rw [e _ (by omega)]; exact c, d⟩
theorem LedR_mono {B B' n : Nat} {hour : Int32} {dep arr deb g : Nat → Int32} (h : LedR B n hour dep arr deb g) (hB : B ≤ B') : LedR B' n hour dep arr deb g := by
  obtain ⟨⟨h1, h0, h2, h2'⟩, h3, h4, h5⟩ := h
  refine ⟨⟨h1, h0, by omega, h2'⟩, fun w hw => ?_, h4, h5⟩
  obtain ⟨a, ⟨x, hx, ex⟩, c, ⟨y, hy, ey⟩, d⟩ := h3 w hw
  exact ⟨a, ⟨x, by omega, ex⟩, c, ⟨y, by omega, ey⟩, d⟩
theorem LedR_f {B n : Nat} {hour : Int32} {dep arr deb dep' arr' deb' g : Nat → Int32} (h : LedR B n hour dep arr deb g) (e1 : ∀ w, w < 6 → dep' w = dep w) (e2 : ∀ w, w < 6 → arr' w = arr w) (e3 : ∀ i, i < 36 → deb' i = deb i) : LedR B n hour dep' arr' deb' g := by
  obtain ⟨h12, h3, h4, h5⟩ := h
  refine ⟨h12, fun w hw => ?_, fun i hi => ?_, fun a b ha hb hab => ?_⟩
  · rw [e1 w hw, e2 w hw]; exact h3 w hw
  · rw [e3 i hi]; exact h4 i hi
  · rw [e3 _ (by omega)]; exact h5 a b ha hb hab
theorem cpy0 (f g : Nat → Int32) {n k : Nat} (h : k < n) : va_cpy f g 0 0 n k = f k := by
  unfold va_cpy
  rw [if_pos (by omega), Nat.zero_add, Nat.sub_zero]
def RingR (B n : Nat) (sta wat : Int32) (lev kin sil : Nat → Int32) (nxt kep : Int32) (r_hour : Nat → Int32) (r_dep r_arr r_deb : Nat → Nat → Int32) (acts : Int32) (was : Nat → Int32) : Prop :=
  ∃ a x, a ≤ 24 ∧ x < 24 ∧ kep = nI a ∧ acts = nI a ∧ nxt = nI x ∧ ∀ t, t < a → ChartR n sta wat lev kin sil (fun q => was (75 * (a - 1 - t) + q)) ∧ LedR B n (r_hour ((x + 23 - t) % 24)) (r_dep ((x + 23 - t) % 24)) (r_arr ((x + 23 - t) % 24)) (r_deb ((x + 23 - t) % 24)) (fun q => was (75 * (a - 1 - t) + q))
