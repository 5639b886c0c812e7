/-! ===== what belongs together after j calls ===== -/
def BB (j : Nat) : Nat := 360000 * (j + 1)
theorem BB_lt {j : Nat} (h : j < 512) : BB j < 199000000 := by unfold BB; omega
theorem BB_28 {j : Nat} (h : j < 512) : BB j < 2 ^ 28 := by unfold BB; omega
theorem BB_29 {j : Nat} (h : j < 512) : BB j < 2 ^ 29 := by unfold BB; omega
theorem BB_200 (j : Nat) : 200 ≤ BB j := by unfold BB; omega
theorem BB_le (j : Nat) : BB j ≤ BB (j + 1) := by unfold BB; omega
theorem BB_3 (j : Nat) : BB j + 300000 ≤ BB (j + 1) := by unfold BB; omega
theorem BB_36 (j : Nat) : BB j + 360000 ≤ BB (j + 1) := by unfold BB; omega
abbrev INV (j : Nat) (c : CS) (m : MS) : Prop :=
  RowsR (c.2.1 0) (c.2.1 1) c.2.2.1 (m.2 0) (m.2 1) (m.2 2) ∧ c.1 1 = m.1 1 ∧ c.1 0 = m.1 4 ∧ TapeR (c.1 2) (c.2.1 2) (m.1 3) (m.2 7) ∧ TraceR (c.1 16) (c.2.1 21) (m.1 13) (m.2 12) ∧ ImgR (BB j) (c.2.2.2.1 0) (c.2.2.2.1 1) (c.2.2.2.2.1 0) (c.2.2.2.2.1 1) (c.2.2.2.2.1 3) (c.2.2.2.1 2) (c.2.2.2.2.1 4) (c.2.2.2.2.1 5) (c.2.2.2.2.1 6) (m.2 10) (m.2 11) ∧
  ∃ n, ChartR n (c.1 9) (c.1 10) (c.2.1 7) (c.2.1 8) (c.2.1 10) (m.2 3) ∧ LedR (BB j) n (c.1 11) (c.2.1 11) (c.2.1 12) (c.2.1 13) (m.2 3) ∧ RingR (BB j) n (c.1 9) (c.1 10) (c.2.1 7) (c.2.1 8) (c.2.1 10) (c.1 12) (c.1 13) (c.2.2.2.2.2.1 0) (c.2.2.2.2.2.2 0) (c.2.2.2.2.2.2 1) (c.2.2.2.2.2.2 2) (m.1 2) (m.2 6)
theorem INV_mono (j : Nat) (c : CS) (m : MS) (h : INV j c m) : INV (j + 1) c m := by
  obtain ⟨h1, h2, h3, h4, h5, h6, n, h7, h8, h9⟩ := h
  exact ⟨h1, h2, h3, h4, h5, ImgR_mono h6 (BB_le j), n, h7, LedR_mono h8 (BB_le j), RingR_mono h9 (BB_le j)⟩
theorem ops_row (j : Nat) (c : CS) (m : MS) (a1 : Int32) (a2 : Int32) (a3 : Int32) (hj : j < 512) (h : INV j c m) : ∃ (r : Int32) (c1 : CS) (m1 : MS), F8_row c a1 a2 a3 = some (r, c1) ∧ F9_row m a1 a2 a3 = some (r, m1) ∧ INV (j + 1) c1 m1 := by
  obtain ⟨hRo, hs, hl, hT, hTr, hI, n, hC, hL, hR⟩ := h
  obtain ⟨r, lfi1, st1, th1, lan1, siz1, lane1, many1, item1, itm1, e8, e9, k1, k2⟩ := op_row (m.1 0) a1 a2 a3 hRo hs
  refine ⟨r, _, _, by simp only [F8_row, e8, bd_s] <;> rfl, by simp only [F9_row, e9, bd_s] <;> rfl, ?_⟩
  exact ⟨k2, k1, hl, hT, hTr, ImgR_mono hI (BB_le j), n, hC, LedR_mono hL (BB_le j), RingR_mono hR (BB_le j)⟩
theorem ops_set (j : Nat) (c : CS) (m : MS) (a1 : Int32) (a2 : Int32) (a3 : Int32) (hj : j < 512) (h : INV j c m) : ∃ (r : Int32) (c1 : CS) (m1 : MS), F8_set c a1 a2 a3 = some (r, c1) ∧ F9_set m a1 a2 a3 = some (r, m1) ∧ INV (j + 1) c1 m1 := by
  obtain ⟨hRo, hs, hl, hT, hTr, hI, n, hC, hL, hR⟩ := h
  obtain ⟨r, lfi1, st1, th1, item1, itm1, e8, e9, k1, k2⟩ := op_set (m.1 0) a1 a2 a3 hRo hs
  refine ⟨r, _, _, by simp only [F8_set, e8, bd_s] <;> rfl, by simp only [F9_set, e9, bd_s] <;> rfl, ?_⟩
  exact ⟨k2, k1, hl, hT, hTr, ImgR_mono hI (BB_le j), n, hC, LedR_mono hL (BB_le j), RingR_mono hR (BB_le j)⟩
theorem ops_copy (j : Nat) (c : CS) (m : MS) (a1 : Int32) (a2 : Int32) (a3 : Int32) (a4 : Int32) (a5 : Int32) (hj : j < 512) (h : INV j c m) : ∃ (r : Int32) (c1 : CS) (m1 : MS), F8_copy c a1 a2 a3 a4 a5 = some (r, c1) ∧ F9_copy m a1 a2 a3 a4 a5 = some (r, m1) ∧ INV (j + 1) c1 m1 := by
  obtain ⟨hRo, hs, hl, hT, hTr, hI, n, hC, hL, hR⟩ := h
  obtain ⟨r, lfi1, st1, th1, item1, itm1, e8, e9, k1, k2⟩ := op_copy (m.1 0) a1 a2 a3 a4 a5 hRo hs
  refine ⟨r, _, _, by simp only [F8_copy, e8, bd_s] <;> rfl, by simp only [F9_copy, e9, bd_s] <;> rfl, ?_⟩
  exact ⟨k2, k1, hl, hT, hTr, ImgR_mono hI (BB_le j), n, hC, LedR_mono hL (BB_le j), RingR_mono hR (BB_le j)⟩
theorem ops_drop (j : Nat) (c : CS) (m : MS) (a1 : Int32) (hj : j < 512) (h : INV j c m) : ∃ (r : Int32) (c1 : CS) (m1 : MS), F8_drop c a1 = some (r, c1) ∧ F9_drop m a1 = some (r, m1) ∧ INV (j + 1) c1 m1 := by
  obtain ⟨hRo, hs, hl, hT, hTr, hI, n, hC, hL, hR⟩ := h
  obtain ⟨r, lfi1, st1, th1, lan1, lane1, e8, e9, k1, k2⟩ := op_drop (thrown := m.1 0) a1 hRo hs
  refine ⟨r, _, _, by simp only [F8_drop, e8, bd_s] <;> rfl, by simp only [F9_drop, e9, bd_s] <;> rfl, ?_⟩
  exact ⟨k2, k1, hl, hT, hTr, ImgR_mono hI (BB_le j), n, hC, LedR_mono hL (BB_le j), RingR_mono hR (BB_le j)⟩
theorem ops_feed (j : Nat) (c : CS) (m : MS) (a1 : Int64) (a2 : Int32) (hj : j < 512) (h : INV j c m) : ∃ (r : Int32) (c1 : CS) (m1 : MS), F8_feed c a1 a2 = some (r, c1) ∧ F9_feed m a1 a2 = some (r, m1) ∧ INV (j + 1) c1 m1 := by
  obtain ⟨hRo, hs, hl, hT, hTr, hI, n, hC, hL, hR⟩ := h
  obtain ⟨r, len1, tap1, th1, byt1, tape1, e8, e9, k1⟩ := op_feed (m.1 0) a1 a2 hT
  refine ⟨r, _, _, by simp only [F8_feed, e8, bd_s] <;> rfl, by simp only [F9_feed, e9, bd_s] <;> rfl, ?_⟩
  exact ⟨hRo, hs, hl, k1, hTr, ImgR_mono hI (BB_le j), n, hC, LedR_mono hL (BB_le j), RingR_mono hR (BB_le j)⟩
theorem ops_bay (j : Nat) (c : CS) (m : MS)  (hj : j < 512) (h : INV j c m) : ∃ (r : Int32) (c1 : CS) (m1 : MS), F8_bay c  = some (r, c1) ∧ F9_bay m  = some (r, m1) ∧ INV (j + 1) c1 m1 := by
  obtain ⟨hRo, hs, hl, hT, hTr, hI, n, hC, hL, hR⟩ := h
  obtain ⟨r, lfa1, len1, tok1, stt1, fin1, num1, flw1, dwat1, dlev1, dkin1, dcdp1, dsil1, sta1, wat1, lev1, kin1, cdp1, sil1, hour1, dep1, arr1, deb1, kep1, th1, acts1, tap1, lat1, leng1, cur1, token1, start1, till1, flt1, fat1, bay1, fresh1, n1, e8, e9, k1, k2, k3, k4, k5⟩ := op_bay (cdp := c.2.1 9) (m.1 0) (c.1 3) (c.1 4) (c.1 5) (c.1 6) (c.1 7) (c.1 8) (m.1 5) (m.1 6) (m.1 7) (m.1 8) (m.1 9) (m.1 10) (m.1 11) (c.2.1 3) (c.2.1 4) (c.2.1 5) (c.2.1 6) (m.2 4) (BB_200 j) hC hL hR hT hl
  refine ⟨r, _, _, by simp only [F8_bay, e8, bd_s] <;> rfl, by simp only [F9_bay, e9, bd_s] <;> rfl, ?_⟩
  exact ⟨hRo, hs, k1, k2, hTr, ImgR_mono hI (BB_le j), n1, k3, LedR_mono k4 (BB_le j), RingR_mono k5 (BB_le j)⟩
theorem ops_fault (j : Nat) (c : CS) (m : MS)  (hj : j < 512) (h : INV j c m) : ∃ (r : Int32) (c1 : CS) (m1 : MS), F8_fault c  = some (r, c1) ∧ F9_fault m  = some (r, m1) ∧ INV (j + 1) c1 m1 := by
  obtain ⟨hRo, hs, hl, hT, hTr, hI, n, hC, hL, hR⟩ := h
  obtain ⟨r, e8, e9⟩ : ∃ r, f_X8_fault (c.1 0) = some r ∧ f_X9_fault (m.1 0) (m.1 4) = some (r, 0) := ⟨c.1 0, rfl, by rw [hl] <;> rfl⟩
  refine ⟨r, _, _, by simp only [F8_fault, e8, bd_s] <;> rfl, by simp only [F9_fault, e9, bd_s] <;> rfl, ?_⟩
  exact ⟨hRo, hs, hl, hT, hTr, ImgR_mono hI (BB_le j), n, hC, LedR_mono hL (BB_le j), RingR_mono hR (BB_le j)⟩
theorem ops_hours (j : Nat) (c : CS) (m : MS) (a1 : Int32) (hj : j < 512) (h : INV j c m) : ∃ (r : Int32) (c1 : CS) (m1 : MS), F8_hours c a1 = some (r, c1) ∧ F9_hours m a1 = some (r, m1) ∧ INV (j + 1) c1 m1 := by
  obtain ⟨hRo, hs, hl, hT, hTr, hI, n, hC, hL, hR⟩ := h
  obtain ⟨r, hour1, dep1, arr1, deb1, nxt1, kep1, rh1, rd1, ra1, rb1, th1, acts1, bay1, thn1, was1, e8, e9, k1, k2, k3⟩ := op_hours (thn := m.2 5) (m.1 0) a1 (BB_28 hj) hC hL hR
  refine ⟨r, _, _, by simp only [F8_hours, e8, bd_s] <;> rfl, by simp only [F9_hours, e9, bd_s] <;> rfl, ?_⟩
  exact ⟨hRo, hs, hl, hT, hTr, ImgR_mono hI (BB_le j), n, k1, LedR_mono k2 (BB_3 j), RingR_mono k3 (BB_3 j)⟩
theorem ops_lend (j : Nat) (c : CS) (m : MS) (a1 : Int32) (a2 : Int32) (a3 : Int32) (hj : j < 512) (h : INV j c m) : ∃ (r : Int32) (c1 : CS) (m1 : MS), F8_lend c a1 a2 a3 = some (r, c1) ∧ F9_lend m a1 a2 a3 = some (r, m1) ∧ INV (j + 1) c1 m1 := by
  obtain ⟨hRo, hs, hl, hT, hTr, hI, n, hC, hL, hR⟩ := h
  obtain ⟨r, dep1, deb1, nxt1, kep1, rh1, rd1, ra1, rb1, th1, acts1, bay1, was1, e8, e9, k1, k2, k3⟩ := op_lend (m.1 0) a1 a2 a3 (BB_29 hj) hC hL hR
  refine ⟨r, _, _, by simp only [F8_lend, e8, bd_s] <;> rfl, by simp only [F9_lend, e9, bd_s] <;> rfl, ?_⟩
  exact ⟨hRo, hs, hl, hT, hTr, ImgR_mono hI (BB_le j), n, k1, LedR_mono k2 (BB_3 j), RingR_mono k3 (BB_3 j)⟩
theorem ops_pay (j : Nat) (c : CS) (m : MS) (a1 : Int32) (a2 : Int32) (a3 : Int32) (hj : j < 512) (h : INV j c m) : ∃ (r : Int32) (c1 : CS) (m1 : MS), F8_pay c a1 a2 a3 = some (r, c1) ∧ F9_pay m a1 a2 a3 = some (r, m1) ∧ INV (j + 1) c1 m1 := by
  obtain ⟨hRo, hs, hl, hT, hTr, hI, n, hC, hL, hR⟩ := h
  obtain ⟨r, dep1, deb1, nxt1, kep1, rh1, rd1, ra1, rb1, th1, acts1, bay1, was1, e8, e9, k1, k2, k3⟩ := op_pay (m.1 0) a1 a2 a3 (BB_29 hj) hC hL hR
  refine ⟨r, _, _, by simp only [F8_pay, e8, bd_s] <;> rfl, by simp only [F9_pay, e9, bd_s] <;> rfl, ?_⟩
  exact ⟨hRo, hs, hl, hT, hTr, ImgR_mono hI (BB_le j), n, k1, LedR_mono k2 (BB_3 j), RingR_mono k3 (BB_3 j)⟩
theorem ops_storm (j : Nat) (c : CS) (m : MS) (a1 : Int32) (hj : j < 512) (h : INV j c m) : ∃ (r : Int32) (c1 : CS) (m1 : MS), F8_storm c a1 = some (r, c1) ∧ F9_storm m a1 = some (r, m1) ∧ INV (j + 1) c1 m1 := by
  obtain ⟨hRo, hs, hl, hT, hTr, hI, n, hC, hL, hR⟩ := h
  obtain ⟨r, dep1, arr1, nxt1, kep1, rh1, rd1, ra1, rb1, th1, acts1, bay1, was1, e8, e9, k1, k2, k3⟩ := op_storm (m.1 0) a1 (BB_29 hj) hC hL hR
  refine ⟨r, _, _, by simp only [F8_storm, e8, bd_s] <;> rfl, by simp only [F9_storm, e9, bd_s] <;> rfl, ?_⟩
  exact ⟨hRo, hs, hl, hT, hTr, ImgR_mono hI (BB_le j), n, k1, LedR_mono k2 (BB_3 j), RingR_mono k3 (BB_3 j)⟩
theorem ops_settle (j : Nat) (c : CS) (m : MS)  (hj : j < 512) (h : INV j c m) : ∃ (r : Int32) (c1 : CS) (m1 : MS), F8_settle c  = some (r, c1) ∧ F9_settle m  = some (r, m1) ∧ INV (j + 1) c1 m1 := by
  obtain ⟨hRo, hs, hl, hT, hTr, hI, n, hC, hL, hR⟩ := h
  obtain ⟨r, dep1, deb1, nxt1, kep1, gft1, bal1, giv1, tak1, inc1, rh1, rd1, ra1, rb1, th1, acts1, gifts1, bay1, was1, left1, gift1, e8, e9, k1, k2, k3⟩ := op_settle (m.1 0) (c.1 15) (m.1 12) (c.2.1 17) (c.2.1 18) (c.2.1 19) (c.2.1 20) (m.2 8) (m.2 9) (BB_28 hj) hC hL hR
  refine ⟨r, _, _, by simp only [F8_settle, e8, bd_s] <;> rfl, by simp only [F9_settle, e9, bd_s] <;> rfl, ?_⟩
  exact ⟨hRo, hs, hl, hT, hTr, ImgR_mono hI (BB_le j), n, k1, LedR_mono k2 (BB_36 j), RingR_mono k3 (BB_36 j)⟩
theorem ops_undo (j : Nat) (c : CS) (m : MS)  (hj : j < 512) (h : INV j c m) : ∃ (r : Int32) (c1 : CS) (m1 : MS), F8_undo c  = some (r, c1) ∧ F9_undo m  = some (r, m1) ∧ INV (j + 1) c1 m1 := by
  obtain ⟨hRo, hs, hl, hT, hTr, hI, n, hC, hL, hR⟩ := h
  obtain ⟨r, hour1, dep1, arr1, deb1, nxt1, kep1, th1, acts1, bay1, e8, e9, k1, k2, k3⟩ := op_undo (m.1 0) hC hL hR
  refine ⟨r, _, _, by simp only [F8_undo, e8, bd_s] <;> rfl, by simp only [F9_undo, e9, bd_s] <;> rfl, ?_⟩
  exact ⟨hRo, hs, hl, hT, hTr, ImgR_mono hI (BB_le j), n, k1, LedR_mono k2 (BB_le j), RingR_mono k3 (BB_le j)⟩
theorem ops_water (j : Nat) (c : CS) (m : MS) (a1 : Int32) (a2 : Int32) (hj : j < 512) (h : INV j c m) : ∃ (r : Int32) (c1 : CS) (m1 : MS), F8_water c a1 a2 = some (r, c1) ∧ F9_water m a1 a2 = some (r, m1) ∧ INV (j + 1) c1 m1 := by
  obtain ⟨hRo, hs, hl, hT, hTr, hI, n, hC, hL, hR⟩ := h
  obtain ⟨-, ⟨q1, q2, q3⟩, -, q5⟩ := id hC
  obtain ⟨⟨l1, l2⟩, l3, l4, l5⟩ := id hL
  obtain ⟨r, th1, e8, e9⟩ := op_water (m.1 0) a1 a2 q2 q3 q1 (fun i hi => (l4 i hi).1) (fun a b h1 h2 h3 => l5 a b h1 h2 (by omega)) (fun w hw => (l3 w hw).1) (fun w hw => (l3 w hw).2.2.1) (fun w hw => (q5 w hw).2.2.1)
  refine ⟨r, _, _, by simp only [F8_water, e8, bd_s] <;> rfl, by simp only [F9_water, e9, bd_s] <;> rfl, ?_⟩
  exact ⟨hRo, hs, hl, hT, hTr, ImgR_mono hI (BB_le j), n, hC, LedR_mono hL (BB_le j), RingR_mono hR (BB_le j)⟩
theorem ops_owes (j : Nat) (c : CS) (m : MS) (a1 : Int32) (a2 : Int32) (hj : j < 512) (h : INV j c m) : ∃ (r : Int32) (c1 : CS) (m1 : MS), F8_owes c a1 a2 = some (r, c1) ∧ F9_owes m a1 a2 = some (r, m1) ∧ INV (j + 1) c1 m1 := by
  obtain ⟨hRo, hs, hl, hT, hTr, hI, n, hC, hL, hR⟩ := h
  obtain ⟨-, ⟨q1, q2, q3⟩, -, q5⟩ := id hC
  obtain ⟨⟨l1, l2⟩, l3, l4, l5⟩ := id hL
  obtain ⟨r, th1, e8, e9⟩ := op_owes (m.1 0) a1 a2 q2 q3 q1 (fun i hi => (l4 i hi).1)
  refine ⟨r, _, _, by simp only [F8_owes, e8, bd_s] <;> rfl, by simp only [F9_owes, e9, bd_s] <;> rfl, ?_⟩
  exact ⟨hRo, hs, hl, hT, hTr, ImgR_mono hI (BB_le j), n, hC, LedR_mono hL (BB_le j), RingR_mono hR (BB_le j)⟩
theorem ops_ahead (j : Nat) (c : CS) (m : MS) (a1 : Int32) (a2 : Int32) (a3 : Int32) (hj : j < 512) (h : INV j c m) : ∃ (r : Int32) (c1 : CS) (m1 : MS), F8_ahead c a1 a2 a3 = some (r, c1) ∧ F9_ahead m a1 a2 a3 = some (r, m1) ∧ INV (j + 1) c1 m1 := by
  obtain ⟨hRo, hs, hl, hT, hTr, hI, n, hC, hL, hR⟩ := h
  obtain ⟨r, fh1, fd1, fa1, fb1, th1, thn1, e8, e9⟩ := op_ahead (m.1 0) (c.1 14) (c.2.1 14) (c.2.1 15) (c.2.1 16) (m.2 5) a1 a2 a3 (BB_28 hj) hC hL
  refine ⟨r, _, _, by simp only [F8_ahead, e8, bd_s] <;> rfl, by simp only [F9_ahead, e9, bd_s] <;> rfl, ?_⟩
  exact ⟨hRo, hs, hl, hT, hTr, ImgR_mono hI (BB_le j), n, hC, LedR_mono hL (BB_le j), RingR_mono hR (BB_le j)⟩
theorem ops_sail (j : Nat) (c : CS) (m : MS) (a1 : Int32) (a2 : Int32) (a3 : Int32) (a4 : Int32) (hj : j < 512) (h : INV j c m) : ∃ (r : Int32) (c1 : CS) (m1 : MS), F8_sail c a1 a2 a3 a4 = some (r, c1) ∧ F9_sail m a1 a2 a3 a4 = some (r, m1) ∧ INV (j + 1) c1 m1 := by
  obtain ⟨hRo, hs, hl, hT, hTr, hI, n, hC, hL, hR⟩ := h
  obtain ⟨r, fh1, fd1, fa1, fb1, th1, thn1, e8, e9⟩ := op_sail (m.1 0) (c.1 14) (c.2.1 14) (c.2.1 15) (c.2.1 16) (m.2 5) a1 a2 a3 a4 (BB_28 hj) hC hL
  refine ⟨r, _, _, by simp only [F8_sail, e8, bd_s] <;> rfl, by simp only [F9_sail, e9, bd_s] <;> rfl, ?_⟩
  exact ⟨hRo, hs, hl, hT, hTr, ImgR_mono hI (BB_le j), n, hC, LedR_mono hL (BB_le j), RingR_mono hR (BB_le j)⟩
theorem ops_net (j : Nat) (c : CS) (m : MS) (a1 : Int32) (a2 : Int32) (hj : j < 512) (h : INV j c m) : ∃ (r : Int32) (c1 : CS) (m1 : MS), F8_net c a1 a2 = some (r, c1) ∧ F9_net m a1 a2 = some (r, m1) ∧ INV (j + 1) c1 m1 := by
  obtain ⟨hRo, hs, hl, hT, hTr, hI, n, hC, hL, hR⟩ := h
  obtain ⟨r, gft1, bal1, giv1, tak1, inc1, th1, gifts1, left1, gift1, e8, e9⟩ := op_net (m.1 0) (c.1 15) (m.1 12) (c.2.1 17) (c.2.1 18) (c.2.1 19) (c.2.1 20) (m.2 8) (m.2 9) a1 a2 hC hL
  refine ⟨r, _, _, by simp only [F8_net, e8, bd_s] <;> rfl, by simp only [F9_net, e9, bd_s] <;> rfl, ?_⟩
  exact ⟨hRo, hs, hl, hT, hTr, ImgR_mono hI (BB_le j), n, hC, LedR_mono hL (BB_le j), RingR_mono hR (BB_le j)⟩
theorem ops_least (j : Nat) (c : CS) (m : MS) (a1 : Int32) (a2 : Int32) (a3 : Int32) (a4 : Int32) (hj : j < 512) (h : INV j c m) : ∃ (r : Int32) (c1 : CS) (m1 : MS), F8_least c a1 a2 a3 a4 = some (r, c1) ∧ F9_least m a1 a2 a3 a4 = some (r, m1) ∧ INV (j + 1) c1 m1 := by
  obtain ⟨hRo, hs, hl, hT, hTr, hI, n, hC, hL, hR⟩ := h
  obtain ⟨r, fh1, fd1, fa1, fb1, th1, thn1, e8, e9⟩ := op_least (m.1 0) (c.1 14) (c.2.1 14) (c.2.1 15) (c.2.1 16) (m.2 5) a1 a2 a3 a4 (BB_lt hj) hC hL
  refine ⟨r, _, _, by simp only [F8_least, e8, bd_s] <;> rfl, by simp only [F9_least, e9, bd_s] <;> rfl, ?_⟩
  exact ⟨hRo, hs, hl, hT, hTr, ImgR_mono hI (BB_le j), n, hC, LedR_mono hL (BB_le j), RingR_mono hR (BB_le j)⟩
theorem ops_run (j : Nat) (c : CS) (m : MS)  (hj : j < 512) (h : INV j c m) : ∃ (r : Int32) (c1 : CS) (m1 : MS), F8_run c  = some (r, c1) ∧ F9_run m  = some (r, m1) ∧ INV (j + 1) c1 m1 := by
  obtain ⟨hRo, hs, hl, hT, hTr, hI, n, hC, hL, hR⟩ := h
  obtain ⟨r, fh1, fd1, fa1, fb1, th1, thn1, e8, e9⟩ := op_run (m.1 0) (c.1 14) (c.2.1 14) (c.2.1 15) (c.2.1 16) (m.2 5) (BB_28 hj) hC hL
  refine ⟨r, _, _, by simp only [F8_run, e8, bd_s] <;> rfl, by simp only [F9_run, e9, bd_s] <;> rfl, ?_⟩
  exact ⟨hRo, hs, hl, hT, hTr, ImgR_mono hI (BB_le j), n, hC, LedR_mono hL (BB_le j), RingR_mono hR (BB_le j)⟩
theorem ops_frauds (j : Nat) (c : CS) (m : MS) (a1 : Int32) (a2 : Int32) (hj : j < 512) (h : INV j c m) : ∃ (r : Int32) (c1 : CS) (m1 : MS), F8_frauds c a1 a2 = some (r, c1) ∧ F9_frauds m a1 a2 = some (r, m1) ∧ INV (j + 1) c1 m1 := by
  obtain ⟨hRo, hs, hl, hT, hTr, hI, n, hC, hL, hR⟩ := h
  obtain ⟨r, lfi1, fh1, fd1, fa1, fb1, th1, st1, thn1, e8, e9, k1⟩ := op_frauds (m.1 0) (c.1 14) (c.2.1 14) (c.2.1 15) (c.2.1 16) (m.2 5) a1 a2 (BB_28 hj) hC hL hRo hs
  refine ⟨r, _, _, by simp only [F8_frauds, e8, bd_s] <;> rfl, by simp only [F9_frauds, e9, bd_s] <;> rfl, ?_⟩
  exact ⟨hRo, k1, hl, hT, hTr, ImgR_mono hI (BB_le j), n, hC, LedR_mono hL (BB_le j), RingR_mono hR (BB_le j)⟩
theorem ops_image (j : Nat) (c : CS) (m : MS) (a1 : Int32) (hj : j < 512) (h : INV j c m) : ∃ (r : Int32) (c1 : CS) (m1 : MS), F8_image c a1 = some (r, c1) ∧ F9_image m a1 = some (r, m1) ∧ INV (j + 1) c1 m1 := by
  obtain ⟨hRo, hs, hl, hT, hTr, hI, n, hC, hL, hR⟩ := h
  obtain ⟨r, gs1, gw1, gl1, gk1, gc1, gi1, gh1, gd1, ga1, gb1, th1, ik1, kp1, e8, e9, k1⟩ := op_image (cdp := c.2.1 9) (g_cdp := c.2.2.2.2.1 2) (m.1 0) a1 hC hL hI
  refine ⟨r, _, _, by simp only [F8_image, e8, bd_s] <;> rfl, by simp only [F9_image, e9, bd_s] <;> rfl, ?_⟩
  exact ⟨hRo, hs, hl, hT, hTr, ImgR_mono k1 (BB_le j), n, hC, LedR_mono hL (BB_le j), RingR_mono hR (BB_le j)⟩
theorem ops_restore (j : Nat) (c : CS) (m : MS) (a1 : Int32) (hj : j < 512) (h : INV j c m) : ∃ (r : Int32) (c1 : CS) (m1 : MS), F8_restore c a1 = some (r, c1) ∧ F9_restore m a1 = some (r, m1) ∧ INV (j + 1) c1 m1 := by
  obtain ⟨hRo, hs, hl, hT, hTr, hI, n, hC, hL, hR⟩ := h
  obtain ⟨r, sta1, wat1, lev1, kin1, cdp1, sil1, hour1, dep1, arr1, deb1, kep1, th1, acts1, bay1, n1, e8, e9, k1, k2, k3⟩ := op_restore (cdp := c.2.1 9) (g_cdp := c.2.2.2.2.1 2) (m.1 0) a1 hC hL hR hI
  refine ⟨r, _, _, by simp only [F8_restore, e8, bd_s] <;> rfl, by simp only [F9_restore, e9, bd_s] <;> rfl, ?_⟩
  exact ⟨hRo, hs, hl, hT, hTr, ImgR_mono hI (BB_le j), n1, k1, LedR_mono k2 (BB_le j), RingR_mono k3 (BB_le j)⟩
theorem ops_kind (j : Nat) (c : CS) (m : MS) (a1 : Int32) (hj : j < 512) (h : INV j c m) : ∃ (r : Int32) (c1 : CS) (m1 : MS), F8_kind c a1 = some (r, c1) ∧ F9_kind m a1 = some (r, m1) ∧ INV (j + 1) c1 m1 := by
  obtain ⟨hRo, hs, hl, hT, hTr, hI, n, hC, hL, hR⟩ := h
  obtain ⟨-, ⟨q1, q2, q3⟩, -, q5⟩ := id hC
  obtain ⟨⟨l1, l2⟩, l3, l4, l5⟩ := id hL
  obtain ⟨r, th1, e8, e9⟩ := op_kind (m.1 0) a1 q2 q3 q1 (fun w hw => (q5 w hw).1)
  refine ⟨r, _, _, by simp only [F8_kind, e8, bd_s] <;> rfl, by simp only [F9_kind, e9, bd_s] <;> rfl, ?_⟩
  exact ⟨hRo, hs, hl, hT, hTr, ImgR_mono hI (BB_le j), n, hC, LedR_mono hL (BB_le j), RingR_mono hR (BB_le j)⟩
theorem ops_as (j : Nat) (c : CS) (m : MS) (a1 : Int32) (a2 : Int32) (hj : j < 512) (h : INV j c m) : ∃ (r : Int32) (c1 : CS) (m1 : MS), F8_as c a1 a2 = some (r, c1) ∧ F9_as m a1 a2 = some (r, m1) ∧ INV (j + 1) c1 m1 := by
  obtain ⟨hRo, hs, hl, hT, hTr, hI, n, hC, hL, hR⟩ := h
  obtain ⟨-, ⟨q1, q2, q3⟩, -, q5⟩ := id hC
  obtain ⟨⟨l1, l2⟩, l3, l4, l5⟩ := id hL
  obtain ⟨r, lfi1, st1, th1, e8, e9, k1⟩ := op_as (m.1 0) a1 a2 hs q2 q3 q1 (fun w hw => ⟨(q5 w hw).1, (q5 w hw).2.1⟩)
  refine ⟨r, _, _, by simp only [F8_as, e8, bd_s] <;> rfl, by simp only [F9_as, e9, bd_s] <;> rfl, ?_⟩
  exact ⟨hRo, k1, hl, hT, hTr, ImgR_mono hI (BB_le j), n, hC, LedR_mono hL (BB_le j), RingR_mono hR (BB_le j)⟩
theorem ops_ask (j : Nat) (c : CS) (m : MS) (a1 : Int32) (a2 : Int32) (hj : j < 512) (h : INV j c m) : ∃ (r : Int32) (c1 : CS) (m1 : MS), F8_ask c a1 a2 = some (r, c1) ∧ F9_ask m a1 a2 = some (r, m1) ∧ INV (j + 1) c1 m1 := by
  obtain ⟨hRo, hs, hl, hT, hTr, hI, n, hC, hL, hR⟩ := h
  obtain ⟨-, ⟨q1, q2, q3⟩, -, q5⟩ := id hC
  obtain ⟨⟨l1, l2⟩, l3, l4, l5⟩ := id hL
  obtain ⟨r, trc1, nrs1, th1, trd1, tr1, e8, e9, k1⟩ := op_ask (m.1 0) a1 a2 q2 q3 q1 (fun w hw => ⟨(q5 w hw).1, (q5 w hw).2.1, (q5 w hw).2.2.1⟩) (fun w hw => (l3 w hw).1) hTr
  refine ⟨r, _, _, by simp only [F8_ask, e8, bd_s] <;> rfl, by simp only [F9_ask, e9, bd_s] <;> rfl, ?_⟩
  exact ⟨hRo, hs, hl, hT, k1, ImgR_mono hI (BB_le j), n, hC, LedR_mono hL (BB_le j), RingR_mono hR (BB_le j)⟩
theorem ops_trace (j : Nat) (c : CS) (m : MS) (a1 : Int32) (hj : j < 512) (h : INV j c m) : ∃ (r : Int32) (c1 : CS) (m1 : MS), F8_trace c a1 = some (r, c1) ∧ F9_trace m a1 = some (r, m1) ∧ INV (j + 1) c1 m1 := by
  obtain ⟨hRo, hs, hl, hT, hTr, hI, n, hC, hL, hR⟩ := h
  obtain ⟨r, th1, e8, e9⟩ := op_trace (m.1 0) a1 hTr
  refine ⟨r, _, _, by simp only [F8_trace, e8, bd_s] <;> rfl, by simp only [F9_trace, e9, bd_s] <;> rfl, ?_⟩
  exact ⟨hRo, hs, hl, hT, hTr, ImgR_mono hI (BB_le j), n, hC, LedR_mono hL (BB_le j), RingR_mono hR (BB_le j)⟩
theorem ops_count (j : Nat) (c : CS) (m : MS) (a1 : Int32) (hj : j < 512) (h : INV j c m) : ∃ (r : Int32) (c1 : CS) (m1 : MS), F8_count c a1 = some (r, c1) ∧ F9_count m a1 = some (r, m1) ∧ INV (j + 1) c1 m1 := by
  obtain ⟨hRo, hs, hl, hT, hTr, hI, n, hC, hL, hR⟩ := h
  obtain ⟨-, ⟨q1, q2, q3⟩, -, q5⟩ := id hC
  obtain ⟨⟨l1, l2⟩, l3, l4, l5⟩ := id hL
  obtain ⟨tn, t1, t2, t3, t4⟩ := id hT
  obtain ⟨ra, rx, r1, r2, r3, r4, r5, r6⟩ := id hR
  obtain ⟨r, th1, e8, e9⟩ := op_count (m.1 0) a1 (fun r hr => ⟨(hRo r hr).1, (hRo r hr).2.1⟩) (t2.trans t3.symm) q2 q3 q1 l1 (r3.trans r4.symm) (fun w hw => (l3 w hw).1) (fun w h1 h2 => ((l3 w h2).2.2.2.2 h1).1) (fun i hi => (l4 i hi).1)
  refine ⟨r, _, _, by simp only [F8_count, e8, bd_s] <;> rfl, by simp only [F9_count, e9, bd_s] <;> rfl, ?_⟩
  exact ⟨hRo, hs, hl, hT, hTr, ImgR_mono hI (BB_le j), n, hC, LedR_mono hL (BB_le j), RingR_mono hR (BB_le j)⟩
theorem ops_status (j : Nat) (c : CS) (m : MS)  (hj : j < 512) (h : INV j c m) : ∃ (r : Int32) (c1 : CS) (m1 : MS), F8_status c  = some (r, c1) ∧ F9_status m  = some (r, m1) ∧ INV (j + 1) c1 m1 := by
  obtain ⟨hRo, hs, hl, hT, hTr, hI, n, hC, hL, hR⟩ := h
  obtain ⟨r, e8, e9⟩ : ∃ r, f_X8_status (c.1 1) = some r ∧ f_X9_status (m.1 0) (m.1 1) = some (r, 0) := ⟨c.1 1, rfl, by rw [hs] <;> rfl⟩
  refine ⟨r, _, _, by simp only [F8_status, e8, bd_s] <;> rfl, by simp only [F9_status, e9, bd_s] <;> rfl, ?_⟩
  exact ⟨hRo, hs, hl, hT, hTr, ImgR_mono hI (BB_le j), n, hC, LedR_mono hL (BB_le j), RingR_mono hR (BB_le j)⟩
theorem INV_ops : OPS INV := ⟨INV_mono, ops_row, ops_set, ops_copy, ops_drop, ops_feed, ops_bay, ops_fault, ops_hours, ops_lend, ops_pay, ops_storm, ops_settle, ops_undo, ops_water, ops_owes, ops_ahead, ops_sail, ops_net, ops_least, ops_run, ops_frauds, ops_image, ops_restore, ops_kind, ops_as, ops_ask, ops_trace, ops_count, ops_status⟩
theorem INV_0 : INV 0 c0S m0S := by
  refine ⟨fun r hr => ⟨?_, ?_, rfl, ⟨0, by omega, rfl⟩, fun _ _ => rfl⟩, rfl, rfl, ⟨0, by omega, rfl, rfl, fun k hk => absurd hk (by omega)⟩, ⟨rfl, 0, by omega, rfl, fun k hk => absurd hk (by omega)⟩, fun k hk => ⟨rfl, Or.inl rfl⟩, 0, ⟨⟨rfl, Or.inr ⟨rfl, rfl⟩⟩, ⟨rfl, rfl, by omega⟩, fun h hh => ⟨rfl, 0, by omega, rfl⟩, fun w hw => absurd hw (by omega)⟩, ⟨⟨rfl, 0, by omega, rfl⟩, fun w hw => ⟨rfl, ⟨0, by omega, rfl⟩, rfl, ⟨0, by omega, rfl⟩, fun _ => ⟨rfl, rfl⟩⟩, fun i hi => ⟨rfl, 0, by omega, rfl⟩, fun _ _ _ _ _ => rfl⟩, 0, 0, by omega, by omega, rfl, rfl, rfl, fun t ht => absurd ht (by omega)⟩
  · rcases (show r = 0 ∨ r = 1 ∨ r = 2 ∨ r = 3 ∨ r = 4 ∨ r = 5 ∨ r = 6 ∨ r = 7 by omega) with rfl | rfl | rfl | rfl | rfl | rfl | rfl | rfl <;> rfl
  · rcases (show r = 0 ∨ r = 1 ∨ r = 2 ∨ r = 3 ∨ r = 4 ∨ r = 5 ∨ r = 6 ∨ r = 7 by omega) with rfl | rfl | rfl | rfl | rfl | rfl | rfl | rfl <;> exact Or.inl rfl
