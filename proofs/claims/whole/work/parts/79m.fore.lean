/-! ===== foretold: ahead, sail ===== -/
theorem bad2 {p : Int32} {lo hi : Nat} (l h : Int32) (e1 : l.toInt = lo) (e2 : h.toInt = hi) (hk : p.toInt < lo ∨ (hi : Int) < p.toInt) : p < l ∨ (¬ p < l ∧ h < p) := by
  by_cases c : p < l
  · exact Or.inl c
  · have c' : ¬ p.toInt < l.toInt := fun q => c (i32_lt.mpr q)
    exact Or.inr ⟨c, i32_lt.mpr (by omega)⟩
theorem not_le_lt {p h : Int32} (c : h < p) : ¬ p ≤ h := fun q => by
  have q1 := i32_le.mp q
  have q2 := i32_lt.mp c
  omega
theorem lt_lit {k m : Nat} (hk : k < 2 ^ 31) (hm : m < 2 ^ 31) (h : m ≤ k) : ¬ nI k < nI m := by
  rw [nI_ltI hk hm]; omega
theorem hours_F {n N : Nat} {sta wat : Int32} {lev kin sil bay : Nat → Int32} (hN : N ≤ 1000) (hC : ChartR n sta wat lev kin sil bay) : ∀ (m i f g B : Nat) (hour : Int32) (dep arr deb thn : Nat → Int32), i + m = N → m < f → m < g → B + 40 * m < 2 ^ 29 → LedR B n hour dep arr deb thn →
    ∃ hour' dep' arr' deb' thn', f_X3_passHours_L2 wat lev kin sil (nI N) f hour dep arr deb (nI i) = some (hour', dep', arr', deb') ∧ f_X9_ahead_L47 bay (nI N) g thn (nI i) = some thn' ∧ LedR (B + 40 * m) n hour' dep' arr' deb' thn' := by
  intro m
  induction m with
  | zero =>
    intro i f g B hour dep arr deb thn hi hf hg hB hL
    obtain ⟨f, rfl⟩ : ∃ f', f = f' + 1 := ⟨f - 1, by omega⟩
    obtain ⟨g, rfl⟩ : ∃ f', g = f' + 1 := ⟨g - 1, by omega⟩
    have c : nI N ≤ nI i := by rw [nI_leI (by omega) (by omega)]; omega
    exact ⟨_, _, _, _, _, by rw [f_X3_passHours_L2_s, if_pos c], by rw [f_X9_ahead_L47_s, if_pos c], hL⟩
  | succ m ih =>
    intro i f g B hour dep arr deb thn hi hf hg hB hL
    obtain ⟨f, rfl⟩ : ∃ f', f = f' + 1 := ⟨f - 1, by omega⟩
    obtain ⟨g, rfl⟩ : ∃ f', g = f' + 1 := ⟨g - 1, by omega⟩
    have c : ¬ nI N ≤ nI i := by rw [nI_leI (by omega) (by omega)]; omega
    obtain ⟨dep2, arr2, deb2, thn2, h8, h9, hL2, -, -⟩ := hour_R hC hL (by omega)
    obtain ⟨hour', dep', arr', deb', thn', j1, j2, j3⟩ := ih (i + 1) f g (B + 40) (hour + 1) dep2 arr2 deb2 thn2 (by omega) (by omega) (by omega) (by omega) hL2
    refine ⟨hour', dep', arr', deb', thn', ?_, ?_, LedR_mono j3 (by omega)⟩
    · rw [f_X3_passHours_L2_s, if_neg c, h8, bd_s, nI_1]
      exact j1
    · rw [f_X9_ahead_L47_s, if_neg c, h9, bd_s, nI_1]
      exact j2
theorem owed9_L {deb bay thn : Nat → Int32} {n a : Nat} (hn : n ≤ 6) (hb : bay 1 = nI n) (ha : a < 6) (ho : ∀ i, i < 36 → deb i = thn (39 + i)) : ∀ (m i f : Nat), i + m = n → m < f → f_X9_ahead_L69 bay thn (nI a) f (sm (fun k => deb (6 * a + k)) i) (nI i) = some (sm (fun k => deb (6 * a + k)) n) := by
  intro m
  induction m with
  | zero =>
    intro i f hi hf
    obtain ⟨f, rfl⟩ : ∃ f', f = f' + 1 := ⟨f - 1, by omega⟩
    rw [f_X9_ahead_L69_s, hb, if_pos (by rw [nI_leI (by omega) (by omega)]; omega), show i = n by omega]
  | succ m ih =>
    intro i f hi hf
    obtain ⟨f, rfl⟩ : ∃ f', f = f' + 1 := ⟨f - 1, by omega⟩
    rw [f_X9_ahead_L69_s, hb, if_neg (by rw [nI_leI (by omega) (by omega)]; omega), debt9, bd_s, gd_k (inb_nI (by omega) (by decide)), ix_nI (by omega), ← ho _ (by omega), nI_1]
    exact ih (i + 1) f (by omega) (by omega)
theorem owed9 {deb bay thn : Nat → Int32} {n a : Nat} (hn : n ≤ 6) (hb : bay 1 = nI n) (ha : a < n) (ho : ∀ i, i < 36 → deb i = thn (39 + i)) (hz : ∀ a b, a < 6 → b < 6 → n ≤ a ∨ n ≤ b ∨ a = b → deb (6 * a + b) = 0) : f_X9_ahead_L69 bay thn (nI a) 2000 0 0 = f_X3_owedBy deb (nI a) := by
  have e := owed9_L hn hb (show a < 6 by omega) ho n 0 2000 (by omega) (by omega)
  have s1 := sm_zero (f := fun k => deb (6 * a + k)) (n := n) (fun k h1 h2 => hz a k (by omega) h2 (Or.inr (Or.inl h1))) (6 - n) (by omega)
  rw [show n + (6 - n) = 6 by omega] at s1
  rw [owed8 (by omega), s1]
  exact e
theorem op_ahead {B n : Nat} {sta wat : Int32} {lev kin sil : Nat → Int32} {hour : Int32} {dep arr deb bay : Nat → Int32} (thrown fhour : Int32) (fdep farr fdeb thn : Nat → Int32) (p1 p2 p3 : Int32) (hB : B < 2 ^ 28) (hC : ChartR n sta wat lev kin sil bay) (hL : LedR B n hour dep arr deb bay) :
    ∃ r fhour' fdep' farr' fdeb' thrown' thn', f_X8_ahead wat lev kin sil hour dep arr deb fhour fdep farr fdeb p1 p2 p3 = some (r, fhour', fdep', farr', fdeb') ∧ f_X9_ahead thrown bay thn p1 p2 p3 = some (r, thrown', thn') := by
  obtain ⟨-, ⟨c1, hw, hn⟩, -, -⟩ := id hC
  rw [hw] at c1
  rcases place p1 n (by omega) with ⟨w, hwn, rfl⟩ | h
  · have i8 : f_X8_isWater wat (nI w) = some 1 := by rw [hw]; exact isW8 hn hwn
    have i9 := isW9 hn c1 hwn
    rcases rng p2 0 48 0 48 rfl rfl (by decide) with ⟨k, hk1, hk2, rfl, e2⟩ | ⟨e2, hk⟩
    · have k1 : ¬ nI k < 0 := nI_pos (by omega)
      have k2 : ¬ 48 < nI k := lt_lit (k := 48) (by decide) (by omega) (by omega)
      rcases rng p3 0 2 0 2 rfl rfl (by decide) with ⟨t, ht1, ht2, rfl, e3⟩ | ⟨e3, ht⟩
      · have t1 : ¬ nI t < 0 := nI_pos (by omega)
        have t2 : nI t ≤ 2 := by rw [show (2 : Int32) = nI 2 from rfl, nI_leI (by omega) (by omega)]; omega
        obtain ⟨thn1, y1, y2⟩ := lay9 bay thn
        have L1 := LedR_g (LedR_f (dep' := va_cpy dep fdep 0 0 6) (arr' := va_cpy arr farr 0 0 6) (deb' := va_cpy deb fdeb 0 0 36) hL (fun w hw => cpy0 _ _ hw) (fun w hw => cpy0 _ _ hw) (fun w hw => cpy0 _ _ hw)) y2
        obtain ⟨hour', dep', arr', deb', thn', j1, j2, j3⟩ := hours_F (show k ≤ 1000 by omega) hC k 0 2000 2000 B hour _ _ _ thn1 (by omega) (by omega) (by omega) (by omega) L1
        rw [show nI 0 = 0 from rfl] at j1 j2
        obtain ⟨-, m3, m4, m5⟩ := id j3
        have o9 := owed9 hn c1 hwn (fun i hi => (m4 i hi).1) m5
        have o8 := owed8 (deb := deb') (show w < 6 by omega)
        rw [o8] at o9
        obtain ⟨q1, -, q2, -⟩ := m3 w (by omega)
        have g1 : ∀ {α : Type} (x : Option α), gd (inb (nI w) 6) x = x := fun x => gd_k (inb_nI (by omega) (by decide)) x
        have g2 : ∀ (k : Nat), k < 19 → ∀ {α : Type} (x : Option α), gd (inb (nI (k + 4 * w)) 75) x = x := fun k hk {α} x => gd_k (inb_nI (by omega) (by decide)) x
        have x1 := ix_nI (show w < 2 ^ 31 by omega)
        rcases (show t = 0 ∨ t = 1 ∨ t = 2 by omega) with rfl | rfl | rfl
        · exact ⟨dep' w, _, _, _, _, 0, _, by simp only [f_X8_ahead, i8, bd_s, if10, if_neg k1, if_neg k2, if_neg t1, if_pos t2, f_X3_takeFrom, f_X3_passHours, j1, if_neg (show ¬ nI 0 = 2 by decide), if_neg (show ¬ nI 0 = 1 by decide), g1, x1] <;> rfl, by simp only [f_X9_ahead, i9, bd_s, if10, e2, e3, y1, j2, o9, if_neg (show ¬ nI 0 = 2 by decide), show (1 : Int32) + nI 0 = 1 from rfl, at1, g2 16 (by decide), ix_nI (show 16 + 4 * w < 2 ^ 31 by omega), q1] <;> rfl⟩
        · exact ⟨arr' w, _, _, _, _, 0, _, by simp only [f_X8_ahead, i8, bd_s, if10, if_neg k1, if_neg k2, if_neg t1, if_pos t2, f_X3_takeFrom, f_X3_passHours, j1, if_neg (show ¬ nI 1 = 2 by decide), if_pos (show nI 1 = 1 from rfl), g1, x1] <;> rfl, by simp only [f_X9_ahead, i9, bd_s, if10, e2, e3, y1, j2, o9, if_neg (show ¬ nI 1 = 2 by decide), show (1 : Int32) + nI 1 = 2 from rfl, at2, g2 17 (by decide), ix_nI (show 17 + 4 * w < 2 ^ 31 by omega), q2] <;> rfl⟩
        · exact ⟨sm (fun k => deb' (6 * w + k)) 6, _, _, _, _, 0, _, by simp only [f_X8_ahead, i8, bd_s, if10, if_neg k1, if_neg k2, if_neg t1, if_pos t2, f_X3_takeFrom, f_X3_passHours, j1, if_pos (show nI 2 = 2 from rfl), o8] <;> rfl, by simp only [f_X9_ahead, i9, bd_s, if10, e2, e3, y1, j2, o9, if_pos (show nI 2 = 2 from rfl)] <;> rfl⟩
      · have e9 : f_X9_ahead thrown bay thn (nI w) (nI k) p3 = some (-1000001, 0, thn) := by simp only [f_X9_ahead, i9, bd_s, if10, e2, e3, if_true]
        refine ⟨-1000001, fhour, fdep, farr, fdeb, 0, thn, ?_, e9⟩
        rcases bad2 (0 : Int32) (2 : Int32) rfl rfl ht with q | ⟨q, q'⟩
        · simp only [f_X8_ahead, i8, bd_s, if10, if_neg k1, if_neg k2, if_pos q]
        · simp only [f_X8_ahead, i8, bd_s, if10, if_neg k1, if_neg k2, if_neg q, if_neg (not_le_lt q')]
    · have e9 : f_X9_ahead thrown bay thn (nI w) p2 p3 = some (-1000001, 0, thn) := by simp only [f_X9_ahead, i9, bd_s, if10, e2, if_true]
      refine ⟨-1000001, fhour, fdep, farr, fdeb, 0, thn, ?_, e9⟩
      rcases bad2 (0 : Int32) (48 : Int32) rfl rfl hk with q | ⟨q, q'⟩
      · simp only [f_X8_ahead, i8, bd_s, if10, if_pos q]
      · simp only [f_X8_ahead, i8, bd_s, if10, if_neg q, if_pos q']
  · have i8 : f_X8_isWater wat p1 = some 0 := by rw [hw]; exact isW8_no hn h
    have i9 := isW9_no hn c1 h
    exact ⟨-1000001, fhour, fdep, farr, fdeb, 0, thn, by simp only [f_X8_ahead, i8, bd_s, if_true] <;> rfl, by simp only [f_X9_ahead, i9, bd_s, if_true] <;> rfl⟩
theorem deep_L {n F T w : Nat} {sta wat d : Int32} {lev kin sil bay : Nat → Int32} (hT : T ≤ 1000) (hw : w < n) (hC : ChartR n sta wat lev kin sil bay) : ∀ (m i f g B : Nat) (hour : Int32) (dep arr deb thn : Nat → Int32), i + m = T + 1 → F ≤ i → m < f → m < g → B + 40 * m < 2 ^ 29 → LedR B n hour dep arr deb thn →
    ∃ r hour' dep' arr' deb' thn', f_X8_firstDeepHour_L32 wat lev kin sil (nI w) d (nI T) f hour dep arr deb (nI i) = some (r, hour', dep', arr', deb') ∧ f_X9_deepFrom_L7 bay (nI w) d (nI F) (nI T) g thn (nI i) = some (r, thn') ∧ (r = -1000000 ∨ ∃ k, k ≤ T ∧ r = nI k) := by
  obtain ⟨-, ⟨-, -, hn⟩, -, -⟩ := id hC
  intro m
  induction m with
  | zero =>
    intro i f g B hour dep arr deb thn hi hF hf hg hB hL
    obtain ⟨f, rfl⟩ : ∃ f', f = f' + 1 := ⟨f - 1, by omega⟩
    obtain ⟨g, rfl⟩ : ∃ f', g = f' + 1 := ⟨g - 1, by omega⟩
    have c : nI T < nI i := by rw [nI_ltI (by omega) (by omega)]; omega
    exact ⟨-1000000, _, _, _, _, _, by rw [f_X8_firstDeepHour_L32_s, if_pos c], by rw [f_X9_deepFrom_L7_s, if_pos c], Or.inl rfl⟩
  | succ m ih =>
    intro i f g B hour dep arr deb thn hi hF hf hg hB hL
    obtain ⟨f, rfl⟩ : ∃ f', f = f' + 1 := ⟨f - 1, by omega⟩
    obtain ⟨g, rfl⟩ : ∃ f', g = f' + 1 := ⟨g - 1, by omega⟩
    have c : ¬ nI T < nI i := by rw [nI_ltI (by omega) (by omega)]; omega
    have c2 : ¬ nI i < nI F := by rw [nI_ltI (by omega) (by omega)]; omega
    obtain ⟨-, l3, -, -⟩ := id hL
    have e := (l3 w (by omega)).1
    by_cases q : dep w < d
    · obtain ⟨dep2, arr2, deb2, thn2, h8, h9, hL2, -, -⟩ := hour_R hC hL (by omega)
      obtain ⟨r, hour', dep', arr', deb', thn', j1, j2, j3⟩ := ih (i + 1) f g (B + 40) (hour + 1) dep2 arr2 deb2 thn2 (by omega) (by omega) (by omega) (by omega) (by omega) hL2
      refine ⟨r, hour', dep', arr', deb', thn', ?_, ?_, j3⟩
      · rw [f_X8_firstDeepHour_L32_s, if_neg c, gd_k (inb_nI (by omega) (by decide)), ix_nI (by omega), if_pos q, h8, bd_s, nI_1]
        exact j1
      · rw [f_X9_deepFrom_L7_s, if_neg c, if_neg c2, at1, bd_s, gd_k (inb_nI (by omega) (by decide)), ix_nI (by omega), ← e, if_pos q, h9, bd_s, nI_1]
        exact j2
    · refine ⟨nI i, hour, dep, arr, deb, thn, ?_, ?_, Or.inr ⟨i, by omega, rfl⟩⟩
      · rw [f_X8_firstDeepHour_L32_s, if_neg c, gd_k (inb_nI (by omega) (by decide)), ix_nI (by omega), if_neg q]
      · rw [f_X9_deepFrom_L7_s, if_neg c, if_neg c2, at1, bd_s, gd_k (inb_nI (by omega) (by decide)), ix_nI (by omega), ← e, if_neg q]
theorem pre_L {n F T : Nat} {x1 d : Int32} {sta wat : Int32} {lev kin sil bay : Nat → Int32} (hT : T ≤ 1000) (hF : F ≤ T) (hC : ChartR n sta wat lev kin sil bay) : ∀ (m i f g B : Nat) (hour : Int32) (dep arr deb thn : Nat → Int32), i + m = F → m < f → B + 40 * m < 2 ^ 29 → LedR B n hour dep arr deb thn →
    ∃ hour' dep' arr' deb' thn', f_X3_passHours_L2 wat lev kin sil (nI F) f hour dep arr deb (nI i) = some (hour', dep', arr', deb') ∧ f_X9_deepFrom_L7 bay x1 d (nI F) (nI T) (g + m) thn (nI i) = f_X9_deepFrom_L7 bay x1 d (nI F) (nI T) g thn' (nI F) ∧ LedR (B + 40 * m) n hour' dep' arr' deb' thn' := by
  intro m
  induction m with
  | zero =>
    intro i f g B hour dep arr deb thn hi hf hB hL
    obtain ⟨f, rfl⟩ : ∃ f', f = f' + 1 := ⟨f - 1, by omega⟩
    have c : nI F ≤ nI i := by rw [nI_leI (by omega) (by omega)]; omega
    exact ⟨_, _, _, _, _, by rw [f_X3_passHours_L2_s, if_pos c], by rw [show i = F by omega] <;> rfl, hL⟩
  | succ m ih =>
    intro i f g B hour dep arr deb thn hi hf hB hL
    obtain ⟨f, rfl⟩ : ∃ f', f = f' + 1 := ⟨f - 1, by omega⟩
    have c : ¬ nI F ≤ nI i := by rw [nI_leI (by omega) (by omega)]; omega
    have c1 : ¬ nI T < nI i := by rw [nI_ltI (by omega) (by omega)]; omega
    have c2 : nI i < nI F := by rw [nI_ltI (by omega) (by omega)]; omega
    obtain ⟨dep2, arr2, deb2, thn2, h8, h9, hL2, -, -⟩ := hour_R hC hL (by omega)
    obtain ⟨hour', dep', arr', deb', thn', j1, j2, j3⟩ := ih (i + 1) f g (B + 40) (hour + 1) dep2 arr2 deb2 thn2 (by omega) (by omega) (by omega) hL2
    refine ⟨hour', dep', arr', deb', thn', ?_, ?_, LedR_mono j3 (by omega)⟩
    · rw [f_X3_passHours_L2_s, if_neg c, h8, bd_s, nI_1]
      exact j1
    · rw [← Nat.add_assoc, f_X9_deepFrom_L7_s, if_neg c1, if_pos c2, h9, bd_s, nI_1]
      exact j2
theorem deep_R {B n F T w : Nat} {sta wat d : Int32} {lev kin sil bay : Nat → Int32} {hour : Int32} {dep arr deb : Nat → Int32} (fhour : Int32) (fdep farr fdeb thn : Nat → Int32) (hT : T ≤ 1000) (hF : F ≤ T) (hw : w < n) (hB : B < 2 ^ 28) (hC : ChartR n sta wat lev kin sil bay) (hL : LedR B n hour dep arr deb bay) :
    ∃ r hour' dep' arr' deb' thn', f_X8_firstDeepHour wat lev kin sil hour dep arr deb fhour fdep farr fdeb (nI w) d (nI F) (nI T) = some (r, hour', dep', arr', deb') ∧ f_X9_deepFrom bay thn (nI w) d (nI F) (nI T) = some (r, thn') ∧ (r = -1000000 ∨ ∃ k, k ≤ T ∧ r = nI k) := by
  obtain ⟨thn1, y1, y2⟩ := lay9 bay thn
  have L1 := LedR_g (LedR_f (dep' := va_cpy dep fdep 0 0 6) (arr' := va_cpy arr farr 0 0 6) (deb' := va_cpy deb fdeb 0 0 36) hL (fun w hw => cpy0 _ _ hw) (fun w hw => cpy0 _ _ hw) (fun w hw => cpy0 _ _ hw)) y2
  obtain ⟨hour1, dep1, arr1, deb1, thn2, j1, j2, j3⟩ := pre_L (x1 := nI w) (d := d) hT hF hC F 0 2000 (2000 - F) B hour _ _ _ thn1 (by omega) (by omega) (by omega) L1
  rw [show nI 0 = 0 from rfl, show 2000 - F + F = 2000 by omega] at j2
  rw [show nI 0 = 0 from rfl] at j1
  obtain ⟨r, hour', dep', arr', deb', thn', k1, k2, k3⟩ := deep_L (F := F) (d := d) hT hw hC (T + 1 - F) F 2000 (2000 - F) (B + 40 * F) hour1 dep1 arr1 deb1 thn2 (by omega) (by omega) (by omega) (by omega) (by omega) j3
  exact ⟨r, hour', dep', arr', deb', thn', by simp only [f_X8_firstDeepHour, f_X3_takeFrom, bd_s, f_X3_passHours, j1, k1] <;> rfl, by simp only [f_X9_deepFrom, y1, bd_s, j2, k2] <;> rfl, k3⟩
theorem op_sail {B n : Nat} {sta wat : Int32} {lev kin sil : Nat → Int32} {hour : Int32} {dep arr deb bay : Nat → Int32} (thrown fhour : Int32) (fdep farr fdeb thn : Nat → Int32) (p1 p2 p3 p4 : Int32) (hB : B < 2 ^ 28) (hC : ChartR n sta wat lev kin sil bay) (hL : LedR B n hour dep arr deb bay) :
    ∃ r fhour' fdep' farr' fdeb' thrown' thn', f_X8_sail wat lev kin sil hour dep arr deb fhour fdep farr fdeb p1 p2 p3 p4 = some (r, fhour', fdep', farr', fdeb') ∧ f_X9_sail thrown bay thn p1 p2 p3 p4 = some (r, thrown', thn') := by
  obtain ⟨-, ⟨c1, hw, hn⟩, -, -⟩ := id hC
  rw [hw] at c1
  rcases place p1 n (by omega) with ⟨w, hwn, rfl⟩ | h
  rotate_left
  · have i8 : f_X8_isWater wat p1 = some 0 := by rw [hw]; exact isW8_no hn h
    have i9 := isW9_no hn c1 h
    exact ⟨-1000001, fhour, fdep, farr, fdeb, 0, thn, by simp only [f_X8_sail, i8, bd_s, if_true] <;> rfl, by simp only [f_X9_sail, i9, bd_s, if_true] <;> rfl⟩
  have i8 : f_X8_isWater wat (nI w) = some 1 := by rw [hw]; exact isW8 hn hwn
  have i9 := isW9 hn c1 hwn
  rcases rng p2 0 999 0 999 rfl rfl (by decide) with ⟨d, hd1, hd2, rfl, e2⟩ | ⟨e2, hd⟩
  rotate_left
  · refine ⟨-1000001, fhour, fdep, farr, fdeb, 0, thn, ?_, by simp only [f_X9_sail, i9, bd_s, if10, e2, if_true] <;> rfl⟩
    rcases bad2 (0 : Int32) (999 : Int32) rfl rfl hd with q | ⟨q, q'⟩
    · simp only [f_X8_sail, i8, bd_s, if10, if_pos q]
    · simp only [f_X8_sail, i8, bd_s, if10, if_neg q, if_pos q']
  have d1 : ¬ nI d < 0 := nI_pos (by omega)
  have d2 : ¬ 999 < nI d := lt_lit (k := 999) (by decide) (by omega) (by omega)
  rcases rng p3 1 24 1 24 rfl rfl (by decide) with ⟨m, hm1, hm2, rfl, e3⟩ | ⟨e3, hm⟩
  rotate_left
  · refine ⟨-1000001, fhour, fdep, farr, fdeb, 0, thn, ?_, by simp only [f_X9_sail, i9, bd_s, if10, e2, e3, if_true] <;> rfl⟩
    rcases bad2 (1 : Int32) (24 : Int32) rfl rfl hm with q | ⟨q, q'⟩
    · simp only [f_X8_sail, i8, bd_s, if10, if_neg d1, if_neg d2, if_pos q]
    · simp only [f_X8_sail, i8, bd_s, if10, if_neg d1, if_neg d2, if_neg q, if_pos q']
  have m1 : ¬ nI m < 1 := lt_lit (m := 1) (by omega) (by decide) (by omega)
  have m2 : ¬ 24 < nI m := lt_lit (k := 24) (by decide) (by omega) (by omega)
  rcases rng p4 0 1 0 1 rfl rfl (by decide) with ⟨t, ht1, ht2, rfl, e4⟩ | ⟨e4, ht⟩
  rotate_left
  · refine ⟨-1000001, fhour, fdep, farr, fdeb, 0, thn, ?_, by simp only [f_X9_sail, i9, bd_s, if10, e2, e3, e4, if_true] <;> rfl⟩
    rcases bad2 (0 : Int32) (1 : Int32) rfl rfl ht with q | ⟨q, q'⟩
    · simp only [f_X8_sail, i8, bd_s, if10, if_neg d1, if_neg d2, if_neg m1, if_neg m2, if_pos q]
    · simp only [f_X8_sail, i8, bd_s, if10, if_neg d1, if_neg d2, if_neg m1, if_neg m2, if_neg q, if_neg (not_le_lt q')]
  have t1 : ¬ nI t < 0 := nI_pos (by omega)
  have t2 : nI t ≤ 1 := by rw [show (1 : Int32) = nI 1 from rfl, nI_leI (by omega) (by omega)]; omega
  obtain ⟨r, hour1, dep1, arr1, deb1, thn1, k1, k2, k3⟩ := deep_R (d := nI d) (F := 0) (T := 24) fhour fdep farr fdeb thn (by decide) (by decide) hwn hB hC hL
  rw [show nI 0 = 0 from rfl, show nI 24 = 24 from rfl] at k1 k2
  by_cases t0 : t = 0
  · have z : nI t = 0 := by rw [t0] <;> rfl
    exact ⟨r, _, _, _, _, 0, _, by simp only [f_X8_sail, i8, bd_s, if10, if_neg d1, if_neg d2, if_neg m1, if_neg m2, if_neg t1, if_pos t2, k1, if_pos z] <;> rfl, by simp only [f_X9_sail, i9, bd_s, if10, e2, e3, e4, k2, if_pos z] <;> rfl⟩
  · have z : ¬ nI t = 0 := nI_ne0 (by omega) (by omega)
    by_cases rn : r = -1000000
    · exact ⟨r, _, _, _, _, 0, _, by simp only [f_X8_sail, i8, bd_s, if10, if_neg d1, if_neg d2, if_neg m1, if_neg m2, if_neg t1, if_pos t2, k1, if_neg z, if_pos rn] <;> rfl, by simp only [f_X9_sail, i9, bd_s, if10, e2, e3, e4, k2, if_neg z, if_pos rn] <;> rfl⟩
    · obtain ⟨k, hk, rfl⟩ : ∃ k, k ≤ 24 ∧ r = nI k := by
        rcases k3 with q | q
        · exact absurd q rn
        · exact q
      obtain ⟨r2, hour2, dep2, arr2, deb2, thn2, v1, v2, -⟩ := deep_R (d := nI d) (F := k + m) (T := 48) hour1 dep1 arr1 deb1 thn1 (by decide) (by omega) hwn hB hC hL
      rw [← nI_add, show nI 48 = 48 from rfl] at v1 v2
      exact ⟨r2, _, _, _, _, 0, _, by simp only [f_X8_sail, i8, bd_s, if10, if_neg d1, if_neg d2, if_neg m1, if_neg m2, if_neg t1, if_pos t2, k1, if_neg z, if_neg rn, v1] <;> rfl, by simp only [f_X9_sail, i9, bd_s, if10, e2, e3, e4, k2, if_neg z, if_neg rn, v2] <;> rfl⟩
