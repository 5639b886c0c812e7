/-! ===== storm, undo, hours ===== -/
theorem lN_32 {j : Nat} (h : j < 2 ^ 31) : (lN j).toInt32 = nI j := by
  apply Int32.toInt_inj.mp
  rw [Int64.toInt_toInt32, pk_lT (by omega), nI_toInt h]
  exact Int.bmod_eq_of_le (by omega) (by omega)
theorem LedR_both {B n : Nat} {hour : Int32} {dep arr deb g : Nat → Int32} {w k : Nat} (h : LedR B n hour dep arr deb g) (hn : n ≤ 6) (hw : w < n) : LedR (B + k) n hour (upd dep w (dep w + nI k)) (upd arr w (arr w + nI k)) deb (upd (upd g (16 + 4 * w) (g (16 + 4 * w) + nI k)) (17 + 4 * w) (upd g (16 + 4 * w) (g (16 + 4 * w) + nI k) (17 + 4 * w) + nI k)) := by
  obtain ⟨⟨h1, h0, h2, rfl⟩, h3, h4, h5⟩ := h
  refine ⟨⟨?_, h0, by omega, rfl⟩, fun v hv => ?_, fun i hi => ?_, h5⟩
  · rw [upd_n _ _ (by omega), upd_n _ _ (by omega)]; exact h1
  · obtain ⟨x1, ⟨x, hx, ex⟩, x2, ⟨y, hy, ey⟩, hz⟩ := h3 v hv
    by_cases c : v = w
    · subst c
      rw [upd_s, upd_s, upd_s, upd_n _ _ (show 16 + 4 * v ≠ 17 + 4 * v by omega), upd_s, upd_n _ _ (show 17 + 4 * v ≠ 16 + 4 * v by omega), ← x1, ← x2, ex, ey, nI_add, nI_add]
      exact ⟨rfl, ⟨x + k, by omega, rfl⟩, rfl, ⟨y + k, by omega, rfl⟩, fun q => absurd q (by omega)⟩
    · rw [upd_n _ _ c, upd_n _ _ c, upd_n _ _ (by omega), upd_n _ _ (by omega), upd_n _ _ (by omega), upd_n _ _ (by omega)]
      exact ⟨x1, ⟨x, by omega, ex⟩, x2, ⟨y, by omega, ey⟩, hz⟩
  · rw [upd_n _ _ (by omega), upd_n _ _ (by omega)]; exact h4 i hi
theorem storm_L {n : Nat} {sta wat : Int32} {lev kin sil : Nat → Int32} {hour : Int32} {deb : Nat → Int32} (hn : n ≤ 6) : ∀ (m i f g B s : Nat) (dep arr bay : Nat → Int32) (t : Int32), i + m = n → m < f → m < g → s < 2147483647 → ChartR n sta wat lev kin sil bay → LedR B n hour dep arr deb bay →
    ∃ dep' arr' bay' t', f_X3_advance_L9 (nI n) f dep arr (lN s) t (nI i) = some (dep', arr', t') ∧ f_X9_storm_L43 g bay (lN s) t (nI i) = some (bay', t') ∧ ChartR n sta wat lev kin sil bay' ∧ LedR (B + 8 * m) n hour dep' arr' deb bay' := by
  intro m
  induction m with
  | zero =>
    intro i f g B s dep arr bay t hi hf hg hs hC hL
    obtain ⟨f, rfl⟩ : ∃ f', f = f' + 1 := ⟨f - 1, by omega⟩
    obtain ⟨g, rfl⟩ : ∃ f', g = f' + 1 := ⟨g - 1, by omega⟩
    obtain ⟨-, ⟨c1, c2, -⟩, -, -⟩ := id hC
    refine ⟨dep, arr, bay, t, ?_, ?_, hC, hL⟩
    · rw [f_X3_advance_L9_s, if_pos (by rw [nI_leI (by omega) (by omega)]; omega)]
    · rw [f_X9_storm_L43_s, c1, c2, if_pos (by rw [nI_leI (by omega) (by omega)]; omega)]
  | succ m ih =>
    intro i f g B s dep arr bay t hi hf hg hs hC hL
    obtain ⟨f, rfl⟩ : ∃ f', f = f' + 1 := ⟨f - 1, by omega⟩
    obtain ⟨g, rfl⟩ : ∃ f', g = f' + 1 := ⟨g - 1, by omega⟩
    obtain ⟨-, ⟨c1, c2, -⟩, -, -⟩ := id hC
    have hs2 := Nat.mod_lt (s * 16807) (show 0 < 2147483647 by decide)
    have e1 : lN s * 16807 - lN s * 16807 / 2147483647 * 2147483647 = lN (s * 16807 % 2147483647) := by
      rw [show (16807 : Int64) = lN 16807 from rfl, show (2147483647 : Int64) = lN 2147483647 from rfl, lN_mul, pk_lRem (by omega) (by decide) (by decide)]
    generalize es : s * 16807 % 2147483647 = s' at e1 hs2
    have hj := Nat.mod_lt s' (show 0 < 9 by decide)
    have e2 : (lN s' - lN s' / 9 * 9).toInt32 = nI (s' % 9) := by
      rw [show (9 : Int64) = lN 9 from rfl, pk_lRem (by omega) (by decide) (by decide), lN_32 (by omega)]
    generalize s' % 9 = j at e2 hj
    have hC' : ChartR n sta wat lev kin sil (upd (upd bay (16 + 4 * i) (bay (16 + 4 * i) + nI j)) (17 + 4 * i) (upd bay (16 + 4 * i) (bay (16 + 4 * i) + nI j) (17 + 4 * i) + nI j)) := ChartR_c hC (fun q h1 h2 h3 => by rw [upd_n _ _ (h3 i (by omega)).2, upd_n _ _ (h3 i (by omega)).1])
    obtain ⟨dep', arr', bay', t', k1, k2, k3, k4⟩ := ih (i + 1) f g (B + j) s' _ _ _ (t + nI j) (by omega) (by omega) (by omega) hs2 hC' (LedR_both (k := j) hL hn (show i < n by omega))
    refine ⟨dep', arr', bay', t', ?_, ?_, k3, LedR_mono k4 (by omega)⟩
    · rw [f_X3_advance_L9_s, if_neg (by rw [nI_leI (by omega) (by omega)]; omega)]
      simp only [nm]
      rw [e1, gd_k (inb_nI (by omega) (by decide)), ix_nI (by omega), e2, nI_1]
      exact k1
    · rw [f_X9_storm_L43_s, c1, c2, if_neg (by rw [nI_leI (by omega) (by omega)]; omega)]
      simp only [nm]
      rw [e1, at1, bd_s, gd_k (inb_nI (by omega) (by decide)), at2, bd_s, gd_k (inb_nI (by omega) (by decide)), ix_nI (by omega), ix_nI (by omega), e2, nI_1]
      exact k2
theorem op_storm {B n : Nat} {sta wat : Int32} {lev kin sil : Nat → Int32} {hour : Int32} {dep arr deb bay : Nat → Int32} {nxt kep : Int32} {r_hour : Nat → Int32} {r_dep r_arr r_deb : Nat → Nat → Int32} {acts : Int32} {was : Nat → Int32} (thrown p1 : Int32) (hB : B < 2 ^ 29) (hC : ChartR n sta wat lev kin sil bay) (hL : LedR B n hour dep arr deb bay) (hR : RingR B n sta wat lev kin sil nxt kep r_hour r_dep r_arr r_deb acts was) :
    ∃ r dep' arr' nxt' kep' r_hour' r_dep' r_arr' r_deb' thrown' acts' bay' was', f_X8_storm sta wat hour dep arr deb nxt kep r_hour r_dep r_arr r_deb p1 = some (r, dep', arr', nxt', kep', r_hour', r_dep', r_arr', r_deb') ∧ f_X9_storm thrown acts bay was p1 = some (r, thrown', acts', bay', was') ∧ ChartR n sta wat lev kin sil bay' ∧ LedR (B + 300000) n hour dep' arr' deb bay' ∧ RingR (B + 300000) n sta wat lev kin sil nxt' kep' r_hour' r_dep' r_arr' r_deb' acts' was' := by
  have stay : ∀ r, f_X8_storm sta wat hour dep arr deb nxt kep r_hour r_dep r_arr r_deb p1 = some (r, dep, arr, nxt, kep, r_hour, r_dep, r_arr, r_deb) → f_X9_storm thrown acts bay was p1 = some (r, 0, acts, bay, was) → ∃ r dep' arr' nxt' kep' r_hour' r_dep' r_arr' r_deb' thrown' acts' bay' was', f_X8_storm sta wat hour dep arr deb nxt kep r_hour r_dep r_arr r_deb p1 = some (r, dep', arr', nxt', kep', r_hour', r_dep', r_arr', r_deb') ∧ f_X9_storm thrown acts bay was p1 = some (r, thrown', acts', bay', was') ∧ ChartR n sta wat lev kin sil bay' ∧ LedR (B + 300000) n hour dep' arr' deb bay' ∧ RingR (B + 300000) n sta wat lev kin sil nxt' kep' r_hour' r_dep' r_arr' r_deb' acts' was' :=
    fun r e1 e2 => ⟨r, _, _, _, _, _, _, _, _, _, _, _, _, e1, e2, hC, LedR_mono hL (by omega), RingR_mono hR (by omega)⟩
  obtain ⟨⟨c0, cs⟩, ⟨c1, hw, hn⟩, -, -⟩ := id hC
  by_cases hs : sta = 0
  · have e9 : f_X9_isThere bay = some 0 := by unfold f_X9_isThere; rw [c0, hs] <;> rfl
    exact stay (-1000002) (by simp only [f_X8_storm, if_pos hs]) (by simp only [f_X9_storm, e9, bd_s, if_true])
  have e9 : f_X9_isThere bay = some 1 := by
    unfold f_X9_isThere
    rcases cs with q | q
    · rw [c0, q] <;> rfl
    · exact absurd q.1 hs
  rcases rng p1 1 999999 1 999999 rfl rfl (by decide) with ⟨k, hk1, hk2, rfl, e3⟩ | ⟨e3, hk⟩
  · have k1 : ¬ nI k < 1 := by rw [show (1 : Int32) = nI 1 from rfl, nI_ltI (by omega) (by omega)]; omega
    have k2 : nI k ≤ 999999 := by rw [show (999999 : Int32) = nI 999999 from rfl, nI_leI (by omega) (by omega)]; omega
    obtain ⟨nxt', kep', rh', rd', ra', rb', acts', was', k8, k9, kR⟩ := op_keep hC hL hR
    obtain ⟨dep', arr', bay', t', s1, s2, s3, s4⟩ := storm_L hn n 0 2000 2000 B k dep arr bay 0 (by omega) (by omega) (by omega) (by omega) hC hL
    rw [show nI 0 = 0 from rfl, ← nI_l (by omega)] at s1 s2
    subst hw
    exact ⟨_, _, _, _, _, _, _, _, _, _, _, _, _, by simp only [f_X8_storm, if_neg hs, if_neg k1, if_pos k2, k8, bd_s, f_X3_advance, s1] <;> rfl, by simp only [f_X9_storm, e9, bd_s, if10, e3, k9, s2] <;> rfl, s3, LedR_mono s4 (by omega), RingR_mono kR (by omega)⟩
  · refine stay (-1000001) ?_ (by simp only [f_X9_storm, e9, bd_s, if10, e3, if_true])
    by_cases k1 : p1 < 1
    · simp only [f_X8_storm, if_neg hs, if_pos k1]
    · have k2 : ¬ p1 ≤ 999999 := fun q => by
        have q1 := i32_le.mp q
        have q2 : ¬ p1.toInt < 1 := fun z => k1 (i32_lt.mpr z)
        change p1.toInt ≤ 999999 at q1
        omega
      simp only [f_X8_storm, if_neg hs, if_neg k1, if_neg k2]
theorem op_undo {B n : Nat} {sta wat : Int32} {lev kin sil : Nat → Int32} {hour : Int32} {dep arr deb bay : Nat → Int32} {nxt kep : Int32} {r_hour : Nat → Int32} {r_dep r_arr r_deb : Nat → Nat → Int32} {acts : Int32} {was : Nat → Int32} (thrown : Int32) (hC : ChartR n sta wat lev kin sil bay) (hL : LedR B n hour dep arr deb bay) (hR : RingR B n sta wat lev kin sil nxt kep r_hour r_dep r_arr r_deb acts was) :
    ∃ r hour' dep' arr' deb' nxt' kep' thrown' acts' bay', f_X8_undo hour dep arr deb nxt kep r_hour r_dep r_arr r_deb = some (r, hour', dep', arr', deb', nxt', kep') ∧ f_X9_undo thrown acts bay was = some (r, thrown', acts', bay') ∧ ChartR n sta wat lev kin sil bay' ∧ LedR B n hour' dep' arr' deb' bay' ∧ RingR B n sta wat lev kin sil nxt' kep' r_hour r_dep r_arr r_deb acts' was := by
  obtain ⟨a, x, ha, hx, rfl, rfl, rfl, hT⟩ := id hR
  by_cases h0 : a = 0
  · subst h0
    exact ⟨-1000002, _, _, _, _, _, _, _, _, _, by simp only [f_X8_undo, if_neg (show ¬ (1 : Int32) ≤ nI 0 by decide)] <;> rfl, by simp only [f_X9_undo, if_pos (show nI 0 = 0 from rfl)] <;> rfl, hC, hL, hR⟩
  · have c8 : (1 : Int32) ≤ nI a := by rw [show (1 : Int32) = nI 1 from rfl, nI_leI (by omega) (by omega)]; omega
    have c9 : ¬ nI a = 0 := nI_ne0 (by omega) (by omega)
    have en : (nI x + 24 - 1) - (nI x + 24 - 1) / 24 * 24 = nI ((x + 23) % 24) := by
      rw [show (24 : Int32) = nI 24 from rfl, nI_add, show x + 24 = (x + 23) + 1 by omega, nI_pred, pk_rem (by omega) (by decide) (by decide)]
    have ea : nI a - 1 = nI (a - 1) := by
      obtain ⟨k, rfl⟩ : ∃ k, a = k + 1 := ⟨a - 1, by omega⟩
      rw [nI_pred] <;> rfl
    have hm := Nat.mod_lt (x + 23) (show 0 < 24 by decide)
    have U := undo27 (a - 1) (by omega) was 75 0 2000 bay (by omega) (by omega)
    rw [show nI 0 = 0 from rfl] at U
    obtain ⟨p1, p2⟩ := hT 0 (by omega)
    rw [show x + 23 - 0 = x + 23 by omega, show a - 1 - 0 = a - 1 by omega] at p2
    rw [show a - 1 - 0 = a - 1 by omega] at p1
    refine ⟨_, _, _, _, _, _, _, _, _, _, by simp only [f_X8_undo, if_pos c8, f_X5_giveBack, f_X5_giveBack_m, nm, en, gd_k (inb_nI hm (by decide)), ix_nI (show (x + 23) % 24 < 2 ^ 31 by omega), f_X3_takeFrom, bd_s, ea] <;> rfl, by simp only [f_X9_undo, if_neg c9, ea, U, bd_s] <;> rfl, ?_, ?_, ?_⟩
    · exact ChartR_g p1 (fun q hq => by rw [if_pos ⟨Nat.zero_le q, hq⟩])
    · exact LedR_g (LedR_f p2 (fun w hw => cpy0 _ _ hw) (fun w hw => cpy0 _ _ hw) (fun w hw => cpy0 _ _ hw)) (fun q hq => by rw [if_pos ⟨Nat.zero_le q, hq⟩])
    · refine ⟨a - 1, (x + 23) % 24, by omega, hm, rfl, rfl, rfl, fun t ht => ?_⟩
      have q := hT (t + 1) (by omega)
      rw [show x + 23 - (t + 1) = x + 22 - t by omega, show a - 1 - (t + 1) = a - 1 - 1 - t by omega] at q
      rw [show ((x + 23) % 24 + 23 - t) % 24 = (x + 22 - t) % 24 by omega]
      exact q
theorem layNow9 (bay : Nat → Int32) : ∀ (m i f : Nat) (thn : Nat → Int32), i + m = 75 → m < f → f_X9_layNow_L2 bay f thn (nI i) = some (fun q => if i ≤ q ∧ q < 75 then bay q else thn q) := by
  intro m
  induction m with
  | zero =>
    intro i f thn hi hf
    obtain ⟨f, rfl⟩ : ∃ f', f = f' + 1 := ⟨f - 1, by omega⟩
    rw [f_X9_layNow_L2_s, if_pos (by rw [show (75 : Int32) = nI 75 from rfl, nI_leI (by omega) (by omega)]; omega)]
    congr 1
    funext q
    rw [if_neg (by omega)]
  | succ m ih =>
    intro i f thn hi hf
    obtain ⟨f, rfl⟩ : ∃ f', f = f' + 1 := ⟨f - 1, by omega⟩
    rw [f_X9_layNow_L2_s, if_neg (by rw [show (75 : Int32) = nI 75 from rfl, nI_leI (by omega) (by omega)]; omega), gd_k (inb_nI (by omega) (by decide)), ix_nI (by omega), nI_1, ih (i + 1) f _ (by omega) (by omega)]
    congr 1
    funext q
    by_cases h2 : q = i
    · subst h2
      rw [upd_s, if_neg (by omega), if_pos (by omega)]
    · rw [upd_n _ _ h2]
      by_cases h1 : i ≤ q ∧ q < 75
      · rw [if_pos h1, if_pos (by omega)]
      · rw [if_neg h1, if_neg (by omega)]
theorem lay9 (bay thn : Nat → Int32) : ∃ thn', f_X9_layNow bay thn = some thn' ∧ ∀ q, q < 75 → thn' q = bay q := by
  have e := layNow9 bay 75 0 2000 thn (by omega) (by omega)
  rw [show nI 0 = 0 from rfl] at e
  exact ⟨_, by simp only [f_X9_layNow, e, bd_s] <;> rfl, fun q hq => by rw [if_pos ⟨Nat.zero_le q, hq⟩]⟩
theorem back9 (thn : Nat → Int32) : ∀ (m i f : Nat) (bay : Nat → Int32), i + m = 75 → m < f → f_X9_hours_L68 thn f bay (nI i) = some (fun q => if i ≤ q ∧ q < 75 then thn q else bay q) := by
  intro m
  induction m with
  | zero =>
    intro i f thn hi hf
    obtain ⟨f, rfl⟩ : ∃ f', f = f' + 1 := ⟨f - 1, by omega⟩
    rw [f_X9_hours_L68_s, if_pos (by rw [show (75 : Int32) = nI 75 from rfl, nI_leI (by omega) (by omega)]; omega)]
    congr 1
    funext q
    rw [if_neg (by omega)]
  | succ m ih =>
    intro i f bay hi hf
    obtain ⟨f, rfl⟩ : ∃ f', f = f' + 1 := ⟨f - 1, by omega⟩
    rw [f_X9_hours_L68_s, if_neg (by rw [show (75 : Int32) = nI 75 from rfl, nI_leI (by omega) (by omega)]; omega), gd_k (inb_nI (by omega) (by decide)), ix_nI (by omega), nI_1, ih (i + 1) f _ (by omega) (by omega)]
    congr 1
    funext q
    by_cases h2 : q = i
    · subst h2
      rw [upd_s, if_neg (by omega), if_pos (by omega)]
    · rw [upd_n _ _ h2]
      by_cases h1 : i ≤ q ∧ q < 75
      · rw [if_pos h1, if_pos (by omega)]
      · rw [if_neg h1, if_neg (by omega)]
theorem hours_L {n N : Nat} {sta wat : Int32} {lev kin sil : Nat → Int32} (hN : N ≤ 24) : ∀ (m i f g B : Nat) (hour : Int32) (dep arr deb bay thn : Nat → Int32) (nxt kep : Int32) (r_hour : Nat → Int32) (r_dep r_arr r_deb : Nat → Nat → Int32) (acts : Int32) (was : Nat → Int32) (t : Int32), i + m = N → m < f → m < g → B + 40 * m < 2 ^ 29 → ChartR n sta wat lev kin sil bay → LedR B n hour dep arr deb bay → RingR B n sta wat lev kin sil nxt kep r_hour r_dep r_arr r_deb acts was → (i = 0 ∨ t = rs lev (ix hour + 11)) →
    ∃ hour' dep' arr' deb' nxt' kep' r_hour' r_dep' r_arr' r_deb' t' acts' bay' thn' was', f_X8_hours_L52 wat lev kin sil (nI N) f hour dep arr deb nxt kep r_hour r_dep r_arr r_deb t (nI i) = some (hour', dep', arr', deb', nxt', kep', r_hour', r_dep', r_arr', r_deb', t') ∧ f_X9_hours_L49 (nI N) g acts bay thn was (nI i) = some (acts', bay', thn', was') ∧ ChartR n sta wat lev kin sil bay' ∧ LedR (B + 40 * m) n hour' dep' arr' deb' bay' ∧ RingR (B + 40 * m) n sta wat lev kin sil nxt' kep' r_hour' r_dep' r_arr' r_deb' acts' was' ∧ (N = 0 ∨ t' = rs lev (ix hour' + 11)) := by
  intro m
  induction m with
  | zero =>
    intro i f g B hour dep arr deb bay thn nxt kep r_hour r_dep r_arr r_deb acts was t hi hf hg hB hC hL hR ht
    obtain ⟨f, rfl⟩ : ∃ f', f = f' + 1 := ⟨f - 1, by omega⟩
    obtain ⟨g, rfl⟩ : ∃ f', g = f' + 1 := ⟨g - 1, by omega⟩
    have c : nI N ≤ nI i := by rw [nI_leI (by omega) (by omega)]; omega
    exact ⟨_, _, _, _, _, _, _, _, _, _, _, _, _, _, _, by rw [f_X8_hours_L52_s, if_pos c], by rw [f_X9_hours_L49_s, if_pos c], hC, hL, hR, by rcases ht with ht | ht; exact Or.inl (by omega); exact Or.inr ht⟩
  | succ m ih =>
    intro i f g B hour dep arr deb bay thn nxt kep r_hour r_dep r_arr r_deb acts was t hi hf hg hB hC hL hR ht
    obtain ⟨f, rfl⟩ : ∃ f', f = f' + 1 := ⟨f - 1, by omega⟩
    obtain ⟨g, rfl⟩ : ∃ f', g = f' + 1 := ⟨g - 1, by omega⟩
    have c : ¬ nI N ≤ nI i := by rw [nI_leI (by omega) (by omega)]; omega
    obtain ⟨nxt1, kep1, rh1, rd1, ra1, rb1, acts1, was1, k8, k9, kR⟩ := op_keep hC hL hR
    obtain ⟨thn1, e1, e1'⟩ := lay9 bay thn
    obtain ⟨dep2, arr2, deb2, thn2, h8, h9, hL2, hC2, -⟩ := hour_R hC (LedR_g hL e1') (by omega)
    have e3 := back9 thn2 75 0 2000 bay (by omega) (by omega)
    rw [show nI 0 = 0 from rfl] at e3
    have e3' : ∀ q, q < 75 → (fun q => if 0 ≤ q ∧ q < 75 then thn2 q else bay q) q = thn2 q := fun q hq => by dsimp only; rw [if_pos ⟨Nat.zero_le q, hq⟩]
    obtain ⟨-, l2, -⟩ := id hL
    obtain ⟨⟨-, h, hh, rfl⟩, -⟩ := id hL
    obtain ⟨hour', dep', arr', deb', nxt', kep', rh', rd', ra', rb', t', acts', bay', thn', was', j1, j2, j3, j4, j5, j6⟩ := ih (i + 1) f g (B + 40) (nI h + 1) dep2 arr2 deb2 _ thn2 nxt1 kep1 rh1 rd1 ra1 rb1 acts1 was1 (rs lev (ix (nI h))) (by omega) (by omega) (by omega) (by omega) (ChartR_g (hC2 (ChartR_g hC e1')) e3') (LedR_g hL2 e3') (RingR_mono kR (by omega)) (Or.inr (by
      rw [nI_1, ix_nI (by omega), ix_nI (by omega)]
      unfold rs
      rw [show (h + 1 + 11 + 1) % 12 = (h + 1) % 12 by omega, show (h + 1 + 11) % 12 = h % 12 by omega]))
    refine ⟨hour', dep', arr', deb', nxt', kep', rh', rd', ra', rb', t', acts', bay', thn', was', ?_, ?_, j3, LedR_mono j4 (by omega), RingR_mono j5 (by omega), j6⟩
    · rw [f_X8_hours_L52_s, if_neg c, k8, bd_s, h8, bd_s, nI_1 i]
      exact j1
    · rw [f_X9_hours_L49_s, if_neg c, k9, bd_s, e1, bd_s, h9, bd_s, e3, bd_s, nI_1 i]
      exact j2
theorem op_hours {B n : Nat} {sta wat : Int32} {lev kin sil : Nat → Int32} {hour : Int32} {dep arr deb bay thn : Nat → Int32} {nxt kep : Int32} {r_hour : Nat → Int32} {r_dep r_arr r_deb : Nat → Nat → Int32} {acts : Int32} {was : Nat → Int32} (thrown p1 : Int32) (hB : B < 2 ^ 28) (hC : ChartR n sta wat lev kin sil bay) (hL : LedR B n hour dep arr deb bay) (hR : RingR B n sta wat lev kin sil nxt kep r_hour r_dep r_arr r_deb acts was) :
    ∃ r hour' dep' arr' deb' nxt' kep' r_hour' r_dep' r_arr' r_deb' thrown' acts' bay' thn' was', f_X8_hours sta wat lev kin sil hour dep arr deb nxt kep r_hour r_dep r_arr r_deb p1 = some (r, hour', dep', arr', deb', nxt', kep', r_hour', r_dep', r_arr', r_deb') ∧ f_X9_hours thrown acts bay thn was p1 = some (r, thrown', acts', bay', thn', was') ∧ ChartR n sta wat lev kin sil bay' ∧ LedR (B + 300000) n hour' dep' arr' deb' bay' ∧ RingR (B + 300000) n sta wat lev kin sil nxt' kep' r_hour' r_dep' r_arr' r_deb' acts' was' := by
  have stay : ∀ r, f_X8_hours sta wat lev kin sil hour dep arr deb nxt kep r_hour r_dep r_arr r_deb p1 = some (r, hour, dep, arr, deb, nxt, kep, r_hour, r_dep, r_arr, r_deb) → f_X9_hours thrown acts bay thn was p1 = some (r, 0, acts, bay, thn, was) → ∃ r hour' dep' arr' deb' nxt' kep' r_hour' r_dep' r_arr' r_deb' thrown' acts' bay' thn' was', f_X8_hours sta wat lev kin sil hour dep arr deb nxt kep r_hour r_dep r_arr r_deb p1 = some (r, hour', dep', arr', deb', nxt', kep', r_hour', r_dep', r_arr', r_deb') ∧ f_X9_hours thrown acts bay thn was p1 = some (r, thrown', acts', bay', thn', was') ∧ ChartR n sta wat lev kin sil bay' ∧ LedR (B + 300000) n hour' dep' arr' deb' bay' ∧ RingR (B + 300000) n sta wat lev kin sil nxt' kep' r_hour' r_dep' r_arr' r_deb' acts' was' :=
    fun r e1 e2 => ⟨r, _, _, _, _, _, _, _, _, _, _, _, _, _, _, _, e1, e2, hC, LedR_mono hL (by omega), RingR_mono hR (by omega)⟩
  obtain ⟨⟨c0, cs⟩, ⟨c1, hw, hn⟩, -, -⟩ := id hC
  obtain ⟨⟨l1, h, hh, eh⟩, -, -, -⟩ := id hL
  by_cases hs : sta = 0
  · have e9 : f_X9_isThere bay = some 0 := by unfold f_X9_isThere; rw [c0, hs] <;> rfl
    exact stay (-1000002) (by simp only [f_X8_hours, if_pos hs]) (by simp only [f_X9_hours, e9, bd_s, if_true])
  have e9 : f_X9_isThere bay = some 1 := by
    unfold f_X9_isThere
    rcases cs with q | q
    · rw [c0, q] <;> rfl
    · exact absurd q.1 hs
  rcases rng p1 1 24 1 24 rfl rfl (by decide) with ⟨k, hk1, hk2, rfl, e3⟩ | ⟨e3, hk⟩
  · have k1 : ¬ nI k < 1 := by rw [show (1 : Int32) = nI 1 from rfl, nI_ltI (by omega) (by omega)]; omega
    have k2 : nI k ≤ 24 := by rw [show (24 : Int32) = nI 24 from rfl, nI_leI (by omega) (by omega)]; omega
    by_cases q : hour + nI k ≤ 999
    · obtain ⟨hour', dep', arr', deb', nxt', kep', rh', rd', ra', rb', t', acts', bay', thn', was', j1, j2, j3, j4, j5, j6⟩ := hours_L hk2 k 0 2000 2000 B hour dep arr deb bay thn nxt kep r_hour r_dep r_arr r_deb acts was 0 (by omega) (by omega) (by omega) (by omega) hC hL hR (Or.inl rfl)
      rw [show nI 0 = 0 from rfl] at j1 j2
      obtain ⟨⟨m1, h', hh', rfl⟩, -⟩ := id j4
      obtain ⟨-, -, n2, -⟩ := id j3
      have R := rise9 (fun x hx => (n2 x hx).1) (show h' + 11 < 2 ^ 30 by omega)
      have ee : bay' 2 + 11 = nI (h' + 11) := by rw [m1, show (11 : Int32) = nI 11 from rfl, nI_add]
      have et : t' = rs lev (h' + 11) := by
        rcases j6 with q | q
        · omega
        · rw [q, ix_nI (by omega)]
      exact ⟨t', _, _, _, _, _, _, _, _, _, _, _, _, _, _, _, by simp only [f_X8_hours, if_neg hs, if_neg k1, if_pos k2, if_pos q, j1, bd_s] <;> rfl, by simp only [f_X9_hours, e9, bd_s, if10, e3, l1, if_pos q, j2, ee, R, et] <;> rfl, j3, LedR_mono j4 (by omega), RingR_mono j5 (by omega)⟩
    · exact stay (-1000003) (by simp only [f_X8_hours, if_neg hs, if_neg k1, if_pos k2, if_neg q]) (by simp only [f_X9_hours, e9, bd_s, if10, e3, l1, if_neg q])
  · refine stay (-1000001) ?_ (by simp only [f_X9_hours, e9, bd_s, if10, e3, if_true])
    by_cases k1 : p1 < 1
    · simp only [f_X8_hours, if_neg hs, if_pos k1]
    · have k2 : ¬ p1 ≤ 24 := fun q => by
        have q1 := i32_le.mp q
        have q2 : ¬ p1.toInt < 1 := fun z => k1 (i32_lt.mpr z)
        change p1.toInt ≤ 24 at q1
        omega
      simp only [f_X8_hours, if_neg hs, if_neg k1, if_neg k2]
