/-! ===== images ===== -/
theorem ChartR_f {n : Nat} {sta wat : Int32} {lev kin sil lev' kin' sil' g : Nat → Int32} (h : ChartR n sta wat lev kin sil g) (e1 : ∀ k, k < 12 → lev' k = lev k) (e2 : ∀ w, w < 6 → kin' w = kin w) (e3 : ∀ w, w < 6 → sil' w = sil w) : ChartR n sta wat lev' kin' sil' g := by
  obtain ⟨h1, ⟨h2, h3, hn⟩, h4, h5⟩ := h
  refine ⟨h1, ⟨h2, h3, hn⟩, fun k hk => ?_, fun w hw => ?_⟩
  · rw [e1 k hk]; exact h4 k hk
  · rw [e2 w (by omega), e3 w (by omega)]; exact h5 w hw
theorem image_L (bay : Nat → Int32) (k : Nat) (hk : k < 2) : ∀ (m i f : Nat) (kept : Nat → Int32), i + m = 75 → m < f → f_X9_image_L30 bay (nI k) f kept (nI i) = some (fun q => if 75 * k + i ≤ q ∧ q < 75 * k + 75 then bay (q - 75 * k) else kept q) := by
  intro m
  induction m with
  | zero =>
    intro i f kept hi hf
    obtain ⟨f, rfl⟩ : ∃ f', f = f' + 1 := ⟨f - 1, by omega⟩
    rw [f_X9_image_L30_s, if_pos (by rw [show (75 : Int32) = nI 75 from rfl, nI_leI (by omega) (by omega)]; omega)]
    congr 1
    funext q
    rw [if_neg (by omega)]
  | succ m ih =>
    intro i f kept hi hf
    obtain ⟨f, rfl⟩ : ∃ f', f = f' + 1 := ⟨f - 1, by omega⟩
    rw [f_X9_image_L30_s, if_neg (by rw [show (75 : Int32) = nI 75 from rfl, nI_leI (by omega) (by omega)]; omega), gd_k (inb_nI (by omega) (by decide)), ix75, gd_k (inb_nI (by omega) (by decide)), ix_nI (by omega), ix_nI (by omega), nI_1, ih (i + 1) f _ (by omega) (by omega)]
    congr 1
    funext q
    by_cases h1 : 75 * k + (i + 1) ≤ q ∧ q < 75 * k + 75
    · rw [if_pos h1, if_pos (by omega)]
    · rw [if_neg h1]
      by_cases h2 : q = 75 * k + i
      · subst h2
        rw [upd_s, if_pos (by omega)]
        congr 1
        omega
      · rw [upd_n _ _ h2, if_neg (by omega)]
theorem rest_L (kept : Nat → Int32) (k : Nat) (hk : k < 2) : ∀ (m i f : Nat) (bay : Nat → Int32), i + m = 75 → m < f → f_X9_restore_L32 kept (nI k) f bay (nI i) = some (fun q => if i ≤ q ∧ q < 75 then kept (75 * k + q) else bay q) := by
  intro m
  induction m with
  | zero =>
    intro i f bay hi hf
    obtain ⟨f, rfl⟩ : ∃ f', f = f' + 1 := ⟨f - 1, by omega⟩
    rw [f_X9_restore_L32_s, if_pos (by rw [show (75 : Int32) = nI 75 from rfl, nI_leI (by omega) (by omega)]; omega)]
    congr 1
    funext q
    rw [if_neg (by omega)]
  | succ m ih =>
    intro i f bay hi hf
    obtain ⟨f, rfl⟩ : ∃ f', f = f' + 1 := ⟨f - 1, by omega⟩
    rw [f_X9_restore_L32_s, if_neg (by rw [show (75 : Int32) = nI 75 from rfl, nI_leI (by omega) (by omega)]; omega), ix75, gd_k (inb_nI (by omega) (by decide)), gd_k (inb_nI (by omega) (by decide)), ix_nI (by omega), ix_nI (by omega), nI_1, ih (i + 1) f _ (by omega) (by omega)]
    congr 1
    funext q
    by_cases h2 : q = i
    · subst h2
      rw [upd_s, if_neg (by omega), if_pos (by omega)]
    · rw [upd_n _ _ h2]
      by_cases h1 : i ≤ q ∧ q < 75
      · rw [if_pos h1, if_pos (by omega)]
      · rw [if_neg h1, if_neg (by omega)]
def ImgR (B : Nat) (g_sta g_wat : Nat → Int32) (g_lev g_kin g_sil : Nat → Nat → Int32) (g_hour : Nat → Int32) (g_dep g_arr g_deb : Nat → Nat → Int32) (isKept kept : Nat → Int32) : Prop :=
  ∀ k, k < 2 → isKept k = g_sta k ∧ (g_sta k = 0 ∨ (g_sta k = 1 ∧ ∃ n, ChartR n (g_sta k) (g_wat k) (g_lev k) (g_kin k) (g_sil k) (fun q => kept (75 * k + q)) ∧ LedR B n (g_hour k) (g_dep k) (g_arr k) (g_deb k) (fun q => kept (75 * k + q))))
theorem ImgR_mono {B B' : Nat} {g_sta g_wat : Nat → Int32} {g_lev g_kin g_sil : Nat → Nat → Int32} {g_hour : Nat → Int32} {g_dep g_arr g_deb : Nat → Nat → Int32} {isKept kept : Nat → Int32} (h : ImgR B g_sta g_wat g_lev g_kin g_sil g_hour g_dep g_arr g_deb isKept kept) (hB : B ≤ B') : ImgR B' g_sta g_wat g_lev g_kin g_sil g_hour g_dep g_arr g_deb isKept kept := by
  intro k hk
  obtain ⟨h1, h2⟩ := h k hk
  refine ⟨h1, ?_⟩
  rcases h2 with h2 | ⟨h2, n, h3, h4⟩
  · exact Or.inl h2
  · exact Or.inr ⟨h2, n, h3, LedR_mono h4 hB⟩
theorem up_id {α : Type} (f : Nat → α) (k : Nat) : va_up f k (f k) = f := by
  funext j
  by_cases h : j = k
  · subst h; rw [va_up_self]
  · rw [va_up_ne _ _ h]
theorem op_image {B n : Nat} {sta wat : Int32} {lev kin sil cdp : Nat → Int32} {hour : Int32} {dep arr deb bay : Nat → Int32} {g_sta g_wat : Nat → Int32} {g_lev g_kin g_cdp g_sil : Nat → Nat → Int32} {g_hour : Nat → Int32} {g_dep g_arr g_deb : Nat → Nat → Int32} {isKept kept : Nat → Int32} (thrown p1 : Int32) (hC : ChartR n sta wat lev kin sil bay) (hL : LedR B n hour dep arr deb bay) (hI : ImgR B g_sta g_wat g_lev g_kin g_sil g_hour g_dep g_arr g_deb isKept kept) :
    ∃ r g_sta' g_wat' g_lev' g_kin' g_cdp' g_sil' g_hour' g_dep' g_arr' g_deb' thrown' isKept' kept', f_X8_image sta wat lev kin cdp sil hour dep arr deb g_sta g_wat g_lev g_kin g_cdp g_sil g_hour g_dep g_arr g_deb p1 = some (r, g_sta', g_wat', g_lev', g_kin', g_cdp', g_sil', g_hour', g_dep', g_arr', g_deb') ∧ f_X9_image thrown bay isKept kept p1 = some (r, thrown', isKept', kept') ∧ ImgR B g_sta' g_wat' g_lev' g_kin' g_sil' g_hour' g_dep' g_arr' g_deb' isKept' kept' := by
  have stay : ∀ r, f_X8_image_m sta wat lev kin cdp sil hour dep arr deb (g_sta (kq p1 2)) (g_wat (kq p1 2)) (g_lev (kq p1 2)) (g_kin (kq p1 2)) (g_cdp (kq p1 2)) (g_sil (kq p1 2)) (g_hour (kq p1 2)) (g_dep (kq p1 2)) (g_arr (kq p1 2)) (g_deb (kq p1 2)) p1 = some (r, g_sta (kq p1 2), g_wat (kq p1 2), g_lev (kq p1 2), g_kin (kq p1 2), g_cdp (kq p1 2), g_sil (kq p1 2), g_hour (kq p1 2), g_dep (kq p1 2), g_arr (kq p1 2), g_deb (kq p1 2)) → f_X8_image sta wat lev kin cdp sil hour dep arr deb g_sta g_wat g_lev g_kin g_cdp g_sil g_hour g_dep g_arr g_deb p1 = some (r, g_sta, g_wat, g_lev, g_kin, g_cdp, g_sil, g_hour, g_dep, g_arr, g_deb) := by
    intro r e
    simp only [f_X8_image, e, bd_s, up_id]
  obtain ⟨⟨c0, cs⟩, -, -, -⟩ := id hC
  rcases rng p1 0 1 0 1 rfl rfl (by decide) with ⟨k, hk1, hk2, rfl, e2⟩ | ⟨e2, ht⟩
  rotate_left
  · refine ⟨-1000001, g_sta, g_wat, g_lev, g_kin, g_cdp, g_sil, g_hour, g_dep, g_arr, g_deb, 0, isKept, kept, stay (-1000001) ?_, by simp only [f_X9_image, bd_s, e2, if_true] <;> rfl, hI⟩
    rcases bad2 (0 : Int32) (1 : Int32) rfl rfl ht with q | ⟨q, q'⟩
    · simp only [f_X8_image_m, if_pos q]
    · have q2 : ¬ p1 < 2 := fun z => by
        have z1 := i32_lt.mp z
        have z2 := i32_lt.mp q'
        change p1.toInt < 2 at z1
        change 1 < p1.toInt at z2
        omega
      simp only [f_X8_image_m, if_neg q, if_neg q2]
  have k1 : ¬ nI k < 0 := nI_pos (by omega)
  have k2 : nI k < 2 := by rw [show (2 : Int32) = nI 2 from rfl, nI_ltI (by omega) (by omega)]; omega
  by_cases hs : sta = 0
  · have e9 : f_X9_isThere bay = some 0 := by unfold f_X9_isThere; rw [c0, hs] <;> rfl
    exact ⟨-1000002, _, _, _, _, _, _, _, _, _, _, 0, isKept, kept, stay (-1000002) (by simp only [f_X8_image_m, if_neg k1, if_pos k2, if_pos hs]), by simp only [f_X9_image, bd_s, e2, if10, e9, if_true] <;> rfl, hI⟩
  have hs1 : sta = 1 := by
    rcases cs with q | q
    · exact q
    · exact absurd q.1 hs
  have e9 : f_X9_isThere bay = some 1 := by unfold f_X9_isThere; rw [c0, hs1] <;> rfl
  have kk : kq (nI k) 2 = k := kq_nI (by omega) (by decide)
  have g2 : ∀ {α : Type} (x : Option α), gd (inb (nI k) 2) x = x := fun x => gd_k (inb_nI (by omega) (by decide)) x
  have I := image_L bay k (by omega) 75 0 2000 kept (by omega) (by omega)
  rw [show nI 0 = 0 from rfl] at I
  have hz : isz sta = true := by rw [hs1]; decide
  refine ⟨1, _, _, _, _, _, _, _, _, _, _, 0, _, _, by simp only [f_X8_image, kk, f_X8_image_m, if_neg k1, if_pos k2, if_neg hs, g2, f_X1_takeFrom, f_X2_takeFrom, f_X3_takeFrom, bd_s, gd_k hz] <;> rfl, by simp only [f_X9_image, bd_s, e2, if10, e9, I, g2, ix_nI (show k < 2 ^ 31 by omega)] <;> rfl, ?_⟩
  intro j hj
  by_cases c : j = k
  · subst c
    rw [upd_s]
    simp only [va_up_self]
    have eb : ∀ q, q < 75 → (fun q => if 75 * j + 0 ≤ 75 * j + q ∧ 75 * j + q < 75 * j + 75 then bay (75 * j + q - 75 * j) else kept (75 * j + q)) q = bay q := fun q hq => by
      dsimp only
      rw [if_pos (by omega)]
      congr 1
      omega
    refine ⟨by rw [hs1]; decide, Or.inr ⟨hs1, n, ChartR_g (ChartR_f hC (fun k hk => cpy0 _ _ hk) (fun k hk => cpy0 _ _ hk) (fun k hk => cpy0 _ _ hk)) eb, LedR_g (LedR_f hL (fun k hk => cpy0 _ _ hk) (fun k hk => cpy0 _ _ hk) (fun k hk => cpy0 _ _ hk)) eb⟩⟩
  · rw [upd_n _ _ c]
    simp only [va_up_ne _ _ c]
    obtain ⟨h1, h2⟩ := hI j hj
    have eb : ∀ q, q < 75 → (fun q => if 75 * k + 0 ≤ 75 * j + q ∧ 75 * j + q < 75 * k + 75 then bay (75 * j + q - 75 * k) else kept (75 * j + q)) q = (fun q => kept (75 * j + q)) q := fun q hq => by
      dsimp only
      rw [if_neg (by omega)]
    refine ⟨h1, ?_⟩
    rcases h2 with h2 | ⟨h2, n', h3, h4⟩
    · exact Or.inl h2
    · exact Or.inr ⟨h2, n', ChartR_g h3 eb, LedR_g h4 eb⟩
theorem op_restore {B n : Nat} {sta wat : Int32} {lev kin sil cdp : Nat → Int32} {hour : Int32} {dep arr deb bay : Nat → Int32} {nxt kep : Int32} {r_hour : Nat → Int32} {r_dep r_arr r_deb : Nat → Nat → Int32} {acts : Int32} {was : Nat → Int32} {g_sta g_wat : Nat → Int32} {g_lev g_kin g_cdp g_sil : Nat → Nat → Int32} {g_hour : Nat → Int32} {g_dep g_arr g_deb : Nat → Nat → Int32} {isKept kept : Nat → Int32} (thrown p1 : Int32) (hC : ChartR n sta wat lev kin sil bay) (hL : LedR B n hour dep arr deb bay) (hR : RingR B n sta wat lev kin sil nxt kep r_hour r_dep r_arr r_deb acts was) (hI : ImgR B g_sta g_wat g_lev g_kin g_sil g_hour g_dep g_arr g_deb isKept kept) :
    ∃ r sta' wat' lev' kin' cdp' sil' hour' dep' arr' deb' kep' thrown' acts' bay' n', f_X8_restore sta wat lev kin cdp sil hour dep arr deb kep g_sta g_wat g_lev g_kin g_cdp g_sil g_hour g_dep g_arr g_deb p1 = some (r, sta', wat', lev', kin', cdp', sil', hour', dep', arr', deb', kep') ∧ f_X9_restore thrown acts bay isKept kept p1 = some (r, thrown', acts', bay') ∧ ChartR n' sta' wat' lev' kin' sil' bay' ∧ LedR B n' hour' dep' arr' deb' bay' ∧ RingR B n' sta' wat' lev' kin' sil' nxt kep' r_hour r_dep r_arr r_deb acts' was := by
  rcases rng p1 0 1 0 1 rfl rfl (by decide) with ⟨k, hk1, hk2, rfl, e2⟩ | ⟨e2, ht⟩
  rotate_left
  · refine ⟨-1000001, sta, wat, lev, kin, cdp, sil, hour, dep, arr, deb, kep, 0, acts, bay, n, ?_, by simp only [f_X9_restore, bd_s, e2, if_true] <;> rfl, hC, hL, hR⟩
    rcases bad2 (0 : Int32) (1 : Int32) rfl rfl ht with q | ⟨q, q'⟩
    · simp only [f_X8_restore, f_X8_restore_m, if_pos q, bd_s]
    · have q2 : ¬ p1 < 2 := fun z => by
        have z1 := i32_lt.mp z
        have z2 := i32_lt.mp q'
        change p1.toInt < 2 at z1
        change 1 < p1.toInt at z2
        omega
      simp only [f_X8_restore, f_X8_restore_m, if_neg q, if_neg q2, bd_s]
  have k1 : ¬ nI k < 0 := nI_pos (by omega)
  have k2 : nI k < 2 := by rw [show (2 : Int32) = nI 2 from rfl, nI_ltI (by omega) (by omega)]; omega
  have kk : kq (nI k) 2 = k := kq_nI (by omega) (by decide)
  have g2 : ∀ {α : Type} (x : Option α), gd (inb (nI k) 2) x = x := fun x => gd_k (inb_nI (by omega) (by decide)) x
  have x0 := ix_nI (show k < 2 ^ 31 by omega)
  obtain ⟨h1, h2⟩ := hI k (by omega)
  rcases h2 with h2 | ⟨h2, n', h3, h4⟩
  · exact ⟨-1000002, _, _, _, _, _, _, _, _, _, _, _, 0, acts, bay, n, by simp only [f_X8_restore, kk, f_X8_restore_m, if_neg k1, if_pos k2, g2, if_pos h2, bd_s] <;> rfl, by simp only [f_X9_restore, bd_s, e2, if10, g2, x0, if_pos (h1.trans h2)] <;> rfl, hC, hL, hR⟩
  · have h2n : ¬ g_sta k = 0 := by rw [h2]; decide
    have h2n' : ¬ isKept k = 0 := by rw [h1]; exact h2n
    have hz : isz (g_sta k) = true := by rw [h2]; decide
    have R := rest_L kept k (by omega) 75 0 2000 bay (by omega) (by omega)
    rw [show nI 0 = 0 from rfl] at R
    obtain ⟨a, x, -, hx, -, -, hnx, -⟩ := id hR
    have eb : ∀ q, q < 75 → (fun q => if 0 ≤ q ∧ q < 75 then kept (75 * k + q) else bay q) q = (fun q => kept (75 * k + q)) q := fun q hq => by
      dsimp only
      rw [if_pos ⟨Nat.zero_le q, hq⟩]
    exact ⟨1, _, _, _, _, _, _, _, _, _, _, _, 0, 0, _, n', by simp only [f_X8_restore, kk, f_X8_restore_m, if_neg k1, if_pos k2, g2, if_neg h2n, f_X1_takeFrom, f_X2_takeFrom, f_X3_takeFrom, f_X5_forget, bd_s, gd_k hz] <;> rfl, by simp only [f_X9_restore, bd_s, e2, if10, g2, x0, if_neg h2n', R] <;> rfl, ChartR_g (ChartR_f h3 (fun k hk => cpy0 _ _ hk) (fun k hk => cpy0 _ _ hk) (fun k hk => cpy0 _ _ hk)) eb, LedR_g (LedR_f h4 (fun k hk => cpy0 _ _ hk) (fun k hk => cpy0 _ _ hk) (fun k hk => cpy0 _ _ hk)) eb, 0, x, by omega, hx, rfl, rfl, hnx, fun t ht => absurd ht (by omega)⟩
