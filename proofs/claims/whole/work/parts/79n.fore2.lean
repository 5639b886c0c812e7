/-! ===== run, frauds ===== -/
theorem or_0 (x : Int32) : x ||| 0 = x := by
  apply Int32.toBitVec_inj.mp
  rw [Int32.toBitVec_or]
  exact BitVec.or_zero
theorem or_2 (x y : Int32) : (x ||| y) ||| y = x ||| y := by
  apply Int32.toBitVec_inj.mp
  rw [Int32.toBitVec_or, Int32.toBitVec_or, BitVec.or_assoc, BitVec.or_self]
theorem runI_L {n w : Nat} {bay : Nat → Int32} {hour : Int32} {arr deb : Nat → Int32} (hw : w < n) (hn : n ≤ 6) (hb : bay 1 = nI n) (ho : ∀ i, i < 36 → deb i = bay (39 + i)) (s b : Int32) (hbit : b = 1 <<< (nI w &&& 31)) : ∀ (m i f g B : Nat) (dep thn : Nat → Int32) (x3 : Int32), i + m = n → m < f → m < g → B + 9999 * m < 2 ^ 30 → (x3 = 0 ∨ x3 = 1) → LedR B n hour dep arr deb thn →
    ∃ dep' thn' x3', f_X3_payOthers_L5 deb (nI w) (nI n) f dep x3 (nI i) = some (dep', x3') ∧ f_X9_run_L35 bay (nI w) g thn (if x3 = 0 then s ||| b else s) (nI i) = some (thn', if x3' = 0 then s ||| b else s) ∧ (x3' = 0 ∨ x3' = 1) ∧ LedR (B + 9999 * m) n hour dep' arr deb thn' := by
  intro m
  induction m with
  | zero =>
    intro i f g B dep thn x3 hi hf hg hB hx hL
    obtain ⟨f, rfl⟩ : ∃ f', f = f' + 1 := ⟨f - 1, by omega⟩
    obtain ⟨g, rfl⟩ : ∃ f', g = f' + 1 := ⟨g - 1, by omega⟩
    have c : nI n ≤ nI i := by rw [nI_leI (by omega) (by omega)]; omega
    exact ⟨_, _, x3, by rw [f_X3_payOthers_L5_s, if_pos c], by rw [f_X9_run_L35_s, hb, if_pos c], hx, hL⟩
  | succ m ih =>
    intro i f g B dep thn x3 hi hf hg hB hx hL
    obtain ⟨f, rfl⟩ : ∃ f', f = f' + 1 := ⟨f - 1, by omega⟩
    obtain ⟨g, rfl⟩ : ∃ f', g = f' + 1 := ⟨g - 1, by omega⟩
    have c : ¬ nI n ≤ nI i := by rw [nI_leI (by omega) (by omega)]; omega
    obtain ⟨-, l3, l4, -⟩ := id hL
    obtain ⟨ed, ⟨d, hd, ed'⟩, -⟩ := l3 w (by omega)
    obtain ⟨-, o, hob, eo⟩ := l4 (6 * w + i) (by omega)
    have eo9 : bay (39 + (6 * w + i)) = nI o := by rw [← ho _ (by omega)]; exact eo
    have et : thn (16 + 4 * w) = nI d := ed.symm.trans ed'
    have g6 : ∀ {α : Type} (x : Option α), gd (inb (nI w) 6) x = x := fun x => gd_k (inb_nI (by omega) (by decide)) x
    have g1 : ∀ {α : Type} (x : Option α), gd (inb (nI (16 + 4 * w)) 75) x = x := fun x => gd_k (inb_nI (by omega) (by decide)) x
    have g2 : ∀ {α : Type} (x : Option α), gd (inb (nI (16 + 4 * i)) 75) x = x := fun x => gd_k (inb_nI (by omega) (by decide)) x
    have g3 : ∀ {α : Type} (x : Option α), gd (inb (nI (39 + (6 * w + i))) 75) x = x := fun x => gd_k (inb_nI (by omega) (by decide)) x
    have x0 := ix_nI (show w < 2 ^ 31 by omega)
    have x1 := ix_nI (show 16 + 4 * w < 2 ^ 31 by omega)
    have x2 := ix_nI (show 16 + 4 * i < 2 ^ 31 by omega)
    have x4 := ix_nI (show 39 + (6 * w + i) < 2 ^ 31 by omega)
    have hm : (if dep w < deb (6 * w + i) then dep w else deb (6 * w + i)) = nI (min d o) := by rw [ed', eo]; exact min_nI (by omega) (by omega)
    have M := LedR_move (k := min d o) hL hn hw (show i < n by omega) ed' hd (Nat.min_le_left d o)
    have step : ∀ x3', (x3' = 0 ∨ x3' = 1) → f_X3_payOthers_L5 deb (nI w) (nI n) (f + 1) dep x3 (nI i) = f_X3_payOthers_L5 deb (nI w) (nI n) f (upd (upd dep w (dep w - nI (min d o))) i (upd dep w (dep w - nI (min d o)) i + nI (min d o))) x3' (nI (i + 1)) → f_X9_run_L35 bay (nI w) (g + 1) thn (if x3 = 0 then s ||| b else s) (nI i) = f_X9_run_L35 bay (nI w) g (upd (upd thn (16 + 4 * w) (thn (16 + 4 * w) - nI (min d o))) (16 + 4 * i) (upd thn (16 + 4 * w) (thn (16 + 4 * w) - nI (min d o)) (16 + 4 * i) + nI (min d o))) (if x3' = 0 then s ||| b else s) (nI (i + 1)) → ∃ dep' thn' x3', f_X3_payOthers_L5 deb (nI w) (nI n) (f + 1) dep x3 (nI i) = some (dep', x3') ∧ f_X9_run_L35 bay (nI w) (g + 1) thn (if x3 = 0 then s ||| b else s) (nI i) = some (thn', if x3' = 0 then s ||| b else s) ∧ (x3' = 0 ∨ x3' = 1) ∧ LedR (B + 9999 * (m + 1)) n hour dep' arr deb thn' := by
      intro x3' hx' e1 e2
      obtain ⟨dep', thn', x3'', j1, j2, j3, j4⟩ := ih (i + 1) f g (B + 9999) _ _ x3' (by omega) (by omega) (by omega) (by omega) hx' (LedR_mono M (by omega))
      exact ⟨dep', thn', x3'', e1.trans j1, e2.trans j2, j3, LedR_mono j4 (by omega)⟩
    have mv := move8 dep (nI (min d o)) (show w < 6 by omega) (show i < 6 by omega)
    by_cases q : o ≤ d
    · /- paid in full -/
      have emin : min d o = o := Nat.min_eq_right q
      refine step x3 hx ?_ ?_
      · rw [f_X3_payOthers_L5_s, if_neg c, debt8 deb (by omega) (by omega), bd_s, g6, x0]
        simp only [nm]
        rw [hm]
        rcases hx with rfl | rfl
        · rw [if_pos rfl, mv, bd_s, nI_1]
        · rw [if10, bd_s, if_pos (by rw [eo, emin]), mv, bd_s, nI_1]
      · by_cases q2 : d ≤ o
        · have edo : d = o := by omega
          subst edo
          rw [f_X9_run_L35_s, hb, if_neg c]
          simp only [debt9, at1, bd_s, g1, g2, g3, x1, x2, x4, eo9, et, emin]
          rw [if_pos (nI_le (Nat.le_refl d) (by omega)), if_pos (nI_le (Nat.le_refl d) (by omega)), or_0, nI_1]
        · rw [f_X9_run_L35_s, hb, if_neg c]
          simp only [debt9, at1, bd_s, g1, g2, g3, x1, x2, x4, eo9, et, emin]
          rw [if_neg (show ¬ nI d ≤ nI o by rw [nI_leI (by omega) (by omega)]; omega), if_pos (nI_le (Nat.le_refl o) (by omega)), or_0, nI_1]
    · have emin : min d o = d := Nat.min_eq_left (by omega)
      refine step 0 (Or.inl rfl) ?_ ?_
      · rw [f_X3_payOthers_L5_s, if_neg c, debt8 deb (by omega) (by omega), bd_s, g6, x0]
        simp only [nm]
        rw [hm]
        rcases hx with rfl | rfl
        · rw [if_pos rfl, mv, bd_s, nI_1]
        · rw [if10, bd_s, if_neg (by rw [eo, emin, nI_eq (by omega) (by omega)]; omega), mv, bd_s, nI_1]
      · rw [f_X9_run_L35_s, hb, if_neg c]
        simp only [debt9, at1, bd_s, g1, g2, g3, x1, x2, x4, eo9, et, emin]
        rw [if_pos (nI_le (show d ≤ o by omega) (by omega)), if_neg (show ¬ nI o ≤ nI d by rw [nI_leI (by omega) (by omega)]; omega), nI_1, ← hbit]
        congr 1
        rcases hx with rfl | rfl
        · rw [if_pos rfl, if_true, or_2]
        · rw [if10, if_true]
theorem runO_L {n : Nat} {bay : Nat → Int32} {hour : Int32} {arr deb : Nat → Int32} (hn : n ≤ 6) (hb : bay 1 = nI n) (ho : ∀ i, i < 36 → deb i = bay (39 + i)) : ∀ (m i f g B : Nat) (dep thn : Nat → Int32) (s : Int32), i + m = n → m < f → m < g → B + 60000 * m < 2 ^ 30 → LedR B n hour dep arr deb thn →
    ∃ dep' thn' s', f_X3_payAll_L4 deb (nI n) f dep s (nI i) = some (dep', s') ∧ f_X9_run_L23 bay g thn s (nI i) = some (thn', s') := by
  intro m
  induction m with
  | zero =>
    intro i f g B dep thn s hi hf hg hB hL
    obtain ⟨f, rfl⟩ : ∃ f', f = f' + 1 := ⟨f - 1, by omega⟩
    obtain ⟨g, rfl⟩ : ∃ f', g = f' + 1 := ⟨g - 1, by omega⟩
    have c : nI n ≤ nI i := by rw [nI_leI (by omega) (by omega)]; omega
    exact ⟨_, _, s, by rw [f_X3_payAll_L4_s, if_pos c], by rw [f_X9_run_L23_s, hb, if_pos c]⟩
  | succ m ih =>
    intro i f g B dep thn s hi hf hg hB hL
    obtain ⟨f, rfl⟩ : ∃ f', f = f' + 1 := ⟨f - 1, by omega⟩
    obtain ⟨g, rfl⟩ : ∃ f', g = f' + 1 := ⟨g - 1, by omega⟩
    have c : ¬ nI n ≤ nI i := by rw [nI_leI (by omega) (by omega)]; omega
    obtain ⟨dep1, thn1, x3, j1, j2, j3, j4⟩ := runI_L (show i < n by omega) hn hb ho s _ rfl n 0 2000 2000 B dep thn 1 (by omega) (by omega) (by omega) (by omega) (Or.inr rfl) hL
    rw [if10] at j2
    rw [show nI 0 = 0 from rfl] at j1 j2
    obtain ⟨dep', thn', s', k1, k2⟩ := ih (i + 1) f g (B + 60000) dep1 thn1 (if x3 = 0 then s ||| 1 <<< (nI i &&& 31) else s) (by omega) (by omega) (by omega) (by omega) (LedR_mono j4 (by omega))
    refine ⟨dep', thn', s', ?_, ?_⟩
    · rw [f_X3_payAll_L4_s, if_neg c]
      simp only [f_X3_payOthers, j1, bd_s, gd_k (show isz x3 = true by rcases j3 with rfl | rfl <;> decide)]
      rw [nI_1]
      rcases j3 with rfl | rfl
      · rw [if_pos rfl] at k1 ⊢; exact k1
      · rw [if10] at k1 ⊢; exact k1
    · rw [f_X9_run_L23_s, hb, if_neg c, j2, bd_s, nI_1]
      exact k2
theorem op_run {B n : Nat} {sta wat : Int32} {lev kin sil : Nat → Int32} {hour : Int32} {dep arr deb bay : Nat → Int32} (thrown fhour : Int32) (fdep farr fdeb thn : Nat → Int32) (hB : B < 2 ^ 28) (hC : ChartR n sta wat lev kin sil bay) (hL : LedR B n hour dep arr deb bay) :
    ∃ r fhour' fdep' farr' fdeb' thrown' thn', f_X8_run sta wat hour dep arr deb fhour fdep farr fdeb = some (r, fhour', fdep', farr', fdeb') ∧ f_X9_run thrown bay thn = some (r, thrown', thn') := by
  obtain ⟨⟨c0, cs⟩, ⟨c1, hw, hn⟩, -, -⟩ := id hC
  by_cases hs : sta = 0
  · have e9 : f_X9_isThere bay = some 0 := by unfold f_X9_isThere; rw [c0, hs] <;> rfl
    exact ⟨-1000002, fhour, fdep, farr, fdeb, 0, thn, by simp only [f_X8_run, if_pos hs] <;> rfl, by simp only [f_X9_run, e9, bd_s, if_true] <;> rfl⟩
  have e9 : f_X9_isThere bay = some 1 := by
    unfold f_X9_isThere
    rcases cs with q | q
    · rw [c0, q] <;> rfl
    · exact absurd q.1 hs
  obtain ⟨thn1, y1, y2⟩ := lay9 bay thn
  have L1 := LedR_g (LedR_f (dep' := va_cpy dep fdep 0 0 6) (arr' := va_cpy arr farr 0 0 6) (deb' := va_cpy deb fdeb 0 0 36) hL (fun w hw => cpy0 _ _ hw) (fun w hw => cpy0 _ _ hw) (fun w hw => cpy0 _ _ hw)) y2
  obtain ⟨-, -, l4, -⟩ := id hL
  subst hw
  obtain ⟨dep', thn', s', j1, j2⟩ := runO_L hn c1 (fun i hi => (cpy0 deb fdeb hi).trans (l4 i hi).1) n 0 2000 2000 B _ thn1 0 (by omega) (by omega) (by omega) (by omega) L1
  rw [show nI 0 = 0 from rfl] at j1 j2
  exact ⟨s', _, _, _, _, 0, _, by simp only [f_X8_run, if_neg hs, f_X3_takeFrom, bd_s, f_X3_payAll, j1] <;> rfl, by simp only [f_X9_run, e9, bd_s, if10, y1, j2] <;> rfl⟩
theorem below_L {itm item bay : Nat → Int32} {r i n : Nat} (hr : r < 8) (hi : i + n ≤ 40) (hb : bay 1 = nI n) (he : ∀ k, k < 40 → itm k = item (40 * r + k)) (thrown status : Int32) (thn : Nat → Int32) : ∀ (m t f g : Nat), t + m = n → m < f → m < g →
    (f_X6_hasBelowZero_m_L3 itm (nI r) (nI i) (nI n) f (nI (i + t)) = some 1 ∧ f_X9_frauds_L73 thrown status item bay thn (nI r) (nI i) g (nI t) = some (-1000001, thrown, status, thn)) ∨ (f_X6_hasBelowZero_m_L3 itm (nI r) (nI i) (nI n) f (nI (i + t)) = some 0 ∧ ∃ g', f_X9_frauds_L73 thrown status item bay thn (nI r) (nI i) g (nI t) = f_X9_frauds_L73 thrown status item bay thn (nI r) (nI i) (g' + 1) (nI n)) := by
  intro m
  induction m with
  | zero =>
    intro t f g ht hf hg
    obtain ⟨f, rfl⟩ : ∃ f', f = f' + 1 := ⟨f - 1, by omega⟩
    obtain ⟨g, rfl⟩ : ∃ f', g = f' + 1 := ⟨g - 1, by omega⟩
    refine Or.inr ⟨?_, g, by rw [show t = n by omega]⟩
    rw [f_X6_hasBelowZero_m_L3_s, nI_add, if_pos (by rw [nI_leI (by omega) (by omega)]; omega)]
  | succ m ih =>
    intro t f g ht hf hg
    obtain ⟨f, rfl⟩ : ∃ f', f = f' + 1 := ⟨f - 1, by omega⟩
    obtain ⟨g, rfl⟩ : ∃ f', g = f' + 1 := ⟨g - 1, by omega⟩
    have c8 : ¬ nI i + nI n ≤ nI (i + t) := by rw [nI_add, nI_leI (by omega) (by omega)]; omega
    have c9 : ¬ nI n ≤ nI t := by rw [nI_leI (by omega) (by omega)]; omega
    have ei : 40 * nI r + nI i + nI t = nI (40 * r + (i + t)) := by rw [ix40, nI_add, Nat.add_assoc]
    have e := he (i + t) (by omega)
    by_cases q : 0 ≤ itm (i + t)
    · have q' : 0 ≤ item (40 * r + (i + t)) := by rw [← e]; exact q
      have z8 : f_X6_hasBelowZero_m_L3 itm (nI r) (nI i) (nI n) (f + 1) (nI (i + t)) = f_X6_hasBelowZero_m_L3 itm (nI r) (nI i) (nI n) f (nI (i + (t + 1))) := by
        rw [f_X6_hasBelowZero_m_L3_s, if_neg c8, gd_k (inb_nI hr (by decide)), gd_k (inb_nI (by omega) (by decide)), ix_nI (by omega), if_pos q, nI_1, Nat.add_assoc]
      have z9 : f_X9_frauds_L73 thrown status item bay thn (nI r) (nI i) (g + 1) (nI t) = f_X9_frauds_L73 thrown status item bay thn (nI r) (nI i) g (nI (t + 1)) := by
        rw [f_X9_frauds_L73_s, hb, if_neg c9, ei, gd_k (inb_nI (by omega) (by decide)), ix_nI (by omega), if_pos q', nI_1]
      rw [z8, z9]
      exact ih (t + 1) f g (by omega) (by omega) (by omega)
    · have q' : ¬ 0 ≤ item (40 * r + (i + t)) := by rw [← e]; exact q
      refine Or.inl ⟨?_, ?_⟩
      · rw [f_X6_hasBelowZero_m_L3_s, if_neg c8, gd_k (inb_nI hr (by decide)), gd_k (inb_nI (by omega) (by decide)), ix_nI (by omega), if_neg q]
      · rw [f_X9_frauds_L73_s, hb, if_neg c9, ei, gd_k (inb_nI (by omega) (by decide)), ix_nI (by omega), if_neg q']
theorem wrong_L {itm item bay fdep thn : Nat → Int32} {r i n : Nat} (hr : r < 8) (hn : n ≤ 6) (hi : i + n ≤ 40) (hb : bay 1 = nI n) (he : ∀ k, k < 40 → itm k = item (40 * r + k)) (hd : ∀ w, w < 6 → fdep w = thn (16 + 4 * w)) : ∀ (m t f g : Nat) (s : Int32), t + m = n → m < f → m < g →
    ∃ s', f_X8_watersToldWrong_L34 (nI n) fdep itm (nI i) f s (nI t) = some s' ∧ f_X9_frauds_L126 item bay thn (nI r) (nI i) g s (nI t) = some s' := by
  intro m
  induction m with
  | zero =>
    intro t f g s ht hf hg
    obtain ⟨f, rfl⟩ : ∃ f', f = f' + 1 := ⟨f - 1, by omega⟩
    obtain ⟨g, rfl⟩ : ∃ f', g = f' + 1 := ⟨g - 1, by omega⟩
    have c : nI n ≤ nI t := by rw [nI_leI (by omega) (by omega)]; omega
    exact ⟨s, by rw [f_X8_watersToldWrong_L34_s, if_pos c], by rw [f_X9_frauds_L126_s, hb, if_pos c]⟩
  | succ m ih =>
    intro t f g s ht hf hg
    obtain ⟨f, rfl⟩ : ∃ f', f = f' + 1 := ⟨f - 1, by omega⟩
    obtain ⟨g, rfl⟩ : ∃ f', g = f' + 1 := ⟨g - 1, by omega⟩
    have c : ¬ nI n ≤ nI t := by rw [nI_leI (by omega) (by omega)]; omega
    have ei : 40 * nI r + nI i + nI t = nI (40 * r + (i + t)) := by rw [ix40, nI_add, Nat.add_assoc]
    have e := he (i + t) (by omega)
    have e2 := hd t (by omega)
    by_cases q : itm (i + t) = fdep t
    · obtain ⟨s', k1, k2⟩ := ih (t + 1) f g s (by omega) (by omega) (by omega)
      refine ⟨s', ?_, ?_⟩
      · rw [f_X8_watersToldWrong_L34_s, if_neg c, nI_add, gd_k (inb_nI (by omega) (by decide)), gd_k (inb_nI (by omega) (by decide)), ix_nI (by omega), ix_nI (by omega), if_pos q, nI_1]
        exact k1
      · rw [f_X9_frauds_L126_s, hb, if_neg c, at1, bd_s, gd_k (inb_nI (by omega) (by decide)), ei, gd_k (inb_nI (by omega) (by decide)), ix_nI (by omega), ix_nI (by omega), if_pos (by rw [← e, ← e2]; exact q.symm), or_0, nI_1]
        exact k2
    · obtain ⟨s', k1, k2⟩ := ih (t + 1) f g (s ||| 1 <<< (nI t &&& 31)) (by omega) (by omega) (by omega)
      refine ⟨s', ?_, ?_⟩
      · rw [f_X8_watersToldWrong_L34_s, if_neg c, nI_add, gd_k (inb_nI (by omega) (by decide)), gd_k (inb_nI (by omega) (by decide)), ix_nI (by omega), ix_nI (by omega), if_neg q, nI_1]
        exact k1
      · rw [f_X9_frauds_L126_s, hb, if_neg c, at1, bd_s, gd_k (inb_nI (by omega) (by decide)), ei, gd_k (inb_nI (by omega) (by decide)), ix_nI (by omega), ix_nI (by omega), if_neg (by rw [← e, ← e2]; exact fun z => q z.symm), nI_1]
        exact k2
theorem lgc_le0 (x y : Int64) : lg_cmp x y ≤ 0 ↔ x.toInt ≤ y.toInt := by
  have h := lgc_gt x y
  constructor
  · intro q
    by_cases c : y.toInt < x.toInt
    · have q1 := i32_le.mp q
      have q2 := i32_lt.mp (h.mpr c)
      omega
    · omega
  · intro q
    by_cases c : 0 < lg_cmp x y
    · have := h.mp c
      omega
    · exact i32_le.mpr (by
        have c' : ¬ (0 : Int32).toInt < (lg_cmp x y).toInt := fun z => c (i32_lt.mpr z)
        omega)
theorem op_frauds {B n : Nat} {sta wat : Int32} {lev kin sil : Nat → Int32} {hour : Int32} {dep arr deb bay : Nat → Int32} {lfi status : Int32} {lan siz : Nat → Int32} {itm : Nat → Nat → Int32} {lane many item : Nat → Int32} (thrown fhour : Int32) (fdep farr fdeb thn : Nat → Int32) (p1 p2 : Int32) (hB : B < 2 ^ 28) (hC : ChartR n sta wat lev kin sil bay) (hL : LedR B n hour dep arr deb bay) (hR : RowsR lan siz itm lane many item) (hs : lfi = status) :
    ∃ r lfi' fhour' fdep' farr' fdeb' thrown' status' thn', f_X8_frauds lfi lan siz sta wat lev kin sil hour dep arr deb fhour fdep farr fdeb itm p1 p2 = some (r, lfi', fhour', fdep', farr', fdeb') ∧ f_X9_frauds thrown status lane many item bay thn p1 p2 = some (r, thrown', status', thn') ∧ lfi' = status' := by
  obtain ⟨⟨c0, cs⟩, ⟨c1, hw, hn⟩, -, -⟩ := id hC
  rw [hw] at c1
  by_cases hs0 : sta = 0
  · have e9 : f_X9_isThere bay = some 0 := by unfold f_X9_isThere; rw [c0, hs0] <;> rfl
    exact ⟨-1000002, lfi, fhour, fdep, farr, fdeb, 0, status, thn, by simp only [f_X8_frauds, f_X8_frauds_m, if_pos hs0, bd_s] <;> rfl, by simp only [f_X9_frauds, e9, bd_s, if_true] <;> rfl, hs⟩
  have e9 : f_X9_isThere bay = some 1 := by
    unfold f_X9_isThere
    rcases cs with q | q
    · rw [c0, q] <;> rfl
    · exact absurd q.1 hs0
  rcases place p1 8 (by decide) with ⟨r, hr, rfl⟩ | h
  rotate_left
  · exact ⟨-1000001, lfi, fhour, fdep, farr, fdeb, 0, status, thn, by simp only [f_X8_frauds, f_X8_frauds_m, if_neg hs0, isRow8_no h, bd_s, if_true] <;> rfl, by simp only [f_X9_frauds, e9, bd_s, if10, isRow9_no h, if_true] <;> rfl, hs⟩
  obtain ⟨h1, h2, h3, ⟨c, hc, hm⟩, h5⟩ := hR r hr
  have g8 : ∀ {α : Type} (x : Option α), gd (inb (nI r) 8) x = x := fun x => gd_k (inb_nI hr (by decide)) x
  have x0 := ix_nI (show r < 2 ^ 31 by omega)
  by_cases hl : lane r = -1
  · have m8 : f_X6_isMissing lan (nI r) = some 1 := by unfold f_X6_isMissing; rw [g8, x0, h1, if_pos hl]
    have m9 : ¬ 0 ≤ lane r := fun q => (lane_ge h2).mp q hl
    exact ⟨(-1000010) - 1, 1, fhour, fdep, farr, fdeb, 0, 1, thn, by simp only [f_X8_frauds, f_X8_frauds_m, if_neg hs0, isRow8 hr, bd_s, if10, m8, f_X8_found] <;> rfl, by simp only [f_X9_frauds, e9, bd_s, if10, isRow9 hr, g8, x0, if_neg m9, f_X9_finding] <;> rfl, rfl⟩
  have m8 : f_X6_isMissing lan (nI r) = some 0 := by unfold f_X6_isMissing; rw [g8, x0, h1, if_neg hl]
  have m9 : 0 ≤ lane r := (lane_ge h2).mpr hl
  have hp := hasPl hr (h3.trans hm) hc p2 (nI n)
  rw [nI_toInt (by omega)] at hp
  by_cases q : 0 ≤ p2.toInt ∧ 0 ≤ (n : Int) ∧ p2.toInt + (n : Int) ≤ (c : Int)
  rotate_left
  · rw [if_neg q] at hp
    refine ⟨(-1000010) - 2, 2, fhour, fdep, farr, fdeb, 0, 2, thn, by simp only [f_X8_frauds, f_X8_frauds_m, if_neg hs0, isRow8 hr, bd_s, if10, m8, if_true, hw, hp, f_X8_found] <;> rfl, ?_, rfl⟩
    by_cases k : p2 < 0
    · simp only [f_X9_frauds, e9, bd_s, if10, isRow9 hr, g8, x0, if_pos m9, if_pos k, f_X9_finding]
    · have k' : ¬ p2.toInt < 0 := fun z => k (lt0.mpr z)
      have kc : ¬ lg_cmp (p2.toInt64 + (bay 1).toInt64) ((many r).toInt64) ≤ 0 := by
        rw [lgc_le0, add64, t64, c1, hm, nI_toInt (by omega), nI_toInt (by omega)]
        omega
      simp only [f_X9_frauds, e9, bd_s, if10, isRow9 hr, g8, x0, if_pos m9, if_neg k, if_neg kc, f_X9_finding]
  rw [if_pos q] at hp
  obtain ⟨i, hi, rfl⟩ : ∃ i, i + n ≤ 40 ∧ p2 = nI i := ⟨p2.toInt.toNat, by omega, (nI_iff (by omega)).mpr (by omega)⟩
  have k : ¬ nI i < 0 := nI_pos (by omega)
  have kc : lg_cmp ((nI i).toInt64 + (bay 1).toInt64) ((many r).toInt64) ≤ 0 := by
    rw [lgc_le0, add64, t64, c1, hm, nI_toInt (by omega), nI_toInt (by omega), nI_toInt (by omega)]
    rw [nI_toInt (by omega)] at q
    omega
  have kk : kq (nI r) 8 = r := kq_nI hr (by decide)
  rcases below_L hr hi c1 h5 0 status thn n 0 2000 2000 (by omega) (by omega) (by omega) with ⟨b8, b9⟩ | ⟨b8, g', b9⟩
  · rw [Nat.add_zero] at b8
    rw [show nI 0 = 0 from rfl] at b9
    exact ⟨-1000001, lfi, fhour, fdep, farr, fdeb, 0, status, thn, by simp only [f_X8_frauds, kk, f_X8_frauds_m, if_neg hs0, isRow8 hr, bd_s, if10, m8, if_true, hw, hp, f_X6_hasBelowZero_m, b8] <;> rfl, by simp only [f_X9_frauds, e9, bd_s, if10, isRow9 hr, g8, x0, if_pos m9, if_neg k, if_pos kc, b9] <;> rfl, hs⟩
  · rw [Nat.add_zero] at b8
    rw [show nI 0 = 0 from rfl] at b9
    obtain ⟨thn1, y1, y2⟩ := lay9 bay thn
    have L1 := LedR_g (LedR_f (dep' := va_cpy dep fdep 0 0 6) (arr' := va_cpy arr farr 0 0 6) (deb' := va_cpy deb fdeb 0 0 36) hL (fun w hw => cpy0 _ _ hw) (fun w hw => cpy0 _ _ hw) (fun w hw => cpy0 _ _ hw)) y2
    obtain ⟨dep2, arr2, deb2, thn2, h8, h9, hL2, -, -⟩ := hour_R hC L1 (by omega)
    obtain ⟨-, l3, -, -⟩ := hL2
    obtain ⟨s', w8, w9⟩ := wrong_L hr hn hi c1 h5 (fun w hw => (l3 w hw).1) n 0 2000 2000 0 (by omega) (by omega) (by omega)
    rw [show nI 0 = 0 from rfl] at w8 w9
    rw [hw] at h8
    have e99 : f_X9_frauds_L73 0 status item bay thn (nI r) (nI i) (g' + 1) (nI n) = some (s', 0, 0, thn2) := by
      rw [f_X9_frauds_L73_s, c1, if_pos (nI_le (Nat.le_refl n) (by omega)), y1, bd_s, h9, bd_s, w9, bd_s]
    exact ⟨s', 0, _, _, _, _, 0, 0, _, by simp only [f_X8_frauds, kk, f_X8_frauds_m, if_neg hs0, isRow8 hr, bd_s, if10, m8, if_true, hw, hp, f_X6_hasBelowZero_m, b8, g8, f_X8_watersToldWrong, f_X3_takeFrom, h8, w8, f_X8_fine] <;> rfl, by simp only [f_X9_frauds, e9, bd_s, if10, isRow9 hr, g8, x0, if_pos m9, if_neg k, if_pos kc, b9, e99] <;> rfl, rfl⟩
