/-! ===== rows: places, set ===== -/
theorem t0 : (0 : Int32).toInt = 0 := rfl
theorem lt0 {x : Int32} : x < 0 ↔ x.toInt < 0 := i32_lt
theorem le0 {x : Int32} : 0 ≤ x ↔ 0 ≤ x.toInt := i32_le
theorem hasPl {siz : Nat → Int32} {k c : Nat} (hk : k < 8) (hc : siz k = nI c) (hc40 : c ≤ 40) (f n : Int32) : f_X6_hasPlaces siz (nI k) f n = some (if 0 ≤ f.toInt ∧ 0 ≤ n.toInt ∧ f.toInt + n.toInt ≤ c then 1 else 0) := by
  unfold f_X6_hasPlaces
  by_cases h1 : f < 0
  · have := lt0.mp h1
    rw [if_pos h1, if_neg (by omega)]
  · have g1 : ¬ f.toInt < 0 := fun q => h1 (lt0.mpr q)
    rw [if_neg h1]
    by_cases h2 : n < 0
    · have := lt0.mp h2
      rw [if_pos h2, if_neg (by omega)]
    · have g2 : ¬ n.toInt < 0 := fun q => h2 (lt0.mpr q)
      rw [if_neg h2, gd_k (inb_nI hk (by decide)), ix_nI (by omega), hc]
      by_cases h3 : nI c < n
      · have := i32_lt.mp h3
        rw [nI_toInt (by omega)] at this
        rw [if_pos h3, if_neg (by omega)]
      · have g3 : ¬ (c : Int) < n.toInt := fun q => h3 (i32_lt.mpr (by rw [nI_toInt (by omega)]; exact q))
        obtain ⟨m, hm, rfl⟩ := nI_of h2
        rw [nI_toInt hm] at g3 g2 ⊢
        rw [if_neg h3]
        by_cases h4 : nI c - nI m < f
        · have := i32_lt.mp h4
          rw [pk_sub_toInt (by omega) (by omega)] at this
          rw [if_pos h4, if_neg (by omega)]
        · have g4 : ¬ ((c : Int) - m < f.toInt) := fun q => h4 (i32_lt.mpr (by rw [pk_sub_toInt (by omega) (by omega)]; exact q))
          rw [if_neg h4, if_pos (by omega)]
theorem op_set {lfi status : Int32} (thrown : Int32) {lan siz : Nat → Int32} {itm : Nat → Nat → Int32} {lane many item : Nat → Int32} (p i v : Int32) (hR : RowsR lan siz itm lane many item) (hs : lfi = status) :
    ∃ (r lfi' status' thrown' : Int32) (item' : Nat → Int32) (itm' : Nat → Nat → Int32), f_X8_set lfi lan siz itm p i v = some (r, lfi', itm') ∧ f_X9_set thrown status lane many item p i v = some (r, thrown', status', item') ∧ lfi' = status' ∧ RowsR lan siz itm' lane many item' := by
  rcases place p 8 (by decide) with ⟨k, hk, rfl⟩ | h
  · obtain ⟨h1, h2, h3, ⟨c, hc, h4⟩, h5⟩ := hR k hk
    have hix := ix_nI (show k < 2 ^ 31 by omega)
    have hgd : ∀ {α : Type} (x : Option α), gd (inb (nI k) 8) x = x := fun x => gd_k (inb_nI hk (by decide)) x
    by_cases hl : lane k = -1
    · have hl' : ¬ 0 ≤ lane k := fun q => (lane_ge h2).mp q hl
      exact ⟨(-1000010) - 1, 1, 1, 0, item, itm, by simp only [f_X8_set, isRow8 hk, bd_s, if10, f_X6_isMissing, hgd, hix, h1, if_pos hl, f_X8_found], by simp only [f_X9_set, isRow9 hk, bd_s, if10, hgd, hix, if_neg hl', f_X9_finding], rfl, hR⟩
    · have hl' : 0 ≤ lane k := (lane_ge h2).mpr hl
      have hp := hasPl hk (h3.trans h4) hc i 1
      have hin := in_eq i.toInt64 0 ((many k - 1 : Int32).toInt64)
      have hm1 : (many k - 1).toInt = (c : Int) - 1 := by rw [h4, show (1 : Int32) = nI 1 from rfl, pk_sub_toInt (by omega) (by omega)]; rfl
      rw [t64, t64, hm1] at hin
      by_cases hi : 0 ≤ i.toInt ∧ 0 ≤ (1 : Int32).toInt ∧ i.toInt + (1 : Int32).toInt ≤ c
      · have hi' : (0 : Int64).toInt ≤ i.toInt ∧ i.toInt ≤ (c : Int) - 1 := by
          have := hi.2.2; change i.toInt + 1 ≤ c at this; refine ⟨hi.1, by omega⟩
        rw [if_pos hi] at hp
        rw [if_pos hi'] at hin
        obtain ⟨a, ha, rfl⟩ := nI_of (x := i) (fun q => by have := lt0.mp q; omega)
        have hac : a < c := by have := hi'.2; rw [nI_toInt ha] at this; omega
        have hia := ix_nI ha
        have h320 : ∀ {α : Type} (x : Option α), gd (inb (nI (40 * k + a)) 320) x = x := fun x => gd_k (inb_nI (by omega) (by decide)) x
        have h40 : ∀ {α : Type} (x : Option α), gd (inb (nI a) 40) x = x := fun x => gd_k (inb_nI (by omega) (by decide)) x
        have hixx := ix_nI (show 40 * k + a < 2 ^ 31 by omega)
        have key : ∀ w : Int32, RowsR lan siz (va_up itm k (upd (itm k) a w)) lane many (upd item (40 * k + a) w) := by
          intro w r hr
          obtain ⟨g1, g2, g3, g4, g5⟩ := hR r hr
          refine ⟨g1, g2, g3, g4, fun q hq => ?_⟩
          by_cases hrk : r = k
          · subst hrk
            rw [va_up_self]
            by_cases hqa : q = a
            · subst hqa
              rw [upd_s, upd_s]
            · rw [upd_n _ _ hqa, upd_n _ _ (by omega)]
              exact g5 q hq
          · rw [va_up_ne _ _ hrk, upd_n _ _ (by omega)]
            exact g5 q hq
        by_cases l0 : lane k = 0
        · exact ⟨v.toInt8.toInt32, 0, 0, 0, _, _, by simp only [f_X8_set, isRow8 hk, bd_s, if10, f_X6_isMissing, hgd, hix, h1, if_neg hl, if_true, hp, f_X6_put, f_X6_put_m, if_pos l0, hia, h40, f_X8_fine], by simp only [f_X9_set, isRow9 hk, bd_s, if10, hgd, hix, if_pos hl', hin, if_pos l0, ix40, h320, hixx, upd_s], rfl, key (v.toInt8.toInt32)⟩
        · by_cases l1 : lane k = 1
          · exact ⟨v.toInt16.toInt32, 0, 0, 0, _, _, by simp only [f_X8_set, isRow8 hk, bd_s, if10, f_X6_isMissing, hgd, hix, h1, if_neg hl, if_true, hp, f_X6_put, f_X6_put_m, if_neg l0, if_pos l1, hia, h40, f_X8_fine], by simp only [f_X9_set, isRow9 hk, bd_s, if10, hgd, hix, if_pos hl', hin, if_neg l0, if_pos l1, ix40, h320, hixx, upd_s], rfl, key (v.toInt16.toInt32)⟩
          · exact ⟨v, 0, 0, 0, _, _, by simp only [f_X8_set, isRow8 hk, bd_s, if10, f_X6_isMissing, hgd, hix, h1, if_neg hl, if_true, hp, f_X6_put, f_X6_put_m, if_neg l0, if_neg l1, hia, h40, f_X8_fine], by simp only [f_X9_set, isRow9 hk, bd_s, if10, hgd, hix, if_pos hl', hin, if_neg l0, if_neg l1, ix40, h320, hixx, upd_s], rfl, key v⟩
      · have hi' : ¬ ((0 : Int64).toInt ≤ i.toInt ∧ i.toInt ≤ (c : Int) - 1) := by
          intro q; apply hi; refine ⟨q.1, by decide, ?_⟩; change i.toInt + 1 ≤ c; omega
        rw [if_neg hi] at hp
        rw [if_neg hi'] at hin
        exact ⟨(-1000010) - 2, 2, 2, 0, item, itm, by simp only [f_X8_set, isRow8 hk, bd_s, if10, f_X6_isMissing, hgd, hix, h1, if_neg hl, if_true, hp, f_X8_found], by simp only [f_X9_set, isRow9 hk, bd_s, if10, hgd, hix, if_pos hl', hin, if_true, f_X9_finding], rfl, hR⟩
  · exact ⟨(-1000001), lfi, status, 0, item, itm, by simp only [f_X8_set, isRow8_no h, bd_s, if_true], by simp only [f_X9_set, isRow9_no h, bd_s, if_true], hs, hR⟩
