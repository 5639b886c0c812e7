theorem va_up_id (f : Nat → Nat → Int32) (k : Nat) : va_up f k (f k) = f := by
  funext r
  by_cases h : r = k
  · subst h; rw [va_up_self]
  · rw [va_up_ne _ _ h]
theorem kq_nI {k n : Nat} (h : k < n) (hn : n ≤ 100000) : kq (nI k) n = k := by
  unfold kq
  rw [if_pos (inb_nI h hn), ix_nI (by omega)]
theorem add64 (x y : Int32) : (x.toInt64 + y.toInt64).toInt = x.toInt + y.toInt := by
  have h1 := Int32.toInt_lt x
  have h2 := Int32.le_toInt x
  have h3 := Int32.toInt_lt y
  have h4 := Int32.le_toInt y
  rw [Int64.toInt_add, t64, t64]
  exact Int.bmod_eq_of_le (by omega) (by omega)
theorem copy8 (lfi : Int32) (lan siz : Nat → Int32) (itm : Nat → Nat → Int32) (p1 p2 p3 p4 p5 : Int32) : f_X8_copy lfi lan siz itm p1 p2 p3 p4 p5 = bd (f_X8_copy_n lfi lan siz (itm (kq p1 8)) (itm (kq p3 8)) p1 p2 p3 p4 p5) (fun z => some (z.1, z.2.1, va_up itm (kq p3 8) z.2.2)) := by
  unfold f_X8_copy
  by_cases h : kq p1 8 = kq p3 8
  · rw [if_pos h, ← h]; rfl
  · rw [if_neg h]
theorem op_copy {lfi status : Int32} (thrown : Int32) {lan siz : Nat → Int32} {itm : Nat → Nat → Int32} {lane many item : Nat → Int32} (p i q j n : Int32) (hR : RowsR lan siz itm lane many item) (hs : lfi = status) :
    ∃ (r lfi' status' thrown' : Int32) (item' : Nat → Int32) (itm' : Nat → Nat → Int32), f_X8_copy lfi lan siz itm p i q j n = some (r, lfi', itm') ∧ f_X9_copy thrown status lane many item p i q j n = some (r, thrown', status', item') ∧ lfi' = status' ∧ RowsR lan siz itm' lane many item' := by
  rcases place p 8 (by decide) with ⟨a, ha, rfl⟩ | h
  · rcases place q 8 (by decide) with ⟨b, hb, rfl⟩ | h
    · obtain ⟨h1, h2, h3, ⟨c, hc, h4⟩, h5⟩ := hR a ha
      obtain ⟨g1, g2, g3, ⟨d, hd, g4⟩, g5⟩ := hR b hb
      have hix := ix_nI (show a < 2 ^ 31 by omega)
      have gix := ix_nI (show b < 2 ^ 31 by omega)
      have hgd : ∀ {α : Type} (x : Option α), gd (inb (nI a) 8) x = x := fun x => gd_k (inb_nI ha (by decide)) x
      have ggd : ∀ {α : Type} (x : Option α), gd (inb (nI b) 8) x = x := fun x => gd_k (inb_nI hb (by decide)) x
      have hka : kq (nI a) 8 = a := kq_nI ha (by decide)
      have hkb : kq (nI b) 8 = b := kq_nI hb (by decide)
      by_cases hl : lane a = -1
      · have hl' : lane a < 0 := by rw [hl]; decide
        exact ⟨(-1000010) - 1, 1, 1, 0, item, itm, by simp only [copy8, f_X8_copy_n, isRow8 ha, isRow8 hb, bd_s, if10, f_X6_isMissing, hgd, ggd, hix, h1, if_pos hl, f_X8_found, va_up_id], by simp only [f_X9_copy, isRow9 ha, isRow9 hb, bd_s, if10, hgd, ggd, hix, if_pos hl', f_X9_finding], rfl, hR⟩
      · have hl' : ¬ lane a < 0 := fun q => by
          have e1 := i32_lt.mp q; have e2 := i32_le.mp ((lane_ge h2).mpr hl); omega
        by_cases gl : lane b = -1
        · have gl' : ¬ 0 ≤ lane b := fun q => (lane_ge g2).mp q gl
          exact ⟨(-1000010) - 1, 1, 1, 0, item, itm, by simp only [copy8, f_X8_copy_n, isRow8 ha, isRow8 hb, bd_s, if10, f_X6_isMissing, hgd, ggd, hix, gix, h1, g1, if_neg hl, if_pos gl, if_true, f_X8_found, va_up_id], by simp only [f_X9_copy, isRow9 ha, isRow9 hb, bd_s, if10, hgd, ggd, hix, gix, if_neg hl', if_neg gl', f_X9_finding], rfl, hR⟩
        · have gl' : 0 ≤ lane b := (lane_ge g2).mpr gl
          by_cases e : lane a = lane b
          · have hp := hasPl ha (h3.trans h4) hc i n
            have gp := hasPl hb (g3.trans g4) hd j n
            have N9 : ¬ ((0 ≤ i.toInt ∧ 0 ≤ n.toInt ∧ i.toInt + n.toInt ≤ c) ∧ (0 ≤ j.toInt ∧ 0 ≤ n.toInt ∧ j.toInt + n.toInt ≤ d)) → f_X9_copy thrown status lane many item (nI a) i (nI b) j n = some ((-1000010) - 2, 0, 2, item) := by
              intro N
              by_cases c1 : i < 0
              · simp only [f_X9_copy, isRow9 ha, isRow9 hb, bd_s, if10, hgd, ggd, hix, gix, if_neg hl', if_pos gl', if_pos e, if_pos c1, f_X9_finding]
              · by_cases c2 : j < 0
                · simp only [f_X9_copy, isRow9 ha, isRow9 hb, bd_s, if10, hgd, ggd, hix, gix, if_neg hl', if_pos gl', if_pos e, if_neg c1, if_pos c2, f_X9_finding]
                · by_cases c3 : n < 0
                  · simp only [f_X9_copy, isRow9 ha, isRow9 hb, bd_s, if10, hgd, ggd, hix, gix, if_neg hl', if_pos gl', if_pos e, if_neg c1, if_neg c2, if_pos c3, f_X9_finding]
                  · by_cases c4 : 0 < lg_cmp (i.toInt64 + n.toInt64) ((many a : Int32).toInt64)
                    · simp only [f_X9_copy, isRow9 ha, isRow9 hb, bd_s, if10, hgd, ggd, hix, gix, if_neg hl', if_pos gl', if_pos e, if_neg c1, if_neg c2, if_neg c3, if_pos c4, f_X9_finding]
                    · have c5 : ¬ lg_cmp (j.toInt64 + n.toInt64) ((many b : Int32).toInt64) ≤ 0 := by
                        intro q
                        have q' := i32_le.mp q
                        have c4' : ¬ (c : Int) < i.toInt + n.toInt := fun w => c4 ((lgc_gt _ _).mpr (by rw [add64, t64, h4, nI_toInt (by omega)]; exact w))
                        have c5' : ¬ (d : Int) < j.toInt + n.toInt := fun w => by
                          have := i32_lt.mp ((lgc_gt (j.toInt64 + n.toInt64) ((many b : Int32).toInt64)).mpr (by rw [add64, t64, g4, nI_toInt (by omega)]; exact w))
                          omega
                        have d1 : ¬ i.toInt < 0 := fun w => c1 (lt0.mpr w)
                        have d2 : ¬ j.toInt < 0 := fun w => c2 (lt0.mpr w)
                        have d3 : ¬ n.toInt < 0 := fun w => c3 (lt0.mpr w)
                        exact N (by omega)
                      simp only [f_X9_copy, isRow9 ha, isRow9 hb, bd_s, if10, hgd, ggd, hix, gix, if_neg hl', if_pos gl', if_pos e, if_neg c1, if_neg c2, if_neg c3, if_neg c4, if_neg c5, f_X9_finding]
            by_cases H : 0 ≤ i.toInt ∧ 0 ≤ n.toInt ∧ i.toInt + n.toInt ≤ c
            · rw [if_pos H] at hp
              by_cases G : 0 ≤ j.toInt ∧ 0 ≤ n.toInt ∧ j.toInt + n.toInt ≤ d
              · rw [if_pos G] at gp
                obtain ⟨x, hx, rfl⟩ := nI_of (x := i) (fun q => by have := lt0.mp q; omega)
                obtain ⟨y, hy, rfl⟩ := nI_of (x := j) (fun q => by have := lt0.mp q; omega)
                obtain ⟨m, hm, rfl⟩ := nI_of (x := n) (fun q => by have := lt0.mp q; omega)
                have H3 := H.2.2
                have G3 := G.2.2
                rw [nI_toInt hx, nI_toInt hm] at H3
                rw [nI_toInt hy, nI_toInt hm] at G3
                have cp : ∀ {α : Type} (z : Option α), gd (cpb (nI x) (nI y) (nI m) 40 40) z = z := fun z => gd_k (by
                  unfold cpb
                  rw [ix_nI hx, ix_nI hy, ix_nI hm]
                  simp only [Bool.and_eq_true, decide_eq_true_eq]
                  exact ⟨nI_pos hx, nI_pos hy, nI_pos hm, by omega, by omega⟩) z
                have c1 : ¬ nI x < 0 := nI_pos hx
                have c2 : ¬ nI y < 0 := nI_pos hy
                have c3 : ¬ nI m < 0 := nI_pos hm
                have c4 : ¬ 0 < lg_cmp ((nI x).toInt64 + (nI m).toInt64) ((many a : Int32).toInt64) := fun q => by
                  have := (lgc_gt _ _).mp q
                  rw [add64, t64, h4, nI_toInt hx, nI_toInt hm, nI_toInt (by omega)] at this
                  omega
                have c5 : lg_cmp ((nI y).toInt64 + (nI m).toInt64) ((many b : Int32).toInt64) ≤ 0 := by
                  refine i32_le.mpr (Int.not_lt.mp fun q => ?_)
                  have := (lgc_gt _ _).mp (i32_lt.mpr q)
                  rw [add64, t64, g4, nI_toInt hy, nI_toInt hm, nI_toInt (by omega)] at this
                  omega
                have e8 : f_X8_copy lfi lan siz itm (nI a) (nI x) (nI b) (nI y) (nI m) = some (nI m, 0, va_up itm b (va_cpy (itm a) (itm b) x y m)) := by
                  simp only [copy8, f_X8_copy_n, isRow8 ha, isRow8 hb, bd_s, if10, f_X6_isMissing, hgd, ggd, hix, gix, h1, g1, if_neg hl, if_neg gl, if_true, if_pos e, hp, gp, cp, f_X8_fine, hka, hkb, ix_nI hx, ix_nI hy, ix_nI hm]
                have key : RowsR lan siz (va_up itm b (va_cpy (itm a) (itm b) x y m)) lane many (fun q => if 40 * b + y ≤ q ∧ q < 40 * b + y + m then item (40 * a + x + (q - (40 * b + y))) else item q) := by
                  intro r hr
                  obtain ⟨f1, f2, f3, f4, f5⟩ := hR r hr
                  refine ⟨f1, f2, f3, f4, fun q hq => ?_⟩
                  dsimp only
                  by_cases hrb : r = b
                  · subst hrb
                    rw [va_up_self]
                    unfold va_cpy
                    by_cases hin : y ≤ q ∧ q < y + m
                    · rw [if_pos hin, if_pos (by omega), h5 _ (by omega)]
                      congr 1
                      omega
                    · rw [if_neg hin, if_neg (by omega)]
                      exact f5 q hq
                  · rw [va_up_ne _ _ hrb, if_neg (by omega)]
                    exact f5 q hq
                by_cases o : nI x < nI y
                · have o' : x < y := by have := i32_lt.mp o; rw [nI_toInt hx, nI_toInt hy] at this; omega
                  have e9 := copy_dn a x b y m (by omega) (by omega) (by omega) m 0 2000 item (by omega) (by omega)
                  rw [show nI 0 = 0 from rfl] at e9
                  exact ⟨nI m, 0, 0, 0, _, _, e8, by simp only [f_X9_copy, isRow9 ha, isRow9 hb, bd_s, if10, hgd, ggd, hix, gix, if_neg hl', if_pos gl', if_pos e, if_neg c1, if_neg c2, if_neg c3, if_neg c4, if_pos c5, if_pos o, e9], rfl, key⟩
                · have o' : y ≤ x := by
                    refine Nat.not_lt.mp fun q => o (i32_lt.mpr ?_)
                    rw [nI_toInt hx, nI_toInt hy]; omega
                  have e9 := copy_up a x b y m (by omega) (by omega) (by omega) m 0 2000 item (by omega) (by omega)
                  rw [show nI 0 = 0 from rfl] at e9
                  exact ⟨nI m, 0, 0, 0, _, _, e8, by simp only [f_X9_copy, isRow9 ha, isRow9 hb, bd_s, if10, hgd, ggd, hix, gix, if_neg hl', if_pos gl', if_pos e, if_neg c1, if_neg c2, if_neg c3, if_neg c4, if_pos c5, if_neg o, e9]; rfl, rfl, key⟩
              · rw [if_neg G] at gp
                have e8 : f_X8_copy lfi lan siz itm (nI a) i (nI b) j n = some ((-1000010) - 2, 2, itm) := by
                  simp only [copy8, f_X8_copy_n, isRow8 ha, isRow8 hb, bd_s, if10, f_X6_isMissing, hgd, ggd, hix, gix, h1, g1, if_neg hl, if_neg gl, if_true, if_pos e, hp, gp, f_X8_found, va_up_id]
                exact ⟨(-1000010) - 2, 2, 2, 0, item, itm, e8, N9 (fun q => G q.2), rfl, hR⟩
            · rw [if_neg H] at hp
              have e8 : f_X8_copy lfi lan siz itm (nI a) i (nI b) j n = some ((-1000010) - 2, 2, itm) := by
                simp only [copy8, f_X8_copy_n, isRow8 ha, isRow8 hb, bd_s, if10, f_X6_isMissing, hgd, ggd, hix, gix, h1, g1, if_neg hl, if_neg gl, if_true, if_pos e, hp, f_X8_found, va_up_id]
              exact ⟨(-1000010) - 2, 2, 2, 0, item, itm, e8, N9 (fun q => H q.1), rfl, hR⟩
          · exact ⟨(-1000010) - 5, 5, 5, 0, item, itm, by simp only [copy8, f_X8_copy_n, isRow8 ha, isRow8 hb, bd_s, if10, f_X6_isMissing, hgd, ggd, hix, gix, h1, g1, if_neg hl, if_neg gl, if_true, if_neg e, f_X8_found, va_up_id], by simp only [f_X9_copy, isRow9 ha, isRow9 hb, bd_s, if10, hgd, ggd, hix, gix, if_neg hl', if_pos gl', if_neg e, f_X9_finding], rfl, hR⟩
    · exact ⟨(-1000001), lfi, status, 0, item, itm, by simp only [copy8, f_X8_copy_n, isRow8 ha, isRow8_no h, bd_s, if10, if_true, va_up_id], by simp only [f_X9_copy, isRow9 ha, isRow9_no h, bd_s, if10, if_true], hs, hR⟩
  · exact ⟨(-1000001), lfi, status, 0, item, itm, by simp only [copy8, f_X8_copy_n, isRow8_no h, bd_s, if_true, va_up_id], by simp only [f_X9_copy, isRow9_no h, bd_s, if_true], hs, hR⟩
