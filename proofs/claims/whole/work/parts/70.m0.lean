/-! ===== mathematics: indexes, guards, bounds ===== -/
theorem ix_nI {i : Nat} (h : i < 2 ^ 31) : ix (nI i) = i := nI_clamp h
theorem inb_nI {i n : Nat} (h : i < n) (hn : n ≤ 100000) : inb (nI i) n = true := by
  unfold inb
  rw [ix_nI (by omega)]
  simp only [Bool.and_eq_true, Bool.not_eq_true', decide_eq_false_iff_not, decide_eq_true_eq]
  exact ⟨nI_pos (by omega), h⟩
theorem bd_s {α β : Type} (a : α) (k : α → Option β) : bd (some a) k = k a := rfl
theorem gd_k {α : Type} {b : Bool} (h : b = true) (x : Option α) : gd b x = x := by rw [h]; rfl
theorem nI_neg (n : Nat) : (-1 : Int32) = -nI 1 := rfl
theorem i32_lt {a b : Int32} : a < b ↔ a.toInt < b.toInt := Int32.lt_iff_toInt_lt
theorem i32_le {a b : Int32} : a ≤ b ↔ a.toInt ≤ b.toInt := Int32.le_iff_toInt_le
theorem i32_eq {a b : Int32} : a = b ↔ a.toInt = b.toInt := ⟨fun h => by rw [h], fun h => Int32.toInt_inj.mp h⟩
theorem lgc_lt (x y : Int64) : lg_cmp x y < 0 ↔ x.toInt < y.toInt := by
  unfold lg_cmp
  rw [← Int64.lt_iff_toInt_lt]
  by_cases h1 : x > y
  · rw [if_pos h1]
    refine ⟨fun h => absurd h (by decide), fun h => ?_⟩
    have h2 := Int64.lt_iff_toInt_lt.mp h
    have h3 := Int64.lt_iff_toInt_lt.mp h1
    omega
  · rw [if_neg h1]
    by_cases h2 : x = y
    · rw [if_pos h2]
      refine ⟨fun h => absurd h (by decide), fun h => ?_⟩
      subst h2
      have h3 := Int64.lt_iff_toInt_lt.mp h
      omega
    · rw [if_neg h2]
      refine ⟨fun _ => ?_, fun _ => by decide⟩
      have h3 : ¬ y.toInt < x.toInt := fun q => h1 (Int64.lt_iff_toInt_lt.mpr q)
      have h4 : x.toInt ≠ y.toInt := fun q => h2 (Int64.toInt_inj.mp q)
      exact Int64.lt_iff_toInt_lt.mpr (by omega)
theorem lgc_gt (x y : Int64) : 0 < lg_cmp x y ↔ y.toInt < x.toInt := by
  unfold lg_cmp
  by_cases h1 : x > y
  · rw [if_pos h1]
    exact ⟨fun _ => Int64.lt_iff_toInt_lt.mp h1, fun _ => by decide⟩
  · rw [if_neg h1]
    have h3 : ¬ y.toInt < x.toInt := fun q => h1 (Int64.lt_iff_toInt_lt.mpr q)
    by_cases h2 : x = y
    · rw [if_pos h2]
      exact ⟨fun h => absurd h (by decide), fun h => absurd h h3⟩
    · rw [if_neg h2]
      exact ⟨fun h => absurd h (by decide), fun h => absurd h h3⟩
theorem in_eq (x lo hi : Int64) : f_X9_in x lo hi = some (if lo.toInt ≤ x.toInt ∧ x.toInt ≤ hi.toInt then 1 else 0) := by
  unfold f_X9_in
  by_cases h1 : lg_cmp x lo < 0
  · rw [if_pos h1, if_neg]
    have := (lgc_lt x lo).mp h1
    omega
  · rw [if_neg h1]
    have h1' : ¬ x.toInt < lo.toInt := fun q => h1 ((lgc_lt x lo).mpr q)
    by_cases h2 : 0 < lg_cmp x hi
    · rw [if_pos h2, if_neg]
      have := (lgc_gt x hi).mp h2
      omega
    · rw [if_neg h2, if_pos]
      have h2' : ¬ hi.toInt < x.toInt := fun q => h2 ((lgc_gt x hi).mpr q)
      omega
theorem in_t {x lo hi : Int64} (h : lo.toInt ≤ x.toInt ∧ x.toInt ≤ hi.toInt) : f_X9_in x lo hi = some 1 := by rw [in_eq, if_pos h]
theorem in_f {x lo hi : Int64} (h : ¬ (lo.toInt ≤ x.toInt ∧ x.toInt ≤ hi.toInt)) : f_X9_in x lo hi = some 0 := by rw [in_eq, if_neg h]
theorem t64 (x : Int32) : x.toInt64.toInt = x.toInt := Int32.toInt_toInt64 x
/-- a number is a place below n, or not: what both sides' tests make of it -/
theorem place (p : Int32) (n : Nat) (hn : n < 2 ^ 31) : (∃ k, k < n ∧ p = nI k) ∨ (p.toInt < 0 ∨ (n : Int) ≤ p.toInt) := by
  rcases pk_ix p hn with h | h | h
  · exact Or.inr (Or.inl (by have := i32_lt.mp h; exact this))
  · exact Or.inr (Or.inr (by have := i32_le.mp h; rw [nI_toInt hn] at this; exact this))
  · exact Or.inl h
theorem isRow8 {k : Nat} (hk : k < 8) : f_X8_isRow (nI k) = some 1 := by
  unfold f_X8_isRow
  rw [if_neg (nI_pos (by omega)), if_neg (by rw [show (8 : Int32) = nI 8 from rfl, nI_leI (by omega) (by omega)]; omega)]
theorem isRow8_no {p : Int32} (h : p.toInt < 0 ∨ (8 : Int) ≤ p.toInt) : f_X8_isRow p = some 0 := by
  unfold f_X8_isRow
  rcases h with h | h
  · rw [if_pos (i32_lt.mpr h)]
  · rw [if_neg (fun q => by have := i32_lt.mp q; change p.toInt < 0 at this; omega), if_pos (i32_le.mpr (show (8 : Int32).toInt ≤ p.toInt from h))]
theorem isRow9 {k : Nat} (hk : k < 8) : f_X9_isRow (nI k) = some 1 := by
  unfold f_X9_isRow
  rw [in_t (by rw [t64, nI_toInt (by omega)]; change (0 : Int) ≤ k ∧ (k : Int) ≤ 7; omega)]
  rfl
theorem isRow9_no {p : Int32} (h : p.toInt < 0 ∨ (8 : Int) ≤ p.toInt) : f_X9_isRow p = some 0 := by
  unfold f_X9_isRow
  rw [in_f (by rw [t64]; change ¬ ((0 : Int) ≤ p.toInt ∧ p.toInt ≤ 7); omega)]
  rfl
theorem upd_s (f : Nat → Int32) (k : Nat) (v : Int32) : upd f k v k = v := pk_us
theorem upd_n (f : Nat → Int32) {k j : Nat} (v : Int32) (h : j ≠ k) : upd f k v j = f j := pk_un h
/-! the rows -/
def RowsR (lan siz : Nat → Int32) (itm : Nat → Nat → Int32) (lane many item : Nat → Int32) : Prop :=
  ∀ r, r < 8 → lan r = lane r ∧ (lane r = -1 ∨ lane r = 0 ∨ lane r = 1 ∨ lane r = 2) ∧ siz r = many r ∧ (∃ k, k ≤ 40 ∧ many r = nI k) ∧ ∀ k, k < 40 → itm r k = item (40 * r + k)
theorem lane_ge {x : Int32} (h : x = -1 ∨ x = 0 ∨ x = 1 ∨ x = 2) : (0 ≤ x ↔ x ≠ -1) := by
  rcases h with rfl | rfl | rfl | rfl <;> decide
theorem op_drop {lfi status thrown : Int32} {lan siz : Nat → Int32} {itm : Nat → Nat → Int32} {lane many item : Nat → Int32} (p : Int32) (hR : RowsR lan siz itm lane many item) (hs : lfi = status) :
    ∃ (r lfi' status' thrown' : Int32) (lan' lane' : Nat → Int32), f_X8_drop lfi lan siz p = some (r, lfi', lan') ∧ f_X9_drop thrown status lane many p = some (r, thrown', status', lane') ∧ lfi' = status' ∧ RowsR lan' siz itm lane' many item := by
  unfold f_X8_drop f_X9_drop
  rcases place p 8 (by decide) with ⟨k, hk, rfl⟩ | h
  · obtain ⟨h1, h2, h3, h4, h5⟩ := hR k hk
    rw [isRow8 hk, isRow9 hk, bd_s, bd_s, if_neg (by decide), if_neg (by decide)]
    unfold f_X6_isMissing f_X6_remove f_X8_fine f_X8_found f_X9_finding
    rw [gd_k (inb_nI hk (by decide)), gd_k (inb_nI hk (by decide)), gd_k (inb_nI hk (by decide)), ix_nI (by omega), h1, h3]
    by_cases hl : lane k = -1
    · rw [if_pos hl, bd_s, if_neg (by decide), bd_s, if_neg (fun q => (lane_ge h2).mp q hl), bd_s]
      exact ⟨_, _, _, _, _, _, rfl, rfl, rfl, hR⟩
    · rw [if_neg hl, bd_s, if_pos rfl, bd_s, bd_s, if_pos ((lane_ge h2).mpr hl)]
      refine ⟨_, _, _, _, _, _, rfl, rfl, rfl, fun r hr => ?_⟩
      obtain ⟨g1, g2, g3, g4, g5⟩ := hR r hr
      by_cases hrk : r = k
      · subst hrk
        dsimp only
        rw [upd_s, upd_s]
        exact ⟨rfl, Or.inl rfl, g3, g4, g5⟩
      · dsimp only
        rw [upd_n _ _ hrk, upd_n _ _ hrk]
        exact ⟨g1, g2, g3, g4, g5⟩
  · rw [isRow8_no h, isRow9_no h, bd_s, bd_s, if_pos rfl, if_pos rfl]
    exact ⟨_, _, _, _, _, _, rfl, rfl, hs, hR⟩
