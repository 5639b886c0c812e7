/-! ===== rows: row, set, copy ===== -/
theorem lit (n : Nat) : (OfNat.ofNat n : Int32) = nI n := rfl
theorem fillfun (f : Nat → Int32) {i N : Nat} (v : Int32) (h : i < N) : (fun k => if i + 1 ≤ k ∧ k < N then v else upd f i v k) = fun k => if i ≤ k ∧ k < N then v else f k := by
  funext k
  by_cases h1 : k = i
  · subst h1
    rw [if_neg (by omega), if_pos (by omega), upd_s]
  · rw [upd_n _ _ h1]
    by_cases h2 : i + 1 ≤ k ∧ k < N
    · rw [if_pos h2, if_pos (by omega)]
    · rw [if_neg h2, if_neg (by omega)]
theorem fill_L (N : Nat) (v : Int32) (hN : N ≤ 1000) : ∀ (r i n : Nat) (f : Nat → Int32), i + r = N → r < n → f_J7_fill_53178_L5 N v (nI N) n f (nI i) = some (fun k => if i ≤ k ∧ k < N then v else f k) := by
  intro r
  induction r with
  | zero =>
    intro i n f hi hn
    obtain ⟨n, rfl⟩ : ∃ n', n = n' + 1 := ⟨n - 1, by omega⟩
    rw [f_J7_fill_53178_L5_s, if_pos (by rw [nI_leI (by omega) (by omega)]; omega)]
    congr 1
    funext k
    rw [if_neg (by omega)]
  | succ r ih =>
    intro i n f hi hn
    obtain ⟨n, rfl⟩ : ∃ n', n = n' + 1 := ⟨n - 1, by omega⟩
    rw [f_J7_fill_53178_L5_s, if_neg (by rw [nI_leI (by omega) (by omega)]; omega), gd_k (inb_nI (by omega) (by omega)), ix_nI (by omega), nI_1, ih (i + 1) n _ (by omega) (by omega), fillfun _ _ (by omega)]
theorem fill_eq (N : Nat) (f : Nat → Int32) (v : Int32) (hN : N ≤ 1000) : f_J7_fill_53178 N f v = some (fun k => if k < N then v else f k) := by
  unfold f_J7_fill_53178
  rw [show Int32.ofNat N = nI N from rfl, show (0 : Int32) = nI 0 from rfl, fill_L N v hN N 0 2000 f (by omega) (by omega), bd_s]
  congr 1
  funext k
  by_cases h : k < N
  · rw [if_pos ⟨Nat.zero_le _, h⟩, if_pos h]
  · rw [if_neg (fun q => h q.2), if_neg h]
theorem ix40 {r k : Nat} : 40 * nI r + nI k = nI (40 * r + k) := by
  rw [show (40 : Int32) = nI 40 from rfl, pk_mul, nI_add]
theorem row_L (r : Nat) (hr : r < 8) : ∀ (m i n : Nat) (item : Nat → Int32), i + m = 40 → m < n → f_X9_row_L65 (nI r) n item (nI i) = some (fun q => if 40 * r + i ≤ q ∧ q < 40 * r + 40 then 0 else item q) := by
  intro m
  induction m with
  | zero =>
    intro i n item hi hn
    obtain ⟨n, rfl⟩ : ∃ n', n = n' + 1 := ⟨n - 1, by omega⟩
    rw [f_X9_row_L65_s, if_pos (by rw [show (40 : Int32) = nI 40 from rfl, nI_leI (by omega) (by omega)]; omega)]
    congr 1
    funext k
    rw [if_neg (by omega)]
  | succ m ih =>
    intro i n item hi hn
    obtain ⟨n, rfl⟩ : ∃ n', n = n' + 1 := ⟨n - 1, by omega⟩
    rw [f_X9_row_L65_s, if_neg (by rw [show (40 : Int32) = nI 40 from rfl, nI_leI (by omega) (by omega)]; omega), ix40, gd_k (inb_nI (by omega) (by omega)), ix_nI (by omega), nI_1, ih (i + 1) n _ (by omega) (by omega), show 40 * r + (i + 1) = 40 * r + i + 1 by omega, fillfun _ _ (by omega)]
theorem if10 {α : Type} (a b : α) : (if (1 : Int32) = 0 then a else b) = b := if_neg (by decide)
theorem if00 {α : Type} (a b : α) : (if (0 : Int32) = 0 then a else b) = a := if_pos rfl
theorem op_row {lfi status : Int32} (thrown : Int32) {lan siz : Nat → Int32} {itm : Nat → Nat → Int32} {lane many item : Nat → Int32} (p l n : Int32) (hR : RowsR lan siz itm lane many item) (hs : lfi = status) :
    ∃ (r lfi' status' thrown' : Int32) (lan' siz' lane' many' item' : Nat → Int32) (itm' : Nat → Nat → Int32), f_X8_row lfi lan siz itm p l n = some (r, lfi', lan', siz', itm') ∧ f_X9_row thrown status lane many item p l n = some (r, thrown', status', lane', many', item') ∧ lfi' = status' ∧ RowsR lan' siz' itm' lane' many' item' := by
  rcases place p 8 (by decide) with ⟨k, hk, rfl⟩ | h
  · rcases place l 3 (by decide) with ⟨a, ha, rfl⟩ | h
    · have hl0 : ¬ nI a < 0 := nI_pos (by omega)
      have hl3 : ¬ (3 : Int32) ≤ nI a := by rw [show (3 : Int32) = nI 3 from rfl, nI_leI (by omega) (by omega)]; omega
      have hin : f_X9_in (nI a).toInt64 0 2 = some 1 := in_t (by rw [t64, nI_toInt (by omega)]; change (0 : Int) ≤ a ∧ (a : Int) ≤ 2; omega)
      by_cases h40 : n ≤ 40
      · by_cases h0 : 0 ≤ n
        · obtain ⟨b, hb, rfl⟩ : ∃ b, b ≤ 40 ∧ n = nI b := nI_of2 (M := 40) rfl (fun q => by have h1 := i32_lt.mp q; have h2 := i32_le.mp h0; omega) h40
          have e9 := row_L k hk 40 0 2000 item (by omega) (by omega)
          rw [show nI 0 = 0 from rfl] at e9
          refine ⟨nI b, 0, 0, 0, upd lan k (nI a), upd siz k (nI b), upd lane k (nI a), upd many k (nI b), (fun q => if 40 * k + 0 ≤ q ∧ q < 40 * k + 40 then 0 else item q), va_up itm k (fun q => if q < 40 then 0 else itm k q), ?_, ?_, rfl, fun r hr => ?_⟩
          · simp only [f_X8_row, isRow8 hk, bd_s, if10, if_neg hl0, if_neg hl3, if_pos h40, if_pos h0, f_X6_make, f_X6_make_m, f_X8_fine, gd_k (inb_nI hk (by decide)), ix_nI (show k < 2 ^ 31 by omega), fill_eq 40 _ _ (by decide)]
          · simp only [f_X9_row, isRow9 hk, bd_s, if10, hin, if_pos h40, if_pos h0, gd_k (inb_nI hk (by decide)), ix_nI (show k < 2 ^ 31 by omega), e9]
          obtain ⟨g1, g2, g3, g4, g5⟩ := hR r hr
          by_cases hrk : r = k
          · subst hrk
            rw [upd_s, upd_s, upd_s, upd_s, va_up_self]
            refine ⟨rfl, ?_, rfl, ⟨b, hb, rfl⟩, fun q hq => ?_⟩
            · rcases (show a = 0 ∨ a = 1 ∨ a = 2 by omega) with rfl | rfl | rfl
              · exact Or.inr (Or.inl rfl)
              · exact Or.inr (Or.inr (Or.inl rfl))
              · exact Or.inr (Or.inr (Or.inr rfl))
            · dsimp only
              rw [if_pos hq, if_pos (by omega)]
          · rw [upd_n _ _ hrk, upd_n _ _ hrk, upd_n _ _ hrk, upd_n _ _ hrk, va_up_ne _ _ hrk]
            refine ⟨g1, g2, g3, g4, fun q hq => ?_⟩
            dsimp only
            rw [if_neg (by omega)]
            exact g5 q hq
        · exact ⟨(-1000010) - 4, 4, 4, 0, lan, siz, lane, many, item, itm, by simp only [f_X8_row, isRow8 hk, bd_s, if10, if_neg hl0, if_neg hl3, if_pos h40, if_neg h0, f_X8_found], by simp only [f_X9_row, isRow9 hk, bd_s, if10, hin, if_pos h40, if_neg h0, f_X9_finding], rfl, hR⟩
      · exact ⟨(-1000001), lfi, status, 0, lan, siz, lane, many, item, itm, by simp only [f_X8_row, isRow8 hk, bd_s, if10, if_neg hl0, if_neg hl3, if_neg h40], by simp only [f_X9_row, isRow9 hk, bd_s, if10, hin, if_neg h40], hs, hR⟩
    · have hin : f_X9_in l.toInt64 0 2 = some 0 := in_f (by rw [t64]; change ¬ ((0 : Int) ≤ l.toInt ∧ l.toInt ≤ 2); omega)
      refine ⟨(-1000001), lfi, status, 0, lan, siz, lane, many, item, itm, ?_, by simp only [f_X9_row, isRow9 hk, bd_s, if10, if_true, hin], hs, hR⟩
      rcases h with h | h
      · simp only [f_X8_row, isRow8 hk, bd_s, if10, if_pos (show l < 0 from i32_lt.mpr h)]
      · simp only [f_X8_row, isRow8 hk, bd_s, if10, if_neg (show ¬ l < 0 from fun q => by have := i32_lt.mp q; change l.toInt < 0 at this; omega), if_pos (show (3 : Int32) ≤ l from i32_le.mpr h)]
  · exact ⟨(-1000001), lfi, status, 0, lan, siz, lane, many, item, itm, by simp only [f_X8_row, isRow8_no h, bd_s, if_true], by simp only [f_X9_row, isRow9_no h, bd_s, if_true], hs, hR⟩
