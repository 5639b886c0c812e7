/-! ===== an hour: numbers ===== -/
theorem tI_add {x y : Int32} (h1 : -2147483648 ≤ x.toInt + y.toInt) (h2 : x.toInt + y.toInt < 2147483648) : (x + y).toInt = x.toInt + y.toInt := by
  rw [Int32.toInt_add]
  exact Int.bmod_eq_of_le (by omega) (by omega)
theorem tI_sub {x y : Int32} (h1 : -2147483648 ≤ x.toInt - y.toInt) (h2 : x.toInt - y.toInt < 2147483648) : (x - y).toInt = x.toInt - y.toInt := by
  rw [Int32.toInt_sub]
  exact Int.bmod_eq_of_le (by omega) (by omega)
theorem tI_neg {x : Int32} (h1 : -2147483648 < x.toInt) : (-x).toInt = -x.toInt := by
  have h2 := Int32.toInt_lt x
  rw [Int32.toInt_neg]
  exact Int.bmod_eq_of_le (by omega) (by omega)
theorem ix_toInt (x : Int32) : ix x = x.toInt.toNat := rfl
theorem nI_iff {x : Int32} {n : Nat} (hn : n < 2 ^ 31) : x = nI n ↔ x.toInt = (n : Int) := by
  rw [i32_eq, nI_toInt hn]
theorem min_nI {a b : Nat} (ha : a < 2 ^ 31) (hb : b < 2 ^ 31) : (if nI a < nI b then nI a else nI b) = nI (min a b) := by
  by_cases h : a < b
  · rw [if_pos ((nI_ltI ha hb).mpr h), Nat.min_eq_left (by omega)]
  · rw [if_neg (fun q => h ((nI_ltI ha hb).mp q)), Nat.min_eq_right (by omega)]
def tD (p m d a : Nat) : Nat := d + (p - a) - m
def tA (p m d a : Nat) : Nat := a - p + (m - d)
theorem flow_cases {v : Int32} (h : -40 ≤ v.toInt ∧ v.toInt ≤ 40) : (∃ p, p ≤ 40 ∧ v = nI p ∧ ix v = p ∧ ix (-v) = 0) ∨ (∃ m, 1 ≤ m ∧ m ≤ 40 ∧ v = -nI m ∧ -v = nI m ∧ ix v = 0 ∧ ix (-v) = m) := by
  have hn := tI_neg (x := v) (by omega)
  by_cases h0 : 0 ≤ v.toInt
  · refine Or.inl ⟨v.toInt.toNat, by omega, (nI_iff (by omega)).mpr (by omega), rfl, ?_⟩
    rw [ix_toInt, hn]
    omega
  · have e : -v = nI (-v.toInt).toNat := (nI_iff (by omega)).mpr (by omega)
    refine Or.inr ⟨(-v.toInt).toNat, by omega, by omega, ?_, e, ?_, ?_⟩
    · rw [← e, Int32.neg_neg]
    · rw [ix_toInt]; omega
    · rw [ix_toInt, hn]
theorem tg8 {dep arr : Nat → Int32} {w d a : Nat} {v : Int32} (hw : w < 6) (hd : dep w = nI d) (ha : arr w = nI a) (bd' : d < 2 ^ 30) (ba : a < 2 ^ 30) (hv : -40 ≤ v.toInt ∧ v.toInt ≤ 40) :
    f_X3_takeOrGive dep arr (nI w) v = some (upd dep w (nI (tD (ix v) (ix (-v)) d a)), upd arr w (nI (tA (ix v) (ix (-v)) d a))) := by
  have g1 : ∀ {α : Type} (x : Option α), gd (inb (nI w) 6) x = x := fun x => gd_k (inb_nI hw (by decide)) x
  have hx := ix_nI (show w < 2 ^ 31 by omega)
  rcases flow_cases hv with ⟨p, hp, rfl, e1, e2⟩ | ⟨m, hm0, hm, -, e0, e1, e2⟩
  · rw [e1, e2]
    simp only [f_X3_takeOrGive, if_neg (nI_pos (show p < 2 ^ 31 by omega)), g1, hx, nm, hd, ha, min_nI (show a < 2 ^ 31 by omega) (show p < 2 ^ 31 by omega), pk_sub (Nat.min_le_left a p), pk_sub (Nat.min_le_right a p), nI_add]
    rw [show d + (p - min a p) = tD p 0 d a by unfold tD; omega, show a - min a p = tA p 0 d a by unfold tA; omega]
  · have c : v < 0 := lt0.mpr (by
      have := congrArg Int32.toInt e0
      rw [tI_neg (by omega), nI_toInt (by omega)] at this
      omega)
    rw [e1, e2]
    simp only [f_X3_takeOrGive, if_pos c, g1, hx, nm, hd, ha, e0, min_nI (show d < 2 ^ 31 by omega) (show m < 2 ^ 31 by omega), pk_sub (Nat.min_le_left d m), pk_sub (Nat.min_le_right d m), nI_add]
    rw [show d - min d m = tD 0 m d a by unfold tD; omega, show a + (m - min d m) = tA 0 m d a by unfold tA; omega]
theorem tg9 {thn : Nat → Int32} {w d a : Nat} {v : Int32} (hw : w < 6) (hd : thn (16 + 4 * w) = nI d) (ha : thn (17 + 4 * w) = nI a) (bd' : d < 2 ^ 30) (ba : a < 2 ^ 30) (hv : -40 ≤ v.toInt ∧ v.toInt ≤ 40) :
    ∃ thn', f_X9_flows thn (nI w) v = some thn' ∧ thn' (16 + 4 * w) = nI (tD (ix v) (ix (-v)) d a) ∧ thn' (17 + 4 * w) = nI (tA (ix v) (ix (-v)) d a) ∧ ∀ q, q ≠ 16 + 4 * w → q ≠ 17 + 4 * w → thn' q = thn q := by
  have g1 : ∀ {α : Type} (x : Option α), gd (inb (nI (16 + 4 * w)) 75) x = x := fun x => gd_k (inb_nI (by omega) (by decide)) x
  have g2 : ∀ {α : Type} (x : Option α), gd (inb (nI (17 + 4 * w)) 75) x = x := fun x => gd_k (inb_nI (by omega) (by decide)) x
  have a1 : f_X9_at (nI w) 1 = some (nI (16 + 4 * w)) := by rw [show (1 : Int32) = nI 1 from rfl, at_eq]; congr 2; omega
  have a2 : f_X9_at (nI w) 2 = some (nI (17 + 4 * w)) := by rw [show (2 : Int32) = nI 2 from rfl, at_eq]; congr 2; omega
  have hx1 := ix_nI (show 16 + 4 * w < 2 ^ 31 by omega)
  have hx2 := ix_nI (show 17 + 4 * w < 2 ^ 31 by omega)
  have n12 : 17 + 4 * w ≠ 16 + 4 * w := by omega
  have n21 : 16 + 4 * w ≠ 17 + 4 * w := by omega
  rcases flow_cases hv with ⟨p, hp, rfl, e1, e2⟩ | ⟨m, hm0, hm, -, e0, e1, e2⟩
  · by_cases hp0 : p = 0
    · subst hp0
      have z0 : -nI 0 = nI 0 := rfl
      have c : nI 0 ≤ 0 := by decide
      rw [e1, e2]
      by_cases hd0 : d = 0
      · subst hd0
        refine ⟨_, by simp only [f_X9_flows, a1, a2, bd_s, if_pos c, g1, g2, hx1, hx2, hd, ha, z0, if_pos (show nI 0 ≤ nI 0 by decide)] <;> rfl, ?_, ?_, fun q h1 h2 => ?_⟩
        · rw [upd_n _ _ n21, upd_s, pk_sub (by omega)]; congr 1; unfold tD; omega
        · rw [upd_s, upd_n _ _ n12, ha, show nI 0 - nI 0 = nI 0 from rfl, nI_add]; congr 1
        · rw [upd_n _ _ h2, upd_n _ _ h1]
      · have c2 : ¬ nI d ≤ nI 0 := by rw [nI_leI (by omega) (by omega)]; omega
        refine ⟨_, by simp only [f_X9_flows, a1, a2, bd_s, if_pos c, g1, g2, hx1, hx2, hd, ha, z0, if_neg c2] <;> rfl, ?_, ?_, fun q h1 h2 => ?_⟩
        · rw [upd_n _ _ n21, upd_s, pk_sub (by omega)]; congr 1; unfold tD; omega
        · rw [upd_s, upd_n _ _ n12, ha, show nI 0 - nI 0 = nI 0 from rfl, nI_add]; congr 1; unfold tA; omega
        · rw [upd_n _ _ h2, upd_n _ _ h1]
    · have c : ¬ nI p ≤ 0 := nI_nle (by omega) (by omega)
      rw [e1, e2]
      by_cases hap : a ≤ p
      · have c2 : nI a ≤ nI p := (nI_leI (by omega) (by omega)).mpr hap
        refine ⟨_, by simp only [f_X9_flows, a1, a2, bd_s, if_neg c, g1, g2, hx1, hx2, hd, ha, if_pos c2] <;> rfl, ?_, ?_, fun q h1 h2 => ?_⟩
        · rw [upd_s, upd_n _ _ n21, hd, pk_sub hap, nI_add]; congr 1
        · rw [upd_n _ _ n12, upd_s, pk_sub (by omega)]; congr 1; unfold tA; omega
        · rw [upd_n _ _ h1, upd_n _ _ h2]
      · have c2 : ¬ nI a ≤ nI p := by rw [nI_leI (by omega) (by omega)]; omega
        refine ⟨_, by simp only [f_X9_flows, a1, a2, bd_s, if_neg c, g1, g2, hx1, hx2, hd, ha, if_neg c2] <;> rfl, ?_, ?_, fun q h1 h2 => ?_⟩
        · rw [upd_s, upd_n _ _ n21, hd, pk_sub (by omega), nI_add]; congr 1; unfold tD; omega
        · rw [upd_n _ _ n12, upd_s, pk_sub (by omega)]; congr 1; unfold tA; omega
        · rw [upd_n _ _ h1, upd_n _ _ h2]
  · have c : v ≤ 0 := i32_le.mpr (by
      have := congrArg Int32.toInt e0
      rw [tI_neg (by omega), nI_toInt (by omega)] at this
      change v.toInt ≤ 0
      omega)
    rw [e1, e2]
    by_cases hdm : d ≤ m
    · have c2 : nI d ≤ nI m := (nI_leI (by omega) (by omega)).mpr hdm
      refine ⟨_, by simp only [f_X9_flows, a1, a2, bd_s, if_pos c, g1, g2, hx1, hx2, hd, ha, e0, if_pos c2] <;> rfl, ?_, ?_, fun q h1 h2 => ?_⟩
      · rw [upd_n _ _ n21, upd_s, pk_sub (by omega)]; congr 1; unfold tD; omega
      · rw [upd_s, upd_n _ _ n12, ha, pk_sub hdm, nI_add]; congr 1
      · rw [upd_n _ _ h2, upd_n _ _ h1]
    · have c2 : ¬ nI d ≤ nI m := by rw [nI_leI (by omega) (by omega)]; omega
      refine ⟨_, by simp only [f_X9_flows, a1, a2, bd_s, if_pos c, g1, g2, hx1, hx2, hd, ha, e0, if_neg c2] <;> rfl, ?_, ?_, fun q h1 h2 => ?_⟩
      · rw [upd_n _ _ n21, upd_s, pk_sub (by omega)]; congr 1; unfold tD; omega
      · rw [upd_s, upd_n _ _ n12, ha, pk_sub (by omega), nI_add]; congr 1; unfold tA; omega
      · rw [upd_n _ _ h2, upd_n _ _ h1]
/-! levels -/
theorem sgn0 (x : Int32) : 0 ≤ x ↔ x.toBitVec.msb = false := by
  rw [i32_le, BitVec.msb_eq_toInt]
  change (0 : Int) ≤ x.toInt ↔ decide (x.toInt < 0) = false
  rw [decide_eq_false_iff_not]
  omega
theorem mod12 {h : Nat} (hh : h < 2 ^ 31) : f_J9_floorMod_7cf53 (nI h) 12 = some (nI (h % 12)) := by
  have c : 0 ≤ (nI h ^^^ 12) := by
    have h1 := (sgn0 (nI h)).mp (nI_pos' hh)
    rw [sgn0, Int32.toBitVec_xor, BitVec.msb_xor, h1]
    decide
  simp only [f_J9_floorMod_7cf53, gd_k (show decide (¬ (12 : Int32) = 0) = true by decide), if_pos c]
  rw [show (12 : Int32) = nI 12 from rfl, pk_rem hh (by decide) (by decide)]
theorem level8 (lev : Nat → Int32) {h : Nat} (hh : h < 2 ^ 31) : f_X2_level lev (nI h) = some (lev (h % 12)) := by
  simp only [f_X2_level, mod12 hh, bd_s, gd_k (inb_nI (show h % 12 < 12 from Nat.mod_lt _ (by decide)) (by decide)), ix_nI (show h % 12 < 2 ^ 31 by omega)]
def rs (lev : Nat → Int32) (h : Nat) : Int32 := lev ((h + 1) % 12) - lev (h % 12)
theorem rise8 (lev : Nat → Int32) {h : Nat} (hh : h < 2 ^ 30) : f_X2_rise lev (nI h) = some (rs lev h) := by
  simp only [f_X2_rise, nI_1, level8 lev (show h + 1 < 2 ^ 31 by omega), level8 lev (show h < 2 ^ 31 by omega), bd_s]
  rfl
theorem rise8p (lev : Nat → Int32) {h : Nat} (hh : h < 2 ^ 30) : f_X2_rise lev (nI h - 1) = some (rs lev (h + 11)) := by
  by_cases h0 : h = 0
  · subst h0
    have e1 : f_X2_level lev (nI 0 - 1 + 1) = some (lev 0) := by
      rw [show nI 0 - 1 + 1 = nI 0 from by decide]
      exact level8 lev (by decide)
    have e2 : f_X2_level lev (nI 0 - 1) = some (lev 11) := by
      simp only [f_X2_level, show f_J9_floorMod_7cf53 (nI 0 - 1) 12 = some (nI 11) by decide +kernel, bd_s, gd_k (inb_nI (show 11 < 12 by decide) (by decide)), ix_nI (show 11 < 2 ^ 31 by decide)]
    simp only [f_X2_rise, e1, e2, bd_s]
    rfl
  · obtain ⟨k, rfl⟩ : ∃ k, h = k + 1 := ⟨h - 1, by omega⟩
    rw [nI_pred, rise8 lev (by omega)]
    unfold rs
    rw [show (k + 1 + 11 + 1) % 12 = (k + 1) % 12 by omega, show (k + 1 + 11) % 12 = k % 12 by omega]
theorem rise9 {lev bay : Nat → Int32} (hl : ∀ h, h < 12 → lev h = bay (3 + h)) {h : Nat} (hh : h < 2 ^ 30) : f_X9_riseAt bay (nI h) = some (rs lev h) := by
  have e1 : 3 + ((nI h + 1) - (nI h + 1) / 12 * 12) = nI (3 + (h + 1) % 12) := by
    rw [nI_1, show (12 : Int32) = nI 12 from rfl, pk_rem (by omega) (by decide) (by decide), show (3 : Int32) = nI 3 from rfl, nI_add]
  have e2 : 3 + (nI h - nI h / 12 * 12) = nI (3 + h % 12) := by
    rw [show (12 : Int32) = nI 12 from rfl, pk_rem (by omega) (by decide) (by decide), show (3 : Int32) = nI 3 from rfl, nI_add]
  have b1 := Nat.mod_lt (h + 1) (show 0 < 12 by decide)
  have b2 := Nat.mod_lt h (show 0 < 12 by decide)
  simp only [f_X9_riseAt, e1, e2, gd_k (inb_nI (show 3 + (h + 1) % 12 < 75 by omega) (by decide)), gd_k (inb_nI (show 3 + h % 12 < 75 by omega) (by decide)), ix_nI (show 3 + (h + 1) % 12 < 2 ^ 31 by omega), ix_nI (show 3 + h % 12 < 2 ^ 31 by omega), ← hl _ b1, ← hl _ b2]
  rfl
theorem rs_b {lev : Nat → Int32} (hl : ∀ h, h < 12 → ∃ d, d ≤ 40 ∧ lev h = nI d) (h : Nat) : -40 ≤ (rs lev h).toInt ∧ (rs lev h).toInt ≤ 40 := by
  obtain ⟨x, hx, ex⟩ := hl _ (Nat.mod_lt (h + 1) (show 0 < 12 by decide))
  obtain ⟨y, hy, ey⟩ := hl _ (Nat.mod_lt h (show 0 < 12 by decide))
  unfold rs
  rw [ex, ey, pk_sub_toInt (by omega) (by omega)]
  omega
def fv (lev kin sil : Nat → Int32) (w h : Nat) : Int32 := if kin w = 1 then rs lev h else (if kin w = 2 then rs lev h / 2 else (if kin w = 3 then (if lev ((h + 1) % 12) < sil w then 0 else rs lev h) else (if kin w = 5 then rs lev (h + 11) else 0)))
theorem half_b {x : Int32} (h : -40 ≤ x.toInt ∧ x.toInt ≤ 40) : -40 ≤ (x / 2).toInt ∧ (x / 2).toInt ≤ 40 := by
  have t : -40 ≤ x.toInt.tdiv 2 ∧ x.toInt.tdiv 2 ≤ 40 := by
    by_cases c : 0 ≤ x.toInt
    · rw [Int.tdiv_eq_ediv_of_nonneg c]
      omega
    · have e := Int.neg_tdiv (a := -x.toInt) (b := 2)
      rw [Int.neg_neg] at e
      rw [e, Int.tdiv_eq_ediv_of_nonneg (by omega)]
      omega
  have e : (x / 2).toInt = (x.toInt.tdiv 2) := by
    rw [Int32.toInt_div]
    change (x.toInt.tdiv 2).bmod (2 ^ 32) = _
    exact Int.bmod_eq_of_le (by omega) (by omega)
  rw [e]
  exact t
theorem fv_b {lev kin sil : Nat → Int32} (hl : ∀ h, h < 12 → ∃ d, d ≤ 40 ∧ lev h = nI d) (w h : Nat) : -40 ≤ (fv lev kin sil w h).toInt ∧ (fv lev kin sil w h).toInt ≤ 40 := by
  have z : -40 ≤ (0 : Int32).toInt ∧ (0 : Int32).toInt ≤ 40 := by decide
  unfold fv
  split
  · exact rs_b hl h
  · split
    · exact half_b (rs_b hl h)
    · split
      · split
        · exact z
        · exact rs_b hl h
      · split
        · exact rs_b hl _
        · exact z
theorem flow8 (lev kin sil : Nat → Int32) {w h : Nat} (hw : w < 6) (hh : h < 2 ^ 29) : f_X2_flow lev kin sil (nI w) (nI h) = some (fv lev kin sil w h) := by
  have r1 := rise8 lev (show h < 2 ^ 30 by omega)
  have r2 := rise8p lev (show h < 2 ^ 30 by omega)
  simp only [f_X2_flow, gd_k (inb_nI hw (by decide)), ix_nI (show w < 2 ^ 31 by omega), r1, r2, nI_1, level8 lev (show h + 1 < 2 ^ 31 by omega), bd_s]
  unfold fv
  split
  · rfl
  · split
    · rfl
    · split
      · split <;> rfl
      · split <;> rfl
theorem flow9 {lev kin sil bay : Nat → Int32} (hl : ∀ h, h < 12 → lev h = bay (3 + h)) {w h : Nat} (hk : kin w = bay (15 + 4 * w)) (hs : sil w = bay (18 + 4 * w)) (hw : w < 6) (hh : h < 2 ^ 29) : f_X9_flowOf bay (nI w) (nI h) = some (fv lev kin sil w h) := by
  have r1 := rise9 hl (show h < 2 ^ 30 by omega)
  have r2 := rise9 hl (show h + 11 < 2 ^ 30 by omega)
  have e1 : 3 + ((nI h + 1) - (nI h + 1) / 12 * 12) = nI (3 + (h + 1) % 12) := by
    rw [nI_1, show (12 : Int32) = nI 12 from rfl, pk_rem (by omega) (by decide) (by decide), show (3 : Int32) = nI 3 from rfl, nI_add]
  have b1 := Nat.mod_lt (h + 1) (show 0 < 12 by decide)
  have a0 : f_X9_at (nI w) 0 = some (nI (15 + 4 * w)) := at_eq w 0
  have a3 : f_X9_at (nI w) 3 = some (nI (18 + 4 * w)) := by rw [show (3 : Int32) = nI 3 from rfl, at_eq]; congr 2; omega
  have e11 : nI h + 11 = nI (h + 11) := by rw [show (11 : Int32) = nI 11 from rfl, nI_add]
  simp only [f_X9_flowOf, r1, r2, e11, a0, a3, e1, bd_s, gd_k (inb_nI (show 15 + 4 * w < 75 by omega) (by decide)), gd_k (inb_nI (show 18 + 4 * w < 75 by omega) (by decide)), gd_k (inb_nI (show 3 + (h + 1) % 12 < 75 by omega) (by decide)), ix_nI (show 15 + 4 * w < 2 ^ 31 by omega), ix_nI (show 18 + 4 * w < 2 ^ 31 by omega), ix_nI (show 3 + (h + 1) % 12 < 2 ^ 31 by omega), ← hl _ b1, ← hk, ← hs]
  unfold fv
  split
  · rfl
  · split
    · rfl
    · split
      · split <;> rfl
      · split <;> rfl
