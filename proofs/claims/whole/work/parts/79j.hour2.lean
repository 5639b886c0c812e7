/-! ===== an hour: waters, debts ===== -/
def sD (v d a : Int32) : Int32 := nI (tD (ix v) (ix (-v)) (ix d) (ix a))
def sA (v d a : Int32) : Int32 := nI (tA (ix v) (ix (-v)) (ix d) (ix a))
theorem sD_b {v d a : Int32} {B x : Nat} (hv : -40 ≤ v.toInt ∧ v.toInt ≤ 40) (hd : d = nI x) (hx : x ≤ B) (hB : B < 2 ^ 31) : ∃ y, y ≤ B + 40 ∧ sD v d a = nI y := by
  refine ⟨_, ?_, rfl⟩
  subst hd
  rw [ix_nI (by omega), ix_toInt]
  unfold tD
  omega
theorem sA_b {v d a : Int32} {B x : Nat} (hv : -40 ≤ v.toInt ∧ v.toInt ≤ 40) (hd : a = nI x) (hx : x ≤ B) (hB : B < 2 ^ 31) : ∃ y, y ≤ B + 40 ∧ sA v d a = nI y := by
  refine ⟨_, ?_, rfl⟩
  subst hd
  rw [ix_nI (by omega), ix_toInt (-v), tI_neg (by omega)]
  unfold tA
  omega
theorem pass_L {lev kin sil : Nat → Int32} (hl : ∀ h, h < 12 → ∃ d, d ≤ 40 ∧ lev h = nI d) {n h : Nat} (hn : n ≤ 6) (hh : h < 2 ^ 29) : ∀ (m i f : Nat) (dep arr : Nat → Int32), i + m = n → m < f → (∀ w, i ≤ w → w < n → ∃ d, d < 2 ^ 30 ∧ dep w = nI d) → (∀ w, i ≤ w → w < n → ∃ d, d < 2 ^ 30 ∧ arr w = nI d) →
    f_X3_passHour_L11 (nI h) (nI n) lev kin sil f dep arr (nI i) = some (fun w => if i ≤ w ∧ w < n then sD (fv lev kin sil w h) (dep w) (arr w) else dep w, fun w => if i ≤ w ∧ w < n then sA (fv lev kin sil w h) (dep w) (arr w) else arr w) := by
  intro m
  induction m with
  | zero =>
    intro i f dep arr hi hf hd ha
    obtain ⟨f, rfl⟩ : ∃ f', f = f' + 1 := ⟨f - 1, by omega⟩
    rw [f_X3_passHour_L11_s, if_pos (by rw [nI_leI (by omega) (by omega)]; omega)]
    congr 1
    refine Prod.ext ?_ ?_
    · funext w; dsimp only; rw [if_neg (by omega)]
    · funext w; dsimp only; rw [if_neg (by omega)]
  | succ m ih =>
    intro i f dep arr hi hf hd ha
    obtain ⟨f, rfl⟩ : ∃ f', f = f' + 1 := ⟨f - 1, by omega⟩
    obtain ⟨d, bd', ed⟩ := hd i (by omega) (by omega)
    obtain ⟨a, ba, ea⟩ := ha i (by omega) (by omega)
    have hv := fv_b (kin := kin) (sil := sil) hl i h
    rw [f_X3_passHour_L11_s, if_neg (by rw [nI_leI (by omega) (by omega)]; omega), flow8 lev kin sil (show i < 6 by omega) hh, bd_s, tg8 (show i < 6 by omega) ed ea bd' ba hv, bd_s, nI_1]
    dsimp only
    rw [ih (i + 1) f _ _ (by omega) (by omega) (fun w h1 h2 => by rw [upd_n _ _ (by omega)]; exact hd w (by omega) h2) (fun w h1 h2 => by rw [upd_n _ _ (by omega)]; exact ha w (by omega) h2)]
    congr 1
    have eD : nI (tD (ix (fv lev kin sil i h)) (ix (-fv lev kin sil i h)) d a) = sD (fv lev kin sil i h) (dep i) (arr i) := by
      unfold sD; rw [ed, ea, ix_nI (by omega), ix_nI (by omega)]
    have eA : nI (tA (ix (fv lev kin sil i h)) (ix (-fv lev kin sil i h)) d a) = sA (fv lev kin sil i h) (dep i) (arr i) := by
      unfold sA; rw [ed, ea, ix_nI (by omega), ix_nI (by omega)]
    rw [eD, eA]
    refine Prod.ext ?_ ?_
    · funext w
      dsimp only
      by_cases h1 : w = i
      · subst h1
        rw [if_neg (by omega), if_pos (by omega), upd_s]
      · rw [upd_n _ _ h1, upd_n _ _ h1]
        by_cases h2 : i ≤ w ∧ w < n
        · rw [if_pos h2, if_pos (by omega)]
        · rw [if_neg h2, if_neg (by omega)]
    · funext w
      dsimp only
      by_cases h1 : w = i
      · subst h1
        rw [if_neg (by omega), if_pos (by omega), upd_s]
      · rw [upd_n _ _ h1, upd_n _ _ h1]
        by_cases h2 : i ≤ w ∧ w < n
        · rw [if_pos h2, if_pos (by omega)]
        · rw [if_neg h2, if_neg (by omega)]
theorem go_L {lev kin sil bay : Nat → Int32} (hl : ∀ h, h < 12 → ∃ d, d ≤ 40 ∧ lev h = nI d) (hl' : ∀ h, h < 12 → lev h = bay (3 + h)) {n h : Nat} (hn : n ≤ 6) (hb : bay 1 = nI n) (hk : ∀ w, w < n → kin w = bay (15 + 4 * w) ∧ sil w = bay (18 + 4 * w)) (hh : h < 2 ^ 29) : ∀ (m i f : Nat) (thn : Nat → Int32), i + m = n → m < f → thn 2 = nI h → (∀ w, i ≤ w → w < n → ∃ d, d < 2 ^ 30 ∧ thn (16 + 4 * w) = nI d) → (∀ w, i ≤ w → w < n → ∃ d, d < 2 ^ 30 ∧ thn (17 + 4 * w) = nI d) →
    ∃ thn', f_X9_goHour_L13 bay f thn (nI i) = some thn' ∧ (∀ w, i ≤ w → w < n → thn' (16 + 4 * w) = sD (fv lev kin sil w h) (thn (16 + 4 * w)) (thn (17 + 4 * w)) ∧ thn' (17 + 4 * w) = sA (fv lev kin sil w h) (thn (16 + 4 * w)) (thn (17 + 4 * w))) ∧ ∀ q, (∀ w, i ≤ w → w < n → q ≠ 16 + 4 * w ∧ q ≠ 17 + 4 * w) → thn' q = thn q := by
  intro m
  induction m with
  | zero =>
    intro i f thn hi hf _ _ _
    obtain ⟨f, rfl⟩ : ∃ f', f = f' + 1 := ⟨f - 1, by omega⟩
    exact ⟨thn, by rw [f_X9_goHour_L13_s, hb, if_pos (by rw [nI_leI (by omega) (by omega)]; omega)], fun w h1 h2 => absurd h1 (by omega), fun _ _ => rfl⟩
  | succ m ih =>
    intro i f thn hi hf h2 hd ha
    obtain ⟨f, rfl⟩ : ∃ f', f = f' + 1 := ⟨f - 1, by omega⟩
    obtain ⟨d, bd', ed⟩ := hd i (by omega) (by omega)
    obtain ⟨a, ba, ea⟩ := ha i (by omega) (by omega)
    have hv := fv_b (kin := kin) (sil := sil) hl i h
    obtain ⟨t1, k1, k2, k3, k4⟩ := tg9 (show i < 6 by omega) ed ea bd' ba hv
    obtain ⟨t2, j1, j2, j3⟩ := ih (i + 1) f t1 (by omega) (by omega) (by rw [k4 2 (by omega) (by omega)]; exact h2) (fun w q1 q2 => by rw [k4 _ (by omega) (by omega)]; exact hd w (by omega) q2) (fun w q1 q2 => by rw [k4 _ (by omega) (by omega)]; exact ha w (by omega) q2)
    refine ⟨t2, ?_, fun w q1 q2 => ?_, fun q hq => ?_⟩
    · rw [f_X9_goHour_L13_s, hb, if_neg (by rw [nI_leI (by omega) (by omega)]; omega), h2, flow9 hl' (hk i (by omega)).1 (hk i (by omega)).2 (show i < 6 by omega) hh, bd_s, k1, bd_s, nI_1]
      exact j1
    · by_cases hw : w = i
      · subst hw
        have nx : ∀ x, x ≤ 1 → ∀ w', w + 1 ≤ w' → w' < n → 16 + x + 4 * w ≠ 16 + 4 * w' ∧ 16 + x + 4 * w ≠ 17 + 4 * w' := fun x hx w' r1 r2 => by omega
        have z1 := j3 (16 + 0 + 4 * w) (nx 0 (by decide))
        have z2 := j3 (16 + 1 + 4 * w) (nx 1 (by decide))
        refine ⟨?_, ?_⟩
        · rw [show 16 + 4 * w = 16 + 0 + 4 * w by omega, z1, show 16 + 0 + 4 * w = 16 + 4 * w by omega, k2]
          unfold sD; rw [ed, ea, ix_nI (by omega), ix_nI (by omega)]
        · rw [show 17 + 4 * w = 16 + 1 + 4 * w by omega, z2, show 16 + 1 + 4 * w = 17 + 4 * w by omega, k3]
          unfold sA; rw [ed, ea, ix_nI (by omega), ix_nI (by omega)]
      · obtain ⟨r1, r2⟩ := j2 w (by omega) q2
        rw [k4 (16 + 4 * w) (by omega) (by omega), k4 (17 + 4 * w) (by omega) (by omega)] at r1 r2
        exact ⟨r1, r2⟩
    · rw [j3 q (fun w q1 q2 => hq w (by omega) q2), k4 q (hq i (by omega) (by omega)).1 (hq i (by omega) (by omega)).2]
def grow (x : Int32) : Int32 := if 9999 < x + x / 10 then 9999 else x + x / 10
theorem grow_b {x : Int32} {d : Nat} (hx : x = nI d) (hd : d ≤ 9999) : ∃ y, y ≤ 9999 ∧ grow x = nI y := by
  subst hx
  have e : nI d + nI d / 10 = nI (d + d / 10) := by
    rw [show (10 : Int32) = nI 10 from rfl, pk_div (by omega) (by decide) (by decide), nI_add]
  unfold grow
  rw [e]
  by_cases h : (9999 : Int32) < nI (d + d / 10)
  · rw [if_pos h]; exact ⟨9999, by decide, rfl⟩
  · rw [if_neg h]
    refine ⟨_, ?_, rfl⟩
    rw [show (9999 : Int32) = nI 9999 from rfl, nI_ltI (by omega) (by omega)] at h
    omega
theorem grow_0 : grow 0 = 0 := by decide
theorem grow_le (x : Int32) : (if 9999 ≤ x + x / 10 then 9999 else x + x / 10) = grow x := by
  unfold grow
  by_cases h : (9999 : Int32) ≤ x + x / 10
  · rw [if_pos h]
    by_cases h2 : 9999 < x + x / 10
    · rw [if_pos h2]
    · rw [if_neg h2]
      have h3 := i32_le.mp h
      have h4 : ¬ (9999 : Int32).toInt < (x + x / 10).toInt := fun q => h2 (i32_lt.mpr q)
      exact i32_eq.mpr (by omega)
  · rw [if_neg h, if_neg (fun q => h (i32_le.mpr (by have := i32_lt.mp q; omega)))]
theorem grow8_L : ∀ (m i f : Nat) (deb : Nat → Int32), i + m = 36 → m < f → f_X3_growDebts_L2 f deb (nI i) = some (fun k => if i ≤ k ∧ k < 36 then grow (deb k) else deb k) := by
  intro m
  induction m with
  | zero =>
    intro i f deb hi hf
    obtain ⟨f, rfl⟩ : ∃ f', f = f' + 1 := ⟨f - 1, by omega⟩
    rw [f_X3_growDebts_L2_s, if_pos (by rw [show (36 : Int32) = nI 36 from rfl, nI_leI (by omega) (by omega)]; omega)]
    congr 1
    funext q
    rw [if_neg (by omega)]
  | succ m ih =>
    intro i f deb hi hf
    obtain ⟨f, rfl⟩ : ∃ f', f = f' + 1 := ⟨f - 1, by omega⟩
    have e : f_X3_growDebts_L2 (f + 1) deb (nI i) = f_X3_growDebts_L2 f (upd deb i (grow (deb i))) (nI (i + 1)) := by
      rw [f_X3_growDebts_L2_s, if_neg (by rw [show (36 : Int32) = nI 36 from rfl, nI_leI (by omega) (by omega)]; omega), gd_k (inb_nI (by omega) (by decide)), ix_nI (by omega), nI_1] <;> rfl
    rw [e, ih (i + 1) f _ (by omega) (by omega)]
    congr 1
    funext q
    by_cases h2 : q = i
    · subst h2
      rw [upd_s, if_neg (by omega), if_pos (by omega)]
    · rw [upd_n _ _ h2]
      by_cases h1 : i ≤ q ∧ q < 36
      · rw [if_pos h1, if_pos (by omega)]
      · rw [if_neg h1, if_neg (by omega)]
theorem grow9_L : ∀ (m i f : Nat) (thn : Nat → Int32), i + m = 75 → m < f → f_X9_goHour_L60 f thn (nI i) = some (fun k => if i ≤ k ∧ k < 75 then grow (thn k) else thn k) := by
  intro m
  induction m with
  | zero =>
    intro i f deb hi hf
    obtain ⟨f, rfl⟩ : ∃ f', f = f' + 1 := ⟨f - 1, by omega⟩
    rw [f_X9_goHour_L60_s, if_pos (by rw [show (75 : Int32) = nI 75 from rfl, nI_leI (by omega) (by omega)]; omega)]
    congr 1
    funext q
    rw [if_neg (by omega)]
  | succ m ih =>
    intro i f thn hi hf
    obtain ⟨f, rfl⟩ : ∃ f', f = f' + 1 := ⟨f - 1, by omega⟩
    have e : f_X9_goHour_L60 (f + 1) thn (nI i) = f_X9_goHour_L60 f (upd thn i (grow (thn i))) (nI (i + 1)) := by
      rw [f_X9_goHour_L60_s, if_neg (by rw [show (75 : Int32) = nI 75 from rfl, nI_leI (by omega) (by omega)]; omega), gd_k (inb_nI (by omega) (by decide)), ix_nI (by omega), nI_1, ← grow_le]
      split <;> rfl
    rw [e, ih (i + 1) f _ (by omega) (by omega)]
    congr 1
    funext q
    by_cases h2 : q = i
    · subst h2
      rw [upd_s, if_neg (by omega), if_pos (by omega)]
    · rw [upd_n _ _ h2]
      by_cases h1 : i ≤ q ∧ q < 75
      · rw [if_pos h1, if_pos (by omega)]
      · rw [if_neg h1, if_neg (by omega)]
theorem led_next {B n : Nat} {hour : Int32} {dep arr deb thn dep' arr' deb' thn' : Nat → Int32} {v : Nat → Int32} (hL : LedR B n hour dep arr deb thn) (hB : B < 2 ^ 29) (hv : ∀ w, -40 ≤ (v w).toInt ∧ (v w).toInt ≤ 40)
    (e1 : ∀ w, w < 6 → dep' w = if w < n then sD (v w) (dep w) (arr w) else dep w) (e2 : ∀ w, w < 6 → arr' w = if w < n then sA (v w) (dep w) (arr w) else arr w)
    (t1 : ∀ w, w < 6 → thn' (16 + 4 * w) = dep' w) (t2 : ∀ w, w < 6 → thn' (17 + 4 * w) = arr' w) (e3 : (∀ i, i < 36 → deb' i = deb i) ∨ (∀ i, i < 36 → deb' i = grow (deb i))) (t3 : ∀ i, i < 36 → thn' (39 + i) = deb' i) (t4 : thn' 2 = hour + 1) : LedR (B + 40) n (hour + 1) dep' arr' deb' thn' := by
  obtain ⟨⟨h1, h, h2, rfl⟩, h3, h4, h5⟩ := hL
  refine ⟨⟨t4, h + 1, by omega, nI_1 h⟩, fun w hw => ?_, fun i hi => ?_, fun a b ha hb hab => ?_⟩
  · obtain ⟨-, ⟨x, hx, ex⟩, -, ⟨y, hy, ey⟩, hz⟩ := h3 w hw
    refine ⟨(t1 w hw).symm, ?_, (t2 w hw).symm, ?_, fun hn => ?_⟩
    · rw [e1 w hw]
      by_cases hwn : w < n
      · rw [if_pos hwn]; exact sD_b (hv w) ex hx (by omega)
      · rw [if_neg hwn]; exact ⟨x, by omega, ex⟩
    · rw [e2 w hw]
      by_cases hwn : w < n
      · rw [if_pos hwn]; exact sA_b (hv w) ey hy (by omega)
      · rw [if_neg hwn]; exact ⟨y, by omega, ey⟩
    · rw [e1 w hw, e2 w hw, if_neg (by omega), if_neg (by omega)]
      exact hz hn
  · refine ⟨(t3 i hi).symm, ?_⟩
    obtain ⟨-, x, hx, ex⟩ := h4 i hi
    rcases e3 with e3 | e3
    · rw [e3 i hi]; exact ⟨x, hx, ex⟩
    · rw [e3 i hi]; exact grow_b ex hx
  · have z := h5 a b ha hb hab
    rcases e3 with e3 | e3
    · rw [e3 _ (by omega), z]
    · rw [e3 _ (by omega), z, grow_0]
theorem hour_R {B n : Nat} {sta wat : Int32} {lev kin sil bay : Nat → Int32} {hour : Int32} {dep arr deb thn : Nat → Int32} (hC : ChartR n sta wat lev kin sil bay) (hL : LedR B n hour dep arr deb thn) (hB : B < 2 ^ 29) :
    ∃ dep' arr' deb' thn', f_X3_passHour hour dep arr deb wat lev kin sil = some (rs lev (ix hour), hour + 1, dep', arr', deb') ∧ f_X9_goHour bay thn = some thn' ∧ LedR (B + 40) n (hour + 1) dep' arr' deb' thn' ∧ (ChartR n sta wat lev kin sil thn → ChartR n sta wat lev kin sil thn') ∧ (∀ w, w < n → dep' w = sD (fv lev kin sil w (ix hour)) (dep w) (arr w) ∧ arr' w = sA (fv lev kin sil w (ix hour)) (dep w) (arr w)) := by
  obtain ⟨-, ⟨c1, rfl, hn⟩, c2, c3⟩ := id hC
  obtain ⟨⟨l1, h, l2, rfl⟩, l3, l4, l5⟩ := id hL
  have hl : ∀ h, h < 12 → ∃ d, d ≤ 40 ∧ lev h = nI d := fun h hh => (c2 h hh).2
  have hl' : ∀ h, h < 12 → lev h = bay (3 + h) := fun h hh => (c2 h hh).1
  rw [ix_nI (show h < 2 ^ 31 by omega)]
  have P := pass_L (kin := kin) (sil := sil) hl hn (show h < 2 ^ 29 by omega) n 0 2000 dep arr (by omega) (by omega) (fun w _ hw => by obtain ⟨-, ⟨x, hx, ex⟩, -⟩ := l3 w (by omega); exact ⟨x, by omega, ex⟩) (fun w _ hw => by obtain ⟨-, -, -, ⟨x, hx, ex⟩, -⟩ := l3 w (by omega); exact ⟨x, by omega, ex⟩)
  obtain ⟨t5, G, g1, g2⟩ := go_L (kin := kin) (sil := sil) hl hl' hn c1 (fun w hw => ⟨(c3 w hw).1, (c3 w hw).2.2.1⟩) (show h < 2 ^ 29 by omega) n 0 2000 thn (by omega) (by omega) l1 (fun w _ hw => by obtain ⟨e, ⟨x, hx, ex⟩, -⟩ := l3 w (by omega); exact ⟨x, by omega, by rw [← e]; exact ex⟩) (fun w _ hw => by obtain ⟨-, -, e, ⟨x, hx, ex⟩, -⟩ := l3 w (by omega); exact ⟨x, by omega, by rw [← e]; exact ex⟩)
  rw [show nI 0 = 0 from rfl] at P G
  have r8 := rise8 lev (show h < 2 ^ 30 by omega)
  have r9 := rise9 hl' (show h < 2 ^ 30 by omega)
  have t2 : t5 2 = nI h := by rw [g2 2 (fun w _ _ => by omega)]; exact l1
  have t5a : ∀ w, w < 6 → t5 (16 + 4 * w) = if w < n then sD (fv lev kin sil w h) (dep w) (arr w) else dep w := fun w hw => by
    obtain ⟨x1, -, x2, -⟩ := l3 w hw
    by_cases hwn : w < n
    · rw [if_pos hwn, (g1 w (by omega) hwn).1, x1, x2]
    · rw [if_neg hwn, g2 _ (fun w' _ _ => by omega), x1]
  have t5b : ∀ w, w < 6 → t5 (17 + 4 * w) = if w < n then sA (fv lev kin sil w h) (dep w) (arr w) else arr w := fun w hw => by
    obtain ⟨x1, -, x2, -⟩ := l3 w hw
    by_cases hwn : w < n
    · rw [if_pos hwn, (g1 w (by omega) hwn).2, x1, x2]
    · rw [if_neg hwn, g2 _ (fun w' _ _ => by omega), x2]
  have t5c : ∀ i, i < 36 → t5 (39 + i) = deb i := fun i hi => by
    rw [g2 _ (fun w' _ _ => by omega)]; exact (l4 i hi).1.symm
  have t5d : ∀ q, q < 39 → (∀ w, w < n → q ≠ 16 + 4 * w ∧ q ≠ 17 + 4 * w) → t5 q = thn q := fun q _ hq => g2 q (fun w _ hw => hq w hw)
  have hch : ∀ thn' : Nat → Int32, (∀ q, q < 39 → q ≠ 2 → thn' q = t5 q) → ChartR n sta (nI n) lev kin sil thn → ChartR n sta (nI n) lev kin sil thn' := by
    intro thn' ht hC'
    obtain ⟨⟨d0, d0'⟩, ⟨d1, d1', -⟩, d2, d3⟩ := hC'
    have et : ∀ q, q < 39 → q ≠ 2 → (∀ w, w < n → q ≠ 16 + 4 * w ∧ q ≠ 17 + 4 * w) → thn' q = thn q := fun q a b c => (ht q a b).trans (t5d q a c)
    refine ⟨⟨by rw [et 0 (by omega) (by omega) (fun w _ => by omega)]; exact d0, d0'⟩, ⟨by rw [et 1 (by omega) (by omega) (fun w _ => by omega)]; exact d1, d1', hn⟩, fun k hk => ?_, fun w hw => ?_⟩
    · rw [et (3 + k) (by omega) (by omega) (fun w _ => by omega)]; exact d2 k hk
    · rw [et (15 + 4 * w) (by omega) (by omega) (fun w' _ => by omega), et (18 + 4 * w) (by omega) (by omega) (fun w' _ => by omega)]; exact d3 w hw
  have hin := in_eq (rs lev h).toInt64 (-1) 1
  rw [t64] at hin
  change f_X9_in (rs lev h).toInt64 (-1) 1 = some (if (-1 : Int) ≤ (rs lev h).toInt ∧ (rs lev h).toInt ≤ 1 then 1 else 0) at hin
  have fin : ∀ (deb' thn' : Nat → Int32), ((∀ i, i < 36 → deb' i = deb i) ∨ (∀ i, i < 36 → deb' i = grow (deb i))) → (∀ i, i < 36 → thn' (39 + i) = deb' i) → (∀ q, q < 39 → q ≠ 2 → thn' q = t5 q) → thn' 2 = nI h + 1 → LedR (B + 40) n (nI h + 1) (fun w => if 0 ≤ w ∧ w < n then sD (fv lev kin sil w h) (dep w) (arr w) else dep w) (fun w => if 0 ≤ w ∧ w < n then sA (fv lev kin sil w h) (dep w) (arr w) else arr w) deb' thn' := by
    intro deb' thn' q1 q2 q3 q4
    have z : ∀ w, (0 ≤ w ∧ w < n) = (w < n) := fun w => propext ⟨fun q => q.2, fun q => ⟨Nat.zero_le w, q⟩⟩
    refine led_next (v := fun w => fv lev kin sil w h) hL hB (fun w => fv_b hl w h) (fun w hw => ?_) (fun w hw => ?_) (fun w hw => ?_) (fun w hw => ?_) q1 q2 q4
    · simp only [z]
    · simp only [z]
    · rw [q3 _ (by omega) (by omega), t5a w hw]; simp only [z]
    · rw [q3 _ (by omega) (by omega), t5b w hw]; simp only [z]
  by_cases c : (-1 : Int) ≤ (rs lev h).toInt ∧ (rs lev h).toInt ≤ 1
  · rw [if_pos c] at hin
    have k1 : ¬ rs lev h < -1 := fun q => by have := i32_lt.mp q; change (rs lev h).toInt < -1 at this; omega
    have k2 : ¬ 1 < rs lev h := fun q => by have := i32_lt.mp q; change 1 < (rs lev h).toInt at this; omega
    have G8 := grow8_L 36 0 2000 deb (by omega) (by omega)
    have G9 := grow9_L 36 39 2000 t5 (by omega) (by omega)
    rw [show nI 0 = 0 from rfl] at G8
    rw [show nI 39 = 39 from rfl] at G9
    refine ⟨_, _, _, _, by simp only [f_X3_passHour, r8, P, bd_s, if_neg k1, if_neg k2, f_X3_growDebts, G8] <;> rfl, by simp only [f_X9_goHour, l1, r9, G, bd_s, hin, if10, G9] <;> rfl, fin _ _ (Or.inr (fun i hi => ?_)) (fun i hi => ?_) (fun q h1 h2 => ?_) ?_, hch _ (fun q h1 h2 => ?_), fun w hw => ⟨?_, ?_⟩⟩
    · rw [if_pos (by omega)]
    · rw [upd_n _ _ (by omega)]; rw [if_pos (by omega), if_pos (by omega), t5c i hi]
    · rw [upd_n _ _ h2]; rw [if_neg (by omega)]
    · rw [upd_s, if_neg (by omega), t2]
    · rw [upd_n _ _ h2]; rw [if_neg (by omega)]
    · rw [if_pos ⟨Nat.zero_le w, hw⟩]
    · rw [if_pos ⟨Nat.zero_le w, hw⟩]
  · rw [if_neg c] at hin
    have e8 : f_X3_passHour (nI h) dep arr deb (nI n) lev kin sil = some (rs lev h, nI h + 1, fun w => if 0 ≤ w ∧ w < n then sD (fv lev kin sil w h) (dep w) (arr w) else dep w, fun w => if 0 ≤ w ∧ w < n then sA (fv lev kin sil w h) (dep w) (arr w) else arr w, deb) := by
      by_cases k1 : rs lev h < -1
      · simp only [f_X3_passHour, r8, P, bd_s, if_pos k1]
      · have k2 : 1 < rs lev h := i32_lt.mpr (by
          have q : ¬ (rs lev h).toInt < -1 := fun q => k1 (i32_lt.mpr q)
          change 1 < (rs lev h).toInt
          omega)
        simp only [f_X3_passHour, r8, P, bd_s, if_neg k1, if_pos k2]
    refine ⟨_, _, _, _, e8, by simp only [f_X9_goHour, l1, r9, G, bd_s, hin, if_true] <;> rfl, fin _ _ (Or.inl (fun i hi => rfl)) (fun i hi => ?_) (fun q h1 h2 => ?_) ?_, hch _ (fun q h1 h2 => ?_), fun w hw => ⟨?_, ?_⟩⟩
    · rw [upd_n _ _ (by omega)]; exact t5c i hi
    · rw [upd_n _ _ h2]
    · rw [upd_s, t2]
    · rw [upd_n _ _ h2]
    · rw [if_pos ⟨Nat.zero_le w, hw⟩]
    · rw [if_pos ⟨Nat.zero_le w, hw⟩]
