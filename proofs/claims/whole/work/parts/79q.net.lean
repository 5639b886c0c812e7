/-! ===== netting: numbers ===== -/
theorem sig (x : Int32) : f_J6_signum_0f7a4 x = some (if 0 < x.toInt then 1 else (if x.toInt < 0 then -1 else 0)) := by
  unfold f_J6_signum_0f7a4
  congr 1
  by_cases h0 : x < 0
  · have h1 := lt0.mp h0
    have e : x >>> (31 &&& 31) = -1 := by
      apply Int32.toInt_inj.mp
      rw [pk_shr x (31 &&& 31) 31 (by decide), Int.shiftRight_eq_div_pow]
      have := Int32.le_toInt x
      change x.toInt / 2147483648 = -1
      omega
    rw [e, if_neg (by omega), if_pos h1]
    apply Int32.toBitVec_inj.mp
    rw [Int32.toBitVec_or]
    exact BitVec.allOnes_or
  · obtain ⟨d, hd, rfl⟩ := nI_of h0
    rw [nI_toInt hd, pk_shrN hd (31 &&& 31) 31 (by decide), show d / 2 ^ 31 = 0 from Nat.div_eq_of_lt hd]
    by_cases hd0 : d = 0
    · subst hd0; decide
    · rw [if_pos (by omega)]
      have e : ((-nI d).toUInt32 >>> ((31 : Int32).toUInt32 &&& Int32.toUInt32 31)).toInt32 = 1 := by
        apply Int32.toBitVec_inj.mp
        apply BitVec.eq_of_toNat_eq
        rw [pk_ushr (-nI d) 31 31 (by decide), Int32.toBitVec_neg, BitVec.toNat_neg, pk_tn (by omega)]
        change (2 ^ 32 - d) % 2 ^ 32 / 2 ^ 31 = 1
        omega
      rw [e]
      decide
def sz (f : Nat → Int32) : Nat → Int
  | 0 => 0
  | n + 1 => sz f n + (f n).toInt
def cz (f : Nat → Int32) : Nat → Nat
  | 0 => 0
  | n + 1 => cz f n + (if f n = 0 then 0 else 1)
theorem sz_ge {f : Nat → Int32} {i : Nat} {v : Int32} : ∀ n, n ≤ i → sz (upd f i v) n = sz f n
  | 0, _ => rfl
  | n + 1, h => by
    change sz (upd f i v) n + (upd f i v n).toInt = sz f n + (f n).toInt
    rw [sz_ge n (by omega), upd_n _ _ (by omega)]
theorem sz_upd {f : Nat → Int32} {i : Nat} {v : Int32} : ∀ n, i < n → sz (upd f i v) n = sz f n - (f i).toInt + v.toInt
  | 0, h => absurd h (by omega)
  | n + 1, h => by
    change sz (upd f i v) n + (upd f i v n).toInt = sz f n + (f n).toInt - (f i).toInt + v.toInt
    by_cases c : i = n
    · subst c; rw [sz_ge i (Nat.le_refl i), upd_s]; omega
    · rw [sz_upd n (by omega), upd_n _ _ (by omega)]; omega
theorem cz_ge {f : Nat → Int32} {i : Nat} {v : Int32} : ∀ n, n ≤ i → cz (upd f i v) n = cz f n
  | 0, _ => rfl
  | n + 1, h => by
    change cz (upd f i v) n + (if upd f i v n = 0 then 0 else 1) = cz f n + (if f n = 0 then 0 else 1)
    rw [cz_ge n (by omega), upd_n _ _ (by omega)]
theorem cz_upd {f : Nat → Int32} {i : Nat} {v : Int32} : ∀ n, i < n → cz (upd f i v) n + (if f i = 0 then 0 else 1) = cz f n + (if v = 0 then 0 else 1)
  | 0, h => absurd h (by omega)
  | n + 1, h => by
    change cz (upd f i v) n + (if upd f i v n = 0 then 0 else 1) + (if f i = 0 then 0 else 1) = cz f n + (if f n = 0 then 0 else 1) + (if v = 0 then 0 else 1)
    by_cases c : i = n
    · subst c; rw [cz_ge i (Nat.le_refl i), upd_s]; omega
    · have := cz_upd (v := v) (f := f) n (show i < n by omega)
      rw [upd_n _ _ (by omega)]; omega
theorem sz_pos {f : Nat → Int32} : ∀ n, (∀ w, w < n → 0 ≤ (f w).toInt) → 0 ≤ sz f n ∧ ∀ a, a < n → (f a).toInt ≤ sz f n
  | 0, _ => ⟨Int.le_refl 0, fun a h => absurd h (by omega)⟩
  | n + 1, h => by
    obtain ⟨h1, h2⟩ := sz_pos n (fun w hw => h w (by omega))
    have h3 := h n (by omega)
    have e : sz f (n + 1) = sz f n + (f n).toInt := rfl
    refine ⟨by omega, fun a ha => ?_⟩
    by_cases c : a = n
    · subst c; omega
    · have := h2 a (by omega); omega
theorem cz_le {f : Nat → Int32} : ∀ n, cz f n ≤ n
  | 0 => Nat.le_refl 0
  | n + 1 => by
    have := cz_le (f := f) n
    change cz f n + (if f n = 0 then 0 else 1) ≤ n + 1
    split <;> omega
theorem cz_0 {f : Nat → Int32} : ∀ n, cz f n = 0 → ∀ w, w < n → f w = 0
  | 0, _, w, h => absurd h (by omega)
  | n + 1, h, w, hw => by
    change cz f n + (if f n = 0 then 0 else 1) = 0 at h
    by_cases c : w = n
    · subst c
      by_cases q : f w = 0
      · exact q
      · rw [if_neg q] at h; omega
    · exact cz_0 n (by omega) w (by omega)
/-! the first water with a sign -/
theorem first8_L {bal : Nat → Int32} (sg : Int32) (P : Int32 → Prop) (hP : ∀ w, w < 6 → (P (bal w) ↔ (if 0 < (bal w).toInt then (1 : Int32) else (if (bal w).toInt < 0 then -1 else 0)) = sg)) : ∀ (m i f : Nat), i + m = 6 → m < f → (∃ w, i ≤ w ∧ w < 6 ∧ P (bal w) ∧ (∀ v, i ≤ v → v < w → ¬ P (bal v)) ∧ f_X4_firstWithSign_L2 bal sg f (nI i) = some (nI w)) ∨ ((∀ v, i ≤ v → v < 6 → ¬ P (bal v)) ∧ f_X4_firstWithSign_L2 bal sg f (nI i) = some (-1000000)) := by
  intro m
  induction m with
  | zero =>
    intro i f hi hf
    obtain ⟨f, rfl⟩ : ∃ f', f = f' + 1 := ⟨f - 1, by omega⟩
    refine Or.inr ⟨fun v h1 h2 => absurd h1 (by omega), ?_⟩
    rw [f_X4_firstWithSign_L2_s, if_pos (by rw [show (6 : Int32) = nI 6 from rfl, nI_leI (by omega) (by omega)]; omega)]
  | succ m ih =>
    intro i f hi hf
    obtain ⟨f, rfl⟩ : ∃ f', f = f' + 1 := ⟨f - 1, by omega⟩
    have e : f_X4_firstWithSign_L2 bal sg (f + 1) (nI i) = if (if 0 < (bal i).toInt then (1 : Int32) else (if (bal i).toInt < 0 then -1 else 0)) = sg then some (nI i) else f_X4_firstWithSign_L2 bal sg f (nI (i + 1)) := by
      rw [f_X4_firstWithSign_L2_s, if_neg (by rw [show (6 : Int32) = nI 6 from rfl, nI_leI (by omega) (by omega)]; omega), gd_k (inb_nI (by omega) (by decide)), ix_nI (by omega), sig, bd_s, nI_1]
    by_cases c : P (bal i)
    · exact Or.inl ⟨i, Nat.le_refl i, by omega, c, fun v h1 h2 => absurd h1 (by omega), by rw [e, if_pos ((hP i (by omega)).mp c)]⟩
    · have c' : ¬ (if 0 < (bal i).toInt then (1 : Int32) else (if (bal i).toInt < 0 then -1 else 0)) = sg := fun q => c ((hP i (by omega)).mpr q)
      rw [e, if_neg c']
      rcases ih (i + 1) f (by omega) (by omega) with ⟨w, h1, h2, h3, h4, h5⟩ | ⟨h1, h2⟩
      · refine Or.inl ⟨w, by omega, h2, h3, fun v q1 q2 => ?_, h5⟩
        by_cases z : v = i
        · subst z; exact c
        · exact h4 v (by omega) q2
      · refine Or.inr ⟨fun v q1 q2 => ?_, h2⟩
        by_cases z : v = i
        · subst z; exact c
        · exact h1 v (by omega) q2
theorem first9_L {left bay : Nat → Int32} {n : Nat} (hn : n ≤ 6) (hb : bay 1 = nI n) (sg : Int32) (P : Int32 → Prop) (hP : ∀ w, w < n → (P (left w) ↔ ¬ sg * left w ≤ 0)) : ∀ (m i f : Nat), i + m = n → m < f → (∃ w, i ≤ w ∧ w < n ∧ P (left w) ∧ (∀ v, i ≤ v → v < w → ¬ P (left v)) ∧ f_X9_firstWith_L2 bay left sg f (nI i) = some (nI w)) ∨ ((∀ v, i ≤ v → v < n → ¬ P (left v)) ∧ f_X9_firstWith_L2 bay left sg f (nI i) = some (-1000000)) := by
  intro m
  induction m with
  | zero =>
    intro i f hi hf
    obtain ⟨f, rfl⟩ : ∃ f', f = f' + 1 := ⟨f - 1, by omega⟩
    refine Or.inr ⟨fun v h1 h2 => absurd h1 (by omega), ?_⟩
    rw [f_X9_firstWith_L2_s, hb, if_pos (by rw [nI_leI (by omega) (by omega)]; omega)]
  | succ m ih =>
    intro i f hi hf
    obtain ⟨f, rfl⟩ : ∃ f', f = f' + 1 := ⟨f - 1, by omega⟩
    have e : f_X9_firstWith_L2 bay left sg (f + 1) (nI i) = if sg * left i ≤ 0 then f_X9_firstWith_L2 bay left sg f (nI (i + 1)) else some (nI i) := by
      rw [f_X9_firstWith_L2_s, hb, if_neg (by rw [nI_leI (by omega) (by omega)]; omega), gd_k (inb_nI (by omega) (by decide)), ix_nI (by omega), nI_1]
    by_cases c : P (left i)
    · exact Or.inl ⟨i, Nat.le_refl i, by omega, c, fun v h1 h2 => absurd h1 (by omega), by rw [e, if_neg ((hP i (by omega)).mp c)]⟩
    · have c' : sg * left i ≤ 0 := by
        by_cases q : sg * left i ≤ 0
        · exact q
        · exact absurd ((hP i (by omega)).mpr q) c
      rw [e, if_pos c']
      rcases ih (i + 1) f (by omega) (by omega) with ⟨w, h1, h2, h3, h4, h5⟩ | ⟨h1, h2⟩
      · refine Or.inl ⟨w, by omega, h2, h3, fun v q1 q2 => ?_, h5⟩
        by_cases z : v = i
        · subst z; exact c
        · exact h4 v (by omega) q2
      · refine Or.inr ⟨fun v q1 q2 => ?_, h2⟩
        by_cases z : v = i
        · subst z; exact c
        · exact h1 v (by omega) q2
def NetQ (n : Nat) (bal left : Nat → Int32) : Prop := (∀ w, w < n → bal w = left w) ∧ (∀ w, n ≤ w → w < 6 → bal w = 0) ∧ ∀ w, w < 6 → -60000 ≤ (bal w).toInt ∧ (bal w).toInt ≤ 60000
theorem first_R {n : Nat} {bal left bay : Nat → Int32} (hn : n ≤ 6) (hb : bay 1 = nI n) (hQ : NetQ n bal left) (sg : Int32) (P : Int32 → Prop) (h0 : ¬ P 0) (h8 : ∀ w, w < 6 → (P (bal w) ↔ (if 0 < (bal w).toInt then (1 : Int32) else (if (bal w).toInt < 0 then -1 else 0)) = sg)) (h9 : ∀ w, w < 6 → (P (bal w) ↔ ¬ sg * bal w ≤ 0)) :
    (∃ w, w < n ∧ P (bal w) ∧ f_X4_firstWithSign bal sg = some (nI w) ∧ f_X9_firstWith bay left sg = some (nI w)) ∨ ((∀ w, w < 6 → ¬ P (bal w)) ∧ f_X4_firstWithSign bal sg = some (-1000000) ∧ f_X9_firstWith bay left sg = some (-1000000)) := by
  obtain ⟨q1, q2, q3⟩ := hQ
  have A := first8_L sg P h8 6 0 2000 (by omega) (by omega)
  have R := first9_L (left := left) hn hb sg P (fun w hw => by rw [← q1 w hw]; exact h9 w (by omega)) n 0 2000 (by omega) (by omega)
  rw [show nI 0 = 0 from rfl] at A R
  rcases A with ⟨w, -, a2, a3, a4, a5⟩ | ⟨a1, a2⟩
  · have hwn : w < n := by
      by_cases c : w < n
      · exact c
      · rw [q2 w (by omega) a2] at a3; exact absurd a3 h0
    rcases R with ⟨v, -, b2, b3, b4, b5⟩ | ⟨b1, b2⟩
    · have : w = v := by
        by_cases c1 : w < v
        · have z := b4 w (by omega) c1
          rw [← q1 w hwn] at z
          exact absurd a3 z
        · by_cases c2 : v < w
          · have z := a4 v (by omega) c2
            rw [q1 v b2] at z
            exact absurd b3 z
          · omega
      subst this
      exact Or.inl ⟨w, hwn, a3, a5, b5⟩
    · have z := b1 w (by omega) hwn
      rw [← q1 w hwn] at z
      exact absurd a3 z
  · rcases R with ⟨v, -, b2, b3, b4, b5⟩ | ⟨b1, b2⟩
    · have z := a1 v (by omega) (by omega)
      rw [q1 v b2] at z
      exact absurd b3 z
    · exact Or.inr ⟨fun w hw => a1 w (by omega) hw, a2, b2⟩
theorem firstP {n : Nat} {bal left bay : Nat → Int32} (hn : n ≤ 6) (hb : bay 1 = nI n) (hQ : NetQ n bal left) : (∃ w, w < n ∧ 0 < (bal w).toInt ∧ f_X4_firstWithSign bal 1 = some (nI w) ∧ f_X9_firstWith bay left 1 = some (nI w)) ∨ ((∀ w, w < 6 → ¬ 0 < (bal w).toInt) ∧ f_X4_firstWithSign bal 1 = some (-1000000) ∧ f_X9_firstWith bay left 1 = some (-1000000)) := by
  refine first_R hn hb hQ 1 (fun x => 0 < x.toInt) (by decide) (fun w hw => ?_) (fun w hw => ?_)
  · by_cases c : 0 < (bal w).toInt
    · rw [if_pos c]; exact ⟨fun _ => rfl, fun _ => c⟩
    · rw [if_neg c]
      refine ⟨fun q => absurd q c, fun q => ?_⟩
      split at q
      · exact absurd q (by decide)
      · exact absurd q (by decide)
  · rw [Int32.one_mul]
    exact ⟨fun q z => by have := i32_le.mp z; change (bal w).toInt ≤ 0 at this; omega, fun q => by
      by_cases c : 0 < (bal w).toInt
      · exact c
      · exact absurd (i32_le.mpr (show (bal w).toInt ≤ 0 by omega)) q⟩
theorem firstN {n : Nat} {bal left bay : Nat → Int32} (hn : n ≤ 6) (hb : bay 1 = nI n) (hQ : NetQ n bal left) : (∃ w, w < n ∧ (bal w).toInt < 0 ∧ f_X4_firstWithSign bal (-1) = some (nI w) ∧ f_X9_firstWith bay left (-1) = some (nI w)) ∨ ((∀ w, w < 6 → ¬ (bal w).toInt < 0) ∧ f_X4_firstWithSign bal (-1) = some (-1000000) ∧ f_X9_firstWith bay left (-1) = some (-1000000)) := by
  refine first_R hn hb hQ (-1) (fun x => x.toInt < 0) (by decide) (fun w hw => ?_) (fun w hw => ?_)
  · by_cases c : 0 < (bal w).toInt
    · rw [if_pos c]
      exact ⟨fun q => absurd q (by omega), fun q => absurd q (by decide)⟩
    · rw [if_neg c]
      by_cases d : (bal w).toInt < 0
      · rw [if_pos d]; exact ⟨fun _ => rfl, fun _ => d⟩
      · rw [if_neg d]; exact ⟨fun q => absurd q d, fun q => absurd q (by decide)⟩
  · have b := hQ.2.2 w hw
    have e : (-1 * bal w).toInt = -(bal w).toInt := by
      rw [Int32.neg_mul, Int32.one_mul, tI_neg (by omega)]
    exact ⟨fun q z => by have := i32_le.mp z; rw [e] at this; change -(bal w).toInt ≤ 0 at this; omega, fun q => by
      by_cases c : (bal w).toInt < 0
      · exact c
      · exact absurd (i32_le.mpr (by rw [e]; change -(bal w).toInt ≤ 0; omega)) q⟩
