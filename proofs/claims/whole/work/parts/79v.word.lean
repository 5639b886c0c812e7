/-! ===== words ===== -/
theorem lsh {v b : Nat} (hv : v < 2 ^ 55) (hb : b < 256) : (lN v <<< ((8 : Int32).toInt64 &&& 63)) ||| (nI b).toInt64 = lN (v * 256 + b) := by
  rw [nI_l (by omega)]
  apply Int64.toBitVec_inj.mp
  apply BitVec.eq_of_toNat_eq
  have e0 : ∀ x, x < 2 ^ 64 → (lN x).toBitVec.toNat = x := fun x hx => Nat.mod_eq_of_lt hx
  have e1 : (lN v <<< ((8 : Int32).toInt64 &&& 63)).toBitVec.toNat = v * 256 := by
    show ((lN v).toBitVec <<< (((8 : Int32).toInt64 &&& 63).toBitVec.smod 64).toNat).toNat = _
    rw [show (((8 : Int32).toInt64 &&& 63).toBitVec.smod 64).toNat = 8 by decide, BitVec.toNat_shiftLeft, Nat.shiftLeft_eq, e0 v (by omega)]
    exact Nat.mod_eq_of_lt (by omega)
  rw [Int64.toBitVec_or, BitVec.toNat_or, e1, e0 b (by omega), e0 (v * 256 + b) (by omega)]
  have h := Nat.shiftLeft_add_eq_or_of_lt (show b < 2 ^ 8 from hb) v
  rw [Nat.shiftLeft_eq] at h
  exact h.symm
theorem lgc_eq (x y : Int64) : lg_cmp x y = 0 ↔ x = y := by
  constructor
  · intro h
    have h1 : ¬ x.toInt < y.toInt := fun q => by have := (lgc_lt x y).mpr q; rw [h] at this; revert this; decide
    have h2 : ¬ y.toInt < x.toInt := fun q => by have := (lgc_gt x y).mpr q; rw [h] at this; revert this; decide
    exact Int64.toInt_inj.mp (by omega)
  · intro h
    subst h
    have h1 : ¬ lg_cmp x x < 0 := fun q => by have := (lgc_lt x x).mp q; omega
    have h2 : ¬ 0 < lg_cmp x x := fun q => by have := (lgc_gt x x).mp q; omega
    exact i32_eq.mpr (by
      have q1 : ¬ (lg_cmp x x).toInt < (0 : Int32).toInt := fun q => h1 (i32_lt.mpr q)
      have q2 : ¬ (0 : Int32).toInt < (lg_cmp x x).toInt := fun q => h2 (i32_lt.mpr q)
      omega)
def pkw (b : Nat → Nat) : Nat → Nat
  | 0 => 0
  | L + 1 => pkw b L * 256 + b L
theorem pkw_lt {b : Nat → Nat} : ∀ L, (∀ i, i < L → b i < 256) → pkw b L < 256 ^ L
  | 0, _ => Nat.lt_of_lt_of_le (show 0 < 1 by decide) (Nat.le_refl 1)
  | L + 1, h => by
    have h1 := pkw_lt L (fun i hi => h i (by omega))
    have h2 := h L (by omega)
    change pkw b L * 256 + b L < 256 ^ (L + 1)
    rw [Nat.pow_succ]
    omega
theorem pkw_ge {b : Nat → Nat} : ∀ L, (∀ i, i < L + 1 → 1 ≤ b i) → 256 ^ L ≤ pkw b (L + 1)
  | 0, h => by have := h 0 (by decide); change 256 ^ 0 ≤ 0 * 256 + b 0; omega
  | L + 1, h => by
    have h1 := pkw_ge L (fun i hi => h i (by omega))
    change 256 ^ (L + 1) ≤ pkw b (L + 1) * 256 + b (L + 1)
    rw [Nat.pow_succ]
    omega
theorem pkw_eq {b w : Nat → Nat} : ∀ L, (∀ i, i < L → b i < 256) → (∀ i, i < L → w i < 256) → (pkw b L = pkw w L ↔ ∀ i, i < L → b i = w i)
  | 0, _, _ => ⟨fun _ i hi => absurd hi (by omega), fun _ => rfl⟩
  | L + 1, h1, h2 => by
    have ih := pkw_eq L (fun i hi => h1 i (by omega)) (fun i hi => h2 i (by omega))
    have b1 := h1 L (by omega)
    have b2 := h2 L (by omega)
    change pkw b L * 256 + b L = pkw w L * 256 + w L ↔ _
    constructor
    · intro e i hi
      by_cases c : i = L
      · subst c; omega
      · exact ih.mp (by omega) i (by omega)
    · intro e
      have e1 := ih.mpr (fun i hi => e i (by omega))
      have e2 := e L (by omega)
      omega
theorem pkw_ne {b w : Nat → Nat} {L M : Nat} (hb : ∀ i, i < L → 1 ≤ b i ∧ b i < 256) (hw : ∀ i, i < M → 1 ≤ w i ∧ w i < 256) (h : L ≠ M) : pkw b L ≠ pkw w M := by
  have key : ∀ (b w : Nat → Nat) (L M : Nat), (∀ i, i < L → 1 ≤ b i ∧ b i < 256) → (∀ i, i < M → 1 ≤ w i ∧ w i < 256) → L < M → pkw b L < pkw w M := by
    intro b w L M hb hw hLM
    obtain ⟨m, rfl⟩ : ∃ m, M = m + 1 := ⟨M - 1, by omega⟩
    have h1 := pkw_lt (b := b) L (fun i hi => (hb i hi).2)
    have h2 := pkw_ge (b := w) m (fun i hi => (hw i hi).1)
    have h3 := Nat.pow_le_pow_right (show 0 < 256 by decide) (show L ≤ m by omega)
    omega
  rcases (show L < M ∨ M < L by omega) with q | q
  · have := key b w L M hb hw q; omega
  · have := key w b M L hw hb q; omega
def wcs : List (List Nat) := [[116, 105, 100, 101], [119, 97, 116, 101, 114], [99, 111, 118, 101], [108, 97, 103, 111, 111, 110], [112, 111, 111, 108], [100, 121, 107, 101], [119, 101, 108, 108]]
def wc (k i : Nat) : Nat := (wcs.getD k []).getD i 0
def wl (k : Nat) : Nat := xtL.getD k 0
theorem wc_x : ∀ k, k < 7 → ∀ i, i < 6 → xtc k (nI i) = nI (wc k i) := by decide +kernel
theorem wc_b : ∀ k, k < 7 → ∀ i, i < 6 → i < wl k → 97 ≤ wc k i ∧ wc k i ≤ 122 := by decide +kernel
theorem wl_b : ∀ k, k < 7 → 4 ≤ wl k ∧ wl k ≤ 6 := by decide +kernel
def CC (k : Nat) : Int64 := lN (pkw (wc k) (wl k))
theorem CC_0 : CC 0 = 1953064037 := by decide +kernel
theorem CC_1 : CC 1 = 512736126322 := by decide +kernel
theorem CC_2 : CC 2 = 1668249189 := by decide +kernel
theorem CC_3 : CC 3 = 119165602983790 := by decide +kernel
theorem CC_4 : CC 4 = 1886351212 := by decide +kernel
theorem CC_5 : CC 5 = 1685678949 := by decide +kernel
theorem CC_6 : CC 6 = 2003135596 := by decide +kernel
theorem name_L {tape : Nat → Int32} {b : Nat → Nat} {s L : Nat} (hs : s + L ≤ 400) (hL : L < 8) (hb : ∀ i, i < L → b i < 256 ∧ tape (s + i) = nI (b i)) : ∀ (m i f : Nat), i + m = L → m < f → f_X9_name_L7 2 (nI s) (nI (s + L)) tape f (lN (pkw b i)) (nI (s + i)) = some (lN (pkw b L)) := by
  intro m
  induction m with
  | zero =>
    intro i f hi hf
    obtain ⟨f, rfl⟩ : ∃ f', f = f' + 1 := ⟨f - 1, by omega⟩
    rw [f_X9_name_L7_s, if_pos (nI_le (by omega) (by omega)), show i = L by omega]
  | succ m ih =>
    intro i f hi hf
    obtain ⟨f, rfl⟩ : ∃ f', f = f' + 1 := ⟨f - 1, by omega⟩
    have p1 := pkw_lt (b := b) i (fun j hj => (hb j (by omega)).1)
    have p2 := Nat.pow_le_pow_right (show 0 < 256 by decide) (show i ≤ 6 by omega)
    have p3 : (256 : Nat) ^ 6 = 281474976710656 := by decide
    obtain ⟨b1, b2⟩ := hb i (by omega)
    have e : nI (s + L) - nI s = nI L := by rw [pk_sub (by omega)]; congr 1; omega
    rw [f_X9_name_L7_s, if_neg (nI_ge (by omega) (by omega)), if_pos rfl, e, if_neg (show ¬ (8 : Int32) ≤ nI L by rw [show (8 : Int32) = nI 8 from rfl]; exact nI_ge hL (by omega)), gd_k (inb_nI (by omega) (by decide)), ix_nI (by omega), b2]
    simp only [nm]
    rw [lsh (by omega) b1, nI_1]
    exact ih (i + 1) f (by omega) (by omega)
theorem word_L {byt : Nat → Int32} {b : Nat → Nat} {s k : Nat} (hk : k < 7) (hs : s + wl k ≤ 400) (hb : ∀ i, i < wl k → b i < 256 ∧ byt (s + i) = nI (b i)) : ∀ (m i f : Nat), i + m = wl k → m < f → ((∀ j, i ≤ j → j < wl k → b j = wc k j) ∧ f_X7_isWord_L28 (nI s) byt k f (nI i) = some 1) ∨ ((∃ j, i ≤ j ∧ j < wl k ∧ b j ≠ wc k j) ∧ f_X7_isWord_L28 (nI s) byt k f (nI i) = some 0) := by
  obtain ⟨w4, w6⟩ := wl_b k hk
  have ex : xtl k = nI (wl k) := rfl
  intro m
  induction m with
  | zero =>
    intro i f hi hf
    obtain ⟨f, rfl⟩ : ∃ f', f = f' + 1 := ⟨f - 1, by omega⟩
    refine Or.inl ⟨fun j h1 h2 => absurd h1 (by omega), ?_⟩
    rw [f_X7_isWord_L28_s, ex, if_pos (nI_le (by omega) (by omega))]
  | succ m ih =>
    intro i f hi hf
    obtain ⟨f, rfl⟩ : ∃ f', f = f' + 1 := ⟨f - 1, by omega⟩
    obtain ⟨b1, b2⟩ := hb i (by omega)
    have wb := wc_b k hk i (by omega) (by omega)
    have e : f_X7_isWord_L28 (nI s) byt k (f + 1) (nI i) = if nI (b i) = nI (wc k i) then f_X7_isWord_L28 (nI s) byt k f (nI (i + 1)) else some 0 := by
      rw [f_X7_isWord_L28_s, ex, if_neg (nI_ge (by omega) (by omega)), nI_add, gd_k (inb_nI (by omega) (by decide)), gd_k (show inb (nI i) (xtL.getD k 0) = true from inb_nI (show i < wl k by omega) (show wl k ≤ 100000 by omega)), ix_nI (by omega), b2, wc_x k hk i (by omega), nI_1]
    rw [e]
    by_cases q : b i = wc k i
    · rw [if_pos (by rw [q])]
      rcases ih (i + 1) f (by omega) (by omega) with ⟨h1, h2⟩ | ⟨⟨j, h1, h2, h3⟩, h4⟩
      · refine Or.inl ⟨fun j z1 z2 => ?_, h2⟩
        by_cases z : j = i
        · subst z; exact q
        · exact h1 j (by omega) z2
      · exact Or.inr ⟨⟨j, by omega, h2, h3⟩, h4⟩
    · rw [if_neg (fun z => q ((nI_eq (by omega) (by omega)).mp z))]
      exact Or.inr ⟨⟨i, Nat.le_refl i, by omega, q⟩, rfl⟩
theorem CC_n0 : ∀ k, k < 7 → ¬ lN 0 = CC k := by decide +kernel
theorem word_R {byt tape : Nat → Int32} {tok token num : Int32} {s c : Nat} (hsc : s ≤ c) (hc : c ≤ 400) (hT : Tok byt tape tok token num s c) : ∃ v, f_X9_name token (nI s) (nI c) 0 tape = some (lN v) ∧ (∀ k, k < 7 → f_X7_isWord tok (nI s) (nI c) byt k = some (if lN v = CC k then 1 else 0)) ∧ (token ≠ 2 → v = 0) := by
  have no : ¬ token = 2 → ¬ tok = 1 → ∃ v, f_X9_name token (nI s) (nI c) 0 tape = some (lN v) ∧ (∀ k, k < 7 → f_X7_isWord tok (nI s) (nI c) byt k = some (if lN v = CC k then 1 else 0)) ∧ (token ≠ 2 → v = 0) := by
    intro h1 h2
    refine ⟨0, ?_, fun k hk => ?_, fun _ => rfl⟩
    · have e : f_X9_name_L7 token (nI s) (nI c) tape 2000 0 (nI s) = some 0 := by
        rw [show 2000 = 1999 + 1 from rfl, f_X9_name_L7_s]
        by_cases q : nI c ≤ nI s
        · rw [if_pos q]
        · rw [if_neg q, if_neg h1]
      simp only [f_X9_name, e, bd_s, if_true]
      rfl
    · simp only [f_X7_isWord, if_neg h2, if_neg (CC_n0 k hk)]
  rcases hT with ⟨rfl, rfl⟩ | ⟨rfl, rfl, hL⟩ | ⟨rfl, rfl, -⟩ | ⟨rfl, rfl⟩ | ⟨rfl, rfl⟩
  · exact no (by decide) (by decide)
  · obtain ⟨L, rfl⟩ : ∃ L, c = s + L := ⟨c - s, by omega⟩
    have eL : nI (s + L) - nI s = nI L := by rw [pk_sub (by omega)]; congr 1; omega
    by_cases h8 : L < 8
    · have hb : ∀ i, i < L → 97 ≤ ix (tape (s + i)) ∧ ix (tape (s + i)) ≤ 122 ∧ tape (s + i) = nI (ix (tape (s + i))) ∧ byt (s + i) = nI (ix (tape (s + i))) := fun i hi => by
        obtain ⟨b, h1, h2, h3, h4⟩ := hL (s + i) (by omega) (by omega)
        rw [h3, ix_nI (by omega)]
        exact ⟨h1, h2, rfl, h4⟩
      have N := name_L (tape := tape) (b := fun i => ix (tape (s + i))) hc h8 (fun i hi => ⟨by have := hb i hi; omega, (hb i hi).2.2.1⟩) L 0 2000 (by omega) (by omega)
      change f_X9_name_L7 2 (nI s) (nI (s + L)) tape 2000 0 (nI s) = _ at N
      have plt := pkw_lt (b := fun i => ix (tape (s + i))) L (fun i hi => by have := hb i hi; omega)
      have p2 := Nat.pow_le_pow_right (show 0 < 256 by decide) (show L ≤ 7 by omega)
      have p3 : (256 : Nat) ^ 7 = 72057594037927936 := by decide
      refine ⟨pkw (fun i => ix (tape (s + i))) L, by simp only [f_X9_name, N, bd_s, if_true], fun k hk => ?_, fun z => absurd rfl z⟩
      obtain ⟨w4, w6⟩ := wl_b k hk
      have wlt := pkw_lt (b := wc k) (wl k) (fun i hi => by have := wc_b k hk i (by omega) hi; omega)
      have q2 := Nat.pow_le_pow_right (show 0 < 256 by decide) (show wl k ≤ 7 by omega)
      have ec : (lN (pkw (fun i => ix (tape (s + i))) L) = CC k) ↔ pkw (fun i => ix (tape (s + i))) L = pkw (wc k) (wl k) := pk_lEQ (by omega) (by omega)
      have ex : xtl k = nI (wl k) := rfl
      by_cases e : L = wl k
      · subst e
        have W := word_L (byt := byt) (b := fun i => ix (tape (s + i))) hk hc (fun i hi => ⟨by have := hb i hi; omega, (hb i hi).2.2.2⟩) (wl k) 0 2000 (by omega) (by omega)
        rw [show nI 0 = 0 from rfl] at W
        have pe := pkw_eq (b := fun i => ix (tape (s + i))) (w := wc k) (wl k) (fun i hi => by have := hb i hi; omega) (fun i hi => by have := wc_b k hk i (by omega) hi; omega)
        rcases W with ⟨h1, h2⟩ | ⟨⟨j, -, h2, h3⟩, h4⟩
        · rw [if_pos (ec.mpr (pe.mpr (fun i hi => h1 i (by omega) hi)))]
          simp only [f_X7_isWord, if_true, eL, ex, h2]
        · rw [if_neg (fun z => h3 (pe.mp (ec.mp z) j h2))]
          simp only [f_X7_isWord, if_true, eL, ex, h4]
      · rw [if_neg (fun z => pkw_ne (b := fun i => ix (tape (s + i))) (w := wc k) (fun i hi => by have := hb i hi; omega) (fun i hi => by have := wc_b k hk i (by omega) hi; omega) e (ec.mp z))]
        simp only [f_X7_isWord, if_true, eL, ex, if_neg (fun z => e ((nI_eq (show L < 2 ^ 31 by omega) (show wl k < 2 ^ 31 by omega)).mp z))]
    · refine ⟨0, ?_, fun k hk => ?_, fun _ => rfl⟩
      · have e : f_X9_name_L7 2 (nI s) (nI (s + L)) tape 2000 0 (nI s) = some 0 := by
          rw [show 2000 = 1999 + 1 from rfl, f_X9_name_L7_s, if_neg (nI_ge (by omega) (by omega)), if_pos rfl, eL, if_pos (show (8 : Int32) ≤ nI L by rw [show (8 : Int32) = nI 8 from rfl]; exact nI_le (by omega) (by omega))]
        simp only [f_X9_name, e, bd_s, if_true]
        rfl
      · obtain ⟨w4, w6⟩ := wl_b k hk
        have ex : xtl k = nI (wl k) := rfl
        rw [if_neg (CC_n0 k hk)]
        simp only [f_X7_isWord, if_true, eL, ex, if_neg (fun z => (show L ≠ wl k by omega) ((nI_eq (show L < 2 ^ 31 by omega) (show wl k < 2 ^ 31 by omega)).mp z))]
  · exact no (by decide) (by decide)
  · exact no (by decide) (by decide)
  · exact no (by decide) (by decide)
theorem sort_R {byt : Nat → Int32} {tok stt fin : Int32} {v : Nat} (h : ∀ k, k < 7 → f_X7_isWord tok stt fin byt k = some (if lN v = CC k then 1 else 0)) : ∃ z, f_X7_sortOfWord tok stt fin byt = some z ∧ ((z = 0 ∧ f_X9_kindBy (lN v) = some (-1000000)) ∨ ∃ kd, 1 ≤ kd ∧ kd < 6 ∧ z = nI kd ∧ f_X9_kindBy (lN v) = some (nI kd)) := by
  have h2 := h 2 (by decide)
  have h3 := h 3 (by decide)
  have h4 := h 4 (by decide)
  have h5 := h 5 (by decide)
  have h6 := h 6 (by decide)
  by_cases c2 : lN v = CC 2
  · rw [if_pos c2] at h2
    exact ⟨1, by simp only [f_X7_sortOfWord, h2, bd_s, if10], Or.inr ⟨1, by decide, by decide, rfl, by rw [c2]; decide +kernel⟩⟩
  rw [if_neg c2] at h2
  by_cases c3 : lN v = CC 3
  · rw [if_pos c3] at h3
    exact ⟨2, by simp only [f_X7_sortOfWord, h2, h3, bd_s, if10, if_true], Or.inr ⟨2, by decide, by decide, rfl, by rw [c3]; decide +kernel⟩⟩
  rw [if_neg c3] at h3
  by_cases c4 : lN v = CC 4
  · rw [if_pos c4] at h4
    exact ⟨3, by simp only [f_X7_sortOfWord, h2, h3, h4, bd_s, if10, if_true], Or.inr ⟨3, by decide, by decide, rfl, by rw [c4]; decide +kernel⟩⟩
  rw [if_neg c4] at h4
  by_cases c5 : lN v = CC 5
  · rw [if_pos c5] at h5
    exact ⟨4, by simp only [f_X7_sortOfWord, h2, h3, h4, h5, bd_s, if10, if_true], Or.inr ⟨4, by decide, by decide, rfl, by rw [c5]; decide +kernel⟩⟩
  rw [if_neg c5] at h5
  by_cases c6 : lN v = CC 6
  · rw [if_pos c6] at h6
    exact ⟨5, by simp only [f_X7_sortOfWord, h2, h3, h4, h5, h6, bd_s, if10, if_true], Or.inr ⟨5, by decide, by decide, rfl, by rw [c6]; decide +kernel⟩⟩
  rw [if_neg c6] at h6
  refine ⟨0, by simp only [f_X7_sortOfWord, h2, h3, h4, h5, h6, bd_s, if_true], Or.inl ⟨rfl, ?_⟩⟩
  rw [CC_2] at c2
  rw [CC_3] at c3
  rw [CC_4] at c4
  rw [CC_5] at c5
  rw [CC_6] at c6
  simp only [f_X9_kindBy, lgc_eq, if_neg c2, if_neg c3, if_neg c4, if_neg c5, if_neg c6]
