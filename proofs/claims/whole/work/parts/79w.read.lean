/-! ===== reading ===== -/
abbrev CT : Type := Int32 × Int32 × Int32 × Int32 × Int32
abbrev RT : Type := Int32 × Int32 × Int32 × Int32 × Int32 × Int32
def PS (n : Nat) (byt tape : Nat → Int32) (C : CT) (R : RT) : Prop :=
  ∃ (tok num flw token fault faultAt : Int32) (s c : Nat), C = (tok, nI s, nI c, num, flw) ∧ R = (nI c, token, nI s, nI c, fault, faultAt) ∧ flw = fault ∧ s ≤ c ∧ c ≤ n ∧ Tok byt tape tok token num s c ∧ (fault = 0 ∨ ((fault = 1 ∨ fault = 2 ∨ fault = 3) ∧ faultAt = nI s))
theorem flt_ne {f : Int32} (h : f = 1 ∨ f = 2 ∨ f = 3) : ¬ f = 0 ∧ ¬ f ≤ 0 := by
  rcases h with rfl | rfl | rfl <;> decide
section READ
variable {n : Nat} {byt tape : Nat → Int32}
theorem must_R (hn : n ≤ 400) (hT : TapeQ n byt tape) {C : CT} {R : RT} (b : Int32) (h : PS n byt tape C R) : ∃ C' R', f_X7_takeIf (nI n) C.1 C.2.1 C.2.2.1 C.2.2.2.1 C.2.2.2.2 byt b = some C' ∧ f_X9_must (nI n) R.1 R.2.1 R.2.2.1 R.2.2.2.1 R.2.2.2.2.1 R.2.2.2.2.2 tape b = some R' ∧ PS n byt tape C' R' ∧ (R.2.2.2.2.1 ≠ 0 → C' = C ∧ R' = R) ∧ (R'.2.2.2.2.1 = 0 ↔ R.2.2.2.2.1 = 0 ∧ b ≠ 0) ∧ (b = 0 → R.2.2.2.2.1 = 0 → C' = (C.1, C.2.1, C.2.2.1, C.2.2.2.1, 1)) := by
  obtain ⟨tok, num, flw, token, fault, faultAt, s, c, rfl, rfl, rfl, h1, h2, hK, hf⟩ := h
  dsimp only
  rcases hf with rfl | ⟨hf, rfl⟩
  · by_cases hb : b = 0
    · refine ⟨(tok, nI s, nI c, num, 1), (nI c, token, nI s, nI c, 1, nI s), by simp only [f_X7_takeIf, if_true, if_pos hb], by simp only [f_X9_must, if_pos hb, f_X9_bad, if_true, bd_s, if10], ⟨tok, num, 1, token, 1, nI s, s, c, rfl, rfl, rfl, h1, h2, hK, Or.inr ⟨Or.inl rfl, rfl⟩⟩, fun z => absurd rfl z, ⟨fun z => absurd z (show ¬ (1 : Int32) = 0 by decide), fun z => absurd hb z.2⟩, fun _ _ => rfl⟩
    · obtain ⟨tok', num', token', s', c', e8, e9, k1, k2, k3⟩ := next_R hn hT h2 tok (nI s) num token (nI s) (nI c)
      exact ⟨(tok', nI s', nI c', num', 0), (nI c', token', nI s', nI c', 0, faultAt), by simp only [f_X7_takeIf, if_true, if_neg hb, e8, bd_s], by simp only [f_X9_must, if_neg hb, if_true, e9, bd_s], ⟨tok', num', 0, token', 0, faultAt, s', c', rfl, rfl, rfl, k1, k2, k3, Or.inl rfl⟩, fun z => absurd rfl z, ⟨fun _ => ⟨rfl, hb⟩, fun _ => rfl⟩, fun z => absurd z hb⟩
  · obtain ⟨f0, -⟩ := flt_ne hf
    refine ⟨(tok, nI s, nI c, num, flw), (nI c, token, nI s, nI c, flw, nI s), by simp only [f_X7_takeIf, if_neg f0], ?_, ⟨tok, num, flw, token, flw, nI s, s, c, rfl, rfl, rfl, h1, h2, hK, Or.inr ⟨hf, rfl⟩⟩, fun _ => ⟨rfl, rfl⟩, ⟨fun z => absurd z f0, fun z => absurd z.1 f0⟩, fun _ z => absurd z f0⟩
    by_cases hb : b = 0
    · simp only [f_X9_must, if_pos hb, f_X9_bad, if_neg f0, bd_s]
    · simp only [f_X9_must, if_neg hb, if_neg f0]
theorem figs_no {token start till : Int32} (h : ¬ token = 3) : f_X9_figures token start till tape = some 0 := by
  have e : f_X9_figures_L7 token till tape 2000 0 start = some 0 := by
    rw [show 2000 = 1999 + 1 from rfl, f_X9_figures_L7_s]
    by_cases q : till ≤ start
    · rw [if_pos q]
    · rw [if_neg q, if_neg h]
  simp only [f_X9_figures, e, bd_s]
theorem number_R (hn : n ≤ 400) (hT : TapeQ n byt tape) {C : CT} {R : RT} {M : Nat} (hM : M ≤ 999) (h : PS n byt tape C R) : ∃ v v' C' R', f_X7_takeNumber (nI n) C.1 C.2.1 C.2.2.1 C.2.2.2.1 C.2.2.2.2 byt (nI M) = some (v, C') ∧ f_X9_number (nI n) R.1 R.2.1 R.2.2.1 R.2.2.2.1 R.2.2.2.2.1 R.2.2.2.2.2 tape 0 (nI M) = some (v', R') ∧ PS n byt tape C' R' ∧ (R.2.2.2.2.1 ≠ 0 → C' = C ∧ R' = R) ∧ (R'.2.2.2.2.1 = 0 → R.2.2.2.2.1 = 0 ∧ v = v' ∧ ∃ x, x ≤ M ∧ v = nI x) := by
  have h0 := h
  obtain ⟨tok, num, flw, token, fault, faultAt, s, c, rfl, rfl, rfl, h1, h2, hK, hf⟩ := h
  dsimp only at *
  rcases hf with rfl | ⟨hf, rfl⟩
  · by_cases ht : tok = 2
    · obtain ⟨ht3, hF, v, hv, hnum⟩ : token = 3 ∧ f_X9_figures 3 (nI s) (nI c) tape = some num ∧ ∃ v, v ≤ 999 ∧ num = nI v := by
        rcases hK with ⟨q, -⟩ | ⟨q, -⟩ | ⟨-, q⟩ | ⟨q, -⟩ | ⟨q, -⟩
        · rw [ht] at q; exact absurd q (by decide)
        · rw [ht] at q; exact absurd q (by decide)
        · exact q
        · rw [ht] at q; exact absurd q (by decide)
        · rw [ht] at q; exact absurd q (by decide)
      subst ht ht3 hnum
      have hin := in_eq (nI v).toInt64 ((0 : Int32).toInt64) (nI M).toInt64
      rw [t64, t64, t64, nI_toInt (by omega), nI_toInt (by omega)] at hin
      change f_X9_in (nI v).toInt64 ((0 : Int32).toInt64) (nI M).toInt64 = some (if (0 : Int) ≤ (v : Int) ∧ (v : Int) ≤ (M : Int) then 1 else 0) at hin
      by_cases q : v ≤ M
      · rw [if_pos (by omega)] at hin
        obtain ⟨C', R', e8, e9, k1, k2, k3, -⟩ := must_R hn hT 1 h0
        dsimp only at e8 e9 k2 k3
        exact ⟨nI v, nI v, C', R', by simp only [f_X7_takeNumber, if_true, if_pos (nI_le q (by omega)), e8, bd_s], by simp only [f_X9_number, if_pos (show (0 : Int32) ≤ 0 by decide), hF, bd_s, if_true, hin, if10, e9], k1, k2, fun _ => ⟨rfl, rfl, v, q, rfl⟩⟩
      · rw [if_neg (by omega)] at hin
        have P2 : PS n byt tape (2, nI s, nI c, nI v, 2) (nI c, 3, nI s, nI c, 2, nI s) := ⟨2, nI v, 2, 3, 2, nI s, s, c, rfl, rfl, rfl, h1, h2, hK, Or.inr ⟨Or.inr (Or.inl rfl), rfl⟩⟩
        obtain ⟨C', R', e8, e9, k1, k2, k3, -⟩ := must_R hn hT 1 P2
        obtain ⟨rfl, rfl⟩ := k2 (show (2 : Int32) ≠ 0 by decide)
        dsimp only at e8 e9
        exact ⟨nI v, nI v, _, _, by simp only [f_X7_takeNumber, if_true, if_neg (nI_ge (show M < v by omega) (by omega)), e8, bd_s] <;> rfl, by simp only [f_X9_number, if_pos (show (0 : Int32) ≤ 0 by decide), hF, bd_s, if_true, hin, f_X9_bad, e9] <;> rfl, k1, fun z => absurd rfl z, fun z => absurd z (show ¬ (2 : Int32) = 0 by decide)⟩
    · have ht3 : ¬ token = 3 := fun z => by
        rcases hK with ⟨-, q⟩ | ⟨-, q, -⟩ | ⟨q, -⟩ | ⟨-, q⟩ | ⟨-, q⟩
        · rw [z] at q; exact absurd q (by decide)
        · rw [z] at q; exact absurd q (by decide)
        · exact absurd q ht
        · rw [z] at q; exact absurd q (by decide)
        · rw [z] at q; exact absurd q (by decide)
      obtain ⟨C', R', e8, e9, k1, k2, k3, -⟩ := must_R hn hT 0 h0
      dsimp only at e8 e9 k2 k3
      exact ⟨num, 0, C', R', by simp only [f_X7_takeNumber, if_true, if_neg ht, e8, bd_s], by simp only [f_X9_number, if_pos (show (0 : Int32) ≤ 0 by decide), figs_no ht3, bd_s, if_neg ht3, e9], k1, k2, fun z => absurd rfl (k3.mp z).2⟩
  · obtain ⟨f0, f1⟩ := flt_ne hf
    have e8 : ∀ b, f_X7_takeIf (nI n) tok (nI s) (nI c) num flw byt b = some (tok, nI s, nI c, num, flw) := fun b => by simp only [f_X7_takeIf, if_neg f0]
    refine ⟨num, 0, (tok, nI s, nI c, num, flw), (nI c, token, nI s, nI c, flw, nI s), ?_, by simp only [f_X9_number, if_neg f1], h0, fun _ => ⟨rfl, rfl⟩, fun z => absurd z f0⟩
    by_cases ht : tok = 2
    · simp only [f_X7_takeNumber, if_neg f0, if_pos ht, e8, bd_s]
    · simp only [f_X7_takeNumber, if_neg f0, if_neg ht, e8, bd_s]
theorem sign_R (hn : n ≤ 400) (hT : TapeQ n byt tape) {C : CT} {R : RT} (h : PS n byt tape C R) : ∃ C' R', f_X7_takeSign (nI n) C.1 C.2.1 C.2.2.1 C.2.2.2.1 C.2.2.2.2 byt = some C' ∧ f_X9_mustEnd (nI n) R.1 R.2.1 R.2.2.1 R.2.2.2.1 R.2.2.2.2.1 R.2.2.2.2.2 tape = some R' ∧ PS n byt tape C' R' ∧ (R.2.2.2.2.1 ≠ 0 → C' = C ∧ R' = R) ∧ (R'.2.2.2.2.1 = 0 → R.2.2.2.2.1 = 0) := by
  have h0 := h
  obtain ⟨tok, num, flw, token, fault, faultAt, s, c, rfl, rfl, rfl, h1, h2, hK, hf⟩ := h
  dsimp only at *
  rcases hf with rfl | ⟨hf, rfl⟩
  · have hh : (tok = 3 ∧ token = 4) ∨ (¬ tok = 3 ∧ ¬ token = 4) := by
      rcases hK with ⟨rfl, rfl⟩ | ⟨rfl, rfl, -⟩ | ⟨rfl, rfl, -⟩ | ⟨rfl, rfl⟩ | ⟨rfl, rfl⟩
      · exact Or.inr (by decide)
      · exact Or.inr (by decide)
      · exact Or.inr (by decide)
      · exact Or.inl ⟨rfl, rfl⟩
      · exact Or.inr (by decide)
    rcases hh with ⟨q1, q2⟩ | ⟨q1, q2⟩
    · obtain ⟨C', R', e8, e9, k1, k2, k3, -⟩ := must_R hn hT 1 h0
      dsimp only at e8 e9 k2 k3
      exact ⟨C', R', by simp only [f_X7_takeSign, if_pos q1, e8, bd_s], by simp only [f_X9_mustEnd, if_true, if_pos q2, e9, bd_s], k1, k2, fun _ => rfl⟩
    · obtain ⟨C', R', e8, e9, k1, k2, k3, -⟩ := must_R hn hT 0 h0
      dsimp only at e8 e9 k2 k3
      exact ⟨C', R', by simp only [f_X7_takeSign, if_neg q1, e8, bd_s], by simp only [f_X9_mustEnd, if_true, if_neg q2, e9, bd_s], k1, k2, fun _ => rfl⟩
  · obtain ⟨f0, f1⟩ := flt_ne hf
    have e8 : ∀ b, f_X7_takeIf (nI n) tok (nI s) (nI c) num flw byt b = some (tok, nI s, nI c, num, flw) := fun b => by simp only [f_X7_takeIf, if_neg f0]
    refine ⟨(tok, nI s, nI c, num, flw), (nI c, token, nI s, nI c, flw, nI s), ?_, by simp only [f_X9_mustEnd, if_neg f0], h0, fun _ => ⟨rfl, rfl⟩, fun z => z⟩
    by_cases ht : tok = 3
    · simp only [f_X7_takeSign, if_pos ht, e8, bd_s]
    · simp only [f_X7_takeSign, if_neg ht, e8, bd_s]
theorem tide_L (hn : n ≤ 400) (hT : TapeQ n byt tape) : ∀ (m i f g : Nat) (C : CT) (R : RT) (lev fresh : Nat → Int32), i + m = 12 → m < f → m < g → PS n byt tape C R → ∃ C' R' lev' fresh', f_X7_readTide_L8 (nI n) byt f C.1 C.2.1 C.2.2.1 C.2.2.2.1 C.2.2.2.2 lev (nI i) = some (C'.1, C'.2.1, C'.2.2.1, C'.2.2.2.1, C'.2.2.2.2, lev') ∧ f_X9_readTide_L22 (nI n) tape g R.1 R.2.1 R.2.2.1 R.2.2.2.1 R.2.2.2.2.1 R.2.2.2.2.2 fresh (nI i) = some (R'.1, R'.2.1, R'.2.2.1, R'.2.2.2.1, R'.2.2.2.2.1, R'.2.2.2.2.2, fresh') ∧ PS n byt tape C' R' ∧ (R.2.2.2.2.1 ≠ 0 → C' = C ∧ R' = R) ∧ (R'.2.2.2.2.1 = 0 → R.2.2.2.2.1 = 0 ∧ ∀ h, i ≤ h → h < 12 → lev' h = fresh' (3 + h) ∧ ∃ d, d ≤ 40 ∧ lev' h = nI d) ∧ (∀ h, h < i → lev' h = lev h) ∧ ∀ q, (q < 3 + i ∨ 15 ≤ q) → fresh' q = fresh q := by
  intro m
  induction m with
  | zero =>
    intro i f g C R lev fresh hi hf hg hP
    obtain ⟨f, rfl⟩ : ∃ f', f = f' + 1 := ⟨f - 1, by omega⟩
    obtain ⟨g, rfl⟩ : ∃ f', g = f' + 1 := ⟨g - 1, by omega⟩
    have c : (12 : Int32) ≤ nI i := by rw [show (12 : Int32) = nI 12 from rfl]; exact nI_le (by omega) (by omega)
    exact ⟨C, R, lev, fresh, by rw [f_X7_readTide_L8_s, if_pos c], by rw [f_X9_readTide_L22_s, if_pos c], hP, fun _ => ⟨rfl, rfl⟩, fun z => ⟨z, fun h z1 z2 => absurd z1 (by omega)⟩, fun _ _ => rfl, fun _ _ => rfl⟩
  | succ m ih =>
    intro i f g C R lev fresh hi hf hg hP
    obtain ⟨f, rfl⟩ : ∃ f', f = f' + 1 := ⟨f - 1, by omega⟩
    obtain ⟨g, rfl⟩ : ∃ f', g = f' + 1 := ⟨g - 1, by omega⟩
    have c : ¬ (12 : Int32) ≤ nI i := by rw [show (12 : Int32) = nI 12 from rfl]; exact nI_ge (by omega) (by omega)
    obtain ⟨v, v', C1, R1, e8, e9, k1, k2, k3⟩ := number_R hn hT (show 40 ≤ 999 by decide) hP
    obtain ⟨C2, R2, lev2, fresh2, j8, j9, j1, j2, j3, j4, j5⟩ := ih (i + 1) f g C1 R1 (upd lev i v) (upd fresh (3 + i) v') (by omega) (by omega) (by omega) k1
    rw [show nI 40 = 40 from rfl] at e8 e9
    refine ⟨C2, R2, lev2, fresh2, ?_, ?_, j1, fun z => ?_, fun z => ?_, fun h z => ?_, fun q z => ?_⟩
    · rw [f_X7_readTide_L8_s, if_neg c, e8, bd_s, gd_k (inb_nI (by omega) (by decide)), ix_nI (by omega), nI_1]
      exact j8
    · have e3 : 3 + nI i = nI (3 + i) := by rw [show (3 : Int32) = nI 3 from rfl, nI_add]
      rw [f_X9_readTide_L22_s, if_neg c, e9, bd_s, e3, gd_k (inb_nI (by omega) (by decide)), ix_nI (by omega), nI_1]
      exact j9
    · obtain ⟨rfl, rfl⟩ := k2 z
      exact j2 z
    · obtain ⟨y1, y2⟩ := j3 z
      obtain ⟨x1, x2, x3⟩ := k3 y1
      refine ⟨x1, fun h h1 h2 => ?_⟩
      by_cases w : h = i
      · subst w
        rw [j4 h (by omega), j5 (3 + h) (by omega), upd_s, upd_s]
        exact ⟨x2, x3⟩
      · exact y2 h (by omega) h2
    · rw [j4 h (by omega), upd_n _ _ (by omega)]
    · rw [j5 q (by omega), upd_n _ _ (by omega)]
theorem PS_word (hn : n ≤ 400) {C : CT} {R : RT} (h : PS n byt tape C R) : ∃ v, f_X9_name R.2.1 R.2.2.1 R.2.2.2.1 0 tape = some (lN v) ∧ (∀ k, k < 7 → f_X7_isWord C.1 C.2.1 C.2.2.1 byt k = some (if lN v = CC k then 1 else 0)) ∧ (C.1 = 0 → v = 0) ∧ (C.1 = 0 ↔ R.2.1 = 1) := by
  obtain ⟨tok, num, flw, token, fault, faultAt, s, c, rfl, rfl, rfl, h1, h2, hK, hf⟩ := h
  dsimp only
  obtain ⟨v, w1, w2, w3⟩ := word_R h1 (by omega) hK
  have hh : (tok = 0 ∧ token = 1) ∨ (¬ tok = 0 ∧ ¬ token = 1) := by
    rcases hK with ⟨rfl, rfl⟩ | ⟨rfl, rfl, -⟩ | ⟨rfl, rfl, -⟩ | ⟨rfl, rfl⟩ | ⟨rfl, rfl⟩
    · exact Or.inl ⟨rfl, rfl⟩
    · exact Or.inr (by decide)
    · exact Or.inr (by decide)
    · exact Or.inr (by decide)
    · exact Or.inr (by decide)
  refine ⟨v, w1, w2, fun z => w3 ?_, ?_⟩
  · rcases hh with q | q
    · rw [q.2]; decide
    · exact absurd z q.1
  · rcases hh with q | q
    · exact ⟨fun _ => q.2, fun _ => q.1⟩
    · exact ⟨fun z => absurd z q.1, fun z => absurd z q.2⟩
theorem name_0 {token start till : Int32} {v : Int64} (h : f_X9_name token start till 0 tape = some v) {fault : Int32} (hf : ¬ fault = 0) : f_X9_name token start till fault tape = some 0 := by
  unfold f_X9_name at h ⊢
  revert h
  cases f_X9_name_L7 token start till tape 2000 0 start with
  | none => intro h; cases h
  | some x => intro _; rw [bd_s, if_neg hf]
theorem tide_R (hn : n ≤ 400) (hT : TapeQ n byt tape) {C : CT} {R : RT} (lev fresh : Nat → Int32) (h : PS n byt tape C R) (hf0 : R.2.2.2.2.1 = 0) : ∃ C' R' lev' fresh', f_X7_readTide (nI n) C.1 C.2.1 C.2.2.1 C.2.2.2.1 C.2.2.2.2 byt lev = some (C'.1, C'.2.1, C'.2.2.1, C'.2.2.2.1, C'.2.2.2.2, lev') ∧ f_X9_readTide (nI n) R.1 R.2.1 R.2.2.1 R.2.2.2.1 R.2.2.2.2.1 R.2.2.2.2.2 fresh tape = some (R'.1, R'.2.1, R'.2.2.1, R'.2.2.2.1, R'.2.2.2.2.1, R'.2.2.2.2.2, fresh') ∧ PS n byt tape C' R' ∧ (R'.2.2.2.2.1 = 0 → ∀ h, h < 12 → lev' h = fresh' (3 + h) ∧ ∃ d, d ≤ 40 ∧ lev' h = nI d) ∧ ∀ q, (q < 3 ∨ 15 ≤ q) → fresh' q = fresh q := by
  obtain ⟨v, w1, w2, -⟩ := PS_word hn h
  have w20 := w2 0 (by decide)
  have mk : ∀ b : Int32, f_X7_isWord C.1 C.2.1 C.2.2.1 byt 0 = some b → (∃ C' R' lev' fresh', bd (f_X7_takeIf (nI n) C.1 C.2.1 C.2.2.1 C.2.2.2.1 C.2.2.2.2 byt b) (fun z2 => bd (f_X7_readTide_L8 (nI n) byt 2000 z2.1 z2.2.1 z2.2.2.1 z2.2.2.2.1 z2.2.2.2.2 lev 0) (fun z5 => bd (f_X7_takeSign (nI n) z5.1 z5.2.1 z5.2.2.1 z5.2.2.2.1 z5.2.2.2.2.1 byt) (fun z6 => some (z6.1, z6.2.1, z6.2.2.1, z6.2.2.2.1, z6.2.2.2.2, z5.2.2.2.2.2)))) = some (C'.1, C'.2.1, C'.2.2.1, C'.2.2.2.1, C'.2.2.2.2, lev') ∧ bd (f_X9_must (nI n) R.1 R.2.1 R.2.2.1 R.2.2.2.1 R.2.2.2.2.1 R.2.2.2.2.2 tape b) (fun z9 => bd (f_X9_readTide_L22 (nI n) tape 2000 z9.1 z9.2.1 z9.2.2.1 z9.2.2.2.1 z9.2.2.2.2.1 z9.2.2.2.2.2 fresh 0) (fun z10 => bd (f_X9_mustEnd (nI n) z10.1 z10.2.1 z10.2.2.1 z10.2.2.2.1 z10.2.2.2.2.1 z10.2.2.2.2.2.1 tape) (fun z11 => some (z11.1, z11.2.1, z11.2.2.1, z11.2.2.2.1, z11.2.2.2.2.1, z11.2.2.2.2.2, z10.2.2.2.2.2.2)))) = some (R'.1, R'.2.1, R'.2.2.1, R'.2.2.2.1, R'.2.2.2.2.1, R'.2.2.2.2.2, fresh') ∧ PS n byt tape C' R' ∧ (R'.2.2.2.2.1 = 0 → ∀ h, h < 12 → lev' h = fresh' (3 + h) ∧ ∃ d, d ≤ 40 ∧ lev' h = nI d) ∧ ∀ q, (q < 3 ∨ 15 ≤ q) → fresh' q = fresh q) := by
    intro b _
    obtain ⟨C1, R1, e8, e9, k1, -, -, -⟩ := must_R hn hT b h
    obtain ⟨C2, R2, lev2, fresh2, j8, j9, j1, -, j3, -, j5⟩ := tide_L hn hT 12 0 2000 2000 C1 R1 lev fresh (by omega) (by omega) (by omega) k1
    obtain ⟨C3, R3, i8, i9, i1, -, i3⟩ := sign_R hn hT j1
    rw [show nI 0 = 0 from rfl] at j8 j9
    exact ⟨C3, R3, lev2, fresh2, by simp only [e8, j8, i8, bd_s], by simp only [e9, j9, i9, bd_s], i1, fun z h hh => (j3 (i3 z)).2 h (by omega) hh, fun q z => j5 q (by omega)⟩
  have e8 : ∀ b : Int32, f_X7_isWord C.1 C.2.1 C.2.2.1 byt 0 = some b → f_X7_readTide (nI n) C.1 C.2.1 C.2.2.1 C.2.2.2.1 C.2.2.2.2 byt lev = bd (f_X7_takeIf (nI n) C.1 C.2.1 C.2.2.1 C.2.2.2.1 C.2.2.2.2 byt b) (fun z2 => bd (f_X7_readTide_L8 (nI n) byt 2000 z2.1 z2.2.1 z2.2.2.1 z2.2.2.2.1 z2.2.2.2.2 lev 0) (fun z5 => bd (f_X7_takeSign (nI n) z5.1 z5.2.1 z5.2.2.1 z5.2.2.2.1 z5.2.2.2.2.1 byt) (fun z6 => some (z6.1, z6.2.1, z6.2.2.1, z6.2.2.2.1, z6.2.2.2.2, z5.2.2.2.2.2)))) := by
    intro b hb
    unfold f_X7_readTide f_X7_takeWord
    rw [hb, bd_s]
    cases f_X7_takeIf (nI n) C.1 C.2.1 C.2.2.1 C.2.2.2.1 C.2.2.2.2 byt b <;> rfl
  rw [← hf0] at w1
  by_cases q : lN v = CC 0
  · rw [if_pos q] at w20
    obtain ⟨C', R', lev', fresh', a8, a9, a1, a2, a3⟩ := mk 1 w20
    refine ⟨C', R', lev', fresh', (e8 1 w20).trans a8, ?_, a1, a2, a3⟩
    unfold f_X9_readTide
    rw [w1, bd_s, if_pos (by rw [lgc_eq, q, CC_0])]
    exact a9
  · rw [if_neg q] at w20
    obtain ⟨C', R', lev', fresh', a8, a9, a1, a2, a3⟩ := mk 0 w20
    refine ⟨C', R', lev', fresh', (e8 0 w20).trans a8, ?_, a1, a2, a3⟩
    unfold f_X9_readTide
    rw [w1, bd_s, if_neg (by rw [lgc_eq, ← CC_0]; exact q)]
    exact a9
end READ
