/-! ===== reading: waters ===== -/
theorem i8_if {len tok stt fin num flw : Int32} {byt : Nat → Int32} (h : ¬ flw = 0) (b : Int32) : f_X7_takeIf len tok stt fin num flw byt b = some (tok, stt, fin, num, flw) := by simp only [f_X7_takeIf, if_neg h]
theorem i8_sort {len tok stt fin num flw z : Int32} {byt : Nat → Int32} (h : ¬ flw = 0) (hz : f_X7_sortOfWord tok stt fin byt = some z) : f_X7_takeSort len tok stt fin num flw byt = some (z, tok, stt, fin, num, flw) := by
  by_cases q : z = 0
  · simp only [f_X7_takeSort, hz, bd_s, if_pos q, i8_if h]
  · simp only [f_X7_takeSort, hz, bd_s, if_neg q, i8_if h]
theorem i8_num {len tok stt fin num flw : Int32} {byt : Nat → Int32} (h : ¬ flw = 0) (M : Int32) : f_X7_takeNumber len tok stt fin num flw byt M = some (num, tok, stt, fin, num, flw) := by
  by_cases q : tok = 2
  · simp only [f_X7_takeNumber, if_neg h, if_pos q, i8_if h, bd_s]
  · simp only [f_X7_takeNumber, if_neg h, if_neg q, i8_if h, bd_s]
theorem i8_sign {len tok stt fin num flw : Int32} {byt : Nat → Int32} (h : ¬ flw = 0) : f_X7_takeSign len tok stt fin num flw byt = some (tok, stt, fin, num, flw) := by
  by_cases q : tok = 3
  · simp only [f_X7_takeSign, if_pos q, i8_if h, bd_s]
  · simp only [f_X7_takeSign, if_neg q, i8_if h, bd_s]
def DW (r : Nat) (wat : Int32) (kin cdp sil fresh : Nat → Int32) : Prop :=
  wat = nI r ∧ fresh 1 = nI r ∧ r ≤ 6 ∧ (∀ w, w < r → kin w = fresh (15 + 4 * w) ∧ (∃ k, 1 ≤ k ∧ k < 6 ∧ kin w = nI k) ∧ cdp w = fresh (16 + 4 * w) ∧ (∃ d, d ≤ 200 ∧ cdp w = nI d) ∧ sil w = fresh (18 + 4 * w) ∧ ∃ d, d ≤ 40 ∧ sil w = nI d) ∧ (∀ q, q < 75 → (q = 0 ∨ q = 2 ∨ 15 + 4 * r ≤ q) → fresh q = 0) ∧ ∀ w, w < 6 → fresh (17 + 4 * w) = 0
theorem DW_add {r kd dp sl : Nat} {wat : Int32} {kin cdp sil fresh : Nat → Int32} (h : DW r wat kin cdp sil fresh) (hr : r < 6) (h1 : 1 ≤ kd) (h2 : kd < 6) (h3 : dp ≤ 200) (h4 : sl ≤ 40) : DW (r + 1) (nI (r + 1)) (upd kin r (nI kd)) (upd cdp r (nI dp)) (upd sil r (nI sl)) (upd (upd (upd (upd fresh (15 + 4 * r) (nI kd)) (16 + 4 * r) (nI dp)) (18 + 4 * r) (nI sl)) 1 (nI (r + 1))) := by
  obtain ⟨-, -, -, a4, a5, a6⟩ := h
  refine ⟨rfl, upd_s _ _ _, by omega, fun w hw => ?_, fun q hq hq' => ?_, fun w hw => ?_⟩
  · by_cases c : w = r
    · subst c
      rw [upd_s, upd_s, upd_s, upd_n _ _ (show 15 + 4 * w ≠ 1 by omega), upd_n _ _ (show 15 + 4 * w ≠ 18 + 4 * w by omega), upd_n _ _ (show 15 + 4 * w ≠ 16 + 4 * w by omega), upd_s, upd_n _ _ (show 16 + 4 * w ≠ 1 by omega), upd_n _ _ (show 16 + 4 * w ≠ 18 + 4 * w by omega), upd_s, upd_n _ _ (show 18 + 4 * w ≠ 1 by omega), upd_s]
      exact ⟨rfl, ⟨kd, h1, h2, rfl⟩, rfl, ⟨dp, h3, rfl⟩, rfl, ⟨sl, h4, rfl⟩⟩
    · rw [upd_n _ _ c, upd_n _ _ c, upd_n _ _ c, upd_n _ _ (show 15 + 4 * w ≠ 1 by omega), upd_n _ _ (show 15 + 4 * w ≠ 18 + 4 * r by omega), upd_n _ _ (show 15 + 4 * w ≠ 16 + 4 * r by omega), upd_n _ _ (show 15 + 4 * w ≠ 15 + 4 * r by omega), upd_n _ _ (show 16 + 4 * w ≠ 1 by omega), upd_n _ _ (show 16 + 4 * w ≠ 18 + 4 * r by omega), upd_n _ _ (show 16 + 4 * w ≠ 16 + 4 * r by omega), upd_n _ _ (show 16 + 4 * w ≠ 15 + 4 * r by omega), upd_n _ _ (show 18 + 4 * w ≠ 1 by omega), upd_n _ _ (show 18 + 4 * w ≠ 18 + 4 * r by omega), upd_n _ _ (show 18 + 4 * w ≠ 16 + 4 * r by omega), upd_n _ _ (show 18 + 4 * w ≠ 15 + 4 * r by omega)]
      exact a4 w (by omega)
  · rw [upd_n _ _ (by omega), upd_n _ _ (by omega), upd_n _ _ (by omega), upd_n _ _ (by omega)]
    exact a5 q hq (by omega)
  · rw [upd_n _ _ (by omega), upd_n _ _ (by omega), upd_n _ _ (by omega), upd_n _ _ (by omega)]
    exact a6 w hw
section READ2
variable {n : Nat} {byt tape : Nat → Int32}
theorem water_R (hn : n ≤ 400) (hT : TapeQ n byt tape) {C : CT} {R : RT} {r v : Nat} {wat : Int32} {kin cdp sil fresh : Nat → Int32} (h : PS n byt tape C R) (hf : R.2.2.2.2.1 = 0) (hw : ∀ k, k < 7 → f_X7_isWord C.1 C.2.1 C.2.2.1 byt k = some (if lN v = CC k then 1 else 0)) (hv : lN v = CC 1) (hnm : f_X9_name R.2.1 R.2.2.1 R.2.2.2.1 0 tape = some (lN v)) (hD : DW r wat kin cdp sil fresh) :
    ∃ C' R' wat' kin' cdp' sil' fresh', f_X7_readWater (nI n) C.1 C.2.1 C.2.2.1 C.2.2.2.1 C.2.2.2.2 byt wat kin cdp sil = some (C'.1, C'.2.1, C'.2.2.1, C'.2.2.2.1, C'.2.2.2.2, wat', kin', cdp', sil') ∧ f_X9_readWater (nI n) R.1 R.2.1 R.2.2.1 R.2.2.2.1 R.2.2.2.2.1 R.2.2.2.2.2 fresh tape = some (R'.1, R'.2.1, R'.2.2.1, R'.2.2.2.1, R'.2.2.2.2.1, R'.2.2.2.2.2, fresh') ∧ PS n byt tape C' R' ∧ (R'.2.2.2.2.1 = 0 → r < 6 ∧ DW (r + 1) wat' kin' cdp' sil' fresh') ∧ ∀ q, 3 ≤ q → q < 15 → fresh' q = fresh q := by
  have w1 := hw 1 (by decide)
  rw [if_pos hv] at w1
  obtain ⟨d1, d2, d3, d4, d5, d6⟩ := id hD
  by_cases hr : r = 6
  · subst hr
    obtain ⟨tok, num, flw, token, fault, faultAt, s, c, rfl, rfl, rfl, h1, h2, hK, -⟩ := h
    dsimp only at hf hw hnm w1 ⊢
    subst hf
    obtain ⟨z, hz, -⟩ := sort_R hw
    have n3 : ¬ (3 : Int32) = 0 := by decide
    have n3' : ¬ (3 : Int32) ≤ 0 := by decide
    have l6 : ¬ wat < 6 := by rw [d1]; decide
    have k0 : f_X9_kindBy 0 = some (-1000000) := by decide +kernel
    have nm3 := name_0 hnm n3
    refine ⟨(tok, nI s, nI c, num, 3), (nI c, token, nI s, nI c, 3, nI s), wat, kin, cdp, sil, fresh, ?_, ?_, ⟨tok, num, 3, token, 3, nI s, s, c, rfl, rfl, rfl, h1, h2, hK, Or.inr ⟨Or.inr (Or.inr rfl), rfl⟩⟩, fun q => absurd q n3, fun _ _ _ => rfl⟩
    · simp only [f_X7_readWater, w1, bd_s, if10, if_neg l6, f_X7_takeWord, i8_if n3, i8_sort n3 hz, i8_num n3, i8_sign n3, if_neg n3]
    · have e6 : fresh 1 = 6 := d2
      simp only [f_X9_readWater, if_pos e6, f_X9_bad, if_true, bd_s, f_X9_must, if10, if_neg n3, nm3, k0, f_X9_number, if_neg n3', f_X9_mustEnd]
  · have hr6 : r < 6 := by omega
    have l6 : wat < 6 := by rw [d1, show (6 : Int32) = nI 6 from rfl]; exact nI_lt hr6 (by omega)
    have e6 : ¬ fresh 1 = 6 := by rw [d2, show (6 : Int32) = nI 6 from rfl, nI_eq (by omega) (by omega)]; exact hr
    obtain ⟨C1, R1, a8, a9, a1, -, a3, -⟩ := must_R hn hT 1 h
    have f1 : R1.2.2.2.2.1 = 0 := a3.mpr ⟨hf, by decide⟩
    obtain ⟨v1, x1, x2, -⟩ := PS_word hn a1
    rw [← f1] at x1
    obtain ⟨z, hz, hzz⟩ := sort_R x2
    /- behind the sort -/
    obtain ⟨b, C2, R2, kk, s8, s9, s1, s4⟩ : ∃ (b : Int32) (C2 : CT) (R2 : RT) (kk : Int32), f_X7_takeSort (nI n) C1.1 C1.2.1 C1.2.2.1 C1.2.2.2.1 C1.2.2.2.2 byt = some (z, C2) ∧ (f_X9_kindBy (lN v1) = some kk ∧ ((kk = -1000000 ∧ f_X9_must (nI n) R1.1 R1.2.1 R1.2.2.1 R1.2.2.2.1 R1.2.2.2.2.1 R1.2.2.2.2.2 tape 0 = some R2) ∨ (¬ kk = -1000000 ∧ f_X9_must (nI n) R1.1 R1.2.1 R1.2.2.1 R1.2.2.2.1 R1.2.2.2.2.1 R1.2.2.2.2.2 tape 1 = some R2))) ∧ PS n byt tape C2 R2 ∧ (R2.2.2.2.2.1 = 0 → z = kk ∧ ∃ kd, 1 ≤ kd ∧ kd < 6 ∧ z = nI kd) := by
      rcases hzz with ⟨z0, hk⟩ | ⟨kd, hk1, hk2, zk, hk⟩
      · obtain ⟨C2, R2, b8, b9, b1, -, b3, -⟩ := must_R hn hT 0 a1
        exact ⟨0, C2, R2, _, by simp only [f_X7_takeSort, hz, bd_s, if_pos z0, b8], ⟨hk, Or.inl ⟨rfl, b9⟩⟩, b1, fun q => absurd rfl (b3.mp q).2⟩
      · obtain ⟨C2, R2, b8, b9, b1, -, b3, -⟩ := must_R hn hT 1 a1
        have z0 : ¬ z = 0 := by rw [zk]; exact nI_ne0 (by omega) (by omega)
        refine ⟨1, C2, R2, _, by simp only [f_X7_takeSort, hz, bd_s, if_neg z0, b8], ⟨hk, Or.inr ⟨fun q => ?_, b9⟩⟩, b1, fun _ => ⟨zk, kd, hk1, hk2, zk⟩⟩
        have := i32_eq.mp q
        rw [nI_toInt (by omega)] at this
        change (kd : Int) = -1000000 at this
        omega
    obtain ⟨vd, vd', C3, R3, c8, c9, c1, -, c3⟩ := number_R hn hT (show 200 ≤ 999 by decide) s1
    obtain ⟨vs, vs', C4, R4, g8, g9, g1, -, g3⟩ := number_R hn hT (show 40 ≤ 999 by decide) c1
    obtain ⟨C5, R5, m8, m9, m1, -, m3⟩ := sign_R hn hT g1
    rw [show nI 200 = 200 from rfl] at c8 c9
    rw [show nI 40 = 40 from rfl] at g8 g9
    have ee : C5.2.2.2.2 = R5.2.2.2.2.1 := by
      obtain ⟨_, _, _, _, _, _, _, _, rfl, rfl, e, -⟩ := m1
      exact e
    have q0 : 15 + 4 * fresh 1 = nI (15 + 4 * r) := by rw [d2, show (15 : Int32) = nI 15 from rfl, show (4 : Int32) = nI 4 from rfl, pk_mul, nI_add]
    have q1 : nI (15 + 4 * r) + 1 = nI (16 + 4 * r) := by rw [nI_1]; congr 1; omega
    have q3 : nI (15 + 4 * r) + 3 = nI (18 + 4 * r) := by rw [show (3 : Int32) = nI 3 from rfl, nI_add]; congr 1; omega
    by_cases hf5 : R5.2.2.2.2.1 = 0
    · have hc5 : C5.2.2.2.2 = 0 := ee.trans hf5
      obtain ⟨f3, t2, sl, hsl, e4⟩ := g3 (m3 hf5)
      obtain ⟨f2, t1, dp, hdp, e3⟩ := c3 f3
      obtain ⟨t0, kd, hk1, hk2, e2⟩ := s4 f2
      have A8 : f_X2_add wat kin cdp sil z vd vs = some (nI (r + 1), upd kin r (nI kd), upd cdp r (nI dp), upd sil r (nI sl)) := by
        simp only [f_X2_add, if_pos l6]
        rw [d1, gd_k (inb_nI (by omega) (by decide)), ix_nI (by omega), nI_1, e2, e3, e4]
      refine ⟨C5, R5, nI (r + 1), upd kin r (nI kd), upd cdp r (nI dp), upd sil r (nI sl), upd (upd (upd (upd fresh (15 + 4 * r) (nI kd)) (16 + 4 * r) (nI dp)) (18 + 4 * r) (nI sl)) 1 (nI (r + 1)), ?_, ?_, m1, fun _ => ⟨hr6, DW_add hD hr6 hk1 hk2 hdp hsl⟩, fun q y1 y2 => by rw [upd_n _ _ (by omega), upd_n _ _ (by omega), upd_n _ _ (by omega), upd_n _ _ (by omega)]⟩
      · simp only [f_X7_readWater, w1, bd_s, if10, if_pos l6, f_X7_takeWord, a8, s8, c8, g8, m8, if_pos hc5, A8]
      · obtain ⟨hk, hm⟩ := s9
        have u1 : upd (upd (upd fresh (15 + 4 * r) (nI kd)) (16 + 4 * r) (nI dp)) (18 + 4 * r) (nI sl) 1 = nI r := by rw [upd_n _ _ (by omega), upd_n _ _ (by omega), upd_n _ _ (by omega)]; exact d2
        have G1 : ∀ {α : Type} (x : Option α), gd (inb (nI (15 + 4 * r)) 75) x = x := fun x => gd_k (inb_nI (by omega) (by decide)) x
        have G2 : ∀ {α : Type} (x : Option α), gd (inb (nI (16 + 4 * r)) 75) x = x := fun x => gd_k (inb_nI (by omega) (by decide)) x
        have G3 : ∀ {α : Type} (x : Option α), gd (inb (nI (18 + 4 * r)) 75) x = x := fun x => gd_k (inb_nI (by omega) (by decide)) x
        have E1 : kk = nI kd := t0.symm.trans e2
        have E2 : vd' = nI dp := t1.symm.trans e3
        have E3 : vs' = nI sl := t2.symm.trans e4
        rcases hm with ⟨k0, hm⟩ | ⟨k0, hm⟩
        · rw [E1] at k0
          simp only [f_X9_readWater, if_neg e6, a9, bd_s, x1, hk, if_pos f1, if_pos k0, hm, c9, g9, m9, if_pos hf5, q0, q1, q3, G1, G2, G3, ix_nI (show 15 + 4 * r < 2 ^ 31 by omega), ix_nI (show 16 + 4 * r < 2 ^ 31 by omega), ix_nI (show 18 + 4 * r < 2 ^ 31 by omega), E1, E2, E3, u1, nI_1]
        · rw [E1] at k0
          simp only [f_X9_readWater, if_neg e6, a9, bd_s, x1, hk, if_pos f1, if_neg k0, hm, c9, g9, m9, if_pos hf5, q0, q1, q3, G1, G2, G3, ix_nI (show 15 + 4 * r < 2 ^ 31 by omega), ix_nI (show 16 + 4 * r < 2 ^ 31 by omega), ix_nI (show 18 + 4 * r < 2 ^ 31 by omega), E1, E2, E3, u1, nI_1]
    · have hc5 : ¬ C5.2.2.2.2 = 0 := fun q => hf5 (ee.symm.trans q)
      refine ⟨C5, R5, wat, kin, cdp, sil, fresh, ?_, ?_, m1, fun q => absurd q hf5, fun _ _ _ => rfl⟩
      · simp only [f_X7_readWater, w1, bd_s, if10, if_pos l6, f_X7_takeWord, a8, s8, c8, g8, m8, if_neg hc5]
      · obtain ⟨hk, hm⟩ := s9
        rcases hm with ⟨k0, hm⟩ | ⟨k0, hm⟩
        · simp only [f_X9_readWater, if_neg e6, a9, bd_s, x1, hk, if_pos f1, if_pos k0, hm, c9, g9, m9, if_neg hf5]
        · simp only [f_X9_readWater, if_neg e6, a9, bd_s, x1, hk, if_pos f1, if_neg k0, hm, c9, g9, m9, if_neg hf5]
def FIN (n : Nat) (byt tape : Nat → Int32) (C : CT) (R : RT) (wat : Int32) (kin cdp sil fresh : Nat → Int32) : Prop :=
  (¬ R.2.2.2.2.1 = 0 ∧ PS n byt tape C R) ∨ (R.2.2.2.2.1 = 0 ∧ R.2.1 = 1 ∧ C.2.2.2.2 = 0 ∧ ∃ r, DW r wat kin cdp sil fresh) ∨ (R.2.2.2.2.1 = 0 ∧ ¬ R.2.1 = 1 ∧ C.2.2.2.2 = 1 ∧ C.2.1 = R.2.2.1)
theorem stop8 {len : Int32} {C : CT} (h : ¬ C.2.2.2.2 = 0) (f : Nat) (wat x : Int32) (kin cdp sil : Nat → Int32) : f_X7_read_L26 len byt (f + 1) C.1 C.2.1 C.2.2.1 C.2.2.2.1 C.2.2.2.2 wat kin cdp sil x = some (C.1, C.2.1, C.2.2.1, C.2.2.2.1, C.2.2.2.2, wat, kin, cdp, sil) := by
  rw [f_X7_read_L26_s, if_neg h]
  split <;> rfl
theorem stop9 (hn : n ≤ 400) {C : CT} {R : RT} (hP : PS n byt tape C R) (h : ¬ R.2.2.2.2.1 = 0) (g : Nat) (fresh : Nat → Int32) : f_X9_bay_L34 (nI n) tape (g + 1) R.1 R.2.1 R.2.2.1 R.2.2.2.1 R.2.2.2.2.1 R.2.2.2.2.2 fresh = some (R.1, R.2.1, R.2.2.1, R.2.2.2.1, R.2.2.2.2.1, R.2.2.2.2.2, fresh) := by
  obtain ⟨v, w1, -⟩ := PS_word hn hP
  rw [f_X9_bay_L34_s, name_0 w1 h, bd_s, if_neg (by decide +kernel)]
theorem loop_step (hn : n ≤ 400) (hT : TapeQ n byt tape) {C : CT} {R : RT} {r f g : Nat} {wat : Int32} {kin cdp sil fresh : Nat → Int32} (h : PS n byt tape C R) (hf : R.2.2.2.2.1 = 0) (hD : DW r wat kin cdp sil fresh)
    (K : r < 6 → ∀ (C1 : CT) (R1 : RT) (wat1 : Int32) (kin1 cdp1 sil1 fresh1 : Nat → Int32), PS n byt tape C1 R1 → R1.2.2.2.2.1 = 0 → DW (r + 1) wat1 kin1 cdp1 sil1 fresh1 → ∃ C' R' wat' kin' cdp' sil' fresh', f_X7_read_L26 (nI n) byt (f + 1) C1.1 C1.2.1 C1.2.2.1 C1.2.2.2.1 C1.2.2.2.2 wat1 kin1 cdp1 sil1 (nI (r + 1)) = some (C'.1, C'.2.1, C'.2.2.1, C'.2.2.2.1, C'.2.2.2.2, wat', kin', cdp', sil') ∧ f_X9_bay_L34 (nI n) tape (g + 1) R1.1 R1.2.1 R1.2.2.1 R1.2.2.2.1 R1.2.2.2.2.1 R1.2.2.2.2.2 fresh1 = some (R'.1, R'.2.1, R'.2.2.1, R'.2.2.2.1, R'.2.2.2.2.1, R'.2.2.2.2.2, fresh') ∧ FIN n byt tape C' R' wat' kin' cdp' sil' fresh' ∧ ∀ q, 3 ≤ q → q < 15 → fresh' q = fresh1 q) :
    ∃ C' R' wat' kin' cdp' sil' fresh', f_X7_read_L26 (nI n) byt (f + 2) C.1 C.2.1 C.2.2.1 C.2.2.2.1 C.2.2.2.2 wat kin cdp sil (nI r) = some (C'.1, C'.2.1, C'.2.2.1, C'.2.2.2.1, C'.2.2.2.2, wat', kin', cdp', sil') ∧ f_X9_bay_L34 (nI n) tape (g + 2) R.1 R.2.1 R.2.2.1 R.2.2.2.1 R.2.2.2.2.1 R.2.2.2.2.2 fresh = some (R'.1, R'.2.1, R'.2.2.1, R'.2.2.2.1, R'.2.2.2.2.1, R'.2.2.2.2.2, fresh') ∧ FIN n byt tape C' R' wat' kin' cdp' sil' fresh' ∧ ∀ q, 3 ≤ q → q < 15 → fresh' q = fresh q := by
  obtain ⟨v, w1, w2, w3, w4⟩ := PS_word hn h
  have hr6 : r ≤ 6 := hD.2.2.1
  have c6 : ¬ (6 : Int32) < nI r := by rw [show (6 : Int32) = nI 6 from rfl]; exact nI_nlt hr6 (by decide)
  have hcf : C.2.2.2.2 = 0 := by
    obtain ⟨_, _, _, _, _, _, _, _, rfl, rfl, e, -⟩ := id h
    exact e.trans hf
  have w1' := w1
  rw [← hf] at w1'
  by_cases t0 : C.1 = 0
  · refine ⟨C, R, wat, kin, cdp, sil, fresh, ?_, ?_, Or.inr (Or.inl ⟨hf, w4.mp t0, hcf, r, hD⟩), fun _ _ _ => rfl⟩
    · rw [f_X7_read_L26_s, if_neg c6, if_pos hcf, if_pos t0]
    · rw [f_X9_bay_L34_s, w1', bd_s, w3 t0, if_neg (by decide +kernel)]
  by_cases q : lN v = CC 1
  · obtain ⟨C1, R1, wat1, kin1, cdp1, sil1, fresh1, a8, a9, a1, a2, a3⟩ := water_R hn hT h hf w2 q w1 hD
    have q9 : lg_cmp (lN v) 512736126322 = 0 := by rw [lgc_eq, q, CC_1]
    have E8 : f_X7_read_L26 (nI n) byt (f + 2) C.1 C.2.1 C.2.2.1 C.2.2.2.1 C.2.2.2.2 wat kin cdp sil (nI r) = f_X7_read_L26 (nI n) byt (f + 1) C1.1 C1.2.1 C1.2.2.1 C1.2.2.2.1 C1.2.2.2.2 wat1 kin1 cdp1 sil1 (nI (r + 1)) := by
      rw [show f + 2 = (f + 1) + 1 from rfl, f_X7_read_L26_s, if_neg c6, if_pos hcf, if_neg t0, a8, bd_s, nI_1]
    have E9 : f_X9_bay_L34 (nI n) tape (g + 2) R.1 R.2.1 R.2.2.1 R.2.2.2.1 R.2.2.2.2.1 R.2.2.2.2.2 fresh = f_X9_bay_L34 (nI n) tape (g + 1) R1.1 R1.2.1 R1.2.2.1 R1.2.2.2.1 R1.2.2.2.2.1 R1.2.2.2.2.2 fresh1 := by
      rw [show g + 2 = (g + 1) + 1 from rfl, f_X9_bay_L34_s, w1', bd_s, if_pos q9, a9, bd_s]
    rw [E8, E9]
    by_cases f1 : R1.2.2.2.2.1 = 0
    · obtain ⟨y1, y2⟩ := a2 f1
      obtain ⟨C', R', wat', kin', cdp', sil', fresh', b8, b9, b1, b2⟩ := K y1 C1 R1 wat1 kin1 cdp1 sil1 fresh1 a1 f1 y2
      exact ⟨C', R', wat', kin', cdp', sil', fresh', b8, b9, b1, fun q z1 z2 => (b2 q z1 z2).trans (a3 q z1 z2)⟩
    · have g1 : ¬ C1.2.2.2.2 = 0 := by
        obtain ⟨_, _, _, _, _, _, _, _, rfl, rfl, e, -⟩ := id a1
        exact fun z => f1 (e.symm.trans z)
      exact ⟨C1, R1, wat1, kin1, cdp1, sil1, fresh1, stop8 g1 f _ _ _ _ _, stop9 hn a1 f1 g _, Or.inl ⟨f1, a1⟩, a3⟩
  · have q9 : ¬ lg_cmp (lN v) 512736126322 = 0 := by rw [lgc_eq, ← CC_1]; exact q
    have w21 := w2 1 (by decide)
    rw [if_neg q] at w21
    obtain ⟨z, hz, -⟩ := sort_R w2
    have n1 : ¬ (1 : Int32) = 0 := by decide
    obtain ⟨tok, stt, fin, num, flw⟩ := C
    dsimp only at *
    subst hcf
    have A : f_X7_readWater (nI n) tok stt fin num 0 byt wat kin cdp sil = some (tok, stt, fin, num, 1, wat, kin, cdp, sil) := by
      simp only [f_X7_readWater, w21, bd_s, if_true, f_X7_takeWord, f_X7_takeIf, i8_sort n1 hz, i8_num n1, i8_sign n1, if_neg n1]
    have es : stt = R.2.2.1 := by
      obtain ⟨_, _, _, _, _, _, _, _, e1, rfl, -⟩ := id h
      exact congrArg (fun z : CT => z.2.1) e1
    refine ⟨(tok, stt, fin, num, 1), R, wat, kin, cdp, sil, fresh, ?_, ?_, Or.inr (Or.inr ⟨hf, fun z => t0 (w4.mpr z), rfl, es⟩), fun _ _ _ => rfl⟩
    · rw [show f + 2 = (f + 1) + 1 from rfl, f_X7_read_L26_s, if_neg c6, if_pos rfl, if_neg t0, A, bd_s]
      exact stop8 (C := (tok, stt, fin, num, 1)) n1 f _ _ _ _ _
    · rw [f_X9_bay_L34_s, w1', bd_s, if_neg q9]
theorem loop_L (hn : n ≤ 400) (hT : TapeQ n byt tape) : ∀ (m r : Nat) (C : CT) (R : RT) (f g : Nat) (wat : Int32) (kin cdp sil fresh : Nat → Int32), r + m = 6 → m < f → m < g → PS n byt tape C R → R.2.2.2.2.1 = 0 → DW r wat kin cdp sil fresh → ∃ C' R' wat' kin' cdp' sil' fresh', f_X7_read_L26 (nI n) byt (f + 1) C.1 C.2.1 C.2.2.1 C.2.2.2.1 C.2.2.2.2 wat kin cdp sil (nI r) = some (C'.1, C'.2.1, C'.2.2.1, C'.2.2.2.1, C'.2.2.2.2, wat', kin', cdp', sil') ∧ f_X9_bay_L34 (nI n) tape (g + 1) R.1 R.2.1 R.2.2.1 R.2.2.2.1 R.2.2.2.2.1 R.2.2.2.2.2 fresh = some (R'.1, R'.2.1, R'.2.2.1, R'.2.2.2.1, R'.2.2.2.2.1, R'.2.2.2.2.2, fresh') ∧ FIN n byt tape C' R' wat' kin' cdp' sil' fresh' ∧ ∀ q, 3 ≤ q → q < 15 → fresh' q = fresh q := by
  intro m
  induction m with
  | zero =>
    intro r C R f g wat kin cdp sil fresh hr hf hg hP h0 hD
    obtain ⟨f, rfl⟩ : ∃ f', f = f' + 1 := ⟨f - 1, by omega⟩
    obtain ⟨g, rfl⟩ : ∃ f', g = f' + 1 := ⟨g - 1, by omega⟩
    exact loop_step hn hT hP h0 hD (fun z => absurd z (by omega))
  | succ m ih =>
    intro r C R f g wat kin cdp sil fresh hr hf hg hP h0 hD
    obtain ⟨f, rfl⟩ : ∃ f', f = f' + 1 := ⟨f - 1, by omega⟩
    obtain ⟨g, rfl⟩ : ∃ f', g = f' + 1 := ⟨g - 1, by omega⟩
    exact loop_step hn hT hP h0 hD (fun _ C1 R1 wat1 kin1 cdp1 sil1 fresh1 k1 k2 k3 => ih (r + 1) C1 R1 f g wat1 kin1 cdp1 sil1 fresh1 (by omega) (by omega) (by omega) k1 k2 k3)
end READ2
