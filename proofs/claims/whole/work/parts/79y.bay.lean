/-! ===== bay ===== -/
theorem zero_F : ∀ (m i f : Nat) (fresh : Nat → Int32), i + m = 75 → m < f → f_X9_bay_L11 f fresh (nI i) = some (fun q => if i ≤ q ∧ q < 75 then 0 else fresh q) := by
  intro m
  induction m with
  | zero =>
    intro i f bay hi hf
    obtain ⟨f, rfl⟩ : ∃ f', f = f' + 1 := ⟨f - 1, by omega⟩
    rw [f_X9_bay_L11_s, if_pos (by rw [show (75 : Int32) = nI 75 from rfl, nI_leI (by omega) (by omega)]; omega)]
    congr 1
    funext q
    rw [if_neg (by omega)]
  | succ m ih =>
    intro i f bay hi hf
    obtain ⟨f, rfl⟩ : ∃ f', f = f' + 1 := ⟨f - 1, by omega⟩
    rw [f_X9_bay_L11_s, if_neg (by rw [show (75 : Int32) = nI 75 from rfl, nI_leI (by omega) (by omega)]; omega), gd_k (inb_nI (by omega) (by decide)), ix_nI (by omega), nI_1, ih (i + 1) f _ (by omega) (by omega)]
    congr 1
    funext q
    by_cases h2 : q = i
    · subst h2
      rw [upd_s, if_neg (by omega), if_pos (by omega)]
    · rw [upd_n _ _ h2]
      by_cases h1 : i ≤ q ∧ q < 75
      · rw [if_pos h1, if_pos (by omega)]
      · rw [if_neg h1, if_neg (by omega)]
theorem copy_F (fresh : Nat → Int32) : ∀ (m i f : Nat) (bay : Nat → Int32), i + m = 75 → m < f → f_X9_bay_L102 fresh f bay (nI i) = some (fun q => if i ≤ q ∧ q < 75 then fresh q else bay q) := by
  intro m
  induction m with
  | zero =>
    intro i f thn hi hf
    obtain ⟨f, rfl⟩ : ∃ f', f = f' + 1 := ⟨f - 1, by omega⟩
    rw [f_X9_bay_L102_s, if_pos (by rw [show (75 : Int32) = nI 75 from rfl, nI_leI (by omega) (by omega)]; omega)]
    congr 1
    funext q
    rw [if_neg (by omega)]
  | succ m ih =>
    intro i f bay hi hf
    obtain ⟨f, rfl⟩ : ∃ f', f = f' + 1 := ⟨f - 1, by omega⟩
    rw [f_X9_bay_L102_s, if_neg (by rw [show (75 : Int32) = nI 75 from rfl, nI_leI (by omega) (by omega)]; omega), gd_k (inb_nI (by omega) (by decide)), ix_nI (by omega), nI_1, ih (i + 1) f _ (by omega) (by omega)]
    congr 1
    funext q
    by_cases h2 : q = i
    · subst h2
      rw [upd_s, if_neg (by omega), if_pos (by omega)]
    · rw [upd_n _ _ h2]
      by_cases h1 : i ≤ q ∧ q < 75
      · rw [if_pos h1, if_pos (by omega)]
      · rw [if_neg h1, if_neg (by omega)]
theorem op_bay {B n0 : Nat} {sta wat : Int32} {lev kin sil cdp : Nat → Int32} {hour : Int32} {dep arr deb bay : Nat → Int32} {nxt kep : Int32} {r_hour : Nat → Int32} {r_dep r_arr r_deb : Nat → Nat → Int32} {acts : Int32} {was : Nat → Int32} {lfa latest len taped : Int32} {byt tape : Nat → Int32} (thrown tok stt fin num flw dwat leng cursor token start till fault faultAt : Int32) (dlev dkin dcdp dsil fresh : Nat → Int32) (hB : 200 ≤ B) (hC : ChartR n0 sta wat lev kin sil bay) (hL : LedR B n0 hour dep arr deb bay) (hR : RingR B n0 sta wat lev kin sil nxt kep r_hour r_dep r_arr r_deb acts was) (hT : TapeR len byt taped tape) (hl : lfa = latest) :
    ∃ r lfa' len' tok' stt' fin' num' flw' dwat' dlev' dkin' dcdp' dsil' sta' wat' lev' kin' cdp' sil' hour' dep' arr' deb' kep' thrown' acts' taped' latest' leng' cursor' token' start' till' fault' faultAt' bay' fresh' n', f_X8_bay lfa len tok stt fin num flw byt dwat dlev dkin dcdp dsil sta wat lev kin cdp sil hour dep arr deb kep = some (r, lfa', len', tok', stt', fin', num', flw', dwat', dlev', dkin', dcdp', dsil', sta', wat', lev', kin', cdp', sil', hour', dep', arr', deb', kep') ∧ f_X9_bay thrown acts taped latest leng cursor token start till fault faultAt bay fresh tape = some (r, thrown', acts', taped', latest', leng', cursor', token', start', till', fault', faultAt', bay', fresh') ∧ lfa' = latest' ∧ TapeR len' byt taped' tape ∧ ChartR n' sta' wat' lev' kin' sil' bay' ∧ LedR B n' hour' dep' arr' deb' bay' ∧ RingR B n' sta' wat' lev' kin' sil' nxt kep' r_hour r_dep r_arr r_deb acts' was := by
  subst hl
  obtain ⟨n, hn, rfl, rfl, hQ⟩ := hT
  have hT0 : TapeR 0 byt 0 tape := ⟨0, by decide, rfl, rfl, fun k hk => absurd hk (by omega)⟩
  obtain ⟨tok1, num1, token1, s1, c1, n8, n9, n1, n2, n3⟩ := next_R hn hQ (Nat.zero_le n) tok stt num token start till
  rw [show nI 0 = 0 from rfl] at n8 n9
  have P1 : PS n byt tape (tok1, nI s1, nI c1, num1, 0) (nI c1, token1, nI s1, nI c1, 0, faultAt) := ⟨tok1, num1, 0, token1, 0, faultAt, s1, c1, rfl, rfl, rfl, n1, n2, n3, Or.inl rfl⟩
  have Z := zero_F 75 0 2000 fresh (by omega) (by omega)
  rw [show nI 0 = 0 from rfl] at Z
  obtain ⟨C2, R2, lev2, fresh2, t8, t9, t1, t2, t3⟩ := tide_R hn hQ dlev (fun q => if 0 ≤ q ∧ q < 75 then 0 else fresh q) P1 rfl
  dsimp only at t8 t9
  /- the waters -/
  obtain ⟨C3, R3, wat3, kin3, cdp3, sil3, fresh3, l8, l9, l1, l2⟩ : ∃ (C' : CT) (R' : RT) (wat' : Int32) (kin' cdp' sil' fresh' : Nat → Int32), f_X7_read_L26 (nI n) byt 2000 C2.1 C2.2.1 C2.2.2.1 C2.2.2.2.1 C2.2.2.2.2 0 dkin dcdp dsil 0 = some (C'.1, C'.2.1, C'.2.2.1, C'.2.2.2.1, C'.2.2.2.2, wat', kin', cdp', sil') ∧ f_X9_bay_L34 (nI n) tape 2000 R2.1 R2.2.1 R2.2.2.1 R2.2.2.2.1 R2.2.2.2.2.1 R2.2.2.2.2.2 fresh2 = some (R'.1, R'.2.1, R'.2.2.1, R'.2.2.2.1, R'.2.2.2.2.1, R'.2.2.2.2.2, fresh') ∧ (FIN n byt tape C' R' wat' kin' cdp' sil' fresh' ∧ (R'.2.2.2.2.1 = 0 → R2.2.2.2.2.1 = 0)) ∧ ∀ q, 3 ≤ q → q < 15 → fresh' q = fresh2 q := by
    by_cases f2 : R2.2.2.2.2.1 = 0
    · have D0 : DW 0 0 dkin dcdp dsil fresh2 := by
        refine ⟨rfl, ?_, by omega, fun w hw => absurd hw (by omega), fun q hq hq' => ?_, fun w hw => ?_⟩
        · rw [t3 1 (by omega)]; rfl
        · rw [t3 q (by omega)]; rw [if_pos ⟨Nat.zero_le q, hq⟩]
        · rw [t3 _ (by omega)]; rw [if_pos (by omega)]
      obtain ⟨C', R', wat', kin', cdp', sil', fresh', a8, a9, a1, a2⟩ := loop_L hn hQ 6 0 C2 R2 1999 1999 0 dkin dcdp dsil fresh2 (by omega) (by omega) (by omega) t1 f2 D0
      rw [show nI 0 = 0 from rfl] at a8
      exact ⟨C', R', wat', kin', cdp', sil', fresh', a8, a9, ⟨a1, fun _ => f2⟩, a2⟩
    · have g1 : ¬ C2.2.2.2.2 = 0 := by
        obtain ⟨_, _, _, _, _, _, _, _, rfl, rfl, e, -⟩ := id t1
        exact fun z => f2 (e.symm.trans z)
      exact ⟨C2, R2, 0, dkin, dcdp, dsil, fresh2, stop8 g1 1999 _ _ _ _ _, stop9 hn t1 f2 1999 _, ⟨Or.inl ⟨f2, t1⟩, fun z => absurd z f2⟩, fun _ _ _ => rfl⟩
  obtain ⟨hF, hF0⟩ := l1
  have RD : f_X7_read (nI n) tok stt fin num flw byt dwat dlev dkin dcdp dsil = some (C3.2.2.2.2, 0, C3.1, C3.2.1, C3.2.2.1, C3.2.2.2.1, C3.2.2.2.2, wat3, lev2, kin3, cdp3, sil3) := by
    simp only [f_X7_read, n8, bd_s, t8, l8]
  have BG : f_X9_begin (nI n) leng cursor token start till fault tape = some (0, nI n, nI c1, token1, nI s1, nI c1, 0) := by
    simp only [f_X9_begin, n9, bd_s]
  rcases hF with ⟨f3, P3⟩ | ⟨f3, tk, c0, r, hD⟩ | ⟨f3, tk, c0, es⟩
  · obtain ⟨tok3, num3, flw3, token3, fault3, faultAt3, s3, c3, rfl, rfl, rfl, -, -, -, hf⟩ := P3
    dsimp only at f3 l9 RD
    rcases hf with hf | ⟨hf, rfl⟩
    · exact absurd hf f3
    · have g3 := (flt_ne hf).2
      exact ⟨-1000100 - nI s3, flw3, 0, tok3, nI s3, nI c3, num3, flw3, wat3, lev2, kin3, cdp3, sil3, sta, wat, lev, kin, cdp, sil, hour, dep, arr, deb, kep, 0, acts, 0, flw3, nI n, nI c3, token3, nI s3, nI c3, flw3, nI s3, bay, fresh3, n0, by simp only [f_X8_bay, RD, bd_s, if_neg f3], by simp only [f_X9_bay, BG, bd_s, Z, t9, l9, if_neg f3, if_neg g3], rfl, hT0, hC, hL, hR⟩
  · obtain ⟨d1, d2, d3, d4, d5, d6⟩ := hD
    obtain ⟨a, x, -, hx, -, -, hnx, -⟩ := id hR
    have Y := copy_F fresh3 75 0 2000 bay (by omega) (by omega)
    rw [show nI 0 = 0 from rfl] at Y
    have T2 := t2 (hF0 f3)
    have z0 : (0 : Int32) ≤ 0 := by decide
    have hcp : cpb 0 0 wat3 6 6 = true := by
      rw [d1]
      unfold cpb
      rw [ix_nI (by omega), show ix 0 = 0 from rfl]
      simp only [Bool.and_eq_true, decide_eq_true_eq]
      exact ⟨by decide, by decide, nI_pos (by omega), by omega, by omega⟩
    have O8 : f_X1_open sta wat lev kin cdp sil hour dep arr deb wat3 lev2 kin3 cdp3 sil3 = some (1, wat3, va_cpy lev2 lev 0 0 12, va_cpy kin3 kin 0 0 6, va_cpy cdp3 cdp 0 0 6, va_cpy sil3 sil 0 0 6, 0, va_cpy (va_cpy cdp3 cdp 0 0 6) (fun k => if k < 6 then 0 else dep k) 0 0 (ix wat3), (fun k => if k < 6 then 0 else arr k), fun k => if k < 36 then 0 else deb k) := by
      simp only [f_X1_open, f_X2_takeFrom, bd_s, f_X3_open, fill_eq 6 dep 0 (by decide), fill_eq 6 arr 0 (by decide), fill_eq 36 deb 0 (by decide), gd_k hcp]
    have eb : ∀ q, 1 ≤ q → q < 75 → upd (fun q => if 0 ≤ q ∧ q < 75 then fresh3 q else bay q) 0 1 q = fresh3 q := fun q h1 h2 => by
      rw [upd_n _ _ (by omega), if_pos ⟨Nat.zero_le q, h2⟩]
    have r1 : upd (fun q => if 0 ≤ q ∧ q < 75 then fresh3 q else bay q) 0 1 1 = wat3 := by rw [eb 1 (by omega) (by omega), d2, d1]
    refine ⟨wat3, lfa, 0, C3.1, C3.2.1, C3.2.2.1, C3.2.2.2.1, C3.2.2.2.2, wat3, lev2, kin3, cdp3, sil3, _, _, _, _, _, _, _, _, _, _, _, 0, 0, 0, lfa, nI n, _, _, _, _, _, _, _, _, r, by simp only [f_X8_bay, RD, bd_s, if_pos c0, O8, f_X5_forget] <;> rfl, by simp only [f_X9_bay, BG, bd_s, Z, t9, l9, if_pos f3, if_pos tk, if_pos z0, f3, Y, r1] <;> rfl, rfl, hT0, ?_, ?_, ?_⟩
    · refine ⟨⟨upd_s _ _ _, Or.inl rfl⟩, ⟨r1, d1, d3⟩, fun k hk => ?_, fun w hw => ?_⟩
      · obtain ⟨e1, e2⟩ := T2 k hk
        rw [cpy0 _ _ hk, eb (3 + k) (by omega) (by omega), l2 (3 + k) (by omega) (by omega)]
        exact ⟨e1, e2⟩
      · obtain ⟨e1, e2, -, -, e3, d, hd, e4⟩ := d4 w hw
        rw [cpy0 _ _ (show w < 6 by omega), cpy0 _ _ (show w < 6 by omega), eb (15 + 4 * w) (by omega) (by omega), eb (18 + 4 * w) (by omega) (by omega)]
        exact ⟨e1, e2, e3, d, by omega, e4⟩
    · refine ⟨⟨by rw [eb 2 (by omega) (by omega)]; exact d5 2 (by omega) (by omega), 0, by omega, rfl⟩, fun w hw => ?_, fun i hi => ?_, fun a b ha hb hab => ?_⟩
      · rw [eb (16 + 4 * w) (by omega) (by omega), eb (17 + 4 * w) (by omega) (by omega), d6 w hw, show (fun k => if k < 6 then (0 : Int32) else arr k) w = 0 from if_pos hw]
        by_cases hwr : w < r
        · obtain ⟨-, -, e1, ⟨d, hd, e2⟩, -⟩ := d4 w hwr
          have ex : va_cpy (va_cpy cdp3 cdp 0 0 6) (fun k => if k < 6 then 0 else dep k) 0 0 (ix wat3) w = cdp3 w := by
            rw [cpy0 _ _ (show w < ix wat3 by rw [d1, ix_nI (by omega)]; exact hwr), cpy0 _ _ hw]
          rw [ex]
          exact ⟨e1, ⟨d, by omega, e2⟩, rfl, ⟨0, by omega, rfl⟩, fun z => absurd z (by omega)⟩
        · have ex : va_cpy (va_cpy cdp3 cdp 0 0 6) (fun k => if k < 6 then 0 else dep k) 0 0 (ix wat3) w = 0 := by
            rw [pk_cpy_out (by rw [d1, ix_nI (by omega)]; omega), if_pos hw]
          rw [ex, d5 (16 + 4 * w) (by omega) (by omega)]
          exact ⟨rfl, ⟨0, by omega, rfl⟩, rfl, ⟨0, by omega, rfl⟩, fun _ => ⟨rfl, rfl⟩⟩
      · rw [show (fun k => if k < 36 then (0 : Int32) else deb k) i = 0 from if_pos hi, eb (39 + i) (by omega) (by omega), d5 (39 + i) (by omega) (by omega)]
        exact ⟨rfl, 0, by omega, rfl⟩
      · exact if_pos (by omega)
    · exact ⟨0, x, by omega, hx, rfl, rfl, hnx, fun t ht => absurd ht (by omega)⟩
  · have n1' : ¬ (1 : Int32) = 0 := by decide
    have n1'' : ¬ (1 : Int32) ≤ 0 := by decide
    have c1' : ¬ C3.2.2.2.2 = 0 := by rw [c0]; decide
    exact ⟨-1000100 - C3.2.1, 1, 0, C3.1, C3.2.1, C3.2.2.1, C3.2.2.2.1, C3.2.2.2.2, wat3, lev2, kin3, cdp3, sil3, sta, wat, lev, kin, cdp, sil, hour, dep, arr, deb, kep, 0, acts, 0, 1, nI n, _, _, _, _, _, _, bay, fresh3, n0, by simp only [f_X8_bay, RD, bd_s, c0, if_neg n1'], by simp only [f_X9_bay, BG, bd_s, Z, t9, l9, if_pos f3, if_neg tk, f_X9_bad, if_neg n1'', es] <;> rfl, rfl, hT0, hC, hL, hR⟩
