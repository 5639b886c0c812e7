/-! ===== acts ===== -/
theorem rng (p : Int32) (l h : Int64) (lo hi : Nat) (e1 : l.toInt = lo) (e2 : h.toInt = hi) (hh : hi < 2 ^ 31) : (∃ k, lo ≤ k ∧ k ≤ hi ∧ p = nI k ∧ f_X9_in p.toInt64 l h = some 1) ∨ (f_X9_in p.toInt64 l h = some 0 ∧ (p.toInt < lo ∨ hi < p.toInt)) := by
  have hin := in_eq p.toInt64 l h
  rw [t64, e1, e2] at hin
  by_cases c : (lo : Int) ≤ p.toInt ∧ p.toInt ≤ hi
  · rw [if_pos c] at hin
    exact Or.inl ⟨p.toInt.toNat, by omega, by omega, (nI_iff (by omega)).mpr (by omega), hin⟩
  · rw [if_neg c] at hin
    exact Or.inr ⟨hin, by omega⟩
theorem ChartR_c {n : Nat} {sta wat : Int32} {lev kin sil g g' : Nat → Int32} (h : ChartR n sta wat lev kin sil g) (e : ∀ q, q < 39 → q ≠ 2 → (∀ w, w < 6 → q ≠ 16 + 4 * w ∧ q ≠ 17 + 4 * w) → g' q = g q) : ChartR n sta wat lev kin sil g' := by
  obtain ⟨⟨d0, d0'⟩, ⟨d1, d1', hn⟩, d2, d3⟩ := h
  refine ⟨⟨by rw [e 0 (by omega) (by omega) (fun w _ => by omega)]; exact d0, d0'⟩, ⟨by rw [e 1 (by omega) (by omega) (fun w _ => by omega)]; exact d1, d1', hn⟩, fun k hk => ?_, fun w hw => ?_⟩
  · rw [e (3 + k) (by omega) (by omega) (fun w _ => by omega)]; exact d2 k hk
  · rw [e (15 + 4 * w) (by omega) (by omega) (fun w' _ => by omega), e (18 + 4 * w) (by omega) (by omega) (fun w' _ => by omega)]; exact d3 w hw
theorem RingR_mono {B B' n : Nat} {sta wat : Int32} {lev kin sil : Nat → Int32} {nxt kep : Int32} {r_hour : Nat → Int32} {r_dep r_arr r_deb : Nat → Nat → Int32} {acts : Int32} {was : Nat → Int32} (h : RingR B n sta wat lev kin sil nxt kep r_hour r_dep r_arr r_deb acts was) (hB : B ≤ B') : RingR B' n sta wat lev kin sil nxt kep r_hour r_dep r_arr r_deb acts was := by
  obtain ⟨a, x, h1, h2, h3, h4, h5, h6⟩ := h
  exact ⟨a, x, h1, h2, h3, h4, h5, fun t ht => ⟨(h6 t ht).1, LedR_mono (h6 t ht).2 hB⟩⟩
theorem LedR_move {B n : Nat} {hour : Int32} {dep arr deb g : Nat → Int32} {a b k d : Nat} (h : LedR B n hour dep arr deb g) (hn : n ≤ 6) (ha : a < n) (hb : b < n) (hd : dep a = nI d) (hdB : d ≤ B) (hk : k ≤ d) :
    LedR (B + k) n hour (upd (upd dep a (dep a - nI k)) b (upd dep a (dep a - nI k) b + nI k)) arr deb (upd (upd g (16 + 4 * a) (g (16 + 4 * a) - nI k)) (16 + 4 * b) (upd g (16 + 4 * a) (g (16 + 4 * a) - nI k) (16 + 4 * b) + nI k)) := by
  obtain ⟨⟨h1, h0, h2, rfl⟩, h3, h4, h5⟩ := h
  refine ⟨⟨?_, h0, by omega, rfl⟩, fun w hw => ?_, fun i hi => ?_, h5⟩
  · rw [upd_n _ _ (by omega), upd_n _ _ (by omega)]; exact h1
  · obtain ⟨x1, ⟨x, hx, ex⟩, x2, ⟨y, hy, ey⟩, hz⟩ := h3 w hw
    have y1 := (h3 a (by omega)).1
    have y2 := (h3 b (by omega)).1
    obtain ⟨-, ⟨xb, hxb, exb⟩, -⟩ := h3 b (by omega)
    refine ⟨?_, ?_, ?_, ⟨y, by omega, ey⟩, fun hnw => ?_⟩
    · by_cases c1 : w = b
      · subst c1
        rw [upd_s, upd_s]
        by_cases c2 : w = a
        · subst c2; rw [upd_s, upd_s, y1]
        · rw [upd_n _ _ c2, upd_n _ _ (by omega), y2]
      · rw [upd_n _ _ c1, upd_n _ _ (show 16 + 4 * w ≠ 16 + 4 * b by omega)]
        by_cases c2 : w = a
        · subst c2; rw [upd_s, upd_s, y1]
        · rw [upd_n _ _ c2, upd_n _ _ (by omega), x1]
    · by_cases c1 : w = b
      · subst c1
        rw [upd_s]
        by_cases c2 : w = a
        · subst c2; rw [upd_s, hd, pk_sub hk, nI_add]
          exact ⟨d - k + k, by omega, rfl⟩
        · rw [upd_n _ _ c2, exb, nI_add]; exact ⟨xb + k, by omega, rfl⟩
      · rw [upd_n _ _ c1]
        by_cases c2 : w = a
        · subst c2; rw [upd_s, hd, pk_sub hk]
          exact ⟨d - k, by omega, rfl⟩
        · rw [upd_n _ _ c2]; exact ⟨x, by omega, ex⟩
    · rw [upd_n _ _ (by omega), upd_n _ _ (by omega)]; exact x2
    · rw [upd_n _ _ (by omega), upd_n _ _ (by omega)]; exact hz hnw
  · rw [upd_n _ _ (by omega), upd_n _ _ (by omega)]; exact h4 i hi
theorem LedR_debt {B n : Nat} {hour : Int32} {dep arr deb g : Nat → Int32} {a b k : Nat} (h : LedR B n hour dep arr deb g) (hn : n ≤ 6) (ha : a < n) (hb : b < n) (hab : a ≠ b) (hk : k ≤ 9999) : LedR B n hour dep arr (upd deb (6 * a + b) (nI k)) (upd g (39 + (6 * a + b)) (nI k)) := by
  obtain ⟨⟨h1, h2⟩, h3, h4, h5⟩ := h
  refine ⟨⟨?_, h2⟩, fun w hw => ?_, fun i hi => ?_, fun x y hx hy hxy => ?_⟩
  · rw [upd_n _ _ (by omega)]; exact h1
  · rw [upd_n _ _ (by omega), upd_n _ _ (by omega)]; exact h3 w hw
  · by_cases c : i = 6 * a + b
    · subst c; rw [upd_s, upd_s]; exact ⟨rfl, k, hk, rfl⟩
    · rw [upd_n _ _ c, upd_n _ _ (by omega)]; exact h4 i hi
  · rw [upd_n _ _ (by omega)]; exact h5 x y hx hy hxy
theorem at1 (w : Nat) : f_X9_at (nI w) 1 = some (nI (16 + 4 * w)) := by rw [show (1 : Int32) = nI 1 from rfl, at_eq]; congr 2; omega
theorem at2 (w : Nat) : f_X9_at (nI w) 2 = some (nI (17 + 4 * w)) := by rw [show (2 : Int32) = nI 2 from rfl, at_eq]; congr 2; omega
theorem move8 (dep : Nat → Int32) {a b : Nat} (k : Int32) (ha : a < 6) (hb : b < 6) : f_X3_move dep (nI a) (nI b) k = some (upd (upd dep a (dep a - k)) b (upd dep a (dep a - k) b + k)) := by
  simp only [f_X3_move, gd_k (inb_nI ha (by decide)), gd_k (inb_nI hb (by decide)), ix_nI (show a < 2 ^ 31 by omega), ix_nI (show b < 2 ^ 31 by omega)]
theorem addDebt8 (deb : Nat → Int32) {a b : Nat} (k : Int32) (ha : a < 6) (hb : b < 6) : f_X3_addDebt deb (nI a) (nI b) k = some (deb (6 * a + b) + k, upd deb (6 * a + b) (deb (6 * a + b) + k)) := by
  have e : nI a * 6 + nI b = nI (6 * a + b) := by rw [show (6 : Int32) = nI 6 from rfl, pk_mul, nI_add, Nat.mul_comm a 6]
  simp only [f_X3_addDebt, e, gd_k (inb_nI (show 6 * a + b < 36 by omega) (by decide)), ix_nI (show 6 * a + b < 2 ^ 31 by omega), debt8 _ ha hb, bd_s, upd_s]
theorem op_lend {B n : Nat} {sta wat : Int32} {lev kin sil : Nat → Int32} {hour : Int32} {dep arr deb bay : Nat → Int32} {nxt kep : Int32} {r_hour : Nat → Int32} {r_dep r_arr r_deb : Nat → Nat → Int32} {acts : Int32} {was : Nat → Int32} (thrown p1 p2 p3 : Int32) (hB : B < 2 ^ 29) (hC : ChartR n sta wat lev kin sil bay) (hL : LedR B n hour dep arr deb bay) (hR : RingR B n sta wat lev kin sil nxt kep r_hour r_dep r_arr r_deb acts was) :
    ∃ r dep' deb' nxt' kep' r_hour' r_dep' r_arr' r_deb' thrown' acts' bay' was', f_X8_lend wat hour dep arr deb nxt kep r_hour r_dep r_arr r_deb p1 p2 p3 = some (r, dep', deb', nxt', kep', r_hour', r_dep', r_arr', r_deb') ∧ f_X9_lend thrown acts bay was p1 p2 p3 = some (r, thrown', acts', bay', was') ∧ ChartR n sta wat lev kin sil bay' ∧ LedR (B + 300000) n hour dep' arr deb' bay' ∧ RingR (B + 300000) n sta wat lev kin sil nxt' kep' r_hour' r_dep' r_arr' r_deb' acts' was' := by
  have stay : ∀ r, f_X8_lend wat hour dep arr deb nxt kep r_hour r_dep r_arr r_deb p1 p2 p3 = some (r, dep, deb, nxt, kep, r_hour, r_dep, r_arr, r_deb) → f_X9_lend thrown acts bay was p1 p2 p3 = some (r, 0, acts, bay, was) → ∃ r dep' deb' nxt' kep' r_hour' r_dep' r_arr' r_deb' thrown' acts' bay' was', f_X8_lend wat hour dep arr deb nxt kep r_hour r_dep r_arr r_deb p1 p2 p3 = some (r, dep', deb', nxt', kep', r_hour', r_dep', r_arr', r_deb') ∧ f_X9_lend thrown acts bay was p1 p2 p3 = some (r, thrown', acts', bay', was') ∧ ChartR n sta wat lev kin sil bay' ∧ LedR (B + 300000) n hour dep' arr deb' bay' ∧ RingR (B + 300000) n sta wat lev kin sil nxt' kep' r_hour' r_dep' r_arr' r_deb' acts' was' :=
    fun r e1 e2 => ⟨r, _, _, _, _, _, _, _, _, _, _, _, _, e1, e2, hC, LedR_mono hL (by omega), RingR_mono hR (by omega)⟩
  obtain ⟨-, ⟨c1, hw, hn⟩, -, -⟩ := id hC
  obtain ⟨-, l3, l4, -⟩ := id hL
  subst hw
  rcases two8 hn c1 p1 p2 with ⟨a, b, ha, hb, hab, rfl, rfl, e1, e2⟩ | ⟨e1, e2⟩
  · rcases rng p3 1 999 1 999 rfl rfl (by decide) with ⟨k, hk1, hk2, rfl, e3⟩ | ⟨e3, hk⟩
    · have k1 : ¬ nI k < 1 := by rw [show (1 : Int32) = nI 1 from rfl, nI_ltI (by omega) (by omega)]; omega
      have k2 : nI k ≤ 999 := by rw [show (999 : Int32) = nI 999 from rfl, nI_leI (by omega) (by omega)]; omega
      obtain ⟨da, ⟨d, hd, ed⟩, -⟩ := l3 a (by omega)
      obtain ⟨db, o, ho, eo⟩ := l4 (6 * b + a) (by omega)
      have g1 : ∀ {α : Type} (x : Option α), gd (inb (nI a) 6) x = x := fun x => gd_k (inb_nI (by omega) (by decide)) x
      have g2 : ∀ {α : Type} (x : Option α), gd (inb (nI (16 + 4 * a)) 75) x = x := fun x => gd_k (inb_nI (by omega) (by decide)) x
      have g3 : ∀ {α : Type} (x : Option α), gd (inb (nI (39 + (6 * b + a))) 75) x = x := fun x => gd_k (inb_nI (by omega) (by decide)) x
      have g4 : ∀ {α : Type} (x : Option α), gd (inb (nI (16 + 4 * b)) 75) x = x := fun x => gd_k (inb_nI (by omega) (by decide)) x
      have x1 := ix_nI (show a < 2 ^ 31 by omega)
      have x2 := ix_nI (show 16 + 4 * a < 2 ^ 31 by omega)
      have x3 := ix_nI (show 39 + (6 * b + a) < 2 ^ 31 by omega)
      have x4 := ix_nI (show 16 + 4 * b < 2 ^ 31 by omega)
      by_cases q1 : k ≤ d
      · have q1' : nI k ≤ dep a := by rw [ed, nI_leI (by omega) (by omega)]; exact q1
        have q1'' : nI k ≤ bay (16 + 4 * a) := by rw [← da]; exact q1'
        by_cases q2 : o + k ≤ 9999
        · have q2' : deb (6 * b + a) + nI k ≤ 9999 := by rw [eo, nI_add, show (9999 : Int32) = nI 9999 from rfl, nI_leI (by omega) (by omega)]; exact q2
          have q2'' : bay (39 + (6 * b + a)) + nI k ≤ 9999 := by rw [← db]; exact q2'
          obtain ⟨nxt', kep', rh', rd', ra', rb', acts', was', k8, k9, kR⟩ := op_keep hC hL hR
          have M := LedR_debt (k := o + k) (LedR_move hL hn ha hb ed hd q1) hn hb ha (Ne.symm hab) q2
          refine ⟨_, _, _, _, _, _, _, _, _, _, _, _, _, by simp only [f_X8_lend, e1, bd_s, if10, if_neg k1, if_pos k2, g1, x1, if_pos q1', debt8 deb (show b < 6 by omega) (show a < 6 by omega), if_pos q2', k8, move8 dep (nI k) (show a < 6 by omega) (show b < 6 by omega), addDebt8 deb (nI k) (show b < 6 by omega) (show a < 6 by omega)] <;> rfl, by simp only [f_X9_lend, e2, bd_s, if10, e3, at1, g2, x2, if_pos q1'', debt9, g3, x3, if_pos q2'', k9, g4, x4, upd_s]; rw [upd_n _ _ (show 39 + (6 * b + a) ≠ 16 + 4 * b by omega), upd_n _ _ (show 39 + (6 * b + a) ≠ 16 + 4 * a by omega), ← db], ?_, ?_, RingR_mono kR (by omega)⟩
          · exact ChartR_c hC (fun q h1 h2 h3 => by rw [upd_n _ _ (by omega), upd_n _ _ (h3 b (by omega)).1, upd_n _ _ (h3 a (by omega)).1])
          · rw [eo, nI_add]
            exact LedR_mono M (by omega)
        · have q2' : ¬ deb (6 * b + a) + nI k ≤ 9999 := by rw [eo, nI_add, show (9999 : Int32) = nI 9999 from rfl, nI_leI (by omega) (by omega)]; exact q2
          have q2'' : ¬ bay (39 + (6 * b + a)) + nI k ≤ 9999 := by rw [← db]; exact q2'
          exact stay (-1000003) (by simp only [f_X8_lend, e1, bd_s, if10, if_neg k1, if_pos k2, g1, x1, if_pos q1', debt8 deb (show b < 6 by omega) (show a < 6 by omega), if_neg q2']) (by simp only [f_X9_lend, e2, bd_s, if10, e3, at1, g2, x2, if_pos q1'', debt9, g3, x3, if_neg q2''])
      · have q1' : ¬ nI k ≤ dep a := by rw [ed, nI_leI (by omega) (by omega)]; exact q1
        have q1'' : ¬ nI k ≤ bay (16 + 4 * a) := by rw [← da]; exact q1'
        exact stay (-1000002) (by simp only [f_X8_lend, e1, bd_s, if10, if_neg k1, if_pos k2, g1, x1, if_neg q1']) (by simp only [f_X9_lend, e2, bd_s, if10, e3, at1, g2, x2, if_neg q1''])
    · refine stay (-1000001) ?_ (by simp only [f_X9_lend, e2, bd_s, if10, e3, if_true])
      by_cases k1 : p3 < 1
      · simp only [f_X8_lend, e1, bd_s, if10, if_pos k1]
      · have k2 : ¬ p3 ≤ 999 := fun q => by
          have q1 := i32_le.mp q
          have q2 : ¬ p3.toInt < 1 := fun z => k1 (i32_lt.mpr z)
          change p3.toInt ≤ 999 at q1
          omega
        simp only [f_X8_lend, e1, bd_s, if10, if_neg k1, if_neg k2]
  · exact stay (-1000001) (by simp only [f_X8_lend, e1, bd_s, if_true]) (by simp only [f_X9_lend, e2, bd_s, if_true])
theorem op_pay {B n : Nat} {sta wat : Int32} {lev kin sil : Nat → Int32} {hour : Int32} {dep arr deb bay : Nat → Int32} {nxt kep : Int32} {r_hour : Nat → Int32} {r_dep r_arr r_deb : Nat → Nat → Int32} {acts : Int32} {was : Nat → Int32} (thrown p1 p2 p3 : Int32) (hB : B < 2 ^ 29) (hC : ChartR n sta wat lev kin sil bay) (hL : LedR B n hour dep arr deb bay) (hR : RingR B n sta wat lev kin sil nxt kep r_hour r_dep r_arr r_deb acts was) :
    ∃ r dep' deb' nxt' kep' r_hour' r_dep' r_arr' r_deb' thrown' acts' bay' was', f_X8_pay wat hour dep arr deb nxt kep r_hour r_dep r_arr r_deb p1 p2 p3 = some (r, dep', deb', nxt', kep', r_hour', r_dep', r_arr', r_deb') ∧ f_X9_pay thrown acts bay was p1 p2 p3 = some (r, thrown', acts', bay', was') ∧ ChartR n sta wat lev kin sil bay' ∧ LedR (B + 300000) n hour dep' arr deb' bay' ∧ RingR (B + 300000) n sta wat lev kin sil nxt' kep' r_hour' r_dep' r_arr' r_deb' acts' was' := by
  have stay : ∀ r, f_X8_pay wat hour dep arr deb nxt kep r_hour r_dep r_arr r_deb p1 p2 p3 = some (r, dep, deb, nxt, kep, r_hour, r_dep, r_arr, r_deb) → f_X9_pay thrown acts bay was p1 p2 p3 = some (r, 0, acts, bay, was) → ∃ r dep' deb' nxt' kep' r_hour' r_dep' r_arr' r_deb' thrown' acts' bay' was', f_X8_pay wat hour dep arr deb nxt kep r_hour r_dep r_arr r_deb p1 p2 p3 = some (r, dep', deb', nxt', kep', r_hour', r_dep', r_arr', r_deb') ∧ f_X9_pay thrown acts bay was p1 p2 p3 = some (r, thrown', acts', bay', was') ∧ ChartR n sta wat lev kin sil bay' ∧ LedR (B + 300000) n hour dep' arr deb' bay' ∧ RingR (B + 300000) n sta wat lev kin sil nxt' kep' r_hour' r_dep' r_arr' r_deb' acts' was' :=
    fun r e1 e2 => ⟨r, _, _, _, _, _, _, _, _, _, _, _, _, e1, e2, hC, LedR_mono hL (by omega), RingR_mono hR (by omega)⟩
  obtain ⟨-, ⟨c1, hw, hn⟩, -, -⟩ := id hC
  obtain ⟨-, l3, l4, -⟩ := id hL
  subst hw
  rcases two8 hn c1 p1 p2 with ⟨a, b, ha, hb, hab, rfl, rfl, e1, e2⟩ | ⟨e1, e2⟩
  · rcases rng p3 1 9999 1 9999 rfl rfl (by decide) with ⟨k, hk1, hk2, rfl, e3⟩ | ⟨e3, hk⟩
    · have k1 : ¬ nI k < 1 := by rw [show (1 : Int32) = nI 1 from rfl, nI_ltI (by omega) (by omega)]; omega
      have k2 : nI k ≤ 9999 := by rw [show (9999 : Int32) = nI 9999 from rfl, nI_leI (by omega) (by omega)]; omega
      obtain ⟨da, ⟨d, hd, ed⟩, -⟩ := l3 a (by omega)
      obtain ⟨db, o, ho, eo⟩ := l4 (6 * a + b) (by omega)
      have g1 : ∀ {α : Type} (x : Option α), gd (inb (nI a) 6) x = x := fun x => gd_k (inb_nI (by omega) (by decide)) x
      have g2 : ∀ {α : Type} (x : Option α), gd (inb (nI (16 + 4 * a)) 75) x = x := fun x => gd_k (inb_nI (by omega) (by decide)) x
      have g3 : ∀ {α : Type} (x : Option α), gd (inb (nI (39 + (6 * a + b))) 75) x = x := fun x => gd_k (inb_nI (by omega) (by decide)) x
      have g4 : ∀ {α : Type} (x : Option α), gd (inb (nI (16 + 4 * b)) 75) x = x := fun x => gd_k (inb_nI (by omega) (by decide)) x
      have x1 := ix_nI (show a < 2 ^ 31 by omega)
      have x2 := ix_nI (show 16 + 4 * a < 2 ^ 31 by omega)
      have x3 := ix_nI (show 39 + (6 * a + b) < 2 ^ 31 by omega)
      have x4 := ix_nI (show 16 + 4 * b < 2 ^ 31 by omega)
      by_cases q2 : k ≤ o
      · have q2' : ¬ deb (6 * a + b) < nI k := by rw [eo, nI_ltI (by omega) (by omega)]; omega
        have q2'' : ¬ bay (39 + (6 * a + b)) < nI k := by rw [← db]; exact q2'
        by_cases q1 : k ≤ d
        · have q1' : nI k ≤ dep a := by rw [ed, nI_leI (by omega) (by omega)]; exact q1
          have q1'' : nI k ≤ bay (16 + 4 * a) := by rw [← da]; exact q1'
          obtain ⟨nxt', kep', rh', rd', ra', rb', acts', was', k8, k9, kR⟩ := op_keep hC hL hR
          have M := LedR_debt (k := o - k) (LedR_move hL hn ha hb ed hd q1) hn ha hb hab (by omega)
          refine ⟨_, _, _, _, _, _, _, _, _, _, _, _, _, by simp only [f_X8_pay, e1, bd_s, if10, if_neg k1, if_pos k2, g1, x1, if_pos q1', debt8 deb (show a < 6 by omega) (show b < 6 by omega), if_neg q2', k8, move8 dep (nI k) (show a < 6 by omega) (show b < 6 by omega), addDebt8 deb (-nI k) (show a < 6 by omega) (show b < 6 by omega)] <;> rfl, by simp only [f_X9_pay, e2, bd_s, if10, e3, at1, g2, x2, if_pos q1'', debt9, g3, x3, if_neg q2'', k9, g4, x4, upd_s]; rw [upd_n _ _ (show 39 + (6 * a + b) ≠ 16 + 4 * b by omega), upd_n _ _ (show 39 + (6 * a + b) ≠ 16 + 4 * a by omega), ← db, ← Int32.sub_eq_add_neg], ?_, ?_, RingR_mono kR (by omega)⟩
          · exact ChartR_c hC (fun q h1 h2 h3 => by rw [upd_n _ _ (by omega), upd_n _ _ (h3 b (by omega)).1, upd_n _ _ (h3 a (by omega)).1])
          · rw [← Int32.sub_eq_add_neg, eo, pk_sub q2]
            exact LedR_mono M (by omega)
        · have q1' : ¬ nI k ≤ dep a := by rw [ed, nI_leI (by omega) (by omega)]; exact q1
          have q1'' : ¬ nI k ≤ bay (16 + 4 * a) := by rw [← da]; exact q1'
          exact stay (-1000002) (by simp only [f_X8_pay, e1, bd_s, if10, if_neg k1, if_pos k2, g1, x1, if_neg q1', debt8 deb (show a < 6 by omega) (show b < 6 by omega), if_neg q2']) (by simp only [f_X9_pay, e2, bd_s, if10, e3, at1, g2, x2, if_neg q1'', debt9, g3, x3, if_neg q2''])
      · have q2' : deb (6 * a + b) < nI k := by rw [eo, nI_ltI (by omega) (by omega)]; omega
        have q2'' : bay (39 + (6 * a + b)) < nI k := by rw [← db]; exact q2'
        exact stay (-1000002) (by simp only [f_X8_pay, e1, bd_s, if10, if_neg k1, if_pos k2, debt8 deb (show a < 6 by omega) (show b < 6 by omega), if_pos q2']) (by simp only [f_X9_pay, e2, bd_s, if10, e3, debt9, g3, x3, if_pos q2''])
    · refine stay (-1000001) ?_ (by simp only [f_X9_pay, e2, bd_s, if10, e3, if_true])
      by_cases k1 : p3 < 1
      · simp only [f_X8_pay, e1, bd_s, if10, if_pos k1]
      · have k2 : ¬ p3 ≤ 9999 := fun q => by
          have q1 := i32_le.mp q
          have q2 : ¬ p3.toInt < 1 := fun z => k1 (i32_lt.mpr z)
          change p3.toInt ≤ 9999 at q1
          omega
        simp only [f_X8_pay, e1, bd_s, if10, if_neg k1, if_neg k2]
  · exact stay (-1000001) (by simp only [f_X8_pay, e1, bd_s, if_true]) (by simp only [f_X9_pay, e2, bd_s, if_true])
