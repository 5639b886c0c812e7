/-! ===== netting: the gifts ===== -/
def Chain (n : Nat) (giv tak inc : Nat → Int32) : Nat → Nat → (Nat → Int32) → Prop
  | 0, _, _ => True
  | m + 1, s, bal => ∃ a b x, a < n ∧ b < n ∧ giv s = nI a ∧ tak s = nI b ∧ inc s = nI x ∧ x ≤ 60000 ∧ (x : Int) ≤ (bal a).toInt ∧ Chain n giv tak inc m (s + 1) (upd (upd bal a (bal a - nI x)) b (upd bal a (bal a - nI x) b + nI x))
/-- with nothing above 0 the class goes on idly -/
theorem idle_L {n : Nat} {bal left bay : Nat → Int32} (hn : n ≤ 6) (hb : bay 1 = nI n) (hQ : NetQ n bal left) (hno : ∀ w, w < 6 → ¬ 0 < (bal w).toInt) (gft : Int32) (giv tak inc : Nat → Int32) : ∀ (m s f : Nat), s + m = 6 → m < f → f_X4_workOut_L39 f gft bal giv tak inc (nI s) = some (gft, bal, giv, tak, inc) := by
  intro m
  induction m with
  | zero =>
    intro s f hs hf
    obtain ⟨f, rfl⟩ : ∃ f', f = f' + 1 := ⟨f - 1, by omega⟩
    rw [f_X4_workOut_L39_s, if_pos (by rw [show (6 : Int32) = nI 6 from rfl, nI_leI (by omega) (by omega)]; omega)]
  | succ m ih =>
    intro s f hs hf
    obtain ⟨f, rfl⟩ : ∃ f', f = f' + 1 := ⟨f - 1, by omega⟩
    have e1 : f_X4_firstWithSign bal 1 = some (-1000000) := by
      rcases firstP hn hb hQ with ⟨w, h1, h2, -⟩ | ⟨-, h, -⟩
      · exact absurd h2 (hno w (by omega))
      · exact h
    obtain ⟨z, e2⟩ : ∃ z, f_X4_firstWithSign bal (-1) = some z := by
      rcases firstN hn hb hQ with ⟨w, -, -, h, -⟩ | ⟨-, h, -⟩
      · exact ⟨_, h⟩
      · exact ⟨_, h⟩
    rw [f_X4_workOut_L39_s, if_neg (by rw [show (6 : Int32) = nI 6 from rfl, nI_leI (by omega) (by omega)]; omega), e1, bd_s, e2, bd_s]
    simp only [f_X4_addGift, if_pos (show (-1000000 : Int32) = -1000000 from rfl), bd_s, nI_1]
    exact ih (s + 1) f (by omega) (by omega)
theorem gifts_L {n : Nat} {bay : Nat → Int32} (hn : n ≤ 6) (hb : bay 1 = nI n) : ∀ (m s f g : Nat) (bal left giv tak inc gift : Nat → Int32) (x1 : Int32), s + m = 6 → m < f → m < g → NetQ n bal left → sz bal 6 = 0 → cz bal 6 + s ≤ 6 → f_X9_firstWith bay left 1 = some x1 → (∀ t, t < s → giv t = gift (3 * t) ∧ tak t = gift (3 * t + 1) ∧ inc t = gift (3 * t + 2)) →
    ∃ k bal' left' giv' tak' inc' gift', f_X4_workOut_L39 f (nI s) bal giv tak inc (nI s) = some (nI (s + k), bal', giv', tak', inc') ∧ f_X9_layGifts_L40 bay g (nI s) left gift x1 = some (nI (s + k), left', gift') ∧ s + k ≤ 6 ∧ (∀ t, t < s → giv' t = giv t ∧ tak' t = tak t ∧ inc' t = inc t) ∧ (∀ t, t < s + k → giv' t = gift' (3 * t) ∧ tak' t = gift' (3 * t + 1) ∧ inc' t = gift' (3 * t + 2)) ∧ Chain n giv' tak' inc' k s bal := by
  intro m
  induction m with
  | zero =>
    intro s f g bal left giv tak inc gift x1 hs hf hg hQ hz hc hx hG
    obtain ⟨g, rfl⟩ : ∃ f', g = f' + 1 := ⟨g - 1, by omega⟩
    have h0 := cz_0 6 (show cz bal 6 = 0 by omega)
    have hno : ∀ w, w < 6 → ¬ 0 < (bal w).toInt := fun w hw => by rw [h0 w hw]; decide
    have ex : x1 = -1000000 := by
      rcases firstP hn hb hQ with ⟨w, h1, h2, -⟩ | ⟨-, -, h⟩
      · exact absurd h2 (hno w (by omega))
      · rw [hx] at h; exact Option.some.inj h
    refine ⟨0, bal, left, giv, tak, inc, gift, idle_L hn hb hQ hno _ _ _ _ 0 s f hs (by omega), ?_, by omega, fun t _ => ⟨rfl, rfl, rfl⟩, hG, trivial⟩
    rw [f_X9_layGifts_L40_s, if_pos ex]
    rfl
  | succ m ih =>
    intro s f g bal left giv tak inc gift x1 hs hf hg hQ hz hc hx hG
    rcases firstP hn hb hQ with ⟨a, ha, pa, e8, e9⟩ | ⟨hno, -, e9⟩
    rotate_left
    · obtain ⟨g, rfl⟩ : ∃ f', g = f' + 1 := ⟨g - 1, by omega⟩
      have ex : x1 = -1000000 := by rw [hx] at e9; exact Option.some.inj e9
      refine ⟨0, bal, left, giv, tak, inc, gift, idle_L hn hb hQ hno _ _ _ _ (m + 1) s f hs (by omega), ?_, by omega, fun t _ => ⟨rfl, rfl, rfl⟩, hG, trivial⟩
      rw [f_X9_layGifts_L40_s, if_pos ex]
      rfl
    rcases firstN hn hb hQ with ⟨b, hb', pb, n8, n9⟩ | ⟨hno, -, -⟩
    rotate_left
    · obtain ⟨-, h⟩ := sz_pos (f := bal) 6 (fun w hw => by have := hno w hw; omega)
      have := h a (by omega)
      omega
    obtain ⟨f, rfl⟩ : ∃ f', f = f' + 1 := ⟨f - 1, by omega⟩
    obtain ⟨g, rfl⟩ : ∃ f', g = f' + 1 := ⟨g - 1, by omega⟩
    have ex : x1 = nI a := by rw [hx] at e9; exact Option.some.inj e9
    subst ex
    obtain ⟨q1, q2, q3⟩ := id hQ
    have ba := q3 a (by omega)
    have bb := q3 b (by omega)
    have hab : a ≠ b := fun z => by subst z; omega
    have tn : (-bal b).toInt = -(bal b).toInt := tI_neg (by omega)
    have na : ¬ nI a = -1000000 := fun z => by
      have := i32_eq.mp z
      rw [nI_toInt (by omega)] at this
      change (a : Int) = -1000000 at this
      omega
    have nb : ¬ nI b = -1000000 := fun z => by
      have := i32_eq.mp z
      rw [nI_toInt (by omega)] at this
      change (b : Int) = -1000000 at this
      omega
    have s6 : nI s < 6 := by rw [show (6 : Int32) = nI 6 from rfl, nI_ltI (by omega) (by omega)]; omega
    /- how much -/
    obtain ⟨x, hx0, hxa, hxb, hxx, em⟩ : ∃ x : Nat, 1 ≤ x ∧ (x : Int) ≤ (bal a).toInt ∧ (x : Int) ≤ -(bal b).toInt ∧ ((x : Int) = (bal a).toInt ∨ (x : Int) = -(bal b).toInt) ∧ (if -bal b < bal a then -bal b else bal a) = nI x := by
      by_cases c : -bal b < bal a
      · have c' := i32_lt.mp c
        rw [tn] at c'
        exact ⟨(-(bal b).toInt).toNat, by omega, by omega, by omega, Or.inr (by omega), by rw [if_pos c, nI_iff (by omega), tn]; omega⟩
      · have c' : ¬ (-bal b).toInt < (bal a).toInt := fun z => c (i32_lt.mpr z)
        rw [tn] at c'
        exact ⟨(bal a).toInt.toNat, by omega, by omega, by omega, Or.inl (by omega), by rw [if_neg c, nI_iff (by omega)]; omega⟩
    have em9 : (if -bal b ≤ bal a then -bal b else bal a) = nI x := by
      rw [← em]
      by_cases c : -bal b < bal a
      · rw [if_pos c, if_pos (i32_le.mpr (by have := i32_lt.mp c; omega))]
      · rw [if_neg c]
        by_cases c2 : -bal b ≤ bal a
        · rw [if_pos c2]
          have c3 := i32_le.mp c2
          have c4 : ¬ (-bal b).toInt < (bal a).toInt := fun z => c (i32_lt.mpr z)
          exact i32_eq.mpr (by omega)
        · rw [if_neg c2]
    have xI : (nI x).toInt = (x : Int) := nI_toInt (by omega)
    have vA : (bal a - nI x).toInt = (bal a).toInt - x := by rw [tI_sub (by omega) (by omega), xI]
    have vB : (bal b + nI x).toInt = (bal b).toInt + x := by rw [tI_add (by omega) (by omega), xI]
    have ub : upd bal a (bal a - nI x) b = bal b := upd_n _ _ (Ne.symm hab)
    /- the new balances -/
    have hQ' : NetQ n (upd (upd bal a (bal a - nI x)) b (upd bal a (bal a - nI x) b + nI x)) (upd (upd left a (left a - nI x)) b (upd left a (left a - nI x) b + nI x)) := by
      refine ⟨fun w hw => ?_, fun w h1 h2 => ?_, fun w hw => ?_⟩
      · by_cases c1 : w = b
        · subst c1; rw [upd_s, upd_s, upd_n _ _ (Ne.symm hab), upd_n _ _ (Ne.symm hab), q1 w hw]
        · rw [upd_n _ _ c1, upd_n _ _ c1]
          by_cases c2 : w = a
          · subst c2; rw [upd_s, upd_s, q1 w hw]
          · rw [upd_n _ _ c2, upd_n _ _ c2, q1 w hw]
      · rw [upd_n _ _ (by omega), upd_n _ _ (by omega)]; exact q2 w h1 h2
      · by_cases c1 : w = b
        · subst c1; rw [upd_s, ub, vB]; omega
        · rw [upd_n _ _ c1]
          by_cases c2 : w = a
          · subst c2; rw [upd_s, vA]; omega
          · rw [upd_n _ _ c2]; exact q3 w hw
    have hz' : sz (upd (upd bal a (bal a - nI x)) b (upd bal a (bal a - nI x) b + nI x)) 6 = 0 := by
      rw [sz_upd 6 (by omega), sz_upd 6 (by omega), ub, vA, vB]
      omega
    have hc' : cz (upd (upd bal a (bal a - nI x)) b (upd bal a (bal a - nI x) b + nI x)) 6 + (s + 1) ≤ 6 := by
      have z1 := cz_upd (f := upd bal a (bal a - nI x)) (i := b) (v := upd bal a (bal a - nI x) b + nI x) 6 (by omega)
      have z2 := cz_upd (f := bal) (i := a) (v := bal a - nI x) 6 (by omega)
      have na0 : ¬ bal a = 0 := fun z => by rw [z] at pa; revert pa; decide
      have nb0 : ¬ bal b = 0 := fun z => by rw [z] at pb; revert pb; decide
      rw [ub, if_neg nb0] at z1
      rw [if_neg na0] at z2
      rw [ub]
      rcases hxx with e | e
      · rw [if_pos (show bal a - nI x = 0 from i32_eq.mpr (by rw [vA, t0]; omega))] at z2
        split at z1 <;> omega
      · rw [if_pos (show bal b + nI x = 0 from i32_eq.mpr (by rw [vB, t0]; omega))] at z1
        split at z2 <;> omega
    have hG' : ∀ t, t < s + 1 → upd giv s (nI a) t = upd (upd (upd gift (3 * s) (nI a)) (3 * s + 1) (nI b)) (3 * s + 2) (nI x) (3 * t) ∧ upd tak s (nI b) t = upd (upd (upd gift (3 * s) (nI a)) (3 * s + 1) (nI b)) (3 * s + 2) (nI x) (3 * t + 1) ∧ upd inc s (nI x) t = upd (upd (upd gift (3 * s) (nI a)) (3 * s + 1) (nI b)) (3 * s + 2) (nI x) (3 * t + 2) := by
      intro t ht
      by_cases c : t = s
      · subst c
        rw [upd_s, upd_s, upd_s, upd_s, upd_n _ _ (show 3 * t + 1 ≠ 3 * t + 2 by omega), upd_s, upd_n _ _ (show 3 * t ≠ 3 * t + 2 by omega), upd_n _ _ (show 3 * t ≠ 3 * t + 1 by omega), upd_s]
        exact ⟨rfl, rfl, rfl⟩
      · rw [upd_n _ _ c, upd_n _ _ c, upd_n _ _ c, upd_n _ _ (by omega), upd_n _ _ (by omega), upd_n _ _ (by omega), upd_n _ _ (by omega), upd_n _ _ (by omega), upd_n _ _ (by omega), upd_n _ _ (by omega), upd_n _ _ (by omega), upd_n _ _ (by omega)]
        exact hG t (by omega)
    obtain ⟨x2, hx2⟩ : ∃ z, f_X9_firstWith bay (upd (upd left a (left a - nI x)) b (upd left a (left a - nI x) b + nI x)) 1 = some z := by
      rcases firstP hn hb hQ' with ⟨w, -, -, -, h⟩ | ⟨-, -, h⟩
      · exact ⟨_, h⟩
      · exact ⟨_, h⟩
    obtain ⟨k, bal', left', giv', tak', inc', gift', j1, j2, j3, j4, j5, j6⟩ := ih (s + 1) f g _ _ (upd giv s (nI a)) (upd tak s (nI b)) (upd inc s (nI x)) _ x2 (by omega) (by omega) (by omega) hQ' hz' hc' hx2 hG'
    have z4 := j4 s (by omega)
    rw [upd_s, upd_s, upd_s] at z4
    refine ⟨k + 1, bal', left', giv', tak', inc', gift', ?_, ?_, by omega, fun t ht => ?_, fun t ht => j5 t (by omega), a, b, x, ha, hb', z4.1, z4.2.1, z4.2.2, by omega, hxa, j6⟩
    · rw [f_X4_workOut_L39_s, if_neg (by rw [show (6 : Int32) = nI 6 from rfl, nI_leI (by omega) (by omega)]; omega), e8, bd_s, n8, bd_s]
      simp only [f_X4_addGift, if_neg na, if_neg nb, if_pos s6, gd_k (inb_nI (show a < 6 by omega) (by decide)), gd_k (inb_nI (show b < 6 by omega) (by decide)), gd_k (inb_nI (show s < 6 by omega) (by decide)), ix_nI (show a < 2 ^ 31 by omega), ix_nI (show b < 2 ^ 31 by omega), ix_nI (show s < 2 ^ 31 by omega), nm, em, bd_s, nI_1]
      rw [j1, show s + 1 + k = s + (k + 1) by omega]
    · have e3 : 3 * nI s = nI (3 * s) := by rw [show (3 : Int32) = nI 3 from rfl, pk_mul]
      have e31 : nI (3 * s) + 1 = nI (3 * s + 1) := nI_1 _
      have e32 : nI (3 * s) + 2 = nI (3 * s + 2) := by rw [show (2 : Int32) = nI 2 from rfl, nI_add]
      have ea := q1 a ha
      have eb := q1 b hb'
      rw [ea, eb] at em9
      rw [f_X9_layGifts_L40_s, if_neg na, n9, bd_s, gd_k (inb_nI (show a < 6 by omega) (by decide)), gd_k (inb_nI (show b < 6 by omega) (by decide)), ix_nI (by omega), ix_nI (by omega), e3, e31, e32, gd_k (inb_nI (show 3 * s < 36 by omega) (by decide)), gd_k (inb_nI (show 3 * s + 1 < 36 by omega) (by decide)), gd_k (inb_nI (show 3 * s + 2 < 36 by omega) (by decide)), gd_k (inb_nI (show 3 * s < 36 by omega) (by decide)), gd_k (inb_nI (show 3 * s + 1 < 36 by omega) (by decide)), gd_k (inb_nI (show 3 * s + 2 < 36 by omega) (by decide)), ix_nI (by omega), ix_nI (by omega), ix_nI (by omega), nI_1]
      by_cases c : -left b ≤ left a
      · rw [if_pos c] at em9
        rw [if_pos c, em9, hx2, bd_s, j2, show s + 1 + k = s + (k + 1) by omega]
      · rw [if_neg c] at em9
        rw [if_neg c]
        have j2' := j2
        have hx2' := hx2
        rw [← em9] at hx2' j2'
        rw [hx2', bd_s, j2', show s + 1 + k = s + (k + 1) by omega]
    · have z := j4 t (by omega)
      rw [upd_n _ _ (by omega), upd_n _ _ (by omega), upd_n _ _ (by omega)] at z
      exact z
