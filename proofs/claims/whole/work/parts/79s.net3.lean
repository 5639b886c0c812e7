/-! ===== netting: balances, settle, net ===== -/
def smN (d : Nat → Nat) : Nat → Nat
  | 0 => 0
  | n + 1 => smN d n + d n
theorem sm_N {f : Nat → Int32} {d : Nat → Nat} : ∀ n, (∀ k, k < n → f k = nI (d k)) → sm f n = nI (smN d n)
  | 0, _ => rfl
  | n + 1, h => by
    change sm f n + f n = nI (smN d n + d n)
    rw [sm_N n (fun k hk => h k (by omega)), h n (by omega), nI_add]
theorem smN_b {d : Nat → Nat} : ∀ n, (∀ k, k < n → d k ≤ 9999) → smN d n ≤ 9999 * n
  | 0, _ => Nat.le_refl 0
  | n + 1, h => by
    change smN d n + d n ≤ 9999 * (n + 1)
    have h1 := smN_b n (fun k hk => h k (by omega))
    have h2 := h n (by omega)
    omega
def bv (deb : Nat → Int32) (w : Nat) : Int32 := sm (fun k => deb (6 * w + k)) 6 - sm (fun k => deb (6 * k + w)) 6
theorem bv_I {deb : Nat → Int32} (hd : ∀ i, i < 36 → ∃ d, d ≤ 9999 ∧ deb i = nI d) {w : Nat} (hw : w < 6) : (bv deb w).toInt = (smN (fun k => ix (deb (6 * w + k))) 6 : Int) - smN (fun k => ix (deb (6 * k + w))) 6 ∧ -60000 ≤ (bv deb w).toInt ∧ (bv deb w).toInt ≤ 60000 := by
  have e : ∀ i, i < 36 → deb i = nI (ix (deb i)) ∧ ix (deb i) ≤ 9999 := fun i hi => by
    obtain ⟨d, h1, h2⟩ := hd i hi
    rw [h2, ix_nI (by omega)]
    exact ⟨rfl, h1⟩
  have a1 := sm_N (f := fun k => deb (6 * w + k)) (d := fun k => ix (deb (6 * w + k))) 6 (fun k hk => (e _ (by omega)).1)
  have a2 := sm_N (f := fun k => deb (6 * k + w)) (d := fun k => ix (deb (6 * k + w))) 6 (fun k hk => (e _ (by omega)).1)
  have b1 := smN_b (d := fun k => ix (deb (6 * w + k))) 6 (fun k hk => (e _ (by omega)).2)
  have b2 := smN_b (d := fun k => ix (deb (6 * k + w))) 6 (fun k hk => (e _ (by omega)).2)
  have c : (bv deb w).toInt = (smN (fun k => ix (deb (6 * w + k))) 6 : Int) - smN (fun k => ix (deb (6 * k + w))) 6 := by
    unfold bv
    rw [a1, a2, pk_sub_toInt (by omega) (by omega)]
  exact ⟨c, by omega, by omega⟩
theorem bv_sum {deb : Nat → Int32} (hd : ∀ i, i < 36 → ∃ d, d ≤ 9999 ∧ deb i = nI d) : sz (bv deb) 6 = 0 := by
  have h0 := (bv_I hd (show 0 < 6 by decide)).1
  have h1 := (bv_I hd (show 1 < 6 by decide)).1
  have h2 := (bv_I hd (show 2 < 6 by decide)).1
  have h3 := (bv_I hd (show 3 < 6 by decide)).1
  have h4 := (bv_I hd (show 4 < 6 by decide)).1
  have h5 := (bv_I hd (show 5 < 6 by decide)).1
  simp only [smN] at h0 h1 h2 h3 h4 h5
  simp only [sz]
  omega
theorem bv_0 {deb : Nat → Int32} {n : Nat} (hz : ∀ a b, a < 6 → b < 6 → n ≤ a ∨ n ≤ b ∨ a = b → deb (6 * a + b) = 0) {w : Nat} (h1 : n ≤ w) (h2 : w < 6) : bv deb w = 0 := by
  have a1 := sm_N (f := fun k => deb (6 * w + k)) (d := fun _ => 0) 6 (fun k hk => hz w k h2 hk (Or.inl h1))
  have a2 := sm_N (f := fun k => deb (6 * k + w)) (d := fun _ => 0) 6 (fun k hk => hz k w hk h2 (Or.inr (Or.inl h1)))
  unfold bv
  rw [a1, a2]
  decide
theorem sz_congr {f g : Nat → Int32} : ∀ n, (∀ w, w < n → f w = g w) → sz f n = sz g n
  | 0, _ => rfl
  | n + 1, h => by
    change sz f n + (f n).toInt = sz g n + (g n).toInt
    rw [sz_congr n (fun w hw => h w (by omega)), h n (by omega)]
section NET
variable {B n : Nat} {hour : Int32} {dep arr deb bay : Nat → Int32}
theorem led_bal (hL : LedR B n hour dep arr deb bay) (hn : n ≤ 6) (hb : bay 1 = nI n) {w : Nat} (hw : w < n) : f_X3_balance deb (nI w) = some (bv deb w) ∧ f_X9_balanceOf bay (nI w) = some (bv deb w) := by
  obtain ⟨-, -, l4, l5⟩ := hL
  have b8 := bal8 (deb := deb) (show w < 6 by omega)
  refine ⟨b8, ?_⟩
  rw [bal9 hn hb hw (fun i hi => (l4 i hi).1) (fun a b h1 h2 h3 => l5 a b h1 h2 (by omega))]
  exact b8
theorem can0_L (hn : n ≤ 6) (hb : bay 1 = nI n) : ∀ (m i f : Nat), i + m = n → m < f → f_X9_canNet_L4 bay f 0 (nI i) = some 0 := by
  intro m
  induction m with
  | zero =>
    intro i f hi hf
    obtain ⟨f, rfl⟩ : ∃ f', f = f' + 1 := ⟨f - 1, by omega⟩
    rw [f_X9_canNet_L4_s, hb, if_pos (by rw [nI_leI (by omega) (by omega)]; omega)]
  | succ m ih =>
    intro i f hi hf
    obtain ⟨f, rfl⟩ : ∃ f', f = f' + 1 := ⟨f - 1, by omega⟩
    rw [f_X9_canNet_L4_s, hb, if_neg (by rw [nI_leI (by omega) (by omega)]; omega), if_pos rfl, nI_1]
    exact ih (i + 1) f (by omega) (by omega)
theorem can_L (hL : LedR B n hour dep arr deb bay) (hn : n ≤ 6) (hb : bay 1 = nI n) : ∀ (m i f g : Nat), i + m = n → m < f → m < g → (f_X4_canBe_L2 dep deb (nI n) f (nI i) = some 1 ∧ f_X9_canNet_L4 bay g 1 (nI i) = some 1 ∧ ∀ w, i ≤ w → w < n → (bv deb w).toInt ≤ (dep w).toInt) ∨ (f_X4_canBe_L2 dep deb (nI n) f (nI i) = some 0 ∧ f_X9_canNet_L4 bay g 1 (nI i) = some 0) := by
  intro m
  induction m with
  | zero =>
    intro i f g hi hf hg
    obtain ⟨f, rfl⟩ : ∃ f', f = f' + 1 := ⟨f - 1, by omega⟩
    obtain ⟨g, rfl⟩ : ∃ f', g = f' + 1 := ⟨g - 1, by omega⟩
    have c : nI n ≤ nI i := by rw [nI_leI (by omega) (by omega)]; omega
    exact Or.inl ⟨by rw [f_X4_canBe_L2_s, if_pos c], by rw [f_X9_canNet_L4_s, hb, if_pos c], fun w h1 h2 => absurd h1 (by omega)⟩
  | succ m ih =>
    intro i f g hi hf hg
    obtain ⟨f, rfl⟩ : ∃ f', f = f' + 1 := ⟨f - 1, by omega⟩
    obtain ⟨g, rfl⟩ : ∃ f', g = f' + 1 := ⟨g - 1, by omega⟩
    have c : ¬ nI n ≤ nI i := by rw [nI_leI (by omega) (by omega)]; omega
    obtain ⟨b8, b9⟩ := led_bal hL hn hb (show i < n by omega)
    obtain ⟨-, l3, -, -⟩ := id hL
    have ed := (l3 i (by omega)).1
    by_cases q : bv deb i ≤ dep i
    · have q' : ¬ bay (16 + 4 * i) < bv deb i := fun z => by
        rw [← ed] at z
        have z1 := i32_lt.mp z
        have z2 := i32_le.mp q
        omega
      have e8 : f_X4_canBe_L2 dep deb (nI n) (f + 1) (nI i) = f_X4_canBe_L2 dep deb (nI n) f (nI (i + 1)) := by
        rw [f_X4_canBe_L2_s, if_neg c, gd_k (inb_nI (by omega) (by decide)), b8, bd_s, ix_nI (by omega), if_pos q, nI_1]
      have e9 : f_X9_canNet_L4 bay (g + 1) 1 (nI i) = f_X9_canNet_L4 bay g 1 (nI (i + 1)) := by
        rw [f_X9_canNet_L4_s, hb, if_neg c, if10, at1, bd_s, gd_k (inb_nI (by omega) (by decide)), b9, bd_s, ix_nI (by omega), if_neg q', nI_1]
      rw [e8, e9]
      rcases ih (i + 1) f g (by omega) (by omega) (by omega) with ⟨h1, h2, h3⟩ | h
      · refine Or.inl ⟨h1, h2, fun w z1 z2 => ?_⟩
        by_cases z : w = i
        · subst z; exact i32_le.mp q
        · exact h3 w (by omega) z2
      · exact Or.inr h
    · have q' : bay (16 + 4 * i) < bv deb i := i32_lt.mpr (by
        rw [← ed]
        have z : ¬ (bv deb i).toInt ≤ (dep i).toInt := fun z => q (i32_le.mpr z)
        omega)
      refine Or.inr ⟨?_, ?_⟩
      · rw [f_X4_canBe_L2_s, if_neg c, gd_k (inb_nI (by omega) (by decide)), b8, bd_s, ix_nI (by omega), if_neg q]
      · rw [f_X9_canNet_L4_s, hb, if_neg c, if10, at1, bd_s, gd_k (inb_nI (by omega) (by decide)), b9, bd_s, ix_nI (by omega), if_pos q', nI_1]
        exact can0_L hn hb m (i + 1) g (by omega) (by omega)
theorem can_R (hL : LedR B n hour dep arr deb bay) (hn : n ≤ 6) (hb : bay 1 = nI n) : (f_X4_canBe dep deb (nI n) = some 1 ∧ f_X9_canNet bay = some 1 ∧ ∀ w, w < n → (bv deb w).toInt ≤ (dep w).toInt) ∨ (f_X4_canBe dep deb (nI n) = some 0 ∧ f_X9_canNet bay = some 0) := by
  have h := can_L hL hn hb n 0 2000 2000 (by omega) (by omega) (by omega)
  rw [show nI 0 = 0 from rfl] at h
  rcases h with ⟨h1, h2, h3⟩ | ⟨h1, h2⟩
  · exact Or.inl ⟨h1, by simp only [f_X9_canNet, h2, bd_s, gd_k (show isz 1 = true by decide)] <;> rfl, fun w hw => h3 w (by omega) hw⟩
  · exact Or.inr ⟨h1, by simp only [f_X9_canNet, h2, bd_s, gd_k (show isz 0 = true by decide)] <;> rfl⟩
theorem work_L (hL : LedR B n hour dep arr deb bay) (hn : n ≤ 6) (hb : bay 1 = nI n) : ∀ (m i f : Nat) (bal : Nat → Int32), i + m = n → m < f → f_X4_workOut_L10 deb (nI n) f bal (nI i) = some (fun w => if i ≤ w ∧ w < n then bv deb w else bal w) := by
  intro m
  induction m with
  | zero =>
    intro i f bal hi hf
    obtain ⟨f, rfl⟩ : ∃ f', f = f' + 1 := ⟨f - 1, by omega⟩
    rw [f_X4_workOut_L10_s, if_pos (by rw [nI_leI (by omega) (by omega)]; omega)]
    congr 1
    funext w
    rw [if_neg (by omega)]
  | succ m ih =>
    intro i f bal hi hf
    obtain ⟨f, rfl⟩ : ∃ f', f = f' + 1 := ⟨f - 1, by omega⟩
    rw [f_X4_workOut_L10_s, if_neg (by rw [nI_leI (by omega) (by omega)]; omega), (led_bal hL hn hb (show i < n by omega)).1, bd_s, gd_k (inb_nI (by omega) (by decide)), ix_nI (by omega), nI_1, ih (i + 1) f _ (by omega) (by omega)]
    congr 1
    funext w
    by_cases h2 : w = i
    · subst h2
      rw [upd_s, if_neg (by omega), if_pos (by omega)]
    · rw [upd_n _ _ h2]
      by_cases h1 : i ≤ w ∧ w < n
      · rw [if_pos h1, if_pos (by omega)]
      · rw [if_neg h1, if_neg (by omega)]
theorem layg_L (hL : LedR B n hour dep arr deb bay) (hn : n ≤ 6) (hb : bay 1 = nI n) : ∀ (m i f : Nat) (left : Nat → Int32), i + m = n → m < f → f_X9_layGifts_L7 bay f left (nI i) = some (fun w => if i ≤ w ∧ w < n then bv deb w else left w) := by
  intro m
  induction m with
  | zero =>
    intro i f bal hi hf
    obtain ⟨f, rfl⟩ : ∃ f', f = f' + 1 := ⟨f - 1, by omega⟩
    rw [f_X9_layGifts_L7_s, hb, if_pos (by rw [nI_leI (by omega) (by omega)]; omega)]
    congr 1
    funext w
    rw [if_neg (by omega)]
  | succ m ih =>
    intro i f bal hi hf
    obtain ⟨f, rfl⟩ : ∃ f', f = f' + 1 := ⟨f - 1, by omega⟩
    rw [f_X9_layGifts_L7_s, hb, if_neg (by rw [nI_leI (by omega) (by omega)]; omega), (led_bal hL hn hb (show i < n by omega)).2, bd_s, gd_k (inb_nI (by omega) (by decide)), ix_nI (by omega), nI_1, ih (i + 1) f _ (by omega) (by omega)]
    congr 1
    funext w
    by_cases h2 : w = i
    · subst h2
      rw [upd_s, if_neg (by omega), if_pos (by omega)]
    · rw [upd_n _ _ h2]
      by_cases h1 : i ≤ w ∧ w < n
      · rw [if_pos h1, if_pos (by omega)]
      · rw [if_neg h1, if_neg (by omega)]
theorem net_R (hL : LedR B n hour dep arr deb bay) (hn : n ≤ 6) (hb : bay 1 = nI n) (gft gifts : Int32) (bal giv tak inc left gift : Nat → Int32) : ∃ k bal0 bal' left' giv' tak' inc' gift', f_X4_workOut gft bal giv tak inc deb (nI n) = some (nI k, bal', giv', tak', inc') ∧ f_X9_layGifts gifts bay left gift = some (nI k, left', gift') ∧ k ≤ 6 ∧ (∀ t, t < k → giv' t = gift' (3 * t) ∧ tak' t = gift' (3 * t + 1) ∧ inc' t = gift' (3 * t + 2)) ∧ Chain n giv' tak' inc' k 0 bal0 ∧ ∀ w, w < 6 → bal0 w = bv deb w := by
  obtain ⟨-, -, l4, l5⟩ := id hL
  have hd : ∀ i, i < 36 → ∃ d, d ≤ 9999 ∧ deb i = nI d := fun i hi => (l4 i hi).2
  have W := work_L hL hn hb n 0 2000 (fun k => if k < 6 then 0 else bal k) (by omega) (by omega)
  have Y := layg_L hL hn hb n 0 2000 left (by omega) (by omega)
  rw [show nI 0 = 0 from rfl] at W Y
  have e0 : ∀ w, w < 6 → (fun w => if 0 ≤ w ∧ w < n then bv deb w else (fun k => if k < 6 then (0 : Int32) else bal k) w) w = bv deb w := fun w hw => by
    dsimp only
    by_cases c : w < n
    · rw [if_pos ⟨Nat.zero_le w, c⟩]
    · rw [if_neg (by omega), if_pos hw, bv_0 l5 (by omega) hw]
  have hQ : NetQ n (fun w => if 0 ≤ w ∧ w < n then bv deb w else (fun k => if k < 6 then (0 : Int32) else bal k) w) (fun w => if 0 ≤ w ∧ w < n then bv deb w else left w) := by
    refine ⟨fun w hw => ?_, fun w h1 h2 => ?_, fun w hw => ?_⟩
    · rw [e0 w (by omega)]; dsimp only; rw [if_pos ⟨Nat.zero_le w, hw⟩]
    · rw [e0 w h2]; exact bv_0 l5 h1 h2
    · rw [e0 w hw]; exact (bv_I hd hw).2
  obtain ⟨x1, hx1⟩ : ∃ z, f_X9_firstWith bay (fun w => if 0 ≤ w ∧ w < n then bv deb w else left w) 1 = some z := by
    rcases firstP hn hb hQ with ⟨w, -, -, -, h⟩ | ⟨-, -, h⟩
    · exact ⟨_, h⟩
    · exact ⟨_, h⟩
  obtain ⟨k, bal', left', giv', tak', inc', gift', j1, j2, j3, -, j5, j6⟩ := gifts_L hn hb 6 0 2000 2000 _ _ giv tak inc gift x1 (by omega) (by omega) (by omega) hQ (by rw [sz_congr 6 e0]; exact bv_sum hd) (by have := cz_le (f := fun w => if 0 ≤ w ∧ w < n then bv deb w else (fun k => if k < 6 then (0 : Int32) else bal k) w) 6; omega) hx1 (fun t ht => absurd ht (by omega))
  rw [Nat.zero_add] at j1 j2 j3 j5
  rw [show nI 0 = 0 from rfl] at j1 j2
  exact ⟨k, _, bal', left', giv', tak', inc', gift', by simp only [f_X4_workOut, fill_eq 6 bal 0 (by decide), bd_s, W, j1] <;> rfl, by simp only [f_X9_layGifts, Y, bd_s, hx1, j2] <;> rfl, j3, j5, j6, e0⟩
end NET
theorem op_net {B n : Nat} {sta wat : Int32} {lev kin sil : Nat → Int32} {hour : Int32} {dep arr deb bay : Nat → Int32} (thrown gft gifts : Int32) (bal giv tak inc left gift : Nat → Int32) (p1 p2 : Int32) (hC : ChartR n sta wat lev kin sil bay) (hL : LedR B n hour dep arr deb bay) :
    ∃ r gft' bal' giv' tak' inc' thrown' gifts' left' gift', f_X8_net sta wat dep deb gft bal giv tak inc p1 p2 = some (r, gft', bal', giv', tak', inc') ∧ f_X9_net thrown gifts bay left gift p1 p2 = some (r, thrown', gifts', left', gift') := by
  obtain ⟨⟨c0, cs⟩, ⟨c1, hw, hn⟩, -, -⟩ := id hC
  rw [hw] at c1
  by_cases hs : sta = 0
  · have e9 : f_X9_isThere bay = some 0 := by unfold f_X9_isThere; rw [c0, hs] <;> rfl
    exact ⟨-1000002, _, _, _, _, _, 0, _, _, _, by simp only [f_X8_net, if_pos hs] <;> rfl, by simp only [f_X9_net, e9, bd_s, if_true] <;> rfl⟩
  have e9 : f_X9_isThere bay = some 1 := by
    unfold f_X9_isThere
    rcases cs with q | q
    · rw [c0, q] <;> rfl
    · exact absurd q.1 hs
  by_cases k1 : p1 < -2
  · exact ⟨-1000001, _, _, _, _, _, 0, _, _, _, by simp only [f_X8_net, if_neg hs, if_pos k1] <;> rfl, by simp only [f_X9_net, e9, bd_s, if10, if_pos k1] <;> rfl⟩
  rcases rng p2 0 2 0 2 rfl rfl (by decide) with ⟨t, ht1, ht2, rfl, e2⟩ | ⟨e2, ht⟩
  rotate_left
  · refine ⟨-1000001, gft, bal, giv, tak, inc, 0, gifts, left, gift, ?_, by simp only [f_X9_net, e9, bd_s, if10, if_neg k1, e2, if_true] <;> rfl⟩
    rcases bad2 (0 : Int32) (2 : Int32) rfl rfl ht with q | ⟨q, q'⟩
    · simp only [f_X8_net, if_neg hs, if_neg k1, if_pos q]
    · simp only [f_X8_net, if_neg hs, if_neg k1, if_neg q, if_neg (not_le_lt q')]
  have t1 : ¬ nI t < 0 := nI_pos (by omega)
  have t2 : nI t ≤ 2 := by rw [show (2 : Int32) = nI 2 from rfl, nI_leI (by omega) (by omega)]; omega
  by_cases k2 : p1 = -2
  · rcases can_R hL hn c1 with ⟨h8, h9, -⟩ | ⟨h8, h9⟩
    · exact ⟨1, _, _, _, _, _, 0, _, _, _, by simp only [f_X8_net, if_neg hs, if_neg k1, if_neg t1, if_pos t2, if_pos k2, hw, h8, bd_s, if10] <;> rfl, by simp only [f_X9_net, e9, bd_s, if10, if_neg k1, e2, if_pos k2, h9] <;> rfl⟩
    · exact ⟨0, _, _, _, _, _, 0, _, _, _, by simp only [f_X8_net, if_neg hs, if_neg k1, if_neg t1, if_pos t2, if_pos k2, hw, h8, bd_s, if_true] <;> rfl, by simp only [f_X9_net, e9, bd_s, if10, if_neg k1, e2, if_pos k2, h9, if_true] <;> rfl⟩
  obtain ⟨k, bal0, bal', left', giv', tak', inc', gift', w8, w9, hk6, hG, -, -⟩ := net_R hL hn c1 gft gifts bal giv tak inc left gift
  by_cases k3 : p1 = -1
  · exact ⟨nI k, _, _, _, _, _, 0, _, _, _, by simp only [f_X8_net, if_neg hs, if_neg k1, if_neg t1, if_pos t2, if_neg k2, hw, w8, bd_s, if_pos k3] <;> rfl, by simp only [f_X9_net, e9, bd_s, if10, if_neg k1, e2, if_neg k2, w9, if_pos k3] <;> rfl⟩
  have hp : 0 ≤ p1.toInt := by
    have a1 : ¬ p1.toInt < -2 := fun z => k1 (i32_lt.mpr z)
    have a2 : ¬ p1.toInt = -2 := fun z => k2 (i32_eq.mpr z)
    have a3 : ¬ p1.toInt = -1 := fun z => k3 (i32_eq.mpr z)
    omega
  have hp0 : ¬ p1 < 0 := fun z => by have := lt0.mp z; omega
  obtain ⟨j, hj, rfl⟩ := nI_of hp0
  by_cases q : j < k
  · have q8 : nI j < nI k := nI_lt q (by omega)
    have q9 : ¬ nI k ≤ nI j := nI_ge q (by omega)
    obtain ⟨G1, G2, G3⟩ := hG j q
    have g6 : ∀ {α : Type} (x : Option α), gd (inb (nI j) 6) x = x := fun x => gd_k (inb_nI (by omega) (by decide)) x
    have x6 := ix_nI (show j < 2 ^ 31 by omega)
    have e3 : 3 * nI j + nI t = nI (3 * j + t) := by rw [show (3 : Int32) = nI 3 from rfl, pk_mul, nI_add]
    have g36 : ∀ {α : Type} (x : Option α), gd (inb (nI (3 * j + t)) 36) x = x := fun x => gd_k (inb_nI (by omega) (by decide)) x
    have x36 := ix_nI (show 3 * j + t < 2 ^ 31 by omega)
    have R9 : f_X9_net thrown gifts bay left gift (nI j) (nI t) = some (gift' (3 * j + t), 0, nI k, left', gift') := by simp only [f_X9_net, e9, bd_s, if10, if_neg k1, e2, if_neg k2, w9, if_neg k3, if_neg q9, e3, g36, x36]
    refine ⟨gift' (3 * j + t), nI k, bal', giv', tak', inc', 0, nI k, left', gift', ?_, R9⟩
    rcases (show t = 0 ∨ t = 1 ∨ t = 2 by omega) with rfl | rfl | rfl
    · simp only [f_X8_net, if_neg hs, if_neg k1, if_neg t1, if_pos t2, if_neg k2, hw, w8, bd_s, if_neg k3, f_X4_tell, if_neg hp0, if_pos q8, if_pos (show nI 0 = 0 from rfl), g6, x6, G1, Nat.add_zero]
    · simp only [f_X8_net, if_neg hs, if_neg k1, if_neg t1, if_pos t2, if_neg k2, hw, w8, bd_s, if_neg k3, f_X4_tell, if_neg hp0, if_pos q8, if_neg (show ¬ nI 1 = 0 by decide), if_pos (show nI 1 = 1 from rfl), g6, x6, G2]
    · simp only [f_X8_net, if_neg hs, if_neg k1, if_neg t1, if_pos t2, if_neg k2, hw, w8, bd_s, if_neg k3, f_X4_tell, if_neg hp0, if_pos q8, if_neg (show ¬ nI 2 = 0 by decide), if_neg (show ¬ nI 2 = 1 by decide), g6, x6, G3]
  · have q8 : ¬ nI j < nI k := nI_nlt (by omega) (by omega)
    have q9 : nI k ≤ nI j := nI_le (by omega) (by omega)
    exact ⟨-1000000, _, _, _, _, _, 0, _, _, _, by simp only [f_X8_net, if_neg hs, if_neg k1, if_neg t1, if_pos t2, if_neg k2, hw, w8, bd_s, if_neg k3, f_X4_tell, if_neg hp0, if_neg q8] <;> rfl, by simp only [f_X9_net, e9, bd_s, if10, if_neg k1, e2, if_neg k2, w9, if_neg k3, if_pos q9] <;> rfl⟩
theorem moves_L {n K : Nat} {sta wat : Int32} {lev kin sil : Nat → Int32} {hour : Int32} {arr deb : Nat → Int32} {giv tak inc gift : Nat → Int32} (hn : n ≤ 6) (hK : K ≤ 6) (hG : ∀ t, t < K → giv t = gift (3 * t) ∧ tak t = gift (3 * t + 1) ∧ inc t = gift (3 * t + 2)) : ∀ (m s f g B : Nat) (bal dep bay : Nat → Int32) (t : Int32) (M : Int), s + m = K → m < f → m < g → B + 60000 * m < 2 ^ 29 → 0 ≤ M → M + 60000 * m < 1000000 → Chain n giv tak inc m s bal → (∀ w, w < 6 → -M ≤ (bal w).toInt ∧ (bal w).toInt ≤ M ∧ (bal w).toInt ≤ (dep w).toInt) → ChartR n sta wat lev kin sil bay → LedR B n hour dep arr deb bay →
    ∃ dep' bay' t', f_X4_moveAll_L4 (nI K) giv tak inc f dep t (nI s) = some (dep', t') ∧ f_X9_settle_L34 (nI K) gift g bay t (nI s) = some (bay', t') ∧ ChartR n sta wat lev kin sil bay' ∧ LedR (B + 60000 * m) n hour dep' arr deb bay' := by
  intro m
  induction m with
  | zero =>
    intro s f g B bal dep bay t M hs hf hg hB hM0 hM hCh hbd hC hL
    obtain ⟨f, rfl⟩ : ∃ f', f = f' + 1 := ⟨f - 1, by omega⟩
    obtain ⟨g, rfl⟩ : ∃ f', g = f' + 1 := ⟨g - 1, by omega⟩
    have c : nI K ≤ nI s := nI_le (by omega) (by omega)
    exact ⟨dep, bay, t, by rw [f_X4_moveAll_L4_s, if_pos c], by rw [f_X9_settle_L34_s, if_pos c], hC, hL⟩
  | succ m ih =>
    intro s f g B bal dep bay t M hs hf hg hB hM0 hM hCh hbd hC hL
    obtain ⟨f, rfl⟩ : ∃ f', f = f' + 1 := ⟨f - 1, by omega⟩
    obtain ⟨g, rfl⟩ : ∃ f', g = f' + 1 := ⟨g - 1, by omega⟩
    have c : ¬ nI K ≤ nI s := nI_ge (by omega) (by omega)
    obtain ⟨a, b, x, ha, hb, g1, g2, g3, hx, hxa, hCh'⟩ := hCh
    obtain ⟨G1, G2, G3⟩ := hG s (by omega)
    obtain ⟨-, l3, -, -⟩ := id hL
    obtain ⟨-, ⟨da, hda, eda⟩, -⟩ := l3 a (by omega)
    have za := hbd a (by omega)
    have zb := hbd b (by omega)
    have Ida : (dep a).toInt = (da : Int) := by rw [eda, nI_toInt (by omega)]
    have xI : (nI x).toInt = (x : Int) := nI_toInt (by omega)
    have hxd : x ≤ da := by omega
    have hL' := LedR_move (k := x) hL hn ha hb eda hda hxd
    have hC' : ChartR n sta wat lev kin sil (upd (upd bay (16 + 4 * a) (bay (16 + 4 * a) - nI x)) (16 + 4 * b) (upd bay (16 + 4 * a) (bay (16 + 4 * a) - nI x) (16 + 4 * b) + nI x)) := ChartR_c hC (fun q h1 h2 h3 => by rw [upd_n _ _ (h3 b (by omega)).1, upd_n _ _ (h3 a (by omega)).1])
    have hbd' : ∀ w, w < 6 → -(M + 60000) ≤ (upd (upd bal a (bal a - nI x)) b (upd bal a (bal a - nI x) b + nI x) w).toInt ∧ (upd (upd bal a (bal a - nI x)) b (upd bal a (bal a - nI x) b + nI x) w).toInt ≤ M + 60000 ∧ (upd (upd bal a (bal a - nI x)) b (upd bal a (bal a - nI x) b + nI x) w).toInt ≤ (upd (upd dep a (dep a - nI x)) b (upd dep a (dep a - nI x) b + nI x) w).toInt := by
      intro w hw
      obtain ⟨-, ⟨dw, hdw, edw⟩, -⟩ := l3 w hw
      obtain ⟨-, ⟨db, hdb, edb⟩, -⟩ := l3 b (by omega)
      have Idw : (dep w).toInt = (dw : Int) := by rw [edw, nI_toInt (by omega)]
      have Idb : (dep b).toInt = (db : Int) := by rw [edb, nI_toInt (by omega)]
      have zw := hbd w hw
      have vA : (bal a - nI x).toInt = (bal a).toInt - x := by rw [tI_sub (by omega) (by omega), xI]
      have vB : (bal b + nI x).toInt = (bal b).toInt + x := by rw [tI_add (by omega) (by omega), xI]
      have uA : (dep a - nI x).toInt = (dep a).toInt - x := by rw [tI_sub (by omega) (by omega), xI]
      have uB : (dep b + nI x).toInt = (dep b).toInt + x := by rw [tI_add (by omega) (by omega), xI]
      by_cases c1 : w = b
      · subst c1
        rw [upd_s, upd_s]
        by_cases c2 : w = a
        · subst c2
          rw [upd_s, upd_s, tI_add (by omega) (by omega), tI_add (by omega) (by omega), vA, uA, xI]
          omega
        · rw [upd_n _ _ c2, upd_n _ _ c2, vB, uB]
          omega
      · rw [upd_n _ _ c1, upd_n _ _ c1]
        by_cases c2 : w = a
        · subst c2
          rw [upd_s, upd_s, vA, uA]
          omega
        · rw [upd_n _ _ c2, upd_n _ _ c2]
          omega
    obtain ⟨dep', bay', t', j1, j2, j3, j4⟩ := ih (s + 1) f g (B + 60000) _ _ _ (t + nI x) (M + 60000) (by omega) (by omega) (by omega) (by omega) (by omega) (by omega) hCh' hbd' hC' (LedR_mono hL' (by omega))
    have e3 : 3 * nI s = nI (3 * s) := by rw [show (3 : Int32) = nI 3 from rfl, pk_mul]
    have e31 : nI (3 * s) + 1 = nI (3 * s + 1) := nI_1 _
    have e32 : nI (3 * s) + 2 = nI (3 * s + 2) := by rw [show (2 : Int32) = nI 2 from rfl, nI_add]
    refine ⟨dep', bay', t', ?_, ?_, j3, LedR_mono j4 (by omega)⟩
    · rw [f_X4_moveAll_L4_s, if_neg c, gd_k (inb_nI (by omega) (by decide)), ix_nI (by omega), g1, g2, g3, move8 dep (nI x) (by omega) (by omega), bd_s, nI_1]
      exact j1
    · have G1' : gift (3 * s) = nI a := G1.symm.trans g1
      have G2' : gift (3 * s + 1) = nI b := G2.symm.trans g2
      have G3' : gift (3 * s + 2) = nI x := G3.symm.trans g3
      rw [f_X9_settle_L34_s, if_neg c, e3, e31, e32]
      simp only [gd_k (inb_nI (show 3 * s < 36 by omega) (by decide)), gd_k (inb_nI (show 3 * s + 1 < 36 by omega) (by decide)), gd_k (inb_nI (show 3 * s + 2 < 36 by omega) (by decide)), ix_nI (show 3 * s < 2 ^ 31 by omega), ix_nI (show 3 * s + 1 < 2 ^ 31 by omega), ix_nI (show 3 * s + 2 < 2 ^ 31 by omega), G1', G2', G3', at1, bd_s, gd_k (inb_nI (show 16 + 4 * a < 75 by omega) (by decide)), gd_k (inb_nI (show 16 + 4 * b < 75 by omega) (by decide)), ix_nI (show 16 + 4 * a < 2 ^ 31 by omega), ix_nI (show 16 + 4 * b < 2 ^ 31 by omega), nI_1]
      exact j2
theorem zero9_L : ∀ (m i f : Nat) (bay : Nat → Int32), i + m = 75 → m < f → f_X9_settle_L126 f bay (nI i) = some (fun q => if i ≤ q ∧ q < 75 then 0 else bay q) := by
  intro m
  induction m with
  | zero =>
    intro i f bay hi hf
    obtain ⟨f, rfl⟩ : ∃ f', f = f' + 1 := ⟨f - 1, by omega⟩
    rw [f_X9_settle_L126_s, if_pos (by rw [show (75 : Int32) = nI 75 from rfl, nI_leI (by omega) (by omega)]; omega)]
    congr 1
    funext q
    rw [if_neg (by omega)]
  | succ m ih =>
    intro i f bay hi hf
    obtain ⟨f, rfl⟩ : ∃ f', f = f' + 1 := ⟨f - 1, by omega⟩
    rw [f_X9_settle_L126_s, if_neg (by rw [show (75 : Int32) = nI 75 from rfl, nI_leI (by omega) (by omega)]; omega), gd_k (inb_nI (by omega) (by decide)), ix_nI (by omega), nI_1, ih (i + 1) f _ (by omega) (by omega)]
    congr 1
    funext q
    by_cases h2 : q = i
    · subst h2
      rw [upd_s, if_neg (by omega), if_pos (by omega)]
    · rw [upd_n _ _ h2]
      by_cases h1 : i ≤ q ∧ q < 75
      · rw [if_pos h1, if_pos (by omega)]
      · rw [if_neg h1, if_neg (by omega)]
theorem op_settle {B n : Nat} {sta wat : Int32} {lev kin sil : Nat → Int32} {hour : Int32} {dep arr deb bay : Nat → Int32} {nxt kep : Int32} {r_hour : Nat → Int32} {r_dep r_arr r_deb : Nat → Nat → Int32} {acts : Int32} {was : Nat → Int32} (thrown gft gifts : Int32) (bal giv tak inc left gift : Nat → Int32) (hB : B < 2 ^ 28) (hC : ChartR n sta wat lev kin sil bay) (hL : LedR B n hour dep arr deb bay) (hR : RingR B n sta wat lev kin sil nxt kep r_hour r_dep r_arr r_deb acts was) :
    ∃ r dep' deb' nxt' kep' gft' bal' giv' tak' inc' r_hour' r_dep' r_arr' r_deb' thrown' acts' gifts' bay' was' left' gift', f_X8_settle sta wat hour dep arr deb nxt kep gft bal giv tak inc r_hour r_dep r_arr r_deb = some (r, dep', deb', nxt', kep', gft', bal', giv', tak', inc', r_hour', r_dep', r_arr', r_deb') ∧ f_X9_settle thrown acts gifts bay was left gift = some (r, thrown', acts', gifts', bay', was', left', gift') ∧ ChartR n sta wat lev kin sil bay' ∧ LedR (B + 360000) n hour dep' arr deb' bay' ∧ RingR (B + 360000) n sta wat lev kin sil nxt' kep' r_hour' r_dep' r_arr' r_deb' acts' was' := by
  obtain ⟨⟨c0, cs⟩, ⟨c1, hw, hn⟩, -, -⟩ := id hC
  rw [hw] at c1
  by_cases hs : sta = 0
  · have e9 : f_X9_isThere bay = some 0 := by unfold f_X9_isThere; rw [c0, hs] <;> rfl
    exact ⟨-1000002, _, _, _, _, _, _, _, _, _, _, _, _, _, 0, _, _, _, _, _, _, by simp only [f_X8_settle, if_pos hs] <;> rfl, by simp only [f_X9_settle, e9, bd_s, if_true] <;> rfl, hC, LedR_mono hL (by omega), RingR_mono hR (by omega)⟩
  have e9 : f_X9_isThere bay = some 1 := by
    unfold f_X9_isThere
    rcases cs with q | q
    · rw [c0, q] <;> rfl
    · exact absurd q.1 hs
  rcases can_R hL hn c1 with ⟨h8, h9, hcan⟩ | ⟨h8, h9⟩
  rotate_left
  · exact ⟨-1000002, _, _, _, _, _, _, _, _, _, _, _, _, _, 0, _, _, _, _, _, _, by simp only [f_X8_settle, if_neg hs, hw, h8, bd_s, if_true] <;> rfl, by simp only [f_X9_settle, e9, bd_s, if10, h9, if_true] <;> rfl, hC, LedR_mono hL (by omega), RingR_mono hR (by omega)⟩
  obtain ⟨nxt', kep', rh', rd', ra', rb', acts', was', k8, k9, kR⟩ := op_keep hC hL hR
  obtain ⟨k, bal0, bal', left', giv', tak', inc', gift', w8, w9, hk6, hG, hCh, hb0⟩ := net_R hL hn c1 gft gifts bal giv tak inc left gift
  obtain ⟨-, l3, l4, l5⟩ := id hL
  have hd : ∀ i, i < 36 → ∃ d, d ≤ 9999 ∧ deb i = nI d := fun i hi => (l4 i hi).2
  obtain ⟨dep', bay', t', m1, m2, m3, m4⟩ := moves_L hn hk6 hG k 0 2000 2000 B bal0 dep bay 0 60000 (by omega) (by omega) (by omega) (by omega) (by omega) (by omega) hCh (fun w hw => by
    rw [hb0 w hw]
    obtain ⟨-, z2, z3⟩ := bv_I hd hw
    refine ⟨z2, z3, ?_⟩
    by_cases c : w < n
    · exact hcan w c
    · rw [bv_0 l5 (by omega) hw]
      obtain ⟨-, ⟨d, hd1, hd2⟩, -⟩ := l3 w hw
      rw [hd2, nI_toInt (by omega)]
      change (0 : Int) ≤ d
      omega) hC hL
  have Z := zero9_L 36 39 2000 bay' (by omega) (by omega)
  rw [show nI 39 = 39 from rfl] at Z
  rw [show nI 0 = 0 from rfl] at m1 m2
  refine ⟨t', _, _, _, _, _, _, _, _, _, _, _, _, _, 0, _, _, _, _, _, _, by simp only [f_X8_settle, if_neg hs, hw, h8, bd_s, if10, w8, k8, f_X4_moveAll, m1, fill_eq 36 deb 0 (by decide)] <;> rfl, by simp only [f_X9_settle, e9, bd_s, if10, h9, k9, w9, m2, Z] <;> rfl, ?_, ?_, RingR_mono kR (by omega)⟩
  · exact ChartR_c m3 (fun q h1 h2 h3 => by rw [if_neg (by omega)])
  · obtain ⟨⟨a1, h0, a2, a2'⟩, a3, a4, a5⟩ := m4
    refine ⟨⟨by dsimp only; rw [if_neg (by omega)]; exact a1, h0, by omega, a2'⟩, fun w hw => ?_, fun i hi => ?_, fun a b ha hb hab => ?_⟩
    · obtain ⟨y1, ⟨x, hx, ex⟩, y2, ⟨y, hy, ey⟩, y3⟩ := a3 w hw
      dsimp only
      rw [if_neg (by omega), if_neg (by omega)]
      exact ⟨y1, ⟨x, by omega, ex⟩, y2, ⟨y, by omega, ey⟩, y3⟩
    · dsimp only
      rw [if_pos hi, if_pos (by omega)]
      exact ⟨rfl, 0, by omega, rfl⟩
    · dsimp only
      rw [if_pos (by omega)]
