def TapeQ (n : Nat) (byt tape : Nat → Int32) : Prop := ∀ k, k < n → ∃ b, b < 256 ∧ tape k = nI b ∧ byt k = (nI b).toInt8.toInt32
def TapeR (len : Int32) (byt : Nat → Int32) (taped : Int32) (tape : Nat → Int32) : Prop := ∃ n, n ≤ 400 ∧ len = nI n ∧ taped = nI n ∧ TapeQ n byt tape
theorem nar_b (x : Int32) : vp_nar .byte x.toInt8.toInt32 = x.toInt8.toInt32 := by
  change x.toInt8.toInt32.toInt8.toInt32 = x.toInt8.toInt32
  simp
theorem pm1 (m : Nat) : nI (m + 1) - 1 = nI m := by
  rw [show (1 : Int32) = nI 1 from rfl, pk_sub (by omega)]
  rfl
theorem feed_L (v : Int64) : ∀ (m n f g : Nat) (byt tape : Nat → Int32), n + m ≤ 400 → m < f → m < g → TapeQ n byt tape → ∃ byt' tape', f_X7_write_L5 v f (nI n) byt (nI m - 1) = some (nI (n + m), byt') ∧ f_X9_feed_L40 v g (nI n) tape (nI m - 1) = some (nI (n + m), tape') ∧ TapeQ (n + m) byt' tape' := by
  intro m
  induction m with
  | zero =>
    intro n f g byt tape hn hf hg hq
    obtain ⟨f, rfl⟩ : ∃ f', f = f' + 1 := ⟨f - 1, by omega⟩
    obtain ⟨g, rfl⟩ : ∃ f', g = f' + 1 := ⟨g - 1, by omega⟩
    have h0 : nI 0 - 1 < 0 := by decide
    exact ⟨byt, tape, by rw [f_X7_write_L5_s, if_pos h0]; rfl, by rw [f_X9_feed_L40_s, if_pos h0]; rfl, hq⟩
  | succ m ih =>
    intro n f g byt tape hn hf hg hq
    obtain ⟨f, rfl⟩ : ∃ f', f = f' + 1 := ⟨f - 1, by omega⟩
    obtain ⟨g, rfl⟩ : ∃ f', g = f' + 1 := ⟨g - 1, by omega⟩
    have h0 : ¬ nI m < 0 := nI_pos (by omega)
    have h1 : ¬ (400 : Int32) ≤ nI n := by rw [show (400 : Int32) = nI 400 from rfl, nI_leI (by omega) (by omega)]; omega
    have g1 : ∀ {α : Type} (x : Option α), gd (inb (nI n) 400) x = x := fun x => gd_k (inb_nI (by omega) (by decide)) x
    have e1 : nI m + (-1) = nI m - 1 := by rw [Int32.sub_eq_add_neg]
    obtain ⟨b, hb, eb⟩ := byte_b (v >>> ((8 * nI m : Int32).toInt64 &&& 63))
    have es := byte_s (v >>> ((8 * nI m : Int32).toInt64 &&& 63))
    rw [eb] at es
    have hq' : TapeQ (n + 1) (upd byt n (nI b).toInt8.toInt32) (upd tape n (nI b)) := by
      intro k hk
      by_cases h : k = n
      · subst h
        exact ⟨b, hb, upd_s _ _ _, upd_s _ _ _⟩
      · rw [upd_n _ _ h, upd_n _ _ h]
        exact hq k (by omega)
    obtain ⟨byt', tape', k1, k2, k3⟩ := ih (n + 1) f g _ _ (by omega) (by omega) (by omega) hq'
    rw [show n + 1 + m = n + (m + 1) by omega] at k1 k2 k3
    refine ⟨byt', tape', ?_, ?_, k3⟩
    · rw [pm1, f_X7_write_L5_s, if_neg h0, if_neg h1, g1, ix_nI (by omega), nar_b, ← es, nI_1, e1]
      exact k1
    · rw [pm1, f_X9_feed_L40_s, if_neg h0, g1, ix_nI (by omega), eb, nI_1, e1]
      exact k2
theorem op_feed {len taped : Int32} {byt tape : Nat → Int32} (thrown : Int32) (v : Int64) (p : Int32) (hT : TapeR len byt taped tape) :
    ∃ (r len' taped' thrown' : Int32) (byt' tape' : Nat → Int32), f_X8_feed len byt v p = some (r, len', byt') ∧ f_X9_feed thrown taped tape v p = some (r, thrown', taped', tape') ∧ TapeR len' byt' taped' tape' := by
  have hT' := hT
  obtain ⟨n, hn, rfl, rfl, hq⟩ := hT
  have hin := in_eq p.toInt64 1 8
  rw [t64] at hin
  change f_X9_in p.toInt64 1 8 = some (if (1 : Int) ≤ p.toInt ∧ p.toInt ≤ 8 then 1 else 0) at hin
  by_cases h1 : p < 1
  · have h1' := i32_lt.mp h1
    change p.toInt < 1 at h1'
    rw [if_neg (by omega)] at hin
    exact ⟨-1000001, _, _, 0, byt, tape, by simp only [f_X8_feed, if_pos h1], by simp only [f_X9_feed, hin, bd_s, if_true], hT'⟩
  · have h1' : ¬ p.toInt < 1 := fun q => h1 (i32_lt.mpr q)
    by_cases h8 : p ≤ 8
    · have h8' := i32_le.mp h8
      change p.toInt ≤ 8 at h8'
      rw [if_pos (by omega)] at hin
      obtain ⟨m, hm, rfl⟩ := nI_of (x := p) (fun q => by have := lt0.mp q; omega)
      rw [nI_toInt hm] at h8' h1'
      by_cases h4 : nI n + nI m ≤ 400
      · have h4' : n + m ≤ 400 := by
          rw [nI_add, show (400 : Int32) = nI 400 from rfl, nI_leI (by omega) (by omega)] at h4
          exact h4
        obtain ⟨byt', tape', k1, k2, k3⟩ := feed_L v m n 2000 2000 byt tape h4' (by omega) (by omega) hq
        exact ⟨nI (n + m), nI (n + m), nI (n + m), 0, byt', tape', by simp only [f_X8_feed, if_neg h1, if_pos h8, if_pos h4, f_X7_write, k1, bd_s], by simp only [f_X9_feed, hin, bd_s, if10, if_pos h4, k2], ⟨n + m, h4', rfl, rfl, k3⟩⟩
      · exact ⟨-1000003, _, _, 0, byt, tape, by simp only [f_X8_feed, if_neg h1, if_pos h8, if_neg h4], by simp only [f_X9_feed, hin, bd_s, if10, if_neg h4], hT'⟩
    · have h8' : ¬ p.toInt ≤ 8 := fun q => h8 (i32_le.mpr q)
      rw [if_neg (by omega)] at hin
      exact ⟨-1000001, _, _, 0, byt, tape, by simp only [f_X8_feed, if_neg h1, if_neg h8], by simp only [f_X9_feed, hin, bd_s, if_true], hT'⟩
