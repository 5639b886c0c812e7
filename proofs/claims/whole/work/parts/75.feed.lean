/-! ===== trace, feed ===== -/
def TraceR (trc : Int32) (nrs : Nat → Int32) (traced : Int32) (trace : Nat → Int32) : Prop :=
  trc = traced ∧ ∃ n, n ≤ 16 ∧ traced = nI n ∧ ∀ k, k < n → nrs k = trace k
theorem op_trace {trc traced : Int32} {nrs trace : Nat → Int32} (thrown p : Int32) (hT : TraceR trc nrs traced trace) : ∃ (r thrown' : Int32), f_X8_trace trc nrs p = some r ∧ f_X9_trace thrown traced trace p = some (r, thrown') := by
  obtain ⟨rfl, n, hn, rfl, hk⟩ := hT
  have hin := in_eq p.toInt64 0 ((nI n - 1 : Int32).toInt64)
  rw [t64, t64, show (1 : Int32) = nI 1 from rfl, pk_sub_toInt (by omega) (by omega)] at hin
  change f_X9_in p.toInt64 0 ((nI n - 1 : Int32).toInt64) = some (if (0 : Int) ≤ p.toInt ∧ p.toInt ≤ (n : Int) - 1 then 1 else 0) at hin
  by_cases h0 : p < 0
  · have := lt0.mp h0
    rw [if_neg (by omega)] at hin
    exact ⟨-1000000, 0, by simp only [f_X8_trace, if_pos h0], by simp only [f_X9_trace, hin, bd_s, if_true]⟩
  · obtain ⟨m, hm, rfl⟩ := nI_of h0
    rw [nI_toInt hm] at hin
    by_cases h1 : nI n ≤ nI m
    · have h2 := (nI_leI (by omega) hm).mp h1
      rw [if_neg (by omega)] at hin
      exact ⟨-1000000, 0, by simp only [f_X8_trace, if_neg h0, if_pos h1], by simp only [f_X9_trace, hin, bd_s, if_true]⟩
    · have h2 : ¬ n ≤ m := fun q => h1 ((nI_leI (by omega) hm).mpr q)
      rw [if_pos (by omega)] at hin
      have g : ∀ {α : Type} (x : Option α), gd (inb (nI m) 16) x = x := fun x => gd_k (inb_nI (by omega) (by decide)) x
      exact ⟨trace m, 0, by simp only [f_X8_trace, if_neg h0, if_neg h1, g, ix_nI hm, hk m (by omega)], by simp only [f_X9_trace, hin, bd_s, if10, g, ix_nI hm]⟩
/-! the tape -/
theorem byte_b (v : Int64) : ∃ b, b < 256 ∧ (v &&& 255).toInt32 = nI b := by
  refine ⟨(v.toBitVec &&& 255#64).toNat, ?_, ?_⟩
  · rw [BitVec.toNat_and]
    exact Nat.lt_of_le_of_lt Nat.and_le_right (by decide)
  · apply Int32.toBitVec_inj.mp
    change (v.toBitVec &&& 255#64).signExtend 32 = BitVec.ofNat 32 _
    rw [BitVec.ofNat_toNat, BitVec.signExtend_eq_setWidth_of_le _ (by decide)]
theorem byte_s (v : Int64) : (v &&& 255).toInt32.toInt8.toInt32 = v.toInt32.toInt8.toInt32 := by
  congr 1
  apply Int8.toBitVec_inj.mp
  change ((v.toBitVec &&& 255#64).signExtend 32).signExtend 8 = (v.toBitVec.signExtend 32).signExtend 8
  simp only [BitVec.signExtend_eq_setWidth_of_le _ (show 32 ≤ 64 by decide), BitVec.signExtend_eq_setWidth_of_le _ (show 8 ≤ 32 by decide)]
  ext i hi
  simp only [BitVec.getElem_setWidth, BitVec.getLsbD_setWidth, BitVec.getLsbD_and]
  have : (255#64).getLsbD i = true := by
    rcases (show i = 0 ∨ i = 1 ∨ i = 2 ∨ i = 3 ∨ i = 4 ∨ i = 5 ∨ i = 6 ∨ i = 7 by omega) with rfl | rfl | rfl | rfl | rfl | rfl | rfl | rfl <;> rfl
  rw [this, Bool.and_true]
