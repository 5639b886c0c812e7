/-! ===== the least loan ===== -/
def itN (lev kin sil : Nat → Int32) (w : Nat) : Nat → Nat → Nat → Nat → Nat × Nat
  | 0, _, d, x => (d, x)
  | m + 1, h, d, x => itN lev kin sil w m (h + 1) (tD (ix (fv lev kin sil w h)) (ix (-fv lev kin sil w h)) d x) (tA (ix (fv lev kin sil w h)) (ix (-fv lev kin sil w h)) d x)
theorem tD_mono {p m d a d' a' : Nat} (h1 : d ≤ d') (h2 : a' ≤ a) : tD p m d a ≤ tD p m d' a' := by unfold tD; omega
theorem tA_mono {p m d a d' a' : Nat} (h1 : d ≤ d') (h2 : a' ≤ a) : tA p m d' a' ≤ tA p m d a := by unfold tA; omega
theorem itN_mono {lev kin sil : Nat → Int32} {w : Nat} : ∀ (m h d a d' a' : Nat), d ≤ d' → a' ≤ a → (itN lev kin sil w m h d a).1 ≤ (itN lev kin sil w m h d' a').1
  | 0, _, _, _, _, _, h1, _ => h1
  | m + 1, h, d, a, d', a', h1, h2 => itN_mono m (h + 1) _ _ _ _ (tD_mono h1 h2) (tA_mono h1 h2)
theorem fv_ix {lev kin sil : Nat → Int32} (hl : ∀ h, h < 12 → ∃ d, d ≤ 40 ∧ lev h = nI d) (w h : Nat) : ix (fv lev kin sil w h) ≤ 40 ∧ ix (-fv lev kin sil w h) ≤ 40 := by
  have hv := fv_b (kin := kin) (sil := sil) hl w h
  rw [ix_toInt, ix_toInt, tI_neg (by omega)]
  omega
theorem itN_b {lev kin sil : Nat → Int32} (hl : ∀ h, h < 12 → ∃ d, d ≤ 40 ∧ lev h = nI d) {w : Nat} : ∀ (m h d a : Nat), (itN lev kin sil w m h d a).1 ≤ d + 40 * m
  | 0, _, d, _ => by change d ≤ d + 40 * 0; omega
  | m + 1, h, d, a => by
    have hv := fv_ix (kin := kin) (sil := sil) hl w h
    have := itN_b (kin := kin) (sil := sil) hl (w := w) m (h + 1) (tD (ix (fv lev kin sil w h)) (ix (-fv lev kin sil w h)) d a) (tA (ix (fv lev kin sil w h)) (ix (-fv lev kin sil w h)) d a)
    change (itN lev kin sil w m (h + 1) (tD (ix (fv lev kin sil w h)) (ix (-fv lev kin sil w h)) d a) (tA (ix (fv lev kin sil w h)) (ix (-fv lev kin sil w h)) d a)).1 ≤ _
    have e : tD (ix (fv lev kin sil w h)) (ix (-fv lev kin sil w h)) d a ≤ d + 40 := by unfold tD; omega
    omega
theorem pass_fun {n N w : Nat} {sta wat : Int32} {lev kin sil bay : Nat → Int32} (hN : N ≤ 1000) (hw : w < n) (hC : ChartR n sta wat lev kin sil bay) : ∀ (m i f B h d x : Nat) (dep arr deb thn : Nat → Int32), i + m = N → m < f → B + 40 * m < 2 ^ 29 → LedR B n (nI h) dep arr deb thn → h ≤ B → dep w = nI d → d ≤ B → arr w = nI x → x ≤ B →
    ∃ hour' dep' arr' deb', f_X3_passHours_L2 wat lev kin sil (nI N) f (nI h) dep arr deb (nI i) = some (hour', dep', arr', deb') ∧ dep' w = nI (itN lev kin sil w m h d x).1 := by
  obtain ⟨-, -, c2, -⟩ := id hC
  have hl : ∀ h, h < 12 → ∃ d, d ≤ 40 ∧ lev h = nI d := fun h hh => (c2 h hh).2
  intro m
  induction m with
  | zero =>
    intro i f B h d x dep arr deb thn hi hf hB hL hh hd hdB ha haB
    obtain ⟨f, rfl⟩ : ∃ f', f = f' + 1 := ⟨f - 1, by omega⟩
    have c : nI N ≤ nI i := nI_le (by omega) (by omega)
    exact ⟨_, _, _, _, by rw [f_X3_passHours_L2_s, if_pos c], hd⟩
  | succ m ih =>
    intro i f B h d x dep arr deb thn hi hf hB hL hh hd hdB ha haB
    obtain ⟨f, rfl⟩ : ∃ f', f = f' + 1 := ⟨f - 1, by omega⟩
    have c : ¬ nI N ≤ nI i := nI_ge (by omega) (by omega)
    obtain ⟨dep2, arr2, deb2, thn2, h8, -, hL2, -, hF⟩ := hour_R hC hL (by omega)
    obtain ⟨f1, f2⟩ := hF w hw
    rw [ix_nI (show h < 2 ^ 31 by omega)] at f1 f2
    unfold sD at f1
    unfold sA at f2
    rw [hd, ha, ix_nI (by omega), ix_nI (by omega)] at f1 f2
    have hv := fv_ix (kin := kin) (sil := sil) hl w h
    rw [nI_1] at h8 hL2
    obtain ⟨hour', dep', arr', deb', j1, j2⟩ := ih (i + 1) f (B + 40) (h + 1) _ _ dep2 arr2 deb2 thn2 (by omega) (by omega) (by omega) hL2 (by omega) f1 (by unfold tD; omega) f2 (by unfold tA; omega)
    refine ⟨hour', dep', arr', deb', ?_, j2⟩
    rw [f_X3_passHours_L2_s, if_neg c, h8, bd_s, nI_1]
    exact j1
theorem LedR_add {B n : Nat} {hour : Int32} {dep arr deb g : Nat → Int32} {w k : Nat} (h : LedR B n hour dep arr deb g) (hn : n ≤ 6) (hw : w < n) : LedR (B + k) n hour (upd dep w (dep w + nI k)) arr deb (upd g (16 + 4 * w) (g (16 + 4 * w) + nI k)) := by
  obtain ⟨⟨h1, h0, h2, rfl⟩, h3, h4, h5⟩ := h
  refine ⟨⟨?_, h0, by omega, rfl⟩, fun v hv => ?_, fun i hi => ?_, h5⟩
  · rw [upd_n _ _ (by omega)]; exact h1
  · obtain ⟨x1, ⟨x, hx, ex⟩, x2, ⟨y, hy, ey⟩, hz⟩ := h3 v hv
    by_cases c : v = w
    · subst c
      rw [upd_s, upd_s, upd_n _ _ (show 17 + 4 * v ≠ 16 + 4 * v by omega), ← x1, ← x2, ex, ey, nI_add]
      exact ⟨rfl, ⟨x + k, by omega, rfl⟩, rfl, ⟨y, by omega, rfl⟩, fun q => absurd q (by omega)⟩
    · rw [upd_n _ _ c, upd_n _ _ (by omega), upd_n _ _ (by omega)]
      exact ⟨x1, ⟨x, by omega, ex⟩, x2, ⟨y, by omega, ey⟩, hz⟩
  · rw [upd_n _ _ (by omega)]; exact h4 i hi
theorem loan8 {B n N w l h d x : Nat} {sta wat : Int32} {lev kin sil bay : Nat → Int32} {dep arr deb : Nat → Int32} (fhour : Int32) (fdep farr fdeb : Nat → Int32) (hN : N ≤ 24) (hw : w < n) (hC : ChartR n sta wat lev kin sil bay) (hL : LedR B n (nI h) dep arr deb bay) (hB : B < 2 ^ 28 - 1000) (hl : l ≤ B) (hh : h ≤ B) (hd : dep w = nI d) (hdB : d ≤ B) (ha : arr w = nI x) (haB : x ≤ B) :
    ∃ hour' dep' arr' deb', f_X8_depthByLoan wat lev kin sil (nI h) dep arr deb fhour fdep farr fdeb (nI w) (nI l) (nI N) = some (nI (itN lev kin sil w N h (d + l) x).1, hour', dep', arr', deb') := by
  obtain ⟨-, ⟨-, -, hn⟩, -, -⟩ := id hC
  have L1 := LedR_f (dep' := va_cpy dep fdep 0 0 6) (arr' := va_cpy arr farr 0 0 6) (deb' := va_cpy deb fdeb 0 0 36) hL (fun w hw => cpy0 _ _ hw) (fun w hw => cpy0 _ _ hw) (fun w hw => cpy0 _ _ hw)
  have L2 := LedR_add (k := l) L1 hn hw
  have e1 : va_cpy dep fdep 0 0 6 w = nI d := (cpy0 _ _ (by omega)).trans hd
  have e2 : va_cpy arr farr 0 0 6 w = nI x := (cpy0 _ _ (by omega)).trans ha
  obtain ⟨hour', dep', arr', deb', j1, j2⟩ := pass_fun (show N ≤ 1000 by omega) hw hC N 0 2000 (B + l) h (d + l) x _ _ _ _ (by omega) (by omega) (by omega) L2 (by omega) (by rw [upd_s, e1, nI_add]) (by omega) e2 (by omega)
  rw [show nI 0 = 0 from rfl] at j1
  exact ⟨hour', dep', arr', deb', by simp only [f_X8_depthByLoan, f_X3_takeFrom, bd_s, gd_k (inb_nI (show w < 6 by omega) (by decide)), ix_nI (show w < 2 ^ 31 by omega), f_X3_passHours, j1, j2] <;> rfl⟩
theorem loan9_L {n N w h : Nat} {sta wat : Int32} {lev kin sil bay : Nat → Int32} (hN : N ≤ 24) (hw : w < n) (hC : ChartR n sta wat lev kin sil bay) (h2 : bay 2 = nI h) (hh : h < 2 ^ 28) : ∀ (m i f d x : Nat) (thn : Nat → Int32), i + m = N → m < f → thn (16 + 4 * w) = nI d → thn (17 + 4 * w) = nI x → d + 40 * m < 2 ^ 30 → x + 40 * m < 2 ^ 30 →
    ∃ thn', f_X9_least_L82 bay (nI w) (nI N) f thn (nI i) = some thn' ∧ thn' (16 + 4 * w) = nI (itN lev kin sil w m (h + i) d x).1 := by
  obtain ⟨-, ⟨-, -, hn⟩, c2, c3⟩ := id hC
  have hl : ∀ h, h < 12 → ∃ d, d ≤ 40 ∧ lev h = nI d := fun h hh => (c2 h hh).2
  have hl' : ∀ h, h < 12 → lev h = bay (3 + h) := fun h hh => (c2 h hh).1
  intro m
  induction m with
  | zero =>
    intro i f d x thn hi hf hd hx bd' bx
    obtain ⟨f, rfl⟩ : ∃ f', f = f' + 1 := ⟨f - 1, by omega⟩
    have c : nI N ≤ nI i := nI_le (by omega) (by omega)
    exact ⟨thn, by rw [f_X9_least_L82_s, if_pos c], hd⟩
  | succ m ih =>
    intro i f d x thn hi hf hd hx bd' bx
    obtain ⟨f, rfl⟩ : ∃ f', f = f' + 1 := ⟨f - 1, by omega⟩
    have c : ¬ nI N ≤ nI i := nI_ge (by omega) (by omega)
    have hv := fv_b (kin := kin) (sil := sil) hl w (h + i)
    have hv2 := fv_ix (kin := kin) (sil := sil) hl w (h + i)
    obtain ⟨t1, k1, k2, k3, -⟩ := tg9 (show w < 6 by omega) hd hx (by omega) (by omega) hv
    obtain ⟨t2, j1, j2⟩ := ih (i + 1) f _ _ t1 (by omega) (by omega) k2 k3 (by unfold tD; omega) (by unfold tA; omega)
    refine ⟨t2, ?_, j2⟩
    rw [f_X9_least_L82_s, if_neg c, h2, nI_add, flow9 hl' (c3 w hw).1 (c3 w hw).2.2.1 (show w < 6 by omega) (by omega), bd_s, k1, bd_s, nI_1]
    exact j1
section LEAST
variable {B n N a b h d x db dd : Nat} {sta wat : Int32} {lev kin sil bay : Nat → Int32}
theorem loan9 (hN : N ≤ 24) (ha : a < n) (hb : b < n) (hC : ChartR n sta wat lev kin sil bay) (h2 : bay 2 = nI h) (hB : B < 2 ^ 28 - 1000) (hh : h ≤ B) (hd : bay (16 + 4 * a) = nI d) (hdB : d ≤ B) (hx : bay (17 + 4 * a) = nI x) (hxB : x ≤ B) (hdb : bay (16 + 4 * b) = nI db) (hdbB : db ≤ B) (hdd : dd ≤ 999) (l f : Nat) (hl : l ≤ db) (thn : Nat → Int32) :
    ∃ thn', f_X9_least_L45 0 bay (nI a) (nI b) (nI dd) (nI N) (f + 1) thn (nI l) = if (itN lev kin sil a N h (d + l) x).1 < dd then f_X9_least_L45 0 bay (nI a) (nI b) (nI dd) (nI N) f thn' (nI (l + 1)) else some (nI l, 0, thn') := by
  obtain ⟨-, ⟨-, -, hn⟩, c2, -⟩ := id hC
  obtain ⟨thn1, y1, y2⟩ := lay9 bay thn
  obtain ⟨thn2, j1, j2⟩ := loan9_L (lev := lev) (kin := kin) (sil := sil) hN ha hC h2 (by omega) N 0 200000000 (d + l) x (upd thn1 (16 + 4 * a) (thn1 (16 + 4 * a) + nI l)) (by omega) (by omega) (by rw [upd_s, y2 _ (by omega), hd, nI_add]) (by rw [upd_n _ _ (by omega), y2 _ (by omega)]; exact hx) (by omega) (by omega)
  rw [show nI 0 = 0 from rfl] at j1
  rw [Nat.add_zero] at j2
  have ib := itN_b (kin := kin) (sil := sil) (fun h hh => (c2 h hh).2) (w := a) N h (d + l) x
  refine ⟨thn2, ?_⟩
  rw [f_X9_least_L45_s, at1, bd_s, gd_k (inb_nI (by omega) (by decide)), ix_nI (by omega), hdb, if_neg (nI_nlt hl (by omega)), y1, bd_s, at1, bd_s, gd_k (inb_nI (by omega) (by decide)), ix_nI (by omega), j1, bd_s, bd_s, gd_k (inb_nI (by omega) (by decide)), ix_nI (show 16 + 4 * a < 2 ^ 31 by omega), j2, nI_1]
  by_cases q : (itN lev kin sil a N h (d + l) x).1 < dd
  · rw [if_pos q, if_pos (nI_lt q (by omega))]
  · rw [if_neg q, if_neg (nI_nlt (by omega) (by omega))]
theorem loan9_some (hN : N ≤ 24) (ha : a < n) (hb : b < n) (hC : ChartR n sta wat lev kin sil bay) (h2 : bay 2 = nI h) (hB : B < 2 ^ 28 - 1000) (hh : h ≤ B) (hd : bay (16 + 4 * a) = nI d) (hdB : d ≤ B) (hx : bay (17 + 4 * a) = nI x) (hxB : x ≤ B) (hdb : bay (16 + 4 * b) = nI db) (hdbB : db ≤ B) (hdd : dd ≤ 999) (L : Nat) (hL : L ≤ db) (hP : dd ≤ (itN lev kin sil a N h (d + L) x).1) (hno : ∀ l, l < L → (itN lev kin sil a N h (d + l) x).1 < dd) : ∀ (m l f : Nat) (thn : Nat → Int32), l + m = L → m < f → ∃ thn', f_X9_least_L45 0 bay (nI a) (nI b) (nI dd) (nI N) f thn (nI l) = some (nI L, 0, thn') := by
  intro m
  induction m with
  | zero =>
    intro l f thn hl hf
    obtain ⟨f, rfl⟩ : ∃ f', f = f' + 1 := ⟨f - 1, by omega⟩
    obtain ⟨thn', e⟩ := loan9 (lev := lev) (kin := kin) (sil := sil) hN ha hb hC h2 hB hh hd hdB hx hxB hdb hdbB hdd l f (by omega) thn
    have : l = L := by omega
    subst this
    exact ⟨thn', by rw [e, if_neg (by omega)]⟩
  | succ m ih =>
    intro l f thn hl hf
    obtain ⟨f, rfl⟩ : ∃ f', f = f' + 1 := ⟨f - 1, by omega⟩
    obtain ⟨thn', e⟩ := loan9 (lev := lev) (kin := kin) (sil := sil) hN ha hb hC h2 hB hh hd hdB hx hxB hdb hdbB hdd l f (by omega) thn
    obtain ⟨thn2, e2⟩ := ih (l + 1) f thn' (by omega) (by omega)
    exact ⟨thn2, by rw [e, if_pos (hno l (by omega)), e2]⟩
theorem loan9_none (hN : N ≤ 24) (ha : a < n) (hb : b < n) (hC : ChartR n sta wat lev kin sil bay) (h2 : bay 2 = nI h) (hB : B < 2 ^ 28 - 1000) (hh : h ≤ B) (hd : bay (16 + 4 * a) = nI d) (hdB : d ≤ B) (hx : bay (17 + 4 * a) = nI x) (hxB : x ≤ B) (hdb : bay (16 + 4 * b) = nI db) (hdbB : db ≤ B) (hdd : dd ≤ 999) (hno : ∀ l, l ≤ db → (itN lev kin sil a N h (d + l) x).1 < dd) : ∀ (m l f : Nat) (thn : Nat → Int32), l + m = db + 1 → m < f → ∃ thn', f_X9_least_L45 0 bay (nI a) (nI b) (nI dd) (nI N) f thn (nI l) = some (-1000000, 0, thn') := by
  obtain ⟨-, ⟨-, -, hn⟩, -, -⟩ := id hC
  intro m
  induction m with
  | zero =>
    intro l f thn hl hf
    obtain ⟨f, rfl⟩ : ∃ f', f = f' + 1 := ⟨f - 1, by omega⟩
    exact ⟨thn, by rw [f_X9_least_L45_s, at1, bd_s, gd_k (inb_nI (by omega) (by decide)), ix_nI (by omega), hdb, if_pos (nI_lt (by omega) (by omega))]⟩
  | succ m ih =>
    intro l f thn hl hf
    obtain ⟨f, rfl⟩ : ∃ f', f = f' + 1 := ⟨f - 1, by omega⟩
    obtain ⟨thn', e⟩ := loan9 (lev := lev) (kin := kin) (sil := sil) hN ha hb hC h2 hB hh hd hdB hx hxB hdb hdbB hdd l f (by omega) thn
    obtain ⟨thn2, e2⟩ := ih (l + 1) f thn' (by omega) (by omega)
    exact ⟨thn2, by rw [e, if_pos (hno l (by omega)), e2]⟩
end LEAST
theorem halve_L {B n N a h d x dd : Nat} {sta wat : Int32} {lev kin sil bay dep arr deb : Nat → Int32} (hN : N ≤ 24) (ha : a < n) (hC : ChartR n sta wat lev kin sil bay) (hL : LedR B n (nI h) dep arr deb bay) (hB : B < 2 ^ 28 - 1000) (hh : h ≤ B) (hd : dep a = nI d) (hdB : d ≤ B) (hx : arr a = nI x) (hxB : x ≤ B) (hdd : dd ≤ 999) : ∀ (m s f lo en : Nat) (fhour : Int32) (fdep farr fdeb : Nat → Int32), s + m = 32 → m < f → lo ≤ en → en ≤ B → en - lo < 2 ^ m → dd ≤ (itN lev kin sil a N h (d + en) x).1 → (∀ l, l < lo → (itN lev kin sil a N h (d + l) x).1 < dd) →
    ∃ L fhour' fdep' farr' fdeb', f_X8_least_L71 wat lev kin sil (nI h) dep arr deb (nI a) (nI dd) (nI N) f fhour fdep farr fdeb (nI en) (nI lo) (nI s) = some (fhour', fdep', farr', fdeb', nI L) ∧ L ≤ en ∧ dd ≤ (itN lev kin sil a N h (d + L) x).1 ∧ ∀ l, l < L → (itN lev kin sil a N h (d + l) x).1 < dd := by
  obtain ⟨-, -, c2, -⟩ := id hC
  intro m
  induction m with
  | zero =>
    intro s f lo en fhour fdep farr fdeb hs hf h1 h2 h3 h4 h5
    obtain ⟨f, rfl⟩ : ∃ f', f = f' + 1 := ⟨f - 1, by omega⟩
    have : lo = en := by
      have : en - lo < 1 := h3
      omega
    subst this
    exact ⟨lo, _, _, _, _, by rw [f_X8_least_L71_s, if_pos (by rw [show (32 : Int32) = nI 32 from rfl]; exact nI_le (by omega) (by omega))], Nat.le_refl lo, h4, h5⟩
  | succ m ih =>
    intro s f lo en fhour fdep farr fdeb hs hf h1 h2 h3 h4 h5
    obtain ⟨f, rfl⟩ : ∃ f', f = f' + 1 := ⟨f - 1, by omega⟩
    have c : ¬ (32 : Int32) ≤ nI s := by rw [show (32 : Int32) = nI 32 from rfl]; exact nI_ge (by omega) (by omega)
    by_cases q : lo = en
    · subst q
      exact ⟨lo, _, _, _, _, by rw [f_X8_least_L71_s, if_neg c, if_pos (nI_le (Nat.le_refl lo) (by omega))], Nat.le_refl lo, h4, h5⟩
    · have c2' : ¬ nI en ≤ nI lo := nI_ge (by omega) (by omega)
      have em : nI lo + (nI en - nI lo) / 2 = nI (lo + (en - lo) / 2) := by
        rw [pk_sub h1, show (2 : Int32) = nI 2 from rfl, pk_div (by omega) (by decide) (by decide), nI_add]
      have hp : (2 : Nat) ^ (m + 1) = 2 * 2 ^ m := by rw [Nat.pow_succ, Nat.mul_comm]
      generalize em' : lo + (en - lo) / 2 = mid at em
      obtain ⟨hour1, dep1, arr1, deb1, e8⟩ := loan8 (l := mid) fhour fdep farr fdeb hN ha hC hL hB (by omega) hh hd hdB hx hxB
      have ib := itN_b (kin := kin) (sil := sil) (fun h hh => (c2 h hh).2) (w := a) N h (d + mid) x
      by_cases z : (itN lev kin sil a N h (d + mid) x).1 < dd
      · obtain ⟨L, fh, fd, fa, fb, j1, j2, j3, j4⟩ := ih (s + 1) f (mid + 1) en hour1 dep1 arr1 deb1 (by omega) (by omega) (by omega) h2 (by omega) h4 (fun l hl => by
          have := itN_mono (lev := lev) (kin := kin) (sil := sil) (w := a) N h (d + l) x (d + mid) x (by omega) (Nat.le_refl x)
          omega)
        refine ⟨L, fh, fd, fa, fb, ?_, j2, j3, j4⟩
        rw [f_X8_least_L71_s, if_neg c, if_neg c2', em, e8, bd_s]
        dsimp only
        rw [if_pos (nI_lt z (by omega)), nI_1, nI_1]
        exact j1
      · obtain ⟨L, fh, fd, fa, fb, j1, j2, j3, j4⟩ := ih (s + 1) f lo mid hour1 dep1 arr1 deb1 (by omega) (by omega) (by omega) (by omega) (by omega) (by omega) h5
        refine ⟨L, fh, fd, fa, fb, ?_, by omega, j3, j4⟩
        rw [f_X8_least_L71_s, if_neg c, if_neg c2', em, e8, bd_s]
        dsimp only
        rw [if_neg (nI_nlt (by omega) (by omega)), nI_1]
        exact j1
theorem op_least {B n : Nat} {sta wat : Int32} {lev kin sil : Nat → Int32} {hour : Int32} {dep arr deb bay : Nat → Int32} (thrown fhour : Int32) (fdep farr fdeb thn : Nat → Int32) (p1 p2 p3 p4 : Int32) (hB : B < 199000000) (hC : ChartR n sta wat lev kin sil bay) (hL : LedR B n hour dep arr deb bay) :
    ∃ r fhour' fdep' farr' fdeb' thrown' thn', f_X8_least wat lev kin sil hour dep arr deb fhour fdep farr fdeb p1 p2 p3 p4 = some (r, fhour', fdep', farr', fdeb') ∧ f_X9_least thrown bay thn p1 p2 p3 p4 = some (r, thrown', thn') := by
  obtain ⟨-, ⟨c1, hw, hn⟩, c2, -⟩ := id hC
  rw [hw] at c1
  rcases two8 hn c1 p1 p2 with ⟨a, b, ha, hb, hab, rfl, rfl, e1, e2⟩ | ⟨e1, e2⟩
  rotate_left
  · exact ⟨-1000001, fhour, fdep, farr, fdeb, 0, thn, by simp only [f_X8_least, hw, e1, bd_s, if_true] <;> rfl, by simp only [f_X9_least, e2, bd_s, if_true] <;> rfl⟩
  rcases rng p3 0 999 0 999 rfl rfl (by decide) with ⟨dd, hd1, hd2, rfl, e3⟩ | ⟨e3, hd⟩
  rotate_left
  · refine ⟨-1000001, fhour, fdep, farr, fdeb, 0, thn, ?_, by simp only [f_X9_least, e2, bd_s, if10, e3, if_true] <;> rfl⟩
    rcases bad2 (0 : Int32) (999 : Int32) rfl rfl hd with q | ⟨q, q'⟩
    · simp only [f_X8_least, hw, e1, bd_s, if10, if_pos q]
    · simp only [f_X8_least, hw, e1, bd_s, if10, if_neg q, if_pos q']
  have d1 : ¬ nI dd < 0 := nI_pos (by omega)
  have d2 : ¬ 999 < nI dd := lt_lit (k := 999) (by decide) (by omega) (by omega)
  rcases rng p4 0 24 0 24 rfl rfl (by decide) with ⟨N, hN1, hN2, rfl, e4⟩ | ⟨e4, hN⟩
  rotate_left
  · refine ⟨-1000001, fhour, fdep, farr, fdeb, 0, thn, ?_, by simp only [f_X9_least, e2, bd_s, if10, e3, e4, if_true] <;> rfl⟩
    rcases bad2 (0 : Int32) (24 : Int32) rfl rfl hN with q | ⟨q, q'⟩
    · simp only [f_X8_least, hw, e1, bd_s, if10, if_neg d1, if_neg d2, if_pos q]
    · simp only [f_X8_least, hw, e1, bd_s, if10, if_neg d1, if_neg d2, if_neg q, if_neg (not_le_lt q')]
  have N1 : ¬ nI N < 0 := nI_pos (by omega)
  have N2 : nI N ≤ 24 := by rw [show (24 : Int32) = nI 24 from rfl]; exact nI_le (by omega) (by omega)
  obtain ⟨⟨l1, h, hh, rfl⟩, l3, -, -⟩ := id hL
  obtain ⟨da, ⟨d, hdB, ed⟩, xa, ⟨x, hxB, ex⟩, -⟩ := l3 a (by omega)
  obtain ⟨dbb, ⟨db, hdbB, edb⟩, -⟩ := l3 b (by omega)
  have ib := itN_b (kin := kin) (sil := sil) (fun h hh => (c2 h hh).2) (w := a) N h (d + db) x
  have hB' : B < 2 ^ 28 - 1000 := by omega
  obtain ⟨hour1, dep1, arr1, deb1, e8⟩ := loan8 (l := db) fhour fdep farr fdeb hN2 ha hC hL hB' (by omega) hh ed hdB ex hxB
  have g6 : ∀ {α : Type} (x : Option α), gd (inb (nI b) 6) x = x := fun x => gd_k (inb_nI (by omega) (by decide)) x
  have x6 := ix_nI (show b < 2 ^ 31 by omega)
  have ed9 : bay (16 + 4 * a) = nI d := da.symm.trans ed
  have ex9 : bay (17 + 4 * a) = nI x := xa.symm.trans ex
  have edb9 : bay (16 + 4 * b) = nI db := dbb.symm.trans edb
  subst hw
  by_cases q : dd ≤ (itN lev kin sil a N h (d + db) x).1
  · have q' : nI dd ≤ nI (itN lev kin sil a N h (d + db) x).1 := nI_le q (by omega)
    obtain ⟨L, fh, fd, fa, fb, j1, j2, j3, j4⟩ := halve_L hN2 ha hC hL hB' hh ed hdB ex hxB hd2 32 0 2000 0 db hour1 dep1 arr1 deb1 (by omega) (by omega) (by omega) hdbB (by omega) q (fun l hl => absurd hl (by omega))
    obtain ⟨thn', r9⟩ := loan9_some hN2 ha hb hC l1 hB' hh ed9 hdB ex9 hxB edb9 hdbB hd2 L j2 j3 j4 L 0 200000000 thn (by omega) (by omega)
    rw [show nI 0 = 0 from rfl] at j1 r9
    exact ⟨nI L, _, _, _, _, 0, _, by simp only [f_X8_least, e1, bd_s, if10, if_neg d1, if_neg d2, if_neg N1, if_pos N2, g6, x6, edb, e8, if_pos q', j1] <;> rfl, by simp only [f_X9_least, e2, bd_s, if10, e3, e4, r9] <;> rfl⟩
  · have q' : ¬ nI dd ≤ nI (itN lev kin sil a N h (d + db) x).1 := nI_ge (by omega) (by omega)
    obtain ⟨thn', r9⟩ := loan9_none (lev := lev) (kin := kin) (sil := sil) hN2 ha hb hC l1 hB' hh ed9 hdB ex9 hxB edb9 hdbB hd2 (fun l hl => by
      have := itN_mono (lev := lev) (kin := kin) (sil := sil) (w := a) N h (d + l) x (d + db) x (by omega) (Nat.le_refl x)
      omega) (db + 1) 0 200000000 thn (by omega) (by omega)
    rw [show nI 0 = 0 from rfl] at r9
    exact ⟨-1000000, _, _, _, _, 0, _, by simp only [f_X8_least, e1, bd_s, if10, if_neg d1, if_neg d2, if_neg N1, if_pos N2, g6, x6, edb, e8, if_neg q'] <;> rfl, by simp only [f_X9_least, e2, bd_s, if10, e3, e4, r9] <;> rfl⟩
