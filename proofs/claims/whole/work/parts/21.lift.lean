theorem inb_lt {i : Int32} {n : Nat} (h : inb i n = true) : ix i < n := by
  unfold inb at h
  simp only [Bool.and_eq_true, decide_eq_true_eq] at h
  exact h.2
def f_X6_make (a_lan : Nat → Int32) (a_siz : Nat → Int32) (i_itm : Nat → Nat → Int32) (p1 : Int32) (p2 : Int32) (p3 : Int32) : Option ((Nat → Int32) × (Nat → Int32) × (Nat → Nat → Int32)) := gd (inb p1 8) (bd (f_X6_make_m a_lan a_siz (i_itm (ix p1)) p1 p2 p3) (fun z => some (z.1, z.2.1, va_up i_itm (ix p1) z.2.2)))
theorem c_X6_make (l : Launch) (D : va_G) (cy : Nat → ClassId) (aAd : Nat → Nat) (iAd : Nat → Nat → Nat) (a_GI : Nat → Option Nat) (a_lan : Nat → Int32) (a_siz : Nat → Int32) (i_itm : Nat → Nat → Int32) (p1 : Int32) (p2 : Int32) (p3 : Int32) (hGI : ∀ k, k < 8 → a_GI k = some (iAd k 0)) (z : ((Nat → Int32) × (Nat → Int32) × (Nat → Nat → Int32))) (hz : f_X6_make a_lan a_siz i_itm p1 p2 p3 = some z) : MV l yX6_make wsX6_make ({ frames := 1, cells := 0, slots := 0, locals := 23 } : Room) D cy [.ref (aAd 0), .int p1, .int p2, .int p3] (w_Rows cy aAd a_GI a_lan a_siz ++ w_FItm cy iAd i_itm) (w_Rows cy aAd a_GI z.1 z.2.1 ++ w_FItm cy iAd z.2.2) := by
  unfold f_X6_make at hz
  obtain ⟨hb, H⟩ := gd_some hz
  obtain ⟨z1, hz1, H⟩ := bd_some H
  obtain rfl := Option.some.inj H
  have hk : ix p1 < 8 := inb_lt hb
  refine MV.member (k := ix p1) (f := fun k => w_Itm cy (iAd k) (i_itm k)) (g := fun k => w_Itm cy (iAd k) ((va_up i_itm (ix p1) z1.2.2) k)) hk ?_ ?_
  · intro j hj
    first | rfl | simp only [va_up_ne _ _ hj]
  · have h := c_X6_make_m l D cy aAd (iAd (ix p1)) a_GI a_lan a_siz (i_itm (ix p1)) p1 p2 p3 (fun _ => hGI _ hk) z1 hz1
    first | exact h | (simp only [va_up_self]; exact h)
def f_X6_put (a_lan : Nat → Int32) (i_itm : Nat → Nat → Int32) (p1 : Int32) (p2 : Int32) (p3 : Int32) : Option (Int32 × (Nat → Nat → Int32)) := gd (inb p1 8) (bd (f_X6_put_m a_lan (i_itm (ix p1)) p1 p2 p3) (fun z => some (z.1, va_up i_itm (ix p1) z.2)))
theorem c_X6_put (l : Launch) (D : va_G) (cy : Nat → ClassId) (aAd : Nat → Nat) (iAd : Nat → Nat → Nat) (a_GI : Nat → Option Nat) (a_lan : Nat → Int32) (a_siz : Nat → Int32) (i_itm : Nat → Nat → Int32) (p1 : Int32) (p2 : Int32) (p3 : Int32) (hGI : ∀ k, k < 8 → a_GI k = some (iAd k 0)) (z : (Int32 × (Nat → Nat → Int32))) (hz : f_X6_put a_lan i_itm p1 p2 p3 = some z) : MI l yX6_put wsX6_put ({ frames := 0, cells := 0, slots := 0, locals := 0 } : Room) D cy [.ref (aAd 0), .int p1, .int p2, .int p3] (w_Rows cy aAd a_GI a_lan a_siz ++ w_FItm cy iAd i_itm) z.1 (w_Rows cy aAd a_GI a_lan a_siz ++ w_FItm cy iAd z.2) := by
  unfold f_X6_put at hz
  obtain ⟨hb, H⟩ := gd_some hz
  obtain ⟨z1, hz1, H⟩ := bd_some H
  obtain rfl := Option.some.inj H
  have hk : ix p1 < 8 := inb_lt hb
  refine MI.member (k := ix p1) (f := fun k => w_Itm cy (iAd k) (i_itm k)) (g := fun k => w_Itm cy (iAd k) ((va_up i_itm (ix p1) z1.2) k)) hk ?_ ?_
  · intro j hj
    first | rfl | simp only [va_up_ne _ _ hj]
  · have h := c_X6_put_m l D cy aAd (iAd (ix p1)) a_GI a_lan a_siz (i_itm (ix p1)) p1 p2 p3 (fun _ => hGI _ hk) z1 hz1
    first | exact h | (simp only [va_up_self]; exact h)
def f_X6_hasBelowZero (i_itm : Nat → Nat → Int32) (p1 : Int32) (p2 : Int32) (p3 : Int32) : Option Int32 := gd (inb p1 8) (bd (f_X6_hasBelowZero_m (i_itm (ix p1)) p1 p2 p3) (fun z => some z))
theorem c_X6_hasBelowZero (l : Launch) (D : va_G) (cy : Nat → ClassId) (aAd : Nat → Nat) (iAd : Nat → Nat → Nat) (a_GI : Nat → Option Nat) (a_lan : Nat → Int32) (a_siz : Nat → Int32) (i_itm : Nat → Nat → Int32) (p1 : Int32) (p2 : Int32) (p3 : Int32) (hGI : ∀ k, k < 8 → a_GI k = some (iAd k 0)) (z : Int32) (hz : f_X6_hasBelowZero i_itm p1 p2 p3 = some z) : MI l yX6_hasBelowZero wsX6_hasBelowZero ({ frames := 0, cells := 0, slots := 0, locals := 0 } : Room) D cy [.ref (aAd 0), .int p1, .int p2, .int p3] (w_Rows cy aAd a_GI a_lan a_siz ++ w_FItm cy iAd i_itm) z (w_Rows cy aAd a_GI a_lan a_siz ++ w_FItm cy iAd i_itm) := by
  unfold f_X6_hasBelowZero at hz
  obtain ⟨hb, H⟩ := gd_some hz
  obtain ⟨z1, hz1, H⟩ := bd_some H
  obtain rfl := Option.some.inj H
  have hk : ix p1 < 8 := inb_lt hb
  refine MI.member (k := ix p1) (f := fun k => w_Itm cy (iAd k) (i_itm k)) (g := fun k => w_Itm cy (iAd k) (i_itm k)) hk ?_ ?_
  · intro j hj
    first | rfl | simp only [va_up_ne _ _ hj]
  · have h := c_X6_hasBelowZero_m l D cy aAd (iAd (ix p1)) a_GI a_lan a_siz (i_itm (ix p1)) p1 p2 p3 (fun _ => hGI _ hk) z1 hz1
    first | exact h | (simp only [va_up_self]; exact h)
def f_X5_keep (a_nxt : Int32) (a_kep : Int32) (b_hour : Int32) (b_dep : Nat → Int32) (b_arr : Nat → Int32) (b_deb : Nat → Int32) (r_hour : Nat → Int32) (r_dep : Nat → Nat → Int32) (r_arr : Nat → Nat → Int32) (r_deb : Nat → Nat → Int32) : Option (Int32 × Int32 × (Nat → Int32) × (Nat → Nat → Int32) × (Nat → Nat → Int32) × (Nat → Nat → Int32)) := gd (inb a_nxt 24) (bd (f_X5_keep_m a_nxt a_kep b_hour b_dep b_arr b_deb (r_hour (ix a_nxt)) (r_dep (ix a_nxt)) (r_arr (ix a_nxt)) (r_deb (ix a_nxt))) (fun z => some (z.1, z.2.1, va_up r_hour (ix a_nxt) z.2.2.1, va_up r_dep (ix a_nxt) z.2.2.2.1, va_up r_arr (ix a_nxt) z.2.2.2.2.1, va_up r_deb (ix a_nxt) z.2.2.2.2.2)))
theorem c_X5_keep (l : Launch) (D : va_G) (cy : Nat → ClassId) (aAd : Nat → Nat) (bAd : Nat → Nat) (rAd : Nat → Nat → Nat) (a_GR : Nat → Option Nat) (a_nxt : Int32) (a_kep : Int32) (b_hour : Int32) (b_dep : Nat → Int32) (b_arr : Nat → Int32) (b_deb : Nat → Int32) (r_hour : Nat → Int32) (r_dep : Nat → Nat → Int32) (r_arr : Nat → Nat → Int32) (r_deb : Nat → Nat → Int32) (hGR : ∀ k, k < 24 → a_GR k = some (rAd k 0)) (z : (Int32 × Int32 × (Nat → Int32) × (Nat → Nat → Int32) × (Nat → Nat → Int32) × (Nat → Nat → Int32))) (hz : f_X5_keep a_nxt a_kep b_hour b_dep b_arr b_deb r_hour r_dep r_arr r_deb = some z) : MV l yX5_keep wsX5_keep ({ frames := 2, cells := 0, slots := 0, locals := 81 } : Room) D cy [.ref (aAd 0), .ref (bAd 0)] (w_Past cy aAd a_GR a_nxt a_kep ++ w_Led cy bAd b_hour b_dep b_arr b_deb ++ w_FRing cy rAd r_hour r_dep r_arr r_deb) (w_Past cy aAd a_GR z.1 z.2.1 ++ w_Led cy bAd b_hour b_dep b_arr b_deb ++ w_FRing cy rAd z.2.2.1 z.2.2.2.1 z.2.2.2.2.1 z.2.2.2.2.2) := by
  unfold f_X5_keep at hz
  obtain ⟨hb, H⟩ := gd_some hz
  obtain ⟨z1, hz1, H⟩ := bd_some H
  obtain rfl := Option.some.inj H
  have hk : ix a_nxt < 24 := inb_lt hb
  refine MV.member (k := ix a_nxt) (f := fun k => w_Led cy (rAd k) (r_hour k) (r_dep k) (r_arr k) (r_deb k)) (g := fun k => w_Led cy (rAd k) ((va_up r_hour (ix a_nxt) z1.2.2.1) k) ((va_up r_dep (ix a_nxt) z1.2.2.2.1) k) ((va_up r_arr (ix a_nxt) z1.2.2.2.2.1) k) ((va_up r_deb (ix a_nxt) z1.2.2.2.2.2) k)) hk ?_ ?_
  · intro j hj
    first | rfl | simp only [va_up_ne _ _ hj]
  · have h := c_X5_keep_m l D cy aAd bAd (rAd (ix a_nxt)) a_GR a_nxt a_kep b_hour b_dep b_arr b_deb (r_hour (ix a_nxt)) (r_dep (ix a_nxt)) (r_arr (ix a_nxt)) (r_deb (ix a_nxt))  (fun _ => hGR _ hk) z1 hz1
    first | exact h | (simp only [va_up_self]; exact h)
def f_X5_giveBack (a_nxt : Int32) (a_kep : Int32) (b_hour : Int32) (b_dep : Nat → Int32) (b_arr : Nat → Int32) (b_deb : Nat → Int32) (r_hour : Nat → Int32) (r_dep : Nat → Nat → Int32) (r_arr : Nat → Nat → Int32) (r_deb : Nat → Nat → Int32) : Option (Int32 × Int32 × Int32 × (Nat → Int32) × (Nat → Int32) × (Nat → Int32)) := gd (inb (a_nxt + 24 - 1 - (a_nxt + 24 - 1) / 24 * 24) 24) (bd (f_X5_giveBack_m a_nxt a_kep b_hour b_dep b_arr b_deb (r_hour (ix (a_nxt + 24 - 1 - (a_nxt + 24 - 1) / 24 * 24))) (r_dep (ix (a_nxt + 24 - 1 - (a_nxt + 24 - 1) / 24 * 24))) (r_arr (ix (a_nxt + 24 - 1 - (a_nxt + 24 - 1) / 24 * 24))) (r_deb (ix (a_nxt + 24 - 1 - (a_nxt + 24 - 1) / 24 * 24)))) (fun z => some (z.1, z.2.1, z.2.2.1, z.2.2.2.1, z.2.2.2.2.1, z.2.2.2.2.2)))
theorem c_X5_giveBack (l : Launch) (D : va_G) (cy : Nat → ClassId) (aAd : Nat → Nat) (bAd : Nat → Nat) (rAd : Nat → Nat → Nat) (a_GR : Nat → Option Nat) (a_nxt : Int32) (a_kep : Int32) (b_hour : Int32) (b_dep : Nat → Int32) (b_arr : Nat → Int32) (b_deb : Nat → Int32) (r_hour : Nat → Int32) (r_dep : Nat → Nat → Int32) (r_arr : Nat → Nat → Int32) (r_deb : Nat → Nat → Int32) (hGR : ∀ k, k < 24 → a_GR k = some (rAd k 0)) (z : (Int32 × Int32 × Int32 × (Nat → Int32) × (Nat → Int32) × (Nat → Int32))) (hz : f_X5_giveBack a_nxt a_kep b_hour b_dep b_arr b_deb r_hour r_dep r_arr r_deb = some z) : MV l yX5_giveBack wsX5_giveBack ({ frames := 2, cells := 0, slots := 0, locals := 81 } : Room) D cy [.ref (aAd 0), .ref (bAd 0)] (w_Past cy aAd a_GR a_nxt a_kep ++ w_Led cy bAd b_hour b_dep b_arr b_deb ++ w_FRing cy rAd r_hour r_dep r_arr r_deb) (w_Past cy aAd a_GR z.1 z.2.1 ++ w_Led cy bAd z.2.2.1 z.2.2.2.1 z.2.2.2.2.1 z.2.2.2.2.2 ++ w_FRing cy rAd r_hour r_dep r_arr r_deb) := by
  unfold f_X5_giveBack at hz
  obtain ⟨hb, H⟩ := gd_some hz
  obtain ⟨z1, hz1, H⟩ := bd_some H
  obtain rfl := Option.some.inj H
  have hk : ix (a_nxt + 24 - 1 - (a_nxt + 24 - 1) / 24 * 24) < 24 := inb_lt hb
  refine MV.member (k := ix (a_nxt + 24 - 1 - (a_nxt + 24 - 1) / 24 * 24)) (f := fun k => w_Led cy (rAd k) (r_hour k) (r_dep k) (r_arr k) (r_deb k)) (g := fun k => w_Led cy (rAd k) (r_hour k) (r_dep k) (r_arr k) (r_deb k)) hk ?_ ?_
  · intro j hj
    first | rfl | simp only [va_up_ne _ _ hj]
  · have h := c_X5_giveBack_m l D cy aAd bAd (rAd (ix (a_nxt + 24 - 1 - (a_nxt + 24 - 1) / 24 * 24))) a_GR a_nxt a_kep b_hour b_dep b_arr b_deb (r_hour (ix (a_nxt + 24 - 1 - (a_nxt + 24 - 1) / 24 * 24))) (r_dep (ix (a_nxt + 24 - 1 - (a_nxt + 24 - 1) / 24 * 24))) (r_arr (ix (a_nxt + 24 - 1 - (a_nxt + 24 - 1) / 24 * 24))) (r_deb (ix (a_nxt + 24 - 1 - (a_nxt + 24 - 1) / 24 * 24)))  (fun _ => hGR _ hk) z1 hz1
    first | exact h | (simp only [va_up_self]; exact h)
