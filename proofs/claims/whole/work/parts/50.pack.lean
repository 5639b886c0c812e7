abbrev CS : Type := (Nat → Int32) × (Nat → Nat → Int32) × (Nat → Nat → Int32) × (Nat → Nat → Int32) × (Nat → Nat → Nat → Int32) × (Nat → Nat → Int32) × (Nat → Nat → Nat → Int32)
abbrev MS : Type := (Nat → Int32) × (Nat → Nat → Int32)
abbrev WC (cy : Nat → ClassId) (mAd : Nat → Nat) (iAd gAd rAd : Nat → Nat → Nat) (GI GM GR : Nat → Option Nat) (c : CS) : va_W := (((w_Top cy mAd GI GM GR (c.1 0) (c.1 1) (c.2.1 0) (c.2.1 1) (c.1 2) (c.1 3) (c.1 4) (c.1 5) (c.1 6) (c.1 7) (c.2.1 2) (c.1 8) (c.2.1 3) (c.2.1 4) (c.2.1 5) (c.2.1 6) (c.1 9) (c.1 10) (c.2.1 7) (c.2.1 8) (c.2.1 9) (c.2.1 10) (c.1 11) (c.2.1 11) (c.2.1 12) (c.2.1 13) (c.1 12) (c.1 13) (c.1 14) (c.2.1 14) (c.2.1 15) (c.2.1 16) (c.1 15) (c.2.1 17) (c.2.1 18) (c.2.1 19) (c.2.1 20) (c.1 16) (c.2.1 21) ++ w_FItm cy iAd c.2.2.1) ++ w_FImg cy gAd (c.2.2.2.1 0) (c.2.2.2.1 1) (c.2.2.2.2.1 0) (c.2.2.2.2.1 1) (c.2.2.2.2.1 2) (c.2.2.2.2.1 3) (c.2.2.2.1 2) (c.2.2.2.2.1 4) (c.2.2.2.2.1 5) (c.2.2.2.2.1 6)) ++ w_FRing cy rAd (c.2.2.2.2.2.1 0) (c.2.2.2.2.2.2 0) (c.2.2.2.2.2.2 1) (c.2.2.2.2.2.2 2))
abbrev WM (cy : Nat → ClassId) (aM : Nat → Nat) (m : MS) : va_W := w_M cy aM (m.1 0) (m.1 1) (m.1 2) (m.1 3) (m.1 4) (m.1 5) (m.1 6) (m.1 7) (m.1 8) (m.1 9) (m.1 10) (m.1 11) (m.1 12) (m.1 13) (m.2 0) (m.2 1) (m.2 2) (m.2 3) (m.2 4) (m.2 5) (m.2 6) (m.2 7) (m.2 8) (m.2 9) (m.2 10) (m.2 11) (m.2 12)
theorem MI.mid {l : Launch} {y : MethodName} {ws : List Cond} {rm : Room} {D : va_G} {cy : Nat → ClassId} {av : List Value} {a a1 c c1 : va_W} {r : Int32} (b : va_W) (hM : MI l y ws rm D cy av (a ++ c) r (a1 ++ c1)) : MI l y ws rm D cy av ((a ++ b) ++ c) r ((a1 ++ b) ++ c1) := hM.reframe b (perm_sw a c b) (perm_sw a1 c1 b)
theorem MI.pre {l : Launch} {y : MethodName} {ws : List Cond} {rm : Room} {D : va_G} {cy : Nat → ClassId} {av : List Value} {w w1 : va_W} {r : Int32} (b : va_W) (hM : MI l y ws rm D cy av w r w1) : MI l y ws rm D cy av (b ++ w) r (b ++ w1) := hM.reframe b List.perm_append_comm List.perm_append_comm
def F8_row (c : CS) (a1 : Int32) (a2 : Int32) (a3 : Int32) : Option (Int32 × CS) := bd (f_X8_row (c.1 1) (c.2.1 0) (c.2.1 1) c.2.2.1 a1 a2 a3) (fun z => some (z.1, (va_up c.1 1 z.2.1, va_up (va_up c.2.1 0 z.2.2.1) 1 z.2.2.2.1, z.2.2.2.2, c.2.2.2.1, c.2.2.2.2.1, c.2.2.2.2.2.1, c.2.2.2.2.2.2)))
set_option maxRecDepth 100000 in
theorem C8_row (l : Launch) (D : va_G) (cy : Nat → ClassId) (mAd : Nat → Nat) (iAd gAd rAd : Nat → Nat → Nat) (aM : Nat → Nat) (GI GM GR : Nat → Option Nat) (hGI : ∀ k, k < 8 → GI k = some (iAd k 0)) (hGM : ∀ k, k < 2 → GM k = some (gAd k 0)) (hGR : ∀ k, k < 24 → GR k = some (rAd k 0)) (c : CS) (m : MS) (a1 : Int32) (a2 : Int32) (a3 : Int32) (r : Int32) (c1 : CS) (h : F8_row c a1 a2 a3 = some (r, c1)) : MI l yX8_row wsX8_row ({ frames := 2, cells := 0, slots := 0, locals := 46 } : Room) D cy [.ref (mAd 0), .int a1, .int a2, .int a3] (WC cy mAd iAd gAd rAd GI GM GR c ++ WM cy aM m) r (WC cy mAd iAd gAd rAd GI GM GR c1 ++ WM cy aM m) := by
  unfold F8_row at h
  obtain ⟨z, hz, h⟩ := bd_some h
  obtain ⟨h1, h2⟩ := Prod.mk.inj (Option.some.inj h)
  subst h1 h2
  exact MI.tail _ (MI.tail _ (MI.tail _ (c_X8_row l D cy mAd iAd GI GM GR (c.1 0) (c.1 1) (c.2.1 0) (c.2.1 1) (c.1 2) (c.1 3) (c.1 4) (c.1 5) (c.1 6) (c.1 7) (c.2.1 2) (c.1 8) (c.2.1 3) (c.2.1 4) (c.2.1 5) (c.2.1 6) (c.1 9) (c.1 10) (c.2.1 7) (c.2.1 8) (c.2.1 9) (c.2.1 10) (c.1 11) (c.2.1 11) (c.2.1 12) (c.2.1 13) (c.1 12) (c.1 13) (c.1 14) (c.2.1 14) (c.2.1 15) (c.2.1 16) (c.1 15) (c.2.1 17) (c.2.1 18) (c.2.1 19) (c.2.1 20) (c.1 16) (c.2.1 21) c.2.2.1 a1 a2 a3 hGI z hz)))
def F9_row (m : MS) (a1 : Int32) (a2 : Int32) (a3 : Int32) : Option (Int32 × MS) := bd (f_X9_row (m.1 0) (m.1 1) (m.2 0) (m.2 1) (m.2 2) a1 a2 a3) (fun z => some (z.1, (va_up (va_up m.1 0 z.2.1) 1 z.2.2.1, va_up (va_up (va_up m.2 0 z.2.2.2.1) 1 z.2.2.2.2.1) 2 z.2.2.2.2.2)))
set_option maxRecDepth 100000 in
theorem C9_row (l : Launch) (D : va_G) (cy : Nat → ClassId) (mAd : Nat → Nat) (iAd gAd rAd : Nat → Nat → Nat) (aM : Nat → Nat) (GI GM GR : Nat → Option Nat) (c : CS) (m : MS) (a1 : Int32) (a2 : Int32) (a3 : Int32) (r : Int32) (m1 : MS) (h : F9_row m a1 a2 a3 = some (r, m1)) : MI l yX9_row wsX9_row ({ frames := 2, cells := 0, slots := 0, locals := 45 } : Room) D cy [.ref (aM 0), .int a1, .int a2, .int a3] (WC cy mAd iAd gAd rAd GI GM GR c ++ WM cy aM m) r (WC cy mAd iAd gAd rAd GI GM GR c ++ WM cy aM m1) := by
  unfold F9_row at h
  obtain ⟨z, hz, h⟩ := bd_some h
  obtain ⟨h1, h2⟩ := Prod.mk.inj (Option.some.inj h)
  subst h1 h2
  exact MI.pre _ (c_X9_row l D cy aM (m.1 0) (m.1 1) (m.1 2) (m.1 3) (m.1 4) (m.1 5) (m.1 6) (m.1 7) (m.1 8) (m.1 9) (m.1 10) (m.1 11) (m.1 12) (m.1 13) (m.2 0) (m.2 1) (m.2 2) (m.2 3) (m.2 4) (m.2 5) (m.2 6) (m.2 7) (m.2 8) (m.2 9) (m.2 10) (m.2 11) (m.2 12) a1 a2 a3 z hz)
def F8_set (c : CS) (a1 : Int32) (a2 : Int32) (a3 : Int32) : Option (Int32 × CS) := bd (f_X8_set (c.1 1) (c.2.1 0) (c.2.1 1) c.2.2.1 a1 a2 a3) (fun z => some (z.1, (va_up c.1 1 z.2.1, c.2.1, z.2.2, c.2.2.2.1, c.2.2.2.2.1, c.2.2.2.2.2.1, c.2.2.2.2.2.2)))
set_option maxRecDepth 100000 in
theorem C8_set (l : Launch) (D : va_G) (cy : Nat → ClassId) (mAd : Nat → Nat) (iAd gAd rAd : Nat → Nat → Nat) (aM : Nat → Nat) (GI GM GR : Nat → Option Nat) (hGI : ∀ k, k < 8 → GI k = some (iAd k 0)) (hGM : ∀ k, k < 2 → GM k = some (gAd k 0)) (hGR : ∀ k, k < 24 → GR k = some (rAd k 0)) (c : CS) (m : MS) (a1 : Int32) (a2 : Int32) (a3 : Int32) (r : Int32) (c1 : CS) (h : F8_set c a1 a2 a3 = some (r, c1)) : MI l yX8_set wsX8_set ({ frames := 1, cells := 0, slots := 0, locals := 24 } : Room) D cy [.ref (mAd 0), .int a1, .int a2, .int a3] (WC cy mAd iAd gAd rAd GI GM GR c ++ WM cy aM m) r (WC cy mAd iAd gAd rAd GI GM GR c1 ++ WM cy aM m) := by
  unfold F8_set at h
  obtain ⟨z, hz, h⟩ := bd_some h
  obtain ⟨h1, h2⟩ := Prod.mk.inj (Option.some.inj h)
  subst h1 h2
  exact MI.tail _ (MI.tail _ (MI.tail _ (c_X8_set l D cy mAd iAd GI GM GR (c.1 0) (c.1 1) (c.2.1 0) (c.2.1 1) (c.1 2) (c.1 3) (c.1 4) (c.1 5) (c.1 6) (c.1 7) (c.2.1 2) (c.1 8) (c.2.1 3) (c.2.1 4) (c.2.1 5) (c.2.1 6) (c.1 9) (c.1 10) (c.2.1 7) (c.2.1 8) (c.2.1 9) (c.2.1 10) (c.1 11) (c.2.1 11) (c.2.1 12) (c.2.1 13) (c.1 12) (c.1 13) (c.1 14) (c.2.1 14) (c.2.1 15) (c.2.1 16) (c.1 15) (c.2.1 17) (c.2.1 18) (c.2.1 19) (c.2.1 20) (c.1 16) (c.2.1 21) c.2.2.1 a1 a2 a3 hGI z hz)))
def F9_set (m : MS) (a1 : Int32) (a2 : Int32) (a3 : Int32) : Option (Int32 × MS) := bd (f_X9_set (m.1 0) (m.1 1) (m.2 0) (m.2 1) (m.2 2) a1 a2 a3) (fun z => some (z.1, (va_up (va_up m.1 0 z.2.1) 1 z.2.2.1, va_up m.2 2 z.2.2.2)))
set_option maxRecDepth 100000 in
theorem C9_set (l : Launch) (D : va_G) (cy : Nat → ClassId) (mAd : Nat → Nat) (iAd gAd rAd : Nat → Nat → Nat) (aM : Nat → Nat) (GI GM GR : Nat → Option Nat) (c : CS) (m : MS) (a1 : Int32) (a2 : Int32) (a3 : Int32) (r : Int32) (m1 : MS) (h : F9_set m a1 a2 a3 = some (r, m1)) : MI l yX9_set wsX9_set ({ frames := 2, cells := 0, slots := 0, locals := 45 } : Room) D cy [.ref (aM 0), .int a1, .int a2, .int a3] (WC cy mAd iAd gAd rAd GI GM GR c ++ WM cy aM m) r (WC cy mAd iAd gAd rAd GI GM GR c ++ WM cy aM m1) := by
  unfold F9_set at h
  obtain ⟨z, hz, h⟩ := bd_some h
  obtain ⟨h1, h2⟩ := Prod.mk.inj (Option.some.inj h)
  subst h1 h2
  exact MI.pre _ (c_X9_set l D cy aM (m.1 0) (m.1 1) (m.1 2) (m.1 3) (m.1 4) (m.1 5) (m.1 6) (m.1 7) (m.1 8) (m.1 9) (m.1 10) (m.1 11) (m.1 12) (m.1 13) (m.2 0) (m.2 1) (m.2 2) (m.2 3) (m.2 4) (m.2 5) (m.2 6) (m.2 7) (m.2 8) (m.2 9) (m.2 10) (m.2 11) (m.2 12) a1 a2 a3 z hz)
def F8_copy (c : CS) (a1 : Int32) (a2 : Int32) (a3 : Int32) (a4 : Int32) (a5 : Int32) : Option (Int32 × CS) := bd (f_X8_copy (c.1 1) (c.2.1 0) (c.2.1 1) c.2.2.1 a1 a2 a3 a4 a5) (fun z => some (z.1, (va_up c.1 1 z.2.1, c.2.1, z.2.2, c.2.2.2.1, c.2.2.2.2.1, c.2.2.2.2.2.1, c.2.2.2.2.2.2)))
set_option maxRecDepth 100000 in
theorem C8_copy (l : Launch) (D : va_G) (cy : Nat → ClassId) (mAd : Nat → Nat) (iAd gAd rAd : Nat → Nat → Nat) (aM : Nat → Nat) (GI GM GR : Nat → Option Nat) (hGI : ∀ k, k < 8 → GI k = some (iAd k 0)) (hGM : ∀ k, k < 2 → GM k = some (gAd k 0)) (hGR : ∀ k, k < 24 → GR k = some (rAd k 0)) (c : CS) (m : MS) (a1 : Int32) (a2 : Int32) (a3 : Int32) (a4 : Int32) (a5 : Int32) (r : Int32) (c1 : CS) (h : F8_copy c a1 a2 a3 a4 a5 = some (r, c1)) : MI l yX8_copy wsX8_copy ({ frames := 1, cells := 0, slots := 0, locals := 60 } : Room) D cy [.ref (mAd 0), .int a1, .int a2, .int a3, .int a4, .int a5] (WC cy mAd iAd gAd rAd GI GM GR c ++ WM cy aM m) r (WC cy mAd iAd gAd rAd GI GM GR c1 ++ WM cy aM m) := by
  unfold F8_copy at h
  obtain ⟨z, hz, h⟩ := bd_some h
  obtain ⟨h1, h2⟩ := Prod.mk.inj (Option.some.inj h)
  subst h1 h2
  exact MI.tail _ (MI.tail _ (MI.tail _ (c_X8_copy l D cy mAd iAd GI GM GR (c.1 0) (c.1 1) (c.2.1 0) (c.2.1 1) (c.1 2) (c.1 3) (c.1 4) (c.1 5) (c.1 6) (c.1 7) (c.2.1 2) (c.1 8) (c.2.1 3) (c.2.1 4) (c.2.1 5) (c.2.1 6) (c.1 9) (c.1 10) (c.2.1 7) (c.2.1 8) (c.2.1 9) (c.2.1 10) (c.1 11) (c.2.1 11) (c.2.1 12) (c.2.1 13) (c.1 12) (c.1 13) (c.1 14) (c.2.1 14) (c.2.1 15) (c.2.1 16) (c.1 15) (c.2.1 17) (c.2.1 18) (c.2.1 19) (c.2.1 20) (c.1 16) (c.2.1 21) c.2.2.1 a1 a2 a3 a4 a5 hGI z hz)))
def F9_copy (m : MS) (a1 : Int32) (a2 : Int32) (a3 : Int32) (a4 : Int32) (a5 : Int32) : Option (Int32 × MS) := bd (f_X9_copy (m.1 0) (m.1 1) (m.2 0) (m.2 1) (m.2 2) a1 a2 a3 a4 a5) (fun z => some (z.1, (va_up (va_up m.1 0 z.2.1) 1 z.2.2.1, va_up m.2 2 z.2.2.2)))
set_option maxRecDepth 100000 in
theorem C9_copy (l : Launch) (D : va_G) (cy : Nat → ClassId) (mAd : Nat → Nat) (iAd gAd rAd : Nat → Nat → Nat) (aM : Nat → Nat) (GI GM GR : Nat → Option Nat) (c : CS) (m : MS) (a1 : Int32) (a2 : Int32) (a3 : Int32) (a4 : Int32) (a5 : Int32) (r : Int32) (m1 : MS) (h : F9_copy m a1 a2 a3 a4 a5 = some (r, m1)) : MI l yX9_copy wsX9_copy ({ frames := 2, cells := 0, slots := 0, locals := 45 } : Room) D cy [.ref (aM 0), .int a1, .int a2, .int a3, .int a4, .int a5] (WC cy mAd iAd gAd rAd GI GM GR c ++ WM cy aM m) r (WC cy mAd iAd gAd rAd GI GM GR c ++ WM cy aM m1) := by
  unfold F9_copy at h
  obtain ⟨z, hz, h⟩ := bd_some h
  obtain ⟨h1, h2⟩ := Prod.mk.inj (Option.some.inj h)
  subst h1 h2
  exact MI.pre _ (c_X9_copy l D cy aM (m.1 0) (m.1 1) (m.1 2) (m.1 3) (m.1 4) (m.1 5) (m.1 6) (m.1 7) (m.1 8) (m.1 9) (m.1 10) (m.1 11) (m.1 12) (m.1 13) (m.2 0) (m.2 1) (m.2 2) (m.2 3) (m.2 4) (m.2 5) (m.2 6) (m.2 7) (m.2 8) (m.2 9) (m.2 10) (m.2 11) (m.2 12) a1 a2 a3 a4 a5 z hz)
def F8_drop (c : CS) (a1 : Int32) : Option (Int32 × CS) := bd (f_X8_drop (c.1 1) (c.2.1 0) (c.2.1 1) a1) (fun z => some (z.1, (va_up c.1 1 z.2.1, va_up c.2.1 0 z.2.2, c.2.2.1, c.2.2.2.1, c.2.2.2.2.1, c.2.2.2.2.2.1, c.2.2.2.2.2.2)))
set_option maxRecDepth 100000 in
theorem C8_drop (l : Launch) (D : va_G) (cy : Nat → ClassId) (mAd : Nat → Nat) (iAd gAd rAd : Nat → Nat → Nat) (aM : Nat → Nat) (GI GM GR : Nat → Option Nat) (hGI : ∀ k, k < 8 → GI k = some (iAd k 0)) (hGM : ∀ k, k < 2 → GM k = some (gAd k 0)) (hGR : ∀ k, k < 24 → GR k = some (rAd k 0)) (c : CS) (m : MS) (a1 : Int32) (r : Int32) (c1 : CS) (h : F8_drop c a1 = some (r, c1)) : MI l yX8_drop wsX8_drop ({ frames := 1, cells := 0, slots := 0, locals := 21 } : Room) D cy [.ref (mAd 0), .int a1] (WC cy mAd iAd gAd rAd GI GM GR c ++ WM cy aM m) r (WC cy mAd iAd gAd rAd GI GM GR c1 ++ WM cy aM m) := by
  unfold F8_drop at h
  obtain ⟨z, hz, h⟩ := bd_some h
  obtain ⟨h1, h2⟩ := Prod.mk.inj (Option.some.inj h)
  subst h1 h2
  exact MI.tail _ (MI.tail _ (MI.tail _ (MI.tail _ (c_X8_drop l D cy mAd GI GM GR (c.1 0) (c.1 1) (c.2.1 0) (c.2.1 1) (c.1 2) (c.1 3) (c.1 4) (c.1 5) (c.1 6) (c.1 7) (c.2.1 2) (c.1 8) (c.2.1 3) (c.2.1 4) (c.2.1 5) (c.2.1 6) (c.1 9) (c.1 10) (c.2.1 7) (c.2.1 8) (c.2.1 9) (c.2.1 10) (c.1 11) (c.2.1 11) (c.2.1 12) (c.2.1 13) (c.1 12) (c.1 13) (c.1 14) (c.2.1 14) (c.2.1 15) (c.2.1 16) (c.1 15) (c.2.1 17) (c.2.1 18) (c.2.1 19) (c.2.1 20) (c.1 16) (c.2.1 21) a1 z hz))))
def F9_drop (m : MS) (a1 : Int32) : Option (Int32 × MS) := bd (f_X9_drop (m.1 0) (m.1 1) (m.2 0) (m.2 1) a1) (fun z => some (z.1, (va_up (va_up m.1 0 z.2.1) 1 z.2.2.1, va_up m.2 0 z.2.2.2)))
set_option maxRecDepth 100000 in
theorem C9_drop (l : Launch) (D : va_G) (cy : Nat → ClassId) (mAd : Nat → Nat) (iAd gAd rAd : Nat → Nat → Nat) (aM : Nat → Nat) (GI GM GR : Nat → Option Nat) (c : CS) (m : MS) (a1 : Int32) (r : Int32) (m1 : MS) (h : F9_drop m a1 = some (r, m1)) : MI l yX9_drop wsX9_drop ({ frames := 2, cells := 0, slots := 0, locals := 45 } : Room) D cy [.ref (aM 0), .int a1] (WC cy mAd iAd gAd rAd GI GM GR c ++ WM cy aM m) r (WC cy mAd iAd gAd rAd GI GM GR c ++ WM cy aM m1) := by
  unfold F9_drop at h
  obtain ⟨z, hz, h⟩ := bd_some h
  obtain ⟨h1, h2⟩ := Prod.mk.inj (Option.some.inj h)
  subst h1 h2
  exact MI.pre _ (c_X9_drop l D cy aM (m.1 0) (m.1 1) (m.1 2) (m.1 3) (m.1 4) (m.1 5) (m.1 6) (m.1 7) (m.1 8) (m.1 9) (m.1 10) (m.1 11) (m.1 12) (m.1 13) (m.2 0) (m.2 1) (m.2 2) (m.2 3) (m.2 4) (m.2 5) (m.2 6) (m.2 7) (m.2 8) (m.2 9) (m.2 10) (m.2 11) (m.2 12) a1 z hz)
def F8_feed (c : CS) (a1 : Int64) (a2 : Int32) : Option (Int32 × CS) := bd (f_X8_feed (c.1 2) (c.2.1 2) a1 a2) (fun z => some (z.1, (va_up c.1 2 z.2.1, va_up c.2.1 2 z.2.2, c.2.2.1, c.2.2.2.1, c.2.2.2.2.1, c.2.2.2.2.2.1, c.2.2.2.2.2.2)))
set_option maxRecDepth 100000 in
theorem C8_feed (l : Launch) (D : va_G) (cy : Nat → ClassId) (mAd : Nat → Nat) (iAd gAd rAd : Nat → Nat → Nat) (aM : Nat → Nat) (GI GM GR : Nat → Option Nat) (hGI : ∀ k, k < 8 → GI k = some (iAd k 0)) (hGM : ∀ k, k < 2 → GM k = some (gAd k 0)) (hGR : ∀ k, k < 24 → GR k = some (rAd k 0)) (c : CS) (m : MS) (a1 : Int64) (a2 : Int32) (r : Int32) (c1 : CS) (h : F8_feed c a1 a2 = some (r, c1)) : MI l yX8_feed wsX8_feed ({ frames := 1, cells := 0, slots := 0, locals := 24 } : Room) D cy [.ref (mAd 0), .long a1, .int a2] (WC cy mAd iAd gAd rAd GI GM GR c ++ WM cy aM m) r (WC cy mAd iAd gAd rAd GI GM GR c1 ++ WM cy aM m) := by
  unfold F8_feed at h
  obtain ⟨z, hz, h⟩ := bd_some h
  obtain ⟨h1, h2⟩ := Prod.mk.inj (Option.some.inj h)
  subst h1 h2
  exact MI.tail _ (MI.tail _ (MI.tail _ (MI.tail _ (c_X8_feed l D cy mAd GI GM GR (c.1 0) (c.1 1) (c.2.1 0) (c.2.1 1) (c.1 2) (c.1 3) (c.1 4) (c.1 5) (c.1 6) (c.1 7) (c.2.1 2) (c.1 8) (c.2.1 3) (c.2.1 4) (c.2.1 5) (c.2.1 6) (c.1 9) (c.1 10) (c.2.1 7) (c.2.1 8) (c.2.1 9) (c.2.1 10) (c.1 11) (c.2.1 11) (c.2.1 12) (c.2.1 13) (c.1 12) (c.1 13) (c.1 14) (c.2.1 14) (c.2.1 15) (c.2.1 16) (c.1 15) (c.2.1 17) (c.2.1 18) (c.2.1 19) (c.2.1 20) (c.1 16) (c.2.1 21) a1 a2 z hz))))
def F9_feed (m : MS) (a1 : Int64) (a2 : Int32) : Option (Int32 × MS) := bd (f_X9_feed (m.1 0) (m.1 3) (m.2 7) a1 a2) (fun z => some (z.1, (va_up (va_up m.1 0 z.2.1) 3 z.2.2.1, va_up m.2 7 z.2.2.2)))
set_option maxRecDepth 100000 in
theorem C9_feed (l : Launch) (D : va_G) (cy : Nat → ClassId) (mAd : Nat → Nat) (iAd gAd rAd : Nat → Nat → Nat) (aM : Nat → Nat) (GI GM GR : Nat → Option Nat) (c : CS) (m : MS) (a1 : Int64) (a2 : Int32) (r : Int32) (m1 : MS) (h : F9_feed m a1 a2 = some (r, m1)) : MI l yX9_feed wsX9_feed ({ frames := 1, cells := 0, slots := 0, locals := 25 } : Room) D cy [.ref (aM 0), .long a1, .int a2] (WC cy mAd iAd gAd rAd GI GM GR c ++ WM cy aM m) r (WC cy mAd iAd gAd rAd GI GM GR c ++ WM cy aM m1) := by
  unfold F9_feed at h
  obtain ⟨z, hz, h⟩ := bd_some h
  obtain ⟨h1, h2⟩ := Prod.mk.inj (Option.some.inj h)
  subst h1 h2
  exact MI.pre _ (c_X9_feed l D cy aM (m.1 0) (m.1 1) (m.1 2) (m.1 3) (m.1 4) (m.1 5) (m.1 6) (m.1 7) (m.1 8) (m.1 9) (m.1 10) (m.1 11) (m.1 12) (m.1 13) (m.2 0) (m.2 1) (m.2 2) (m.2 3) (m.2 4) (m.2 5) (m.2 6) (m.2 7) (m.2 8) (m.2 9) (m.2 10) (m.2 11) (m.2 12) a1 a2 z hz)
def F8_bay (c : CS)  : Option (Int32 × CS) := bd (f_X8_bay (c.1 0) (c.1 2) (c.1 3) (c.1 4) (c.1 5) (c.1 6) (c.1 7) (c.2.1 2) (c.1 8) (c.2.1 3) (c.2.1 4) (c.2.1 5) (c.2.1 6) (c.1 9) (c.1 10) (c.2.1 7) (c.2.1 8) (c.2.1 9) (c.2.1 10) (c.1 11) (c.2.1 11) (c.2.1 12) (c.2.1 13) (c.1 13) ) (fun z => some (z.1, (va_up (va_up (va_up (va_up (va_up (va_up (va_up (va_up (va_up (va_up (va_up (va_up c.1 0 z.2.1) 2 z.2.2.1) 3 z.2.2.2.1) 4 z.2.2.2.2.1) 5 z.2.2.2.2.2.1) 6 z.2.2.2.2.2.2.1) 7 z.2.2.2.2.2.2.2.1) 8 z.2.2.2.2.2.2.2.2.1) 9 z.2.2.2.2.2.2.2.2.2.2.2.2.2.1) 10 z.2.2.2.2.2.2.2.2.2.2.2.2.2.2.1) 11 z.2.2.2.2.2.2.2.2.2.2.2.2.2.2.2.2.2.2.2.1) 13 z.2.2.2.2.2.2.2.2.2.2.2.2.2.2.2.2.2.2.2.2.2.2.2, va_up (va_up (va_up (va_up (va_up (va_up (va_up (va_up (va_up (va_up (va_up c.2.1 3 z.2.2.2.2.2.2.2.2.2.1) 4 z.2.2.2.2.2.2.2.2.2.2.1) 5 z.2.2.2.2.2.2.2.2.2.2.2.1) 6 z.2.2.2.2.2.2.2.2.2.2.2.2.1) 7 z.2.2.2.2.2.2.2.2.2.2.2.2.2.2.2.1) 8 z.2.2.2.2.2.2.2.2.2.2.2.2.2.2.2.2.1) 9 z.2.2.2.2.2.2.2.2.2.2.2.2.2.2.2.2.2.1) 10 z.2.2.2.2.2.2.2.2.2.2.2.2.2.2.2.2.2.2.1) 11 z.2.2.2.2.2.2.2.2.2.2.2.2.2.2.2.2.2.2.2.2.1) 12 z.2.2.2.2.2.2.2.2.2.2.2.2.2.2.2.2.2.2.2.2.2.1) 13 z.2.2.2.2.2.2.2.2.2.2.2.2.2.2.2.2.2.2.2.2.2.2.1, c.2.2.1, c.2.2.2.1, c.2.2.2.2.1, c.2.2.2.2.2.1, c.2.2.2.2.2.2)))
set_option maxRecDepth 100000 in
theorem C8_bay (l : Launch) (D : va_G) (cy : Nat → ClassId) (mAd : Nat → Nat) (iAd gAd rAd : Nat → Nat → Nat) (aM : Nat → Nat) (GI GM GR : Nat → Option Nat) (hGI : ∀ k, k < 8 → GI k = some (iAd k 0)) (hGM : ∀ k, k < 2 → GM k = some (gAd k 0)) (hGR : ∀ k, k < 24 → GR k = some (rAd k 0)) (c : CS) (m : MS)  (r : Int32) (c1 : CS) (h : F8_bay c  = some (r, c1)) : MI l yX8_bay wsX8_bay ({ frames := 9, cells := 0, slots := 0, locals := 194 } : Room) D cy [.ref (mAd 0)] (WC cy mAd iAd gAd rAd GI GM GR c ++ WM cy aM m) r (WC cy mAd iAd gAd rAd GI GM GR c1 ++ WM cy aM m) := by
  unfold F8_bay at h
  obtain ⟨z, hz, h⟩ := bd_some h
  obtain ⟨h1, h2⟩ := Prod.mk.inj (Option.some.inj h)
  subst h1 h2
  exact MI.tail _ (MI.tail _ (MI.tail _ (MI.tail _ (c_X8_bay l D cy mAd GI GM GR (c.1 0) (c.1 1) (c.2.1 0) (c.2.1 1) (c.1 2) (c.1 3) (c.1 4) (c.1 5) (c.1 6) (c.1 7) (c.2.1 2) (c.1 8) (c.2.1 3) (c.2.1 4) (c.2.1 5) (c.2.1 6) (c.1 9) (c.1 10) (c.2.1 7) (c.2.1 8) (c.2.1 9) (c.2.1 10) (c.1 11) (c.2.1 11) (c.2.1 12) (c.2.1 13) (c.1 12) (c.1 13) (c.1 14) (c.2.1 14) (c.2.1 15) (c.2.1 16) (c.1 15) (c.2.1 17) (c.2.1 18) (c.2.1 19) (c.2.1 20) (c.1 16) (c.2.1 21)  z hz))))
def F9_bay (m : MS)  : Option (Int32 × MS) := bd (f_X9_bay (m.1 0) (m.1 2) (m.1 3) (m.1 4) (m.1 5) (m.1 6) (m.1 7) (m.1 8) (m.1 9) (m.1 10) (m.1 11) (m.2 3) (m.2 4) (m.2 7) ) (fun z => some (z.1, (va_up (va_up (va_up (va_up (va_up (va_up (va_up (va_up (va_up (va_up (va_up m.1 0 z.2.1) 2 z.2.2.1) 3 z.2.2.2.1) 4 z.2.2.2.2.1) 5 z.2.2.2.2.2.1) 6 z.2.2.2.2.2.2.1) 7 z.2.2.2.2.2.2.2.1) 8 z.2.2.2.2.2.2.2.2.1) 9 z.2.2.2.2.2.2.2.2.2.1) 10 z.2.2.2.2.2.2.2.2.2.2.1) 11 z.2.2.2.2.2.2.2.2.2.2.2.1, va_up (va_up m.2 3 z.2.2.2.2.2.2.2.2.2.2.2.2.1) 4 z.2.2.2.2.2.2.2.2.2.2.2.2.2)))
set_option maxRecDepth 100000 in
theorem C9_bay (l : Launch) (D : va_G) (cy : Nat → ClassId) (mAd : Nat → Nat) (iAd gAd rAd : Nat → Nat → Nat) (aM : Nat → Nat) (GI GM GR : Nat → Option Nat) (c : CS) (m : MS)  (r : Int32) (m1 : MS) (h : F9_bay m  = some (r, m1)) : MI l yX9_bay wsX9_bay ({ frames := 5, cells := 0, slots := 0, locals := 110 } : Room) D cy [.ref (aM 0)] (WC cy mAd iAd gAd rAd GI GM GR c ++ WM cy aM m) r (WC cy mAd iAd gAd rAd GI GM GR c ++ WM cy aM m1) := by
  unfold F9_bay at h
  obtain ⟨z, hz, h⟩ := bd_some h
  obtain ⟨h1, h2⟩ := Prod.mk.inj (Option.some.inj h)
  subst h1 h2
  exact MI.pre _ (c_X9_bay l D cy aM (m.1 0) (m.1 1) (m.1 2) (m.1 3) (m.1 4) (m.1 5) (m.1 6) (m.1 7) (m.1 8) (m.1 9) (m.1 10) (m.1 11) (m.1 12) (m.1 13) (m.2 0) (m.2 1) (m.2 2) (m.2 3) (m.2 4) (m.2 5) (m.2 6) (m.2 7) (m.2 8) (m.2 9) (m.2 10) (m.2 11) (m.2 12)  z hz)
def F8_fault (c : CS)  : Option (Int32 × CS) := bd (f_X8_fault (c.1 0) ) (fun z => some (z, c))
set_option maxRecDepth 100000 in
theorem C8_fault (l : Launch) (D : va_G) (cy : Nat → ClassId) (mAd : Nat → Nat) (iAd gAd rAd : Nat → Nat → Nat) (aM : Nat → Nat) (GI GM GR : Nat → Option Nat) (hGI : ∀ k, k < 8 → GI k = some (iAd k 0)) (hGM : ∀ k, k < 2 → GM k = some (gAd k 0)) (hGR : ∀ k, k < 24 → GR k = some (rAd k 0)) (c : CS) (m : MS)  (r : Int32) (c1 : CS) (h : F8_fault c  = some (r, c1)) : MI l yX8_fault wsX8_fault ({ frames := 0, cells := 0, slots := 0, locals := 0 } : Room) D cy [.ref (mAd 0)] (WC cy mAd iAd gAd rAd GI GM GR c ++ WM cy aM m) r (WC cy mAd iAd gAd rAd GI GM GR c1 ++ WM cy aM m) := by
  unfold F8_fault at h
  obtain ⟨z, hz, h⟩ := bd_some h
  obtain ⟨h1, h2⟩ := Prod.mk.inj (Option.some.inj h)
  subst h1 h2
  exact MI.tail _ (MI.tail _ (MI.tail _ (MI.tail _ (c_X8_fault l D cy mAd GI GM GR (c.1 0) (c.1 1) (c.2.1 0) (c.2.1 1) (c.1 2) (c.1 3) (c.1 4) (c.1 5) (c.1 6) (c.1 7) (c.2.1 2) (c.1 8) (c.2.1 3) (c.2.1 4) (c.2.1 5) (c.2.1 6) (c.1 9) (c.1 10) (c.2.1 7) (c.2.1 8) (c.2.1 9) (c.2.1 10) (c.1 11) (c.2.1 11) (c.2.1 12) (c.2.1 13) (c.1 12) (c.1 13) (c.1 14) (c.2.1 14) (c.2.1 15) (c.2.1 16) (c.1 15) (c.2.1 17) (c.2.1 18) (c.2.1 19) (c.2.1 20) (c.1 16) (c.2.1 21)  z hz))))
def F9_fault (m : MS)  : Option (Int32 × MS) := bd (f_X9_fault (m.1 0) (m.1 4) ) (fun z => some (z.1, (va_up m.1 0 z.2, m.2)))
set_option maxRecDepth 100000 in
theorem C9_fault (l : Launch) (D : va_G) (cy : Nat → ClassId) (mAd : Nat → Nat) (iAd gAd rAd : Nat → Nat → Nat) (aM : Nat → Nat) (GI GM GR : Nat → Option Nat) (c : CS) (m : MS)  (r : Int32) (m1 : MS) (h : F9_fault m  = some (r, m1)) : MI l yX9_fault wsX9_fault ({ frames := 0, cells := 0, slots := 0, locals := 0 } : Room) D cy [.ref (aM 0)] (WC cy mAd iAd gAd rAd GI GM GR c ++ WM cy aM m) r (WC cy mAd iAd gAd rAd GI GM GR c ++ WM cy aM m1) := by
  unfold F9_fault at h
  obtain ⟨z, hz, h⟩ := bd_some h
  obtain ⟨h1, h2⟩ := Prod.mk.inj (Option.some.inj h)
  subst h1 h2
  exact MI.pre _ (c_X9_fault l D cy aM (m.1 0) (m.1 1) (m.1 2) (m.1 3) (m.1 4) (m.1 5) (m.1 6) (m.1 7) (m.1 8) (m.1 9) (m.1 10) (m.1 11) (m.1 12) (m.1 13) (m.2 0) (m.2 1) (m.2 2) (m.2 3) (m.2 4) (m.2 5) (m.2 6) (m.2 7) (m.2 8) (m.2 9) (m.2 10) (m.2 11) (m.2 12)  z hz)
def F8_hours (c : CS) (a1 : Int32) : Option (Int32 × CS) := bd (f_X8_hours (c.1 9) (c.1 10) (c.2.1 7) (c.2.1 8) (c.2.1 10) (c.1 11) (c.2.1 11) (c.2.1 12) (c.2.1 13) (c.1 12) (c.1 13) (c.2.2.2.2.2.1 0) (c.2.2.2.2.2.2 0) (c.2.2.2.2.2.2 1) (c.2.2.2.2.2.2 2) a1) (fun z => some (z.1, (va_up (va_up (va_up c.1 11 z.2.1) 12 z.2.2.2.2.2.1) 13 z.2.2.2.2.2.2.1, va_up (va_up (va_up c.2.1 11 z.2.2.1) 12 z.2.2.2.1) 13 z.2.2.2.2.1, c.2.2.1, c.2.2.2.1, c.2.2.2.2.1, va_up c.2.2.2.2.2.1 0 z.2.2.2.2.2.2.2.1, va_up (va_up (va_up c.2.2.2.2.2.2 0 z.2.2.2.2.2.2.2.2.1) 1 z.2.2.2.2.2.2.2.2.2.1) 2 z.2.2.2.2.2.2.2.2.2.2)))
set_option maxRecDepth 100000 in
theorem C8_hours (l : Launch) (D : va_G) (cy : Nat → ClassId) (mAd : Nat → Nat) (iAd gAd rAd : Nat → Nat → Nat) (aM : Nat → Nat) (GI GM GR : Nat → Option Nat) (hGI : ∀ k, k < 8 → GI k = some (iAd k 0)) (hGM : ∀ k, k < 2 → GM k = some (gAd k 0)) (hGR : ∀ k, k < 24 → GR k = some (rAd k 0)) (c : CS) (m : MS) (a1 : Int32) (r : Int32) (c1 : CS) (h : F8_hours c a1 = some (r, c1)) : MI l yX8_hours wsX8_hours ({ frames := 5, cells := 0, slots := 0, locals := 109 } : Room) D cy [.ref (mAd 0), .int a1] (WC cy mAd iAd gAd rAd GI GM GR c ++ WM cy aM m) r (WC cy mAd iAd gAd rAd GI GM GR c1 ++ WM cy aM m) := by
  unfold F8_hours at h
  obtain ⟨z, hz, h⟩ := bd_some h
  obtain ⟨h1, h2⟩ := Prod.mk.inj (Option.some.inj h)
  subst h1 h2
  exact MI.tail _ (MI.mid _ (MI.mid _ (c_X8_hours l D cy mAd rAd GI GM GR (c.1 0) (c.1 1) (c.2.1 0) (c.2.1 1) (c.1 2) (c.1 3) (c.1 4) (c.1 5) (c.1 6) (c.1 7) (c.2.1 2) (c.1 8) (c.2.1 3) (c.2.1 4) (c.2.1 5) (c.2.1 6) (c.1 9) (c.1 10) (c.2.1 7) (c.2.1 8) (c.2.1 9) (c.2.1 10) (c.1 11) (c.2.1 11) (c.2.1 12) (c.2.1 13) (c.1 12) (c.1 13) (c.1 14) (c.2.1 14) (c.2.1 15) (c.2.1 16) (c.1 15) (c.2.1 17) (c.2.1 18) (c.2.1 19) (c.2.1 20) (c.1 16) (c.2.1 21) (c.2.2.2.2.2.1 0) (c.2.2.2.2.2.2 0) (c.2.2.2.2.2.2 1) (c.2.2.2.2.2.2 2) a1 hGR z hz)))
def F9_hours (m : MS) (a1 : Int32) : Option (Int32 × MS) := bd (f_X9_hours (m.1 0) (m.1 2) (m.2 3) (m.2 5) (m.2 6) a1) (fun z => some (z.1, (va_up (va_up m.1 0 z.2.1) 2 z.2.2.1, va_up (va_up (va_up m.2 3 z.2.2.2.1) 5 z.2.2.2.2.1) 6 z.2.2.2.2.2)))
set_option maxRecDepth 100000 in
theorem C9_hours (l : Launch) (D : va_G) (cy : Nat → ClassId) (mAd : Nat → Nat) (iAd gAd rAd : Nat → Nat → Nat) (aM : Nat → Nat) (GI GM GR : Nat → Option Nat) (c : CS) (m : MS) (a1 : Int32) (r : Int32) (m1 : MS) (h : F9_hours m a1 = some (r, m1)) : MI l yX9_hours wsX9_hours ({ frames := 3, cells := 0, slots := 0, locals := 69 } : Room) D cy [.ref (aM 0), .int a1] (WC cy mAd iAd gAd rAd GI GM GR c ++ WM cy aM m) r (WC cy mAd iAd gAd rAd GI GM GR c ++ WM cy aM m1) := by
  unfold F9_hours at h
  obtain ⟨z, hz, h⟩ := bd_some h
  obtain ⟨h1, h2⟩ := Prod.mk.inj (Option.some.inj h)
  subst h1 h2
  exact MI.pre _ (c_X9_hours l D cy aM (m.1 0) (m.1 1) (m.1 2) (m.1 3) (m.1 4) (m.1 5) (m.1 6) (m.1 7) (m.1 8) (m.1 9) (m.1 10) (m.1 11) (m.1 12) (m.1 13) (m.2 0) (m.2 1) (m.2 2) (m.2 3) (m.2 4) (m.2 5) (m.2 6) (m.2 7) (m.2 8) (m.2 9) (m.2 10) (m.2 11) (m.2 12) a1 z hz)
def F8_lend (c : CS) (a1 : Int32) (a2 : Int32) (a3 : Int32) : Option (Int32 × CS) := bd (f_X8_lend (c.1 10) (c.1 11) (c.2.1 11) (c.2.1 12) (c.2.1 13) (c.1 12) (c.1 13) (c.2.2.2.2.2.1 0) (c.2.2.2.2.2.2 0) (c.2.2.2.2.2.2 1) (c.2.2.2.2.2.2 2) a1 a2 a3) (fun z => some (z.1, (va_up (va_up c.1 12 z.2.2.2.1) 13 z.2.2.2.2.1, va_up (va_up c.2.1 11 z.2.1) 13 z.2.2.1, c.2.2.1, c.2.2.2.1, c.2.2.2.2.1, va_up c.2.2.2.2.2.1 0 z.2.2.2.2.2.1, va_up (va_up (va_up c.2.2.2.2.2.2 0 z.2.2.2.2.2.2.1) 1 z.2.2.2.2.2.2.2.1) 2 z.2.2.2.2.2.2.2.2)))
set_option maxRecDepth 100000 in
theorem C8_lend (l : Launch) (D : va_G) (cy : Nat → ClassId) (mAd : Nat → Nat) (iAd gAd rAd : Nat → Nat → Nat) (aM : Nat → Nat) (GI GM GR : Nat → Option Nat) (hGI : ∀ k, k < 8 → GI k = some (iAd k 0)) (hGM : ∀ k, k < 2 → GM k = some (gAd k 0)) (hGR : ∀ k, k < 24 → GR k = some (rAd k 0)) (c : CS) (m : MS) (a1 : Int32) (a2 : Int32) (a3 : Int32) (r : Int32) (c1 : CS) (h : F8_lend c a1 a2 a3 = some (r, c1)) : MI l yX8_lend wsX8_lend ({ frames := 3, cells := 0, slots := 0, locals := 102 } : Room) D cy [.ref (mAd 0), .int a1, .int a2, .int a3] (WC cy mAd iAd gAd rAd GI GM GR c ++ WM cy aM m) r (WC cy mAd iAd gAd rAd GI GM GR c1 ++ WM cy aM m) := by
  unfold F8_lend at h
  obtain ⟨z, hz, h⟩ := bd_some h
  obtain ⟨h1, h2⟩ := Prod.mk.inj (Option.some.inj h)
  subst h1 h2
  exact MI.tail _ (MI.mid _ (MI.mid _ (c_X8_lend l D cy mAd rAd GI GM GR (c.1 0) (c.1 1) (c.2.1 0) (c.2.1 1) (c.1 2) (c.1 3) (c.1 4) (c.1 5) (c.1 6) (c.1 7) (c.2.1 2) (c.1 8) (c.2.1 3) (c.2.1 4) (c.2.1 5) (c.2.1 6) (c.1 9) (c.1 10) (c.2.1 7) (c.2.1 8) (c.2.1 9) (c.2.1 10) (c.1 11) (c.2.1 11) (c.2.1 12) (c.2.1 13) (c.1 12) (c.1 13) (c.1 14) (c.2.1 14) (c.2.1 15) (c.2.1 16) (c.1 15) (c.2.1 17) (c.2.1 18) (c.2.1 19) (c.2.1 20) (c.1 16) (c.2.1 21) (c.2.2.2.2.2.1 0) (c.2.2.2.2.2.2 0) (c.2.2.2.2.2.2 1) (c.2.2.2.2.2.2 2) a1 a2 a3 hGR z hz)))
def F9_lend (m : MS) (a1 : Int32) (a2 : Int32) (a3 : Int32) : Option (Int32 × MS) := bd (f_X9_lend (m.1 0) (m.1 2) (m.2 3) (m.2 6) a1 a2 a3) (fun z => some (z.1, (va_up (va_up m.1 0 z.2.1) 2 z.2.2.1, va_up (va_up m.2 3 z.2.2.2.1) 6 z.2.2.2.2)))
set_option maxRecDepth 100000 in
theorem C9_lend (l : Launch) (D : va_G) (cy : Nat → ClassId) (mAd : Nat → Nat) (iAd gAd rAd : Nat → Nat → Nat) (aM : Nat → Nat) (GI GM GR : Nat → Option Nat) (c : CS) (m : MS) (a1 : Int32) (a2 : Int32) (a3 : Int32) (r : Int32) (m1 : MS) (h : F9_lend m a1 a2 a3 = some (r, m1)) : MI l yX9_lend wsX9_lend ({ frames := 3, cells := 0, slots := 0, locals := 68 } : Room) D cy [.ref (aM 0), .int a1, .int a2, .int a3] (WC cy mAd iAd gAd rAd GI GM GR c ++ WM cy aM m) r (WC cy mAd iAd gAd rAd GI GM GR c ++ WM cy aM m1) := by
  unfold F9_lend at h
  obtain ⟨z, hz, h⟩ := bd_some h
  obtain ⟨h1, h2⟩ := Prod.mk.inj (Option.some.inj h)
  subst h1 h2
  exact MI.pre _ (c_X9_lend l D cy aM (m.1 0) (m.1 1) (m.1 2) (m.1 3) (m.1 4) (m.1 5) (m.1 6) (m.1 7) (m.1 8) (m.1 9) (m.1 10) (m.1 11) (m.1 12) (m.1 13) (m.2 0) (m.2 1) (m.2 2) (m.2 3) (m.2 4) (m.2 5) (m.2 6) (m.2 7) (m.2 8) (m.2 9) (m.2 10) (m.2 11) (m.2 12) a1 a2 a3 z hz)
def F8_pay (c : CS) (a1 : Int32) (a2 : Int32) (a3 : Int32) : Option (Int32 × CS) := bd (f_X8_pay (c.1 10) (c.1 11) (c.2.1 11) (c.2.1 12) (c.2.1 13) (c.1 12) (c.1 13) (c.2.2.2.2.2.1 0) (c.2.2.2.2.2.2 0) (c.2.2.2.2.2.2 1) (c.2.2.2.2.2.2 2) a1 a2 a3) (fun z => some (z.1, (va_up (va_up c.1 12 z.2.2.2.1) 13 z.2.2.2.2.1, va_up (va_up c.2.1 11 z.2.1) 13 z.2.2.1, c.2.2.1, c.2.2.2.1, c.2.2.2.2.1, va_up c.2.2.2.2.2.1 0 z.2.2.2.2.2.1, va_up (va_up (va_up c.2.2.2.2.2.2 0 z.2.2.2.2.2.2.1) 1 z.2.2.2.2.2.2.2.1) 2 z.2.2.2.2.2.2.2.2)))
set_option maxRecDepth 100000 in
theorem C8_pay (l : Launch) (D : va_G) (cy : Nat → ClassId) (mAd : Nat → Nat) (iAd gAd rAd : Nat → Nat → Nat) (aM : Nat → Nat) (GI GM GR : Nat → Option Nat) (hGI : ∀ k, k < 8 → GI k = some (iAd k 0)) (hGM : ∀ k, k < 2 → GM k = some (gAd k 0)) (hGR : ∀ k, k < 24 → GR k = some (rAd k 0)) (c : CS) (m : MS) (a1 : Int32) (a2 : Int32) (a3 : Int32) (r : Int32) (c1 : CS) (h : F8_pay c a1 a2 a3 = some (r, c1)) : MI l yX8_pay wsX8_pay ({ frames := 3, cells := 0, slots := 0, locals := 102 } : Room) D cy [.ref (mAd 0), .int a1, .int a2, .int a3] (WC cy mAd iAd gAd rAd GI GM GR c ++ WM cy aM m) r (WC cy mAd iAd gAd rAd GI GM GR c1 ++ WM cy aM m) := by
  unfold F8_pay at h
  obtain ⟨z, hz, h⟩ := bd_some h
  obtain ⟨h1, h2⟩ := Prod.mk.inj (Option.some.inj h)
  subst h1 h2
  exact MI.tail _ (MI.mid _ (MI.mid _ (c_X8_pay l D cy mAd rAd GI GM GR (c.1 0) (c.1 1) (c.2.1 0) (c.2.1 1) (c.1 2) (c.1 3) (c.1 4) (c.1 5) (c.1 6) (c.1 7) (c.2.1 2) (c.1 8) (c.2.1 3) (c.2.1 4) (c.2.1 5) (c.2.1 6) (c.1 9) (c.1 10) (c.2.1 7) (c.2.1 8) (c.2.1 9) (c.2.1 10) (c.1 11) (c.2.1 11) (c.2.1 12) (c.2.1 13) (c.1 12) (c.1 13) (c.1 14) (c.2.1 14) (c.2.1 15) (c.2.1 16) (c.1 15) (c.2.1 17) (c.2.1 18) (c.2.1 19) (c.2.1 20) (c.1 16) (c.2.1 21) (c.2.2.2.2.2.1 0) (c.2.2.2.2.2.2 0) (c.2.2.2.2.2.2 1) (c.2.2.2.2.2.2 2) a1 a2 a3 hGR z hz)))
def F9_pay (m : MS) (a1 : Int32) (a2 : Int32) (a3 : Int32) : Option (Int32 × MS) := bd (f_X9_pay (m.1 0) (m.1 2) (m.2 3) (m.2 6) a1 a2 a3) (fun z => some (z.1, (va_up (va_up m.1 0 z.2.1) 2 z.2.2.1, va_up (va_up m.2 3 z.2.2.2.1) 6 z.2.2.2.2)))
set_option maxRecDepth 100000 in
theorem C9_pay (l : Launch) (D : va_G) (cy : Nat → ClassId) (mAd : Nat → Nat) (iAd gAd rAd : Nat → Nat → Nat) (aM : Nat → Nat) (GI GM GR : Nat → Option Nat) (c : CS) (m : MS) (a1 : Int32) (a2 : Int32) (a3 : Int32) (r : Int32) (m1 : MS) (h : F9_pay m a1 a2 a3 = some (r, m1)) : MI l yX9_pay wsX9_pay ({ frames := 3, cells := 0, slots := 0, locals := 68 } : Room) D cy [.ref (aM 0), .int a1, .int a2, .int a3] (WC cy mAd iAd gAd rAd GI GM GR c ++ WM cy aM m) r (WC cy mAd iAd gAd rAd GI GM GR c ++ WM cy aM m1) := by
  unfold F9_pay at h
  obtain ⟨z, hz, h⟩ := bd_some h
  obtain ⟨h1, h2⟩ := Prod.mk.inj (Option.some.inj h)
  subst h1 h2
  exact MI.pre _ (c_X9_pay l D cy aM (m.1 0) (m.1 1) (m.1 2) (m.1 3) (m.1 4) (m.1 5) (m.1 6) (m.1 7) (m.1 8) (m.1 9) (m.1 10) (m.1 11) (m.1 12) (m.1 13) (m.2 0) (m.2 1) (m.2 2) (m.2 3) (m.2 4) (m.2 5) (m.2 6) (m.2 7) (m.2 8) (m.2 9) (m.2 10) (m.2 11) (m.2 12) a1 a2 a3 z hz)
def F8_storm (c : CS) (a1 : Int32) : Option (Int32 × CS) := bd (f_X8_storm (c.1 9) (c.1 10) (c.1 11) (c.2.1 11) (c.2.1 12) (c.2.1 13) (c.1 12) (c.1 13) (c.2.2.2.2.2.1 0) (c.2.2.2.2.2.2 0) (c.2.2.2.2.2.2 1) (c.2.2.2.2.2.2 2) a1) (fun z => some (z.1, (va_up (va_up c.1 12 z.2.2.2.1) 13 z.2.2.2.2.1, va_up (va_up c.2.1 11 z.2.1) 12 z.2.2.1, c.2.2.1, c.2.2.2.1, c.2.2.2.2.1, va_up c.2.2.2.2.2.1 0 z.2.2.2.2.2.1, va_up (va_up (va_up c.2.2.2.2.2.2 0 z.2.2.2.2.2.2.1) 1 z.2.2.2.2.2.2.2.1) 2 z.2.2.2.2.2.2.2.2)))
set_option maxRecDepth 100000 in
theorem C8_storm (l : Launch) (D : va_G) (cy : Nat → ClassId) (mAd : Nat → Nat) (iAd gAd rAd : Nat → Nat → Nat) (aM : Nat → Nat) (GI GM GR : Nat → Option Nat) (hGI : ∀ k, k < 8 → GI k = some (iAd k 0)) (hGM : ∀ k, k < 2 → GM k = some (gAd k 0)) (hGR : ∀ k, k < 24 → GR k = some (rAd k 0)) (c : CS) (m : MS) (a1 : Int32) (r : Int32) (c1 : CS) (h : F8_storm c a1 = some (r, c1)) : MI l yX8_storm wsX8_storm ({ frames := 3, cells := 0, slots := 0, locals := 102 } : Room) D cy [.ref (mAd 0), .int a1] (WC cy mAd iAd gAd rAd GI GM GR c ++ WM cy aM m) r (WC cy mAd iAd gAd rAd GI GM GR c1 ++ WM cy aM m) := by
  unfold F8_storm at h
  obtain ⟨z, hz, h⟩ := bd_some h
  obtain ⟨h1, h2⟩ := Prod.mk.inj (Option.some.inj h)
  subst h1 h2
  exact MI.tail _ (MI.mid _ (MI.mid _ (c_X8_storm l D cy mAd rAd GI GM GR (c.1 0) (c.1 1) (c.2.1 0) (c.2.1 1) (c.1 2) (c.1 3) (c.1 4) (c.1 5) (c.1 6) (c.1 7) (c.2.1 2) (c.1 8) (c.2.1 3) (c.2.1 4) (c.2.1 5) (c.2.1 6) (c.1 9) (c.1 10) (c.2.1 7) (c.2.1 8) (c.2.1 9) (c.2.1 10) (c.1 11) (c.2.1 11) (c.2.1 12) (c.2.1 13) (c.1 12) (c.1 13) (c.1 14) (c.2.1 14) (c.2.1 15) (c.2.1 16) (c.1 15) (c.2.1 17) (c.2.1 18) (c.2.1 19) (c.2.1 20) (c.1 16) (c.2.1 21) (c.2.2.2.2.2.1 0) (c.2.2.2.2.2.2 0) (c.2.2.2.2.2.2 1) (c.2.2.2.2.2.2 2) a1 hGR z hz)))
def F9_storm (m : MS) (a1 : Int32) : Option (Int32 × MS) := bd (f_X9_storm (m.1 0) (m.1 2) (m.2 3) (m.2 6) a1) (fun z => some (z.1, (va_up (va_up m.1 0 z.2.1) 2 z.2.2.1, va_up (va_up m.2 3 z.2.2.2.1) 6 z.2.2.2.2)))
set_option maxRecDepth 100000 in
theorem C9_storm (l : Launch) (D : va_G) (cy : Nat → ClassId) (mAd : Nat → Nat) (iAd gAd rAd : Nat → Nat → Nat) (aM : Nat → Nat) (GI GM GR : Nat → Option Nat) (c : CS) (m : MS) (a1 : Int32) (r : Int32) (m1 : MS) (h : F9_storm m a1 = some (r, m1)) : MI l yX9_storm wsX9_storm ({ frames := 1, cells := 0, slots := 0, locals := 25 } : Room) D cy [.ref (aM 0), .int a1] (WC cy mAd iAd gAd rAd GI GM GR c ++ WM cy aM m) r (WC cy mAd iAd gAd rAd GI GM GR c ++ WM cy aM m1) := by
  unfold F9_storm at h
  obtain ⟨z, hz, h⟩ := bd_some h
  obtain ⟨h1, h2⟩ := Prod.mk.inj (Option.some.inj h)
  subst h1 h2
  exact MI.pre _ (c_X9_storm l D cy aM (m.1 0) (m.1 1) (m.1 2) (m.1 3) (m.1 4) (m.1 5) (m.1 6) (m.1 7) (m.1 8) (m.1 9) (m.1 10) (m.1 11) (m.1 12) (m.1 13) (m.2 0) (m.2 1) (m.2 2) (m.2 3) (m.2 4) (m.2 5) (m.2 6) (m.2 7) (m.2 8) (m.2 9) (m.2 10) (m.2 11) (m.2 12) a1 z hz)
def F8_settle (c : CS)  : Option (Int32 × CS) := bd (f_X8_settle (c.1 9) (c.1 10) (c.1 11) (c.2.1 11) (c.2.1 12) (c.2.1 13) (c.1 12) (c.1 13) (c.1 15) (c.2.1 17) (c.2.1 18) (c.2.1 19) (c.2.1 20) (c.2.2.2.2.2.1 0) (c.2.2.2.2.2.2 0) (c.2.2.2.2.2.2 1) (c.2.2.2.2.2.2 2) ) (fun z => some (z.1, (va_up (va_up (va_up c.1 12 z.2.2.2.1) 13 z.2.2.2.2.1) 15 z.2.2.2.2.2.1, va_up (va_up (va_up (va_up (va_up (va_up c.2.1 11 z.2.1) 13 z.2.2.1) 17 z.2.2.2.2.2.2.1) 18 z.2.2.2.2.2.2.2.1) 19 z.2.2.2.2.2.2.2.2.1) 20 z.2.2.2.2.2.2.2.2.2.1, c.2.2.1, c.2.2.2.1, c.2.2.2.2.1, va_up c.2.2.2.2.2.1 0 z.2.2.2.2.2.2.2.2.2.2.1, va_up (va_up (va_up c.2.2.2.2.2.2 0 z.2.2.2.2.2.2.2.2.2.2.2.1) 1 z.2.2.2.2.2.2.2.2.2.2.2.2.1) 2 z.2.2.2.2.2.2.2.2.2.2.2.2.2)))
set_option maxRecDepth 100000 in
theorem C8_settle (l : Launch) (D : va_G) (cy : Nat → ClassId) (mAd : Nat → Nat) (iAd gAd rAd : Nat → Nat → Nat) (aM : Nat → Nat) (GI GM GR : Nat → Option Nat) (hGI : ∀ k, k < 8 → GI k = some (iAd k 0)) (hGM : ∀ k, k < 2 → GM k = some (gAd k 0)) (hGR : ∀ k, k < 24 → GR k = some (rAd k 0)) (c : CS) (m : MS)  (r : Int32) (c1 : CS) (h : F8_settle c  = some (r, c1)) : MI l yX8_settle wsX8_settle ({ frames := 4, cells := 0, slots := 0, locals := 102 } : Room) D cy [.ref (mAd 0)] (WC cy mAd iAd gAd rAd GI GM GR c ++ WM cy aM m) r (WC cy mAd iAd gAd rAd GI GM GR c1 ++ WM cy aM m) := by
  unfold F8_settle at h
  obtain ⟨z, hz, h⟩ := bd_some h
  obtain ⟨h1, h2⟩ := Prod.mk.inj (Option.some.inj h)
  subst h1 h2
  exact MI.tail _ (MI.mid _ (MI.mid _ (c_X8_settle l D cy mAd rAd GI GM GR (c.1 0) (c.1 1) (c.2.1 0) (c.2.1 1) (c.1 2) (c.1 3) (c.1 4) (c.1 5) (c.1 6) (c.1 7) (c.2.1 2) (c.1 8) (c.2.1 3) (c.2.1 4) (c.2.1 5) (c.2.1 6) (c.1 9) (c.1 10) (c.2.1 7) (c.2.1 8) (c.2.1 9) (c.2.1 10) (c.1 11) (c.2.1 11) (c.2.1 12) (c.2.1 13) (c.1 12) (c.1 13) (c.1 14) (c.2.1 14) (c.2.1 15) (c.2.1 16) (c.1 15) (c.2.1 17) (c.2.1 18) (c.2.1 19) (c.2.1 20) (c.1 16) (c.2.1 21) (c.2.2.2.2.2.1 0) (c.2.2.2.2.2.2 0) (c.2.2.2.2.2.2 1) (c.2.2.2.2.2.2 2)  hGR z hz)))
def F9_settle (m : MS)  : Option (Int32 × MS) := bd (f_X9_settle (m.1 0) (m.1 2) (m.1 12) (m.2 3) (m.2 6) (m.2 8) (m.2 9) ) (fun z => some (z.1, (va_up (va_up (va_up m.1 0 z.2.1) 2 z.2.2.1) 12 z.2.2.2.1, va_up (va_up (va_up (va_up m.2 3 z.2.2.2.2.1) 6 z.2.2.2.2.2.1) 8 z.2.2.2.2.2.2.1) 9 z.2.2.2.2.2.2.2)))
set_option maxRecDepth 100000 in
theorem C9_settle (l : Launch) (D : va_G) (cy : Nat → ClassId) (mAd : Nat → Nat) (iAd gAd rAd : Nat → Nat → Nat) (aM : Nat → Nat) (GI GM GR : Nat → Option Nat) (c : CS) (m : MS)  (r : Int32) (m1 : MS) (h : F9_settle m  = some (r, m1)) : MI l yX9_settle wsX9_settle ({ frames := 3, cells := 0, slots := 0, locals := 67 } : Room) D cy [.ref (aM 0)] (WC cy mAd iAd gAd rAd GI GM GR c ++ WM cy aM m) r (WC cy mAd iAd gAd rAd GI GM GR c ++ WM cy aM m1) := by
  unfold F9_settle at h
  obtain ⟨z, hz, h⟩ := bd_some h
  obtain ⟨h1, h2⟩ := Prod.mk.inj (Option.some.inj h)
  subst h1 h2
  exact MI.pre _ (c_X9_settle l D cy aM (m.1 0) (m.1 1) (m.1 2) (m.1 3) (m.1 4) (m.1 5) (m.1 6) (m.1 7) (m.1 8) (m.1 9) (m.1 10) (m.1 11) (m.1 12) (m.1 13) (m.2 0) (m.2 1) (m.2 2) (m.2 3) (m.2 4) (m.2 5) (m.2 6) (m.2 7) (m.2 8) (m.2 9) (m.2 10) (m.2 11) (m.2 12)  z hz)
def F8_undo (c : CS)  : Option (Int32 × CS) := bd (f_X8_undo (c.1 11) (c.2.1 11) (c.2.1 12) (c.2.1 13) (c.1 12) (c.1 13) (c.2.2.2.2.2.1 0) (c.2.2.2.2.2.2 0) (c.2.2.2.2.2.2 1) (c.2.2.2.2.2.2 2) ) (fun z => some (z.1, (va_up (va_up (va_up c.1 11 z.2.1) 12 z.2.2.2.2.2.1) 13 z.2.2.2.2.2.2, va_up (va_up (va_up c.2.1 11 z.2.2.1) 12 z.2.2.2.1) 13 z.2.2.2.2.1, c.2.2.1, c.2.2.2.1, c.2.2.2.2.1, c.2.2.2.2.2.1, c.2.2.2.2.2.2)))
set_option maxRecDepth 100000 in
theorem C8_undo (l : Launch) (D : va_G) (cy : Nat → ClassId) (mAd : Nat → Nat) (iAd gAd rAd : Nat → Nat → Nat) (aM : Nat → Nat) (GI GM GR : Nat → Option Nat) (hGI : ∀ k, k < 8 → GI k = some (iAd k 0)) (hGM : ∀ k, k < 2 → GM k = some (gAd k 0)) (hGR : ∀ k, k < 24 → GR k = some (rAd k 0)) (c : CS) (m : MS)  (r : Int32) (c1 : CS) (h : F8_undo c  = some (r, c1)) : MI l yX8_undo wsX8_undo ({ frames := 3, cells := 0, slots := 0, locals := 102 } : Room) D cy [.ref (mAd 0)] (WC cy mAd iAd gAd rAd GI GM GR c ++ WM cy aM m) r (WC cy mAd iAd gAd rAd GI GM GR c1 ++ WM cy aM m) := by
  unfold F8_undo at h
  obtain ⟨z, hz, h⟩ := bd_some h
  obtain ⟨h1, h2⟩ := Prod.mk.inj (Option.some.inj h)
  subst h1 h2
  exact MI.tail _ (MI.mid _ (MI.mid _ (c_X8_undo l D cy mAd rAd GI GM GR (c.1 0) (c.1 1) (c.2.1 0) (c.2.1 1) (c.1 2) (c.1 3) (c.1 4) (c.1 5) (c.1 6) (c.1 7) (c.2.1 2) (c.1 8) (c.2.1 3) (c.2.1 4) (c.2.1 5) (c.2.1 6) (c.1 9) (c.1 10) (c.2.1 7) (c.2.1 8) (c.2.1 9) (c.2.1 10) (c.1 11) (c.2.1 11) (c.2.1 12) (c.2.1 13) (c.1 12) (c.1 13) (c.1 14) (c.2.1 14) (c.2.1 15) (c.2.1 16) (c.1 15) (c.2.1 17) (c.2.1 18) (c.2.1 19) (c.2.1 20) (c.1 16) (c.2.1 21) (c.2.2.2.2.2.1 0) (c.2.2.2.2.2.2 0) (c.2.2.2.2.2.2 1) (c.2.2.2.2.2.2 2)  hGR z hz)))
def F9_undo (m : MS)  : Option (Int32 × MS) := bd (f_X9_undo (m.1 0) (m.1 2) (m.2 3) (m.2 6) ) (fun z => some (z.1, (va_up (va_up m.1 0 z.2.1) 2 z.2.2.1, va_up m.2 3 z.2.2.2)))
set_option maxRecDepth 100000 in
theorem C9_undo (l : Launch) (D : va_G) (cy : Nat → ClassId) (mAd : Nat → Nat) (iAd gAd rAd : Nat → Nat → Nat) (aM : Nat → Nat) (GI GM GR : Nat → Option Nat) (c : CS) (m : MS)  (r : Int32) (m1 : MS) (h : F9_undo m  = some (r, m1)) : MI l yX9_undo wsX9_undo ({ frames := 0, cells := 0, slots := 0, locals := 0 } : Room) D cy [.ref (aM 0)] (WC cy mAd iAd gAd rAd GI GM GR c ++ WM cy aM m) r (WC cy mAd iAd gAd rAd GI GM GR c ++ WM cy aM m1) := by
  unfold F9_undo at h
  obtain ⟨z, hz, h⟩ := bd_some h
  obtain ⟨h1, h2⟩ := Prod.mk.inj (Option.some.inj h)
  subst h1 h2
  exact MI.pre _ (c_X9_undo l D cy aM (m.1 0) (m.1 1) (m.1 2) (m.1 3) (m.1 4) (m.1 5) (m.1 6) (m.1 7) (m.1 8) (m.1 9) (m.1 10) (m.1 11) (m.1 12) (m.1 13) (m.2 0) (m.2 1) (m.2 2) (m.2 3) (m.2 4) (m.2 5) (m.2 6) (m.2 7) (m.2 8) (m.2 9) (m.2 10) (m.2 11) (m.2 12)  z hz)
def F8_water (c : CS) (a1 : Int32) (a2 : Int32) : Option (Int32 × CS) := bd (f_X8_water (c.1 10) (c.2.1 10) (c.2.1 11) (c.2.1 12) (c.2.1 13) a1 a2) (fun z => some (z, c))
set_option maxRecDepth 100000 in
theorem C8_water (l : Launch) (D : va_G) (cy : Nat → ClassId) (mAd : Nat → Nat) (iAd gAd rAd : Nat → Nat → Nat) (aM : Nat → Nat) (GI GM GR : Nat → Option Nat) (hGI : ∀ k, k < 8 → GI k = some (iAd k 0)) (hGM : ∀ k, k < 2 → GM k = some (gAd k 0)) (hGR : ∀ k, k < 24 → GR k = some (rAd k 0)) (c : CS) (m : MS) (a1 : Int32) (a2 : Int32) (r : Int32) (c1 : CS) (h : F8_water c a1 a2 = some (r, c1)) : MI l yX8_water wsX8_water ({ frames := 3, cells := 0, slots := 0, locals := 68 } : Room) D cy [.ref (mAd 0), .int a1, .int a2] (WC cy mAd iAd gAd rAd GI GM GR c ++ WM cy aM m) r (WC cy mAd iAd gAd rAd GI GM GR c1 ++ WM cy aM m) := by
  unfold F8_water at h
  obtain ⟨z, hz, h⟩ := bd_some h
  obtain ⟨h1, h2⟩ := Prod.mk.inj (Option.some.inj h)
  subst h1 h2
  exact MI.tail _ (MI.tail _ (MI.tail _ (MI.tail _ (c_X8_water l D cy mAd GI GM GR (c.1 0) (c.1 1) (c.2.1 0) (c.2.1 1) (c.1 2) (c.1 3) (c.1 4) (c.1 5) (c.1 6) (c.1 7) (c.2.1 2) (c.1 8) (c.2.1 3) (c.2.1 4) (c.2.1 5) (c.2.1 6) (c.1 9) (c.1 10) (c.2.1 7) (c.2.1 8) (c.2.1 9) (c.2.1 10) (c.1 11) (c.2.1 11) (c.2.1 12) (c.2.1 13) (c.1 12) (c.1 13) (c.1 14) (c.2.1 14) (c.2.1 15) (c.2.1 16) (c.1 15) (c.2.1 17) (c.2.1 18) (c.2.1 19) (c.2.1 20) (c.1 16) (c.2.1 21) a1 a2 z hz))))
def F9_water (m : MS) (a1 : Int32) (a2 : Int32) : Option (Int32 × MS) := bd (f_X9_water (m.1 0) (m.2 3) a1 a2) (fun z => some (z.1, (va_up m.1 0 z.2, m.2)))
set_option maxRecDepth 100000 in
theorem C9_water (l : Launch) (D : va_G) (cy : Nat → ClassId) (mAd : Nat → Nat) (iAd gAd rAd : Nat → Nat → Nat) (aM : Nat → Nat) (GI GM GR : Nat → Option Nat) (c : CS) (m : MS) (a1 : Int32) (a2 : Int32) (r : Int32) (m1 : MS) (h : F9_water m a1 a2 = some (r, m1)) : MI l yX9_water wsX9_water ({ frames := 2, cells := 0, slots := 0, locals := 46 } : Room) D cy [.ref (aM 0), .int a1, .int a2] (WC cy mAd iAd gAd rAd GI GM GR c ++ WM cy aM m) r (WC cy mAd iAd gAd rAd GI GM GR c ++ WM cy aM m1) := by
  unfold F9_water at h
  obtain ⟨z, hz, h⟩ := bd_some h
  obtain ⟨h1, h2⟩ := Prod.mk.inj (Option.some.inj h)
  subst h1 h2
  exact MI.pre _ (c_X9_water l D cy aM (m.1 0) (m.1 1) (m.1 2) (m.1 3) (m.1 4) (m.1 5) (m.1 6) (m.1 7) (m.1 8) (m.1 9) (m.1 10) (m.1 11) (m.1 12) (m.1 13) (m.2 0) (m.2 1) (m.2 2) (m.2 3) (m.2 4) (m.2 5) (m.2 6) (m.2 7) (m.2 8) (m.2 9) (m.2 10) (m.2 11) (m.2 12) a1 a2 z hz)
def F8_owes (c : CS) (a1 : Int32) (a2 : Int32) : Option (Int32 × CS) := bd (f_X8_owes (c.1 10) (c.2.1 13) a1 a2) (fun z => some (z, c))
set_option maxRecDepth 100000 in
theorem C8_owes (l : Launch) (D : va_G) (cy : Nat → ClassId) (mAd : Nat → Nat) (iAd gAd rAd : Nat → Nat → Nat) (aM : Nat → Nat) (GI GM GR : Nat → Option Nat) (hGI : ∀ k, k < 8 → GI k = some (iAd k 0)) (hGM : ∀ k, k < 2 → GM k = some (gAd k 0)) (hGR : ∀ k, k < 24 → GR k = some (rAd k 0)) (c : CS) (m : MS) (a1 : Int32) (a2 : Int32) (r : Int32) (c1 : CS) (h : F8_owes c a1 a2 = some (r, c1)) : MI l yX8_owes wsX8_owes ({ frames := 2, cells := 0, slots := 0, locals := 43 } : Room) D cy [.ref (mAd 0), .int a1, .int a2] (WC cy mAd iAd gAd rAd GI GM GR c ++ WM cy aM m) r (WC cy mAd iAd gAd rAd GI GM GR c1 ++ WM cy aM m) := by
  unfold F8_owes at h
  obtain ⟨z, hz, h⟩ := bd_some h
  obtain ⟨h1, h2⟩ := Prod.mk.inj (Option.some.inj h)
  subst h1 h2
  exact MI.tail _ (MI.tail _ (MI.tail _ (MI.tail _ (c_X8_owes l D cy mAd GI GM GR (c.1 0) (c.1 1) (c.2.1 0) (c.2.1 1) (c.1 2) (c.1 3) (c.1 4) (c.1 5) (c.1 6) (c.1 7) (c.2.1 2) (c.1 8) (c.2.1 3) (c.2.1 4) (c.2.1 5) (c.2.1 6) (c.1 9) (c.1 10) (c.2.1 7) (c.2.1 8) (c.2.1 9) (c.2.1 10) (c.1 11) (c.2.1 11) (c.2.1 12) (c.2.1 13) (c.1 12) (c.1 13) (c.1 14) (c.2.1 14) (c.2.1 15) (c.2.1 16) (c.1 15) (c.2.1 17) (c.2.1 18) (c.2.1 19) (c.2.1 20) (c.1 16) (c.2.1 21) a1 a2 z hz))))
def F9_owes (m : MS) (a1 : Int32) (a2 : Int32) : Option (Int32 × MS) := bd (f_X9_owes (m.1 0) (m.2 3) a1 a2) (fun z => some (z.1, (va_up m.1 0 z.2, m.2)))
set_option maxRecDepth 100000 in
theorem C9_owes (l : Launch) (D : va_G) (cy : Nat → ClassId) (mAd : Nat → Nat) (iAd gAd rAd : Nat → Nat → Nat) (aM : Nat → Nat) (GI GM GR : Nat → Option Nat) (c : CS) (m : MS) (a1 : Int32) (a2 : Int32) (r : Int32) (m1 : MS) (h : F9_owes m a1 a2 = some (r, m1)) : MI l yX9_owes wsX9_owes ({ frames := 3, cells := 0, slots := 0, locals := 68 } : Room) D cy [.ref (aM 0), .int a1, .int a2] (WC cy mAd iAd gAd rAd GI GM GR c ++ WM cy aM m) r (WC cy mAd iAd gAd rAd GI GM GR c ++ WM cy aM m1) := by
  unfold F9_owes at h
  obtain ⟨z, hz, h⟩ := bd_some h
  obtain ⟨h1, h2⟩ := Prod.mk.inj (Option.some.inj h)
  subst h1 h2
  exact MI.pre _ (c_X9_owes l D cy aM (m.1 0) (m.1 1) (m.1 2) (m.1 3) (m.1 4) (m.1 5) (m.1 6) (m.1 7) (m.1 8) (m.1 9) (m.1 10) (m.1 11) (m.1 12) (m.1 13) (m.2 0) (m.2 1) (m.2 2) (m.2 3) (m.2 4) (m.2 5) (m.2 6) (m.2 7) (m.2 8) (m.2 9) (m.2 10) (m.2 11) (m.2 12) a1 a2 z hz)
def F8_ahead (c : CS) (a1 : Int32) (a2 : Int32) (a3 : Int32) : Option (Int32 × CS) := bd (f_X8_ahead (c.1 10) (c.2.1 7) (c.2.1 8) (c.2.1 10) (c.1 11) (c.2.1 11) (c.2.1 12) (c.2.1 13) (c.1 14) (c.2.1 14) (c.2.1 15) (c.2.1 16) a1 a2 a3) (fun z => some (z.1, (va_up c.1 14 z.2.1, va_up (va_up (va_up c.2.1 14 z.2.2.1) 15 z.2.2.2.1) 16 z.2.2.2.2, c.2.2.1, c.2.2.2.1, c.2.2.2.2.1, c.2.2.2.2.2.1, c.2.2.2.2.2.2)))
set_option maxRecDepth 100000 in
theorem C8_ahead (l : Launch) (D : va_G) (cy : Nat → ClassId) (mAd : Nat → Nat) (iAd gAd rAd : Nat → Nat → Nat) (aM : Nat → Nat) (GI GM GR : Nat → Option Nat) (hGI : ∀ k, k < 8 → GI k = some (iAd k 0)) (hGM : ∀ k, k < 2 → GM k = some (gAd k 0)) (hGR : ∀ k, k < 24 → GR k = some (rAd k 0)) (c : CS) (m : MS) (a1 : Int32) (a2 : Int32) (a3 : Int32) (r : Int32) (c1 : CS) (h : F8_ahead c a1 a2 a3 = some (r, c1)) : MI l yX8_ahead wsX8_ahead ({ frames := 6, cells := 0, slots := 0, locals := 132 } : Room) D cy [.ref (mAd 0), .int a1, .int a2, .int a3] (WC cy mAd iAd gAd rAd GI GM GR c ++ WM cy aM m) r (WC cy mAd iAd gAd rAd GI GM GR c1 ++ WM cy aM m) := by
  unfold F8_ahead at h
  obtain ⟨z, hz, h⟩ := bd_some h
  obtain ⟨h1, h2⟩ := Prod.mk.inj (Option.some.inj h)
  subst h1 h2
  exact MI.tail _ (MI.tail _ (MI.tail _ (MI.tail _ (c_X8_ahead l D cy mAd GI GM GR (c.1 0) (c.1 1) (c.2.1 0) (c.2.1 1) (c.1 2) (c.1 3) (c.1 4) (c.1 5) (c.1 6) (c.1 7) (c.2.1 2) (c.1 8) (c.2.1 3) (c.2.1 4) (c.2.1 5) (c.2.1 6) (c.1 9) (c.1 10) (c.2.1 7) (c.2.1 8) (c.2.1 9) (c.2.1 10) (c.1 11) (c.2.1 11) (c.2.1 12) (c.2.1 13) (c.1 12) (c.1 13) (c.1 14) (c.2.1 14) (c.2.1 15) (c.2.1 16) (c.1 15) (c.2.1 17) (c.2.1 18) (c.2.1 19) (c.2.1 20) (c.1 16) (c.2.1 21) a1 a2 a3 z hz))))
def F9_ahead (m : MS) (a1 : Int32) (a2 : Int32) (a3 : Int32) : Option (Int32 × MS) := bd (f_X9_ahead (m.1 0) (m.2 3) (m.2 5) a1 a2 a3) (fun z => some (z.1, (va_up m.1 0 z.2.1, va_up m.2 5 z.2.2)))
set_option maxRecDepth 100000 in
theorem C9_ahead (l : Launch) (D : va_G) (cy : Nat → ClassId) (mAd : Nat → Nat) (iAd gAd rAd : Nat → Nat → Nat) (aM : Nat → Nat) (GI GM GR : Nat → Option Nat) (c : CS) (m : MS) (a1 : Int32) (a2 : Int32) (a3 : Int32) (r : Int32) (m1 : MS) (h : F9_ahead m a1 a2 a3 = some (r, m1)) : MI l yX9_ahead wsX9_ahead ({ frames := 3, cells := 0, slots := 0, locals := 69 } : Room) D cy [.ref (aM 0), .int a1, .int a2, .int a3] (WC cy mAd iAd gAd rAd GI GM GR c ++ WM cy aM m) r (WC cy mAd iAd gAd rAd GI GM GR c ++ WM cy aM m1) := by
  unfold F9_ahead at h
  obtain ⟨z, hz, h⟩ := bd_some h
  obtain ⟨h1, h2⟩ := Prod.mk.inj (Option.some.inj h)
  subst h1 h2
  exact MI.pre _ (c_X9_ahead l D cy aM (m.1 0) (m.1 1) (m.1 2) (m.1 3) (m.1 4) (m.1 5) (m.1 6) (m.1 7) (m.1 8) (m.1 9) (m.1 10) (m.1 11) (m.1 12) (m.1 13) (m.2 0) (m.2 1) (m.2 2) (m.2 3) (m.2 4) (m.2 5) (m.2 6) (m.2 7) (m.2 8) (m.2 9) (m.2 10) (m.2 11) (m.2 12) a1 a2 a3 z hz)
def F8_sail (c : CS) (a1 : Int32) (a2 : Int32) (a3 : Int32) (a4 : Int32) : Option (Int32 × CS) := bd (f_X8_sail (c.1 10) (c.2.1 7) (c.2.1 8) (c.2.1 10) (c.1 11) (c.2.1 11) (c.2.1 12) (c.2.1 13) (c.1 14) (c.2.1 14) (c.2.1 15) (c.2.1 16) a1 a2 a3 a4) (fun z => some (z.1, (va_up c.1 14 z.2.1, va_up (va_up (va_up c.2.1 14 z.2.2.1) 15 z.2.2.2.1) 16 z.2.2.2.2, c.2.2.1, c.2.2.2.1, c.2.2.2.2.1, c.2.2.2.2.2.1, c.2.2.2.2.2.2)))
set_option maxRecDepth 100000 in
theorem C8_sail (l : Launch) (D : va_G) (cy : Nat → ClassId) (mAd : Nat → Nat) (iAd gAd rAd : Nat → Nat → Nat) (aM : Nat → Nat) (GI GM GR : Nat → Option Nat) (hGI : ∀ k, k < 8 → GI k = some (iAd k 0)) (hGM : ∀ k, k < 2 → GM k = some (gAd k 0)) (hGR : ∀ k, k < 24 → GR k = some (rAd k 0)) (c : CS) (m : MS) (a1 : Int32) (a2 : Int32) (a3 : Int32) (a4 : Int32) (r : Int32) (c1 : CS) (h : F8_sail c a1 a2 a3 a4 = some (r, c1)) : MI l yX8_sail wsX8_sail ({ frames := 7, cells := 0, slots := 0, locals := 157 } : Room) D cy [.ref (mAd 0), .int a1, .int a2, .int a3, .int a4] (WC cy mAd iAd gAd rAd GI GM GR c ++ WM cy aM m) r (WC cy mAd iAd gAd rAd GI GM GR c1 ++ WM cy aM m) := by
  unfold F8_sail at h
  obtain ⟨z, hz, h⟩ := bd_some h
  obtain ⟨h1, h2⟩ := Prod.mk.inj (Option.some.inj h)
  subst h1 h2
  exact MI.tail _ (MI.tail _ (MI.tail _ (MI.tail _ (c_X8_sail l D cy mAd GI GM GR (c.1 0) (c.1 1) (c.2.1 0) (c.2.1 1) (c.1 2) (c.1 3) (c.1 4) (c.1 5) (c.1 6) (c.1 7) (c.2.1 2) (c.1 8) (c.2.1 3) (c.2.1 4) (c.2.1 5) (c.2.1 6) (c.1 9) (c.1 10) (c.2.1 7) (c.2.1 8) (c.2.1 9) (c.2.1 10) (c.1 11) (c.2.1 11) (c.2.1 12) (c.2.1 13) (c.1 12) (c.1 13) (c.1 14) (c.2.1 14) (c.2.1 15) (c.2.1 16) (c.1 15) (c.2.1 17) (c.2.1 18) (c.2.1 19) (c.2.1 20) (c.1 16) (c.2.1 21) a1 a2 a3 a4 z hz))))
def F9_sail (m : MS) (a1 : Int32) (a2 : Int32) (a3 : Int32) (a4 : Int32) : Option (Int32 × MS) := bd (f_X9_sail (m.1 0) (m.2 3) (m.2 5) a1 a2 a3 a4) (fun z => some (z.1, (va_up m.1 0 z.2.1, va_up m.2 5 z.2.2)))
set_option maxRecDepth 100000 in
theorem C9_sail (l : Launch) (D : va_G) (cy : Nat → ClassId) (mAd : Nat → Nat) (iAd gAd rAd : Nat → Nat → Nat) (aM : Nat → Nat) (GI GM GR : Nat → Option Nat) (c : CS) (m : MS) (a1 : Int32) (a2 : Int32) (a3 : Int32) (a4 : Int32) (r : Int32) (m1 : MS) (h : F9_sail m a1 a2 a3 a4 = some (r, m1)) : MI l yX9_sail wsX9_sail ({ frames := 4, cells := 0, slots := 0, locals := 94 } : Room) D cy [.ref (aM 0), .int a1, .int a2, .int a3, .int a4] (WC cy mAd iAd gAd rAd GI GM GR c ++ WM cy aM m) r (WC cy mAd iAd gAd rAd GI GM GR c ++ WM cy aM m1) := by
  unfold F9_sail at h
  obtain ⟨z, hz, h⟩ := bd_some h
  obtain ⟨h1, h2⟩ := Prod.mk.inj (Option.some.inj h)
  subst h1 h2
  exact MI.pre _ (c_X9_sail l D cy aM (m.1 0) (m.1 1) (m.1 2) (m.1 3) (m.1 4) (m.1 5) (m.1 6) (m.1 7) (m.1 8) (m.1 9) (m.1 10) (m.1 11) (m.1 12) (m.1 13) (m.2 0) (m.2 1) (m.2 2) (m.2 3) (m.2 4) (m.2 5) (m.2 6) (m.2 7) (m.2 8) (m.2 9) (m.2 10) (m.2 11) (m.2 12) a1 a2 a3 a4 z hz)
def F8_net (c : CS) (a1 : Int32) (a2 : Int32) : Option (Int32 × CS) := bd (f_X8_net (c.1 9) (c.1 10) (c.2.1 11) (c.2.1 13) (c.1 15) (c.2.1 17) (c.2.1 18) (c.2.1 19) (c.2.1 20) a1 a2) (fun z => some (z.1, (va_up c.1 15 z.2.1, va_up (va_up (va_up (va_up c.2.1 17 z.2.2.1) 18 z.2.2.2.1) 19 z.2.2.2.2.1) 20 z.2.2.2.2.2, c.2.2.1, c.2.2.2.1, c.2.2.2.2.1, c.2.2.2.2.2.1, c.2.2.2.2.2.2)))
set_option maxRecDepth 100000 in
theorem C8_net (l : Launch) (D : va_G) (cy : Nat → ClassId) (mAd : Nat → Nat) (iAd gAd rAd : Nat → Nat → Nat) (aM : Nat → Nat) (GI GM GR : Nat → Option Nat) (hGI : ∀ k, k < 8 → GI k = some (iAd k 0)) (hGM : ∀ k, k < 2 → GM k = some (gAd k 0)) (hGR : ∀ k, k < 24 → GR k = some (rAd k 0)) (c : CS) (m : MS) (a1 : Int32) (a2 : Int32) (r : Int32) (c1 : CS) (h : F8_net c a1 a2 = some (r, c1)) : MI l yX8_net wsX8_net ({ frames := 4, cells := 0, slots := 0, locals := 91 } : Room) D cy [.ref (mAd 0), .int a1, .int a2] (WC cy mAd iAd gAd rAd GI GM GR c ++ WM cy aM m) r (WC cy mAd iAd gAd rAd GI GM GR c1 ++ WM cy aM m) := by
  unfold F8_net at h
  obtain ⟨z, hz, h⟩ := bd_some h
  obtain ⟨h1, h2⟩ := Prod.mk.inj (Option.some.inj h)
  subst h1 h2
  exact MI.tail _ (MI.tail _ (MI.tail _ (MI.tail _ (c_X8_net l D cy mAd GI GM GR (c.1 0) (c.1 1) (c.2.1 0) (c.2.1 1) (c.1 2) (c.1 3) (c.1 4) (c.1 5) (c.1 6) (c.1 7) (c.2.1 2) (c.1 8) (c.2.1 3) (c.2.1 4) (c.2.1 5) (c.2.1 6) (c.1 9) (c.1 10) (c.2.1 7) (c.2.1 8) (c.2.1 9) (c.2.1 10) (c.1 11) (c.2.1 11) (c.2.1 12) (c.2.1 13) (c.1 12) (c.1 13) (c.1 14) (c.2.1 14) (c.2.1 15) (c.2.1 16) (c.1 15) (c.2.1 17) (c.2.1 18) (c.2.1 19) (c.2.1 20) (c.1 16) (c.2.1 21) a1 a2 z hz))))
def F9_net (m : MS) (a1 : Int32) (a2 : Int32) : Option (Int32 × MS) := bd (f_X9_net (m.1 0) (m.1 12) (m.2 3) (m.2 8) (m.2 9) a1 a2) (fun z => some (z.1, (va_up (va_up m.1 0 z.2.1) 12 z.2.2.1, va_up (va_up m.2 8 z.2.2.2.1) 9 z.2.2.2.2)))
set_option maxRecDepth 100000 in
theorem C9_net (l : Launch) (D : va_G) (cy : Nat → ClassId) (mAd : Nat → Nat) (iAd gAd rAd : Nat → Nat → Nat) (aM : Nat → Nat) (GI GM GR : Nat → Option Nat) (c : CS) (m : MS) (a1 : Int32) (a2 : Int32) (r : Int32) (m1 : MS) (h : F9_net m a1 a2 = some (r, m1)) : MI l yX9_net wsX9_net ({ frames := 3, cells := 0, slots := 0, locals := 67 } : Room) D cy [.ref (aM 0), .int a1, .int a2] (WC cy mAd iAd gAd rAd GI GM GR c ++ WM cy aM m) r (WC cy mAd iAd gAd rAd GI GM GR c ++ WM cy aM m1) := by
  unfold F9_net at h
  obtain ⟨z, hz, h⟩ := bd_some h
  obtain ⟨h1, h2⟩ := Prod.mk.inj (Option.some.inj h)
  subst h1 h2
  exact MI.pre _ (c_X9_net l D cy aM (m.1 0) (m.1 1) (m.1 2) (m.1 3) (m.1 4) (m.1 5) (m.1 6) (m.1 7) (m.1 8) (m.1 9) (m.1 10) (m.1 11) (m.1 12) (m.1 13) (m.2 0) (m.2 1) (m.2 2) (m.2 3) (m.2 4) (m.2 5) (m.2 6) (m.2 7) (m.2 8) (m.2 9) (m.2 10) (m.2 11) (m.2 12) a1 a2 z hz)
def F8_least (c : CS) (a1 : Int32) (a2 : Int32) (a3 : Int32) (a4 : Int32) : Option (Int32 × CS) := bd (f_X8_least (c.1 10) (c.2.1 7) (c.2.1 8) (c.2.1 10) (c.1 11) (c.2.1 11) (c.2.1 12) (c.2.1 13) (c.1 14) (c.2.1 14) (c.2.1 15) (c.2.1 16) a1 a2 a3 a4) (fun z => some (z.1, (va_up c.1 14 z.2.1, va_up (va_up (va_up c.2.1 14 z.2.2.1) 15 z.2.2.2.1) 16 z.2.2.2.2, c.2.2.1, c.2.2.2.1, c.2.2.2.2.1, c.2.2.2.2.2.1, c.2.2.2.2.2.2)))
set_option maxRecDepth 100000 in
theorem C8_least (l : Launch) (D : va_G) (cy : Nat → ClassId) (mAd : Nat → Nat) (iAd gAd rAd : Nat → Nat → Nat) (aM : Nat → Nat) (GI GM GR : Nat → Option Nat) (hGI : ∀ k, k < 8 → GI k = some (iAd k 0)) (hGM : ∀ k, k < 2 → GM k = some (gAd k 0)) (hGR : ∀ k, k < 24 → GR k = some (rAd k 0)) (c : CS) (m : MS) (a1 : Int32) (a2 : Int32) (a3 : Int32) (a4 : Int32) (r : Int32) (c1 : CS) (h : F8_least c a1 a2 a3 a4 = some (r, c1)) : MI l yX8_least wsX8_least ({ frames := 7, cells := 0, slots := 0, locals := 155 } : Room) D cy [.ref (mAd 0), .int a1, .int a2, .int a3, .int a4] (WC cy mAd iAd gAd rAd GI GM GR c ++ WM cy aM m) r (WC cy mAd iAd gAd rAd GI GM GR c1 ++ WM cy aM m) := by
  unfold F8_least at h
  obtain ⟨z, hz, h⟩ := bd_some h
  obtain ⟨h1, h2⟩ := Prod.mk.inj (Option.some.inj h)
  subst h1 h2
  exact MI.tail _ (MI.tail _ (MI.tail _ (MI.tail _ (c_X8_least l D cy mAd GI GM GR (c.1 0) (c.1 1) (c.2.1 0) (c.2.1 1) (c.1 2) (c.1 3) (c.1 4) (c.1 5) (c.1 6) (c.1 7) (c.2.1 2) (c.1 8) (c.2.1 3) (c.2.1 4) (c.2.1 5) (c.2.1 6) (c.1 9) (c.1 10) (c.2.1 7) (c.2.1 8) (c.2.1 9) (c.2.1 10) (c.1 11) (c.2.1 11) (c.2.1 12) (c.2.1 13) (c.1 12) (c.1 13) (c.1 14) (c.2.1 14) (c.2.1 15) (c.2.1 16) (c.1 15) (c.2.1 17) (c.2.1 18) (c.2.1 19) (c.2.1 20) (c.1 16) (c.2.1 21) a1 a2 a3 a4 z hz))))
def F9_least (m : MS) (a1 : Int32) (a2 : Int32) (a3 : Int32) (a4 : Int32) : Option (Int32 × MS) := bd (f_X9_least (m.1 0) (m.2 3) (m.2 5) a1 a2 a3 a4) (fun z => some (z.1, (va_up m.1 0 z.2.1, va_up m.2 5 z.2.2)))
set_option maxRecDepth 100000 in
theorem C9_least (l : Launch) (D : va_G) (cy : Nat → ClassId) (mAd : Nat → Nat) (iAd gAd rAd : Nat → Nat → Nat) (aM : Nat → Nat) (GI GM GR : Nat → Option Nat) (c : CS) (m : MS) (a1 : Int32) (a2 : Int32) (a3 : Int32) (a4 : Int32) (r : Int32) (m1 : MS) (h : F9_least m a1 a2 a3 a4 = some (r, m1)) : MI l yX9_least wsX9_least ({ frames := 3, cells := 0, slots := 0, locals := 68 } : Room) D cy [.ref (aM 0), .int a1, .int a2, .int a3, .int a4] (WC cy mAd iAd gAd rAd GI GM GR c ++ WM cy aM m) r (WC cy mAd iAd gAd rAd GI GM GR c ++ WM cy aM m1) := by
  unfold F9_least at h
  obtain ⟨z, hz, h⟩ := bd_some h
  obtain ⟨h1, h2⟩ := Prod.mk.inj (Option.some.inj h)
  subst h1 h2
  exact MI.pre _ (c_X9_least l D cy aM (m.1 0) (m.1 1) (m.1 2) (m.1 3) (m.1 4) (m.1 5) (m.1 6) (m.1 7) (m.1 8) (m.1 9) (m.1 10) (m.1 11) (m.1 12) (m.1 13) (m.2 0) (m.2 1) (m.2 2) (m.2 3) (m.2 4) (m.2 5) (m.2 6) (m.2 7) (m.2 8) (m.2 9) (m.2 10) (m.2 11) (m.2 12) a1 a2 a3 a4 z hz)
def F8_run (c : CS)  : Option (Int32 × CS) := bd (f_X8_run (c.1 9) (c.1 10) (c.1 11) (c.2.1 11) (c.2.1 12) (c.2.1 13) (c.1 14) (c.2.1 14) (c.2.1 15) (c.2.1 16) ) (fun z => some (z.1, (va_up c.1 14 z.2.1, va_up (va_up (va_up c.2.1 14 z.2.2.1) 15 z.2.2.2.1) 16 z.2.2.2.2, c.2.2.1, c.2.2.2.1, c.2.2.2.2.1, c.2.2.2.2.2.1, c.2.2.2.2.2.2)))
set_option maxRecDepth 100000 in
theorem C8_run (l : Launch) (D : va_G) (cy : Nat → ClassId) (mAd : Nat → Nat) (iAd gAd rAd : Nat → Nat → Nat) (aM : Nat → Nat) (GI GM GR : Nat → Option Nat) (hGI : ∀ k, k < 8 → GI k = some (iAd k 0)) (hGM : ∀ k, k < 2 → GM k = some (gAd k 0)) (hGR : ∀ k, k < 24 → GR k = some (rAd k 0)) (c : CS) (m : MS)  (r : Int32) (c1 : CS) (h : F8_run c  = some (r, c1)) : MI l yX8_run wsX8_run ({ frames := 3, cells := 0, slots := 0, locals := 81 } : Room) D cy [.ref (mAd 0)] (WC cy mAd iAd gAd rAd GI GM GR c ++ WM cy aM m) r (WC cy mAd iAd gAd rAd GI GM GR c1 ++ WM cy aM m) := by
  unfold F8_run at h
  obtain ⟨z, hz, h⟩ := bd_some h
  obtain ⟨h1, h2⟩ := Prod.mk.inj (Option.some.inj h)
  subst h1 h2
  exact MI.tail _ (MI.tail _ (MI.tail _ (MI.tail _ (c_X8_run l D cy mAd GI GM GR (c.1 0) (c.1 1) (c.2.1 0) (c.2.1 1) (c.1 2) (c.1 3) (c.1 4) (c.1 5) (c.1 6) (c.1 7) (c.2.1 2) (c.1 8) (c.2.1 3) (c.2.1 4) (c.2.1 5) (c.2.1 6) (c.1 9) (c.1 10) (c.2.1 7) (c.2.1 8) (c.2.1 9) (c.2.1 10) (c.1 11) (c.2.1 11) (c.2.1 12) (c.2.1 13) (c.1 12) (c.1 13) (c.1 14) (c.2.1 14) (c.2.1 15) (c.2.1 16) (c.1 15) (c.2.1 17) (c.2.1 18) (c.2.1 19) (c.2.1 20) (c.1 16) (c.2.1 21)  z hz))))
def F9_run (m : MS)  : Option (Int32 × MS) := bd (f_X9_run (m.1 0) (m.2 3) (m.2 5) ) (fun z => some (z.1, (va_up m.1 0 z.2.1, va_up m.2 5 z.2.2)))
set_option maxRecDepth 100000 in
theorem C9_run (l : Launch) (D : va_G) (cy : Nat → ClassId) (mAd : Nat → Nat) (iAd gAd rAd : Nat → Nat → Nat) (aM : Nat → Nat) (GI GM GR : Nat → Option Nat) (c : CS) (m : MS)  (r : Int32) (m1 : MS) (h : F9_run m  = some (r, m1)) : MI l yX9_run wsX9_run ({ frames := 1, cells := 0, slots := 0, locals := 21 } : Room) D cy [.ref (aM 0)] (WC cy mAd iAd gAd rAd GI GM GR c ++ WM cy aM m) r (WC cy mAd iAd gAd rAd GI GM GR c ++ WM cy aM m1) := by
  unfold F9_run at h
  obtain ⟨z, hz, h⟩ := bd_some h
  obtain ⟨h1, h2⟩ := Prod.mk.inj (Option.some.inj h)
  subst h1 h2
  exact MI.pre _ (c_X9_run l D cy aM (m.1 0) (m.1 1) (m.1 2) (m.1 3) (m.1 4) (m.1 5) (m.1 6) (m.1 7) (m.1 8) (m.1 9) (m.1 10) (m.1 11) (m.1 12) (m.1 13) (m.2 0) (m.2 1) (m.2 2) (m.2 3) (m.2 4) (m.2 5) (m.2 6) (m.2 7) (m.2 8) (m.2 9) (m.2 10) (m.2 11) (m.2 12)  z hz)
def F8_frauds (c : CS) (a1 : Int32) (a2 : Int32) : Option (Int32 × CS) := bd (f_X8_frauds (c.1 1) (c.2.1 0) (c.2.1 1) (c.1 9) (c.1 10) (c.2.1 7) (c.2.1 8) (c.2.1 10) (c.1 11) (c.2.1 11) (c.2.1 12) (c.2.1 13) (c.1 14) (c.2.1 14) (c.2.1 15) (c.2.1 16) c.2.2.1 a1 a2) (fun z => some (z.1, (va_up (va_up c.1 1 z.2.1) 14 z.2.2.1, va_up (va_up (va_up c.2.1 14 z.2.2.2.1) 15 z.2.2.2.2.1) 16 z.2.2.2.2.2, c.2.2.1, c.2.2.2.1, c.2.2.2.2.1, c.2.2.2.2.2.1, c.2.2.2.2.2.2)))
set_option maxRecDepth 100000 in
theorem C8_frauds (l : Launch) (D : va_G) (cy : Nat → ClassId) (mAd : Nat → Nat) (iAd gAd rAd : Nat → Nat → Nat) (aM : Nat → Nat) (GI GM GR : Nat → Option Nat) (hGI : ∀ k, k < 8 → GI k = some (iAd k 0)) (hGM : ∀ k, k < 2 → GM k = some (gAd k 0)) (hGR : ∀ k, k < 24 → GR k = some (rAd k 0)) (c : CS) (m : MS) (a1 : Int32) (a2 : Int32) (r : Int32) (c1 : CS) (h : F8_frauds c a1 a2 = some (r, c1)) : MI l yX8_frauds wsX8_frauds ({ frames := 6, cells := 0, slots := 0, locals := 133 } : Room) D cy [.ref (mAd 0), .int a1, .int a2] (WC cy mAd iAd gAd rAd GI GM GR c ++ WM cy aM m) r (WC cy mAd iAd gAd rAd GI GM GR c1 ++ WM cy aM m) := by
  unfold F8_frauds at h
  obtain ⟨z, hz, h⟩ := bd_some h
  obtain ⟨h1, h2⟩ := Prod.mk.inj (Option.some.inj h)
  subst h1 h2
  exact MI.tail _ (MI.tail _ (MI.tail _ (c_X8_frauds l D cy mAd iAd GI GM GR (c.1 0) (c.1 1) (c.2.1 0) (c.2.1 1) (c.1 2) (c.1 3) (c.1 4) (c.1 5) (c.1 6) (c.1 7) (c.2.1 2) (c.1 8) (c.2.1 3) (c.2.1 4) (c.2.1 5) (c.2.1 6) (c.1 9) (c.1 10) (c.2.1 7) (c.2.1 8) (c.2.1 9) (c.2.1 10) (c.1 11) (c.2.1 11) (c.2.1 12) (c.2.1 13) (c.1 12) (c.1 13) (c.1 14) (c.2.1 14) (c.2.1 15) (c.2.1 16) (c.1 15) (c.2.1 17) (c.2.1 18) (c.2.1 19) (c.2.1 20) (c.1 16) (c.2.1 21) c.2.2.1 a1 a2 hGI z hz)))
def F9_frauds (m : MS) (a1 : Int32) (a2 : Int32) : Option (Int32 × MS) := bd (f_X9_frauds (m.1 0) (m.1 1) (m.2 0) (m.2 1) (m.2 2) (m.2 3) (m.2 5) a1 a2) (fun z => some (z.1, (va_up (va_up m.1 0 z.2.1) 1 z.2.2.1, va_up m.2 5 z.2.2.2)))
set_option maxRecDepth 100000 in
theorem C9_frauds (l : Launch) (D : va_G) (cy : Nat → ClassId) (mAd : Nat → Nat) (iAd gAd rAd : Nat → Nat → Nat) (aM : Nat → Nat) (GI GM GR : Nat → Option Nat) (c : CS) (m : MS) (a1 : Int32) (a2 : Int32) (r : Int32) (m1 : MS) (h : F9_frauds m a1 a2 = some (r, m1)) : MI l yX9_frauds wsX9_frauds ({ frames := 3, cells := 0, slots := 0, locals := 69 } : Room) D cy [.ref (aM 0), .int a1, .int a2] (WC cy mAd iAd gAd rAd GI GM GR c ++ WM cy aM m) r (WC cy mAd iAd gAd rAd GI GM GR c ++ WM cy aM m1) := by
  unfold F9_frauds at h
  obtain ⟨z, hz, h⟩ := bd_some h
  obtain ⟨h1, h2⟩ := Prod.mk.inj (Option.some.inj h)
  subst h1 h2
  exact MI.pre _ (c_X9_frauds l D cy aM (m.1 0) (m.1 1) (m.1 2) (m.1 3) (m.1 4) (m.1 5) (m.1 6) (m.1 7) (m.1 8) (m.1 9) (m.1 10) (m.1 11) (m.1 12) (m.1 13) (m.2 0) (m.2 1) (m.2 2) (m.2 3) (m.2 4) (m.2 5) (m.2 6) (m.2 7) (m.2 8) (m.2 9) (m.2 10) (m.2 11) (m.2 12) a1 a2 z hz)
def F8_image (c : CS) (a1 : Int32) : Option (Int32 × CS) := bd (f_X8_image (c.1 9) (c.1 10) (c.2.1 7) (c.2.1 8) (c.2.1 9) (c.2.1 10) (c.1 11) (c.2.1 11) (c.2.1 12) (c.2.1 13) (c.2.2.2.1 0) (c.2.2.2.1 1) (c.2.2.2.2.1 0) (c.2.2.2.2.1 1) (c.2.2.2.2.1 2) (c.2.2.2.2.1 3) (c.2.2.2.1 2) (c.2.2.2.2.1 4) (c.2.2.2.2.1 5) (c.2.2.2.2.1 6) a1) (fun z => some (z.1, (c.1, c.2.1, c.2.2.1, va_up (va_up (va_up c.2.2.2.1 0 z.2.1) 1 z.2.2.1) 2 z.2.2.2.2.2.2.2.1, va_up (va_up (va_up (va_up (va_up (va_up (va_up c.2.2.2.2.1 0 z.2.2.2.1) 1 z.2.2.2.2.1) 2 z.2.2.2.2.2.1) 3 z.2.2.2.2.2.2.1) 4 z.2.2.2.2.2.2.2.2.1) 5 z.2.2.2.2.2.2.2.2.2.1) 6 z.2.2.2.2.2.2.2.2.2.2, c.2.2.2.2.2.1, c.2.2.2.2.2.2)))
set_option maxRecDepth 100000 in
theorem C8_image (l : Launch) (D : va_G) (cy : Nat → ClassId) (mAd : Nat → Nat) (iAd gAd rAd : Nat → Nat → Nat) (aM : Nat → Nat) (GI GM GR : Nat → Option Nat) (hGI : ∀ k, k < 8 → GI k = some (iAd k 0)) (hGM : ∀ k, k < 2 → GM k = some (gAd k 0)) (hGR : ∀ k, k < 24 → GR k = some (rAd k 0)) (c : CS) (m : MS) (a1 : Int32) (r : Int32) (c1 : CS) (h : F8_image c a1 = some (r, c1)) : MI l yX8_image wsX8_image ({ frames := 3, cells := 0, slots := 0, locals := 102 } : Room) D cy [.ref (mAd 0), .int a1] (WC cy mAd iAd gAd rAd GI GM GR c ++ WM cy aM m) r (WC cy mAd iAd gAd rAd GI GM GR c1 ++ WM cy aM m) := by
  unfold F8_image at h
  obtain ⟨z, hz, h⟩ := bd_some h
  obtain ⟨h1, h2⟩ := Prod.mk.inj (Option.some.inj h)
  subst h1 h2
  exact MI.tail _ (MI.tail _ (MI.mid _ (c_X8_image l D cy mAd gAd GI GM GR (c.1 0) (c.1 1) (c.2.1 0) (c.2.1 1) (c.1 2) (c.1 3) (c.1 4) (c.1 5) (c.1 6) (c.1 7) (c.2.1 2) (c.1 8) (c.2.1 3) (c.2.1 4) (c.2.1 5) (c.2.1 6) (c.1 9) (c.1 10) (c.2.1 7) (c.2.1 8) (c.2.1 9) (c.2.1 10) (c.1 11) (c.2.1 11) (c.2.1 12) (c.2.1 13) (c.1 12) (c.1 13) (c.1 14) (c.2.1 14) (c.2.1 15) (c.2.1 16) (c.1 15) (c.2.1 17) (c.2.1 18) (c.2.1 19) (c.2.1 20) (c.1 16) (c.2.1 21) (c.2.2.2.1 0) (c.2.2.2.1 1) (c.2.2.2.2.1 0) (c.2.2.2.2.1 1) (c.2.2.2.2.1 2) (c.2.2.2.2.1 3) (c.2.2.2.1 2) (c.2.2.2.2.1 4) (c.2.2.2.2.1 5) (c.2.2.2.2.1 6) a1 hGM z hz)))
def F9_image (m : MS) (a1 : Int32) : Option (Int32 × MS) := bd (f_X9_image (m.1 0) (m.2 3) (m.2 10) (m.2 11) a1) (fun z => some (z.1, (va_up m.1 0 z.2.1, va_up (va_up m.2 10 z.2.2.1) 11 z.2.2.2)))
set_option maxRecDepth 100000 in
theorem C9_image (l : Launch) (D : va_G) (cy : Nat → ClassId) (mAd : Nat → Nat) (iAd gAd rAd : Nat → Nat → Nat) (aM : Nat → Nat) (GI GM GR : Nat → Option Nat) (c : CS) (m : MS) (a1 : Int32) (r : Int32) (m1 : MS) (h : F9_image m a1 = some (r, m1)) : MI l yX9_image wsX9_image ({ frames := 1, cells := 0, slots := 0, locals := 25 } : Room) D cy [.ref (aM 0), .int a1] (WC cy mAd iAd gAd rAd GI GM GR c ++ WM cy aM m) r (WC cy mAd iAd gAd rAd GI GM GR c ++ WM cy aM m1) := by
  unfold F9_image at h
  obtain ⟨z, hz, h⟩ := bd_some h
  obtain ⟨h1, h2⟩ := Prod.mk.inj (Option.some.inj h)
  subst h1 h2
  exact MI.pre _ (c_X9_image l D cy aM (m.1 0) (m.1 1) (m.1 2) (m.1 3) (m.1 4) (m.1 5) (m.1 6) (m.1 7) (m.1 8) (m.1 9) (m.1 10) (m.1 11) (m.1 12) (m.1 13) (m.2 0) (m.2 1) (m.2 2) (m.2 3) (m.2 4) (m.2 5) (m.2 6) (m.2 7) (m.2 8) (m.2 9) (m.2 10) (m.2 11) (m.2 12) a1 z hz)
def F8_restore (c : CS) (a1 : Int32) : Option (Int32 × CS) := bd (f_X8_restore (c.1 9) (c.1 10) (c.2.1 7) (c.2.1 8) (c.2.1 9) (c.2.1 10) (c.1 11) (c.2.1 11) (c.2.1 12) (c.2.1 13) (c.1 13) (c.2.2.2.1 0) (c.2.2.2.1 1) (c.2.2.2.2.1 0) (c.2.2.2.2.1 1) (c.2.2.2.2.1 2) (c.2.2.2.2.1 3) (c.2.2.2.1 2) (c.2.2.2.2.1 4) (c.2.2.2.2.1 5) (c.2.2.2.2.1 6) a1) (fun z => some (z.1, (va_up (va_up (va_up (va_up c.1 9 z.2.1) 10 z.2.2.1) 11 z.2.2.2.2.2.2.2.1) 13 z.2.2.2.2.2.2.2.2.2.2.2, va_up (va_up (va_up (va_up (va_up (va_up (va_up c.2.1 7 z.2.2.2.1) 8 z.2.2.2.2.1) 9 z.2.2.2.2.2.1) 10 z.2.2.2.2.2.2.1) 11 z.2.2.2.2.2.2.2.2.1) 12 z.2.2.2.2.2.2.2.2.2.1) 13 z.2.2.2.2.2.2.2.2.2.2.1, c.2.2.1, c.2.2.2.1, c.2.2.2.2.1, c.2.2.2.2.2.1, c.2.2.2.2.2.2)))
set_option maxRecDepth 100000 in
theorem C8_restore (l : Launch) (D : va_G) (cy : Nat → ClassId) (mAd : Nat → Nat) (iAd gAd rAd : Nat → Nat → Nat) (aM : Nat → Nat) (GI GM GR : Nat → Option Nat) (hGI : ∀ k, k < 8 → GI k = some (iAd k 0)) (hGM : ∀ k, k < 2 → GM k = some (gAd k 0)) (hGR : ∀ k, k < 24 → GR k = some (rAd k 0)) (c : CS) (m : MS) (a1 : Int32) (r : Int32) (c1 : CS) (h : F8_restore c a1 = some (r, c1)) : MI l yX8_restore wsX8_restore ({ frames := 3, cells := 0, slots := 0, locals := 102 } : Room) D cy [.ref (mAd 0), .int a1] (WC cy mAd iAd gAd rAd GI GM GR c ++ WM cy aM m) r (WC cy mAd iAd gAd rAd GI GM GR c1 ++ WM cy aM m) := by
  unfold F8_restore at h
  obtain ⟨z, hz, h⟩ := bd_some h
  obtain ⟨h1, h2⟩ := Prod.mk.inj (Option.some.inj h)
  subst h1 h2
  exact MI.tail _ (MI.tail _ (MI.mid _ (c_X8_restore l D cy mAd gAd GI GM GR (c.1 0) (c.1 1) (c.2.1 0) (c.2.1 1) (c.1 2) (c.1 3) (c.1 4) (c.1 5) (c.1 6) (c.1 7) (c.2.1 2) (c.1 8) (c.2.1 3) (c.2.1 4) (c.2.1 5) (c.2.1 6) (c.1 9) (c.1 10) (c.2.1 7) (c.2.1 8) (c.2.1 9) (c.2.1 10) (c.1 11) (c.2.1 11) (c.2.1 12) (c.2.1 13) (c.1 12) (c.1 13) (c.1 14) (c.2.1 14) (c.2.1 15) (c.2.1 16) (c.1 15) (c.2.1 17) (c.2.1 18) (c.2.1 19) (c.2.1 20) (c.1 16) (c.2.1 21) (c.2.2.2.1 0) (c.2.2.2.1 1) (c.2.2.2.2.1 0) (c.2.2.2.2.1 1) (c.2.2.2.2.1 2) (c.2.2.2.2.1 3) (c.2.2.2.1 2) (c.2.2.2.2.1 4) (c.2.2.2.2.1 5) (c.2.2.2.2.1 6) a1 hGM z hz)))
def F9_restore (m : MS) (a1 : Int32) : Option (Int32 × MS) := bd (f_X9_restore (m.1 0) (m.1 2) (m.2 3) (m.2 10) (m.2 11) a1) (fun z => some (z.1, (va_up (va_up m.1 0 z.2.1) 2 z.2.2.1, va_up m.2 3 z.2.2.2)))
set_option maxRecDepth 100000 in
theorem C9_restore (l : Launch) (D : va_G) (cy : Nat → ClassId) (mAd : Nat → Nat) (iAd gAd rAd : Nat → Nat → Nat) (aM : Nat → Nat) (GI GM GR : Nat → Option Nat) (c : CS) (m : MS) (a1 : Int32) (r : Int32) (m1 : MS) (h : F9_restore m a1 = some (r, m1)) : MI l yX9_restore wsX9_restore ({ frames := 1, cells := 0, slots := 0, locals := 25 } : Room) D cy [.ref (aM 0), .int a1] (WC cy mAd iAd gAd rAd GI GM GR c ++ WM cy aM m) r (WC cy mAd iAd gAd rAd GI GM GR c ++ WM cy aM m1) := by
  unfold F9_restore at h
  obtain ⟨z, hz, h⟩ := bd_some h
  obtain ⟨h1, h2⟩ := Prod.mk.inj (Option.some.inj h)
  subst h1 h2
  exact MI.pre _ (c_X9_restore l D cy aM (m.1 0) (m.1 1) (m.1 2) (m.1 3) (m.1 4) (m.1 5) (m.1 6) (m.1 7) (m.1 8) (m.1 9) (m.1 10) (m.1 11) (m.1 12) (m.1 13) (m.2 0) (m.2 1) (m.2 2) (m.2 3) (m.2 4) (m.2 5) (m.2 6) (m.2 7) (m.2 8) (m.2 9) (m.2 10) (m.2 11) (m.2 12) a1 z hz)
def F8_kind (c : CS) (a1 : Int32) : Option (Int32 × CS) := bd (f_X8_kind (c.1 10) (c.2.1 8) a1) (fun z => some (z, c))
set_option maxRecDepth 100000 in
theorem C8_kind (l : Launch) (D : va_G) (cy : Nat → ClassId) (mAd : Nat → Nat) (iAd gAd rAd : Nat → Nat → Nat) (aM : Nat → Nat) (GI GM GR : Nat → Option Nat) (hGI : ∀ k, k < 8 → GI k = some (iAd k 0)) (hGM : ∀ k, k < 2 → GM k = some (gAd k 0)) (hGR : ∀ k, k < 24 → GR k = some (rAd k 0)) (c : CS) (m : MS) (a1 : Int32) (r : Int32) (c1 : CS) (h : F8_kind c a1 = some (r, c1)) : MI l yX8_kind wsX8_kind ({ frames := 1, cells := 0, slots := 0, locals := 21 } : Room) D cy [.ref (mAd 0), .int a1] (WC cy mAd iAd gAd rAd GI GM GR c ++ WM cy aM m) r (WC cy mAd iAd gAd rAd GI GM GR c1 ++ WM cy aM m) := by
  unfold F8_kind at h
  obtain ⟨z, hz, h⟩ := bd_some h
  obtain ⟨h1, h2⟩ := Prod.mk.inj (Option.some.inj h)
  subst h1 h2
  exact MI.tail _ (MI.tail _ (MI.tail _ (MI.tail _ (c_X8_kind l D cy mAd GI GM GR (c.1 0) (c.1 1) (c.2.1 0) (c.2.1 1) (c.1 2) (c.1 3) (c.1 4) (c.1 5) (c.1 6) (c.1 7) (c.2.1 2) (c.1 8) (c.2.1 3) (c.2.1 4) (c.2.1 5) (c.2.1 6) (c.1 9) (c.1 10) (c.2.1 7) (c.2.1 8) (c.2.1 9) (c.2.1 10) (c.1 11) (c.2.1 11) (c.2.1 12) (c.2.1 13) (c.1 12) (c.1 13) (c.1 14) (c.2.1 14) (c.2.1 15) (c.2.1 16) (c.1 15) (c.2.1 17) (c.2.1 18) (c.2.1 19) (c.2.1 20) (c.1 16) (c.2.1 21) a1 z hz))))
def F9_kind (m : MS) (a1 : Int32) : Option (Int32 × MS) := bd (f_X9_kind (m.1 0) (m.2 3) a1) (fun z => some (z.1, (va_up m.1 0 z.2, m.2)))
set_option maxRecDepth 100000 in
theorem C9_kind (l : Launch) (D : va_G) (cy : Nat → ClassId) (mAd : Nat → Nat) (iAd gAd rAd : Nat → Nat → Nat) (aM : Nat → Nat) (GI GM GR : Nat → Option Nat) (c : CS) (m : MS) (a1 : Int32) (r : Int32) (m1 : MS) (h : F9_kind m a1 = some (r, m1)) : MI l yX9_kind wsX9_kind ({ frames := 2, cells := 0, slots := 0, locals := 46 } : Room) D cy [.ref (aM 0), .int a1] (WC cy mAd iAd gAd rAd GI GM GR c ++ WM cy aM m) r (WC cy mAd iAd gAd rAd GI GM GR c ++ WM cy aM m1) := by
  unfold F9_kind at h
  obtain ⟨z, hz, h⟩ := bd_some h
  obtain ⟨h1, h2⟩ := Prod.mk.inj (Option.some.inj h)
  subst h1 h2
  exact MI.pre _ (c_X9_kind l D cy aM (m.1 0) (m.1 1) (m.1 2) (m.1 3) (m.1 4) (m.1 5) (m.1 6) (m.1 7) (m.1 8) (m.1 9) (m.1 10) (m.1 11) (m.1 12) (m.1 13) (m.2 0) (m.2 1) (m.2 2) (m.2 3) (m.2 4) (m.2 5) (m.2 6) (m.2 7) (m.2 8) (m.2 9) (m.2 10) (m.2 11) (m.2 12) a1 z hz)
def F8_as (c : CS) (a1 : Int32) (a2 : Int32) : Option (Int32 × CS) := bd (f_X8_as (c.1 1) (c.1 10) (c.2.1 8) a1 a2) (fun z => some (z.1, (va_up c.1 1 z.2, c.2.1, c.2.2.1, c.2.2.2.1, c.2.2.2.2.1, c.2.2.2.2.2.1, c.2.2.2.2.2.2)))
set_option maxRecDepth 100000 in
theorem C8_as (l : Launch) (D : va_G) (cy : Nat → ClassId) (mAd : Nat → Nat) (iAd gAd rAd : Nat → Nat → Nat) (aM : Nat → Nat) (GI GM GR : Nat → Option Nat) (hGI : ∀ k, k < 8 → GI k = some (iAd k 0)) (hGM : ∀ k, k < 2 → GM k = some (gAd k 0)) (hGR : ∀ k, k < 24 → GR k = some (rAd k 0)) (c : CS) (m : MS) (a1 : Int32) (a2 : Int32) (r : Int32) (c1 : CS) (h : F8_as c a1 a2 = some (r, c1)) : MI l yX8_as wsX8_as ({ frames := 1, cells := 0, slots := 0, locals := 23 } : Room) D cy [.ref (mAd 0), .int a1, .int a2] (WC cy mAd iAd gAd rAd GI GM GR c ++ WM cy aM m) r (WC cy mAd iAd gAd rAd GI GM GR c1 ++ WM cy aM m) := by
  unfold F8_as at h
  obtain ⟨z, hz, h⟩ := bd_some h
  obtain ⟨h1, h2⟩ := Prod.mk.inj (Option.some.inj h)
  subst h1 h2
  exact MI.tail _ (MI.tail _ (MI.tail _ (MI.tail _ (c_X8_as l D cy mAd GI GM GR (c.1 0) (c.1 1) (c.2.1 0) (c.2.1 1) (c.1 2) (c.1 3) (c.1 4) (c.1 5) (c.1 6) (c.1 7) (c.2.1 2) (c.1 8) (c.2.1 3) (c.2.1 4) (c.2.1 5) (c.2.1 6) (c.1 9) (c.1 10) (c.2.1 7) (c.2.1 8) (c.2.1 9) (c.2.1 10) (c.1 11) (c.2.1 11) (c.2.1 12) (c.2.1 13) (c.1 12) (c.1 13) (c.1 14) (c.2.1 14) (c.2.1 15) (c.2.1 16) (c.1 15) (c.2.1 17) (c.2.1 18) (c.2.1 19) (c.2.1 20) (c.1 16) (c.2.1 21) a1 a2 z hz))))
def F9_as (m : MS) (a1 : Int32) (a2 : Int32) : Option (Int32 × MS) := bd (f_X9_as (m.1 0) (m.1 1) (m.2 3) a1 a2) (fun z => some (z.1, (va_up (va_up m.1 0 z.2.1) 1 z.2.2, m.2)))
set_option maxRecDepth 100000 in
theorem C9_as (l : Launch) (D : va_G) (cy : Nat → ClassId) (mAd : Nat → Nat) (iAd gAd rAd : Nat → Nat → Nat) (aM : Nat → Nat) (GI GM GR : Nat → Option Nat) (c : CS) (m : MS) (a1 : Int32) (a2 : Int32) (r : Int32) (m1 : MS) (h : F9_as m a1 a2 = some (r, m1)) : MI l yX9_as wsX9_as ({ frames := 2, cells := 0, slots := 0, locals := 46 } : Room) D cy [.ref (aM 0), .int a1, .int a2] (WC cy mAd iAd gAd rAd GI GM GR c ++ WM cy aM m) r (WC cy mAd iAd gAd rAd GI GM GR c ++ WM cy aM m1) := by
  unfold F9_as at h
  obtain ⟨z, hz, h⟩ := bd_some h
  obtain ⟨h1, h2⟩ := Prod.mk.inj (Option.some.inj h)
  subst h1 h2
  exact MI.pre _ (c_X9_as l D cy aM (m.1 0) (m.1 1) (m.1 2) (m.1 3) (m.1 4) (m.1 5) (m.1 6) (m.1 7) (m.1 8) (m.1 9) (m.1 10) (m.1 11) (m.1 12) (m.1 13) (m.2 0) (m.2 1) (m.2 2) (m.2 3) (m.2 4) (m.2 5) (m.2 6) (m.2 7) (m.2 8) (m.2 9) (m.2 10) (m.2 11) (m.2 12) a1 a2 z hz)
def F8_ask (c : CS) (a1 : Int32) (a2 : Int32) : Option (Int32 × CS) := bd (f_X8_ask (c.1 10) (c.2.1 8) (c.2.1 10) (c.2.1 11) (c.1 16) (c.2.1 21) a1 a2) (fun z => some (z.1, (va_up c.1 16 z.2.1, va_up c.2.1 21 z.2.2, c.2.2.1, c.2.2.2.1, c.2.2.2.2.1, c.2.2.2.2.2.1, c.2.2.2.2.2.2)))
set_option maxRecDepth 100000 in
theorem C8_ask (l : Launch) (D : va_G) (cy : Nat → ClassId) (mAd : Nat → Nat) (iAd gAd rAd : Nat → Nat → Nat) (aM : Nat → Nat) (GI GM GR : Nat → Option Nat) (hGI : ∀ k, k < 8 → GI k = some (iAd k 0)) (hGM : ∀ k, k < 2 → GM k = some (gAd k 0)) (hGR : ∀ k, k < 24 → GR k = some (rAd k 0)) (c : CS) (m : MS) (a1 : Int32) (a2 : Int32) (r : Int32) (c1 : CS) (h : F8_ask c a1 a2 = some (r, c1)) : MI l yX8_ask wsX8_ask ({ frames := 46, cells := 0, slots := 0, locals := 1373 } : Room) D cy [.ref (mAd 0), .int a1, .int a2] (WC cy mAd iAd gAd rAd GI GM GR c ++ WM cy aM m) r (WC cy mAd iAd gAd rAd GI GM GR c1 ++ WM cy aM m) := by
  unfold F8_ask at h
  obtain ⟨z, hz, h⟩ := bd_some h
  obtain ⟨h1, h2⟩ := Prod.mk.inj (Option.some.inj h)
  subst h1 h2
  exact MI.tail _ (MI.tail _ (MI.tail _ (MI.tail _ (c_X8_ask l D cy mAd GI GM GR (c.1 0) (c.1 1) (c.2.1 0) (c.2.1 1) (c.1 2) (c.1 3) (c.1 4) (c.1 5) (c.1 6) (c.1 7) (c.2.1 2) (c.1 8) (c.2.1 3) (c.2.1 4) (c.2.1 5) (c.2.1 6) (c.1 9) (c.1 10) (c.2.1 7) (c.2.1 8) (c.2.1 9) (c.2.1 10) (c.1 11) (c.2.1 11) (c.2.1 12) (c.2.1 13) (c.1 12) (c.1 13) (c.1 14) (c.2.1 14) (c.2.1 15) (c.2.1 16) (c.1 15) (c.2.1 17) (c.2.1 18) (c.2.1 19) (c.2.1 20) (c.1 16) (c.2.1 21) a1 a2 z hz))))
def F9_ask (m : MS) (a1 : Int32) (a2 : Int32) : Option (Int32 × MS) := bd (f_X9_ask (m.1 0) (m.1 13) (m.2 3) (m.2 12) a1 a2) (fun z => some (z.1, (va_up (va_up m.1 0 z.2.1) 13 z.2.2.1, va_up m.2 12 z.2.2.2)))
set_option maxRecDepth 100000 in
theorem C9_ask (l : Launch) (D : va_G) (cy : Nat → ClassId) (mAd : Nat → Nat) (iAd gAd rAd : Nat → Nat → Nat) (aM : Nat → Nat) (GI GM GR : Nat → Option Nat) (c : CS) (m : MS) (a1 : Int32) (a2 : Int32) (r : Int32) (m1 : MS) (h : F9_ask m a1 a2 = some (r, m1)) : MI l yX9_ask wsX9_ask ({ frames := 5, cells := 0, slots := 0, locals := 111 } : Room) D cy [.ref (aM 0), .int a1, .int a2] (WC cy mAd iAd gAd rAd GI GM GR c ++ WM cy aM m) r (WC cy mAd iAd gAd rAd GI GM GR c ++ WM cy aM m1) := by
  unfold F9_ask at h
  obtain ⟨z, hz, h⟩ := bd_some h
  obtain ⟨h1, h2⟩ := Prod.mk.inj (Option.some.inj h)
  subst h1 h2
  exact MI.pre _ (c_X9_ask l D cy aM (m.1 0) (m.1 1) (m.1 2) (m.1 3) (m.1 4) (m.1 5) (m.1 6) (m.1 7) (m.1 8) (m.1 9) (m.1 10) (m.1 11) (m.1 12) (m.1 13) (m.2 0) (m.2 1) (m.2 2) (m.2 3) (m.2 4) (m.2 5) (m.2 6) (m.2 7) (m.2 8) (m.2 9) (m.2 10) (m.2 11) (m.2 12) a1 a2 z hz)
def F8_trace (c : CS) (a1 : Int32) : Option (Int32 × CS) := bd (f_X8_trace (c.1 16) (c.2.1 21) a1) (fun z => some (z, c))
set_option maxRecDepth 100000 in
theorem C8_trace (l : Launch) (D : va_G) (cy : Nat → ClassId) (mAd : Nat → Nat) (iAd gAd rAd : Nat → Nat → Nat) (aM : Nat → Nat) (GI GM GR : Nat → Option Nat) (hGI : ∀ k, k < 8 → GI k = some (iAd k 0)) (hGM : ∀ k, k < 2 → GM k = some (gAd k 0)) (hGR : ∀ k, k < 24 → GR k = some (rAd k 0)) (c : CS) (m : MS) (a1 : Int32) (r : Int32) (c1 : CS) (h : F8_trace c a1 = some (r, c1)) : MI l yX8_trace wsX8_trace ({ frames := 0, cells := 0, slots := 0, locals := 0 } : Room) D cy [.ref (mAd 0), .int a1] (WC cy mAd iAd gAd rAd GI GM GR c ++ WM cy aM m) r (WC cy mAd iAd gAd rAd GI GM GR c1 ++ WM cy aM m) := by
  unfold F8_trace at h
  obtain ⟨z, hz, h⟩ := bd_some h
  obtain ⟨h1, h2⟩ := Prod.mk.inj (Option.some.inj h)
  subst h1 h2
  exact MI.tail _ (MI.tail _ (MI.tail _ (MI.tail _ (c_X8_trace l D cy mAd GI GM GR (c.1 0) (c.1 1) (c.2.1 0) (c.2.1 1) (c.1 2) (c.1 3) (c.1 4) (c.1 5) (c.1 6) (c.1 7) (c.2.1 2) (c.1 8) (c.2.1 3) (c.2.1 4) (c.2.1 5) (c.2.1 6) (c.1 9) (c.1 10) (c.2.1 7) (c.2.1 8) (c.2.1 9) (c.2.1 10) (c.1 11) (c.2.1 11) (c.2.1 12) (c.2.1 13) (c.1 12) (c.1 13) (c.1 14) (c.2.1 14) (c.2.1 15) (c.2.1 16) (c.1 15) (c.2.1 17) (c.2.1 18) (c.2.1 19) (c.2.1 20) (c.1 16) (c.2.1 21) a1 z hz))))
def F9_trace (m : MS) (a1 : Int32) : Option (Int32 × MS) := bd (f_X9_trace (m.1 0) (m.1 13) (m.2 12) a1) (fun z => some (z.1, (va_up m.1 0 z.2, m.2)))
set_option maxRecDepth 100000 in
theorem C9_trace (l : Launch) (D : va_G) (cy : Nat → ClassId) (mAd : Nat → Nat) (iAd gAd rAd : Nat → Nat → Nat) (aM : Nat → Nat) (GI GM GR : Nat → Option Nat) (c : CS) (m : MS) (a1 : Int32) (r : Int32) (m1 : MS) (h : F9_trace m a1 = some (r, m1)) : MI l yX9_trace wsX9_trace ({ frames := 1, cells := 0, slots := 0, locals := 25 } : Room) D cy [.ref (aM 0), .int a1] (WC cy mAd iAd gAd rAd GI GM GR c ++ WM cy aM m) r (WC cy mAd iAd gAd rAd GI GM GR c ++ WM cy aM m1) := by
  unfold F9_trace at h
  obtain ⟨z, hz, h⟩ := bd_some h
  obtain ⟨h1, h2⟩ := Prod.mk.inj (Option.some.inj h)
  subst h1 h2
  exact MI.pre _ (c_X9_trace l D cy aM (m.1 0) (m.1 1) (m.1 2) (m.1 3) (m.1 4) (m.1 5) (m.1 6) (m.1 7) (m.1 8) (m.1 9) (m.1 10) (m.1 11) (m.1 12) (m.1 13) (m.2 0) (m.2 1) (m.2 2) (m.2 3) (m.2 4) (m.2 5) (m.2 6) (m.2 7) (m.2 8) (m.2 9) (m.2 10) (m.2 11) (m.2 12) a1 z hz)
def F8_count (c : CS) (a1 : Int32) : Option (Int32 × CS) := bd (f_X8_count (c.2.1 0) (c.1 2) (c.1 10) (c.1 11) (c.2.1 11) (c.2.1 13) (c.1 13) a1) (fun z => some (z, c))
set_option maxRecDepth 100000 in
theorem C8_count (l : Launch) (D : va_G) (cy : Nat → ClassId) (mAd : Nat → Nat) (iAd gAd rAd : Nat → Nat → Nat) (aM : Nat → Nat) (GI GM GR : Nat → Option Nat) (hGI : ∀ k, k < 8 → GI k = some (iAd k 0)) (hGM : ∀ k, k < 2 → GM k = some (gAd k 0)) (hGR : ∀ k, k < 24 → GR k = some (rAd k 0)) (c : CS) (m : MS) (a1 : Int32) (r : Int32) (c1 : CS) (h : F8_count c a1 = some (r, c1)) : MI l yX8_count wsX8_count ({ frames := 2, cells := 0, slots := 0, locals := 43 } : Room) D cy [.ref (mAd 0), .int a1] (WC cy mAd iAd gAd rAd GI GM GR c ++ WM cy aM m) r (WC cy mAd iAd gAd rAd GI GM GR c1 ++ WM cy aM m) := by
  unfold F8_count at h
  obtain ⟨z, hz, h⟩ := bd_some h
  obtain ⟨h1, h2⟩ := Prod.mk.inj (Option.some.inj h)
  subst h1 h2
  exact MI.tail _ (MI.tail _ (MI.tail _ (MI.tail _ (c_X8_count l D cy mAd GI GM GR (c.1 0) (c.1 1) (c.2.1 0) (c.2.1 1) (c.1 2) (c.1 3) (c.1 4) (c.1 5) (c.1 6) (c.1 7) (c.2.1 2) (c.1 8) (c.2.1 3) (c.2.1 4) (c.2.1 5) (c.2.1 6) (c.1 9) (c.1 10) (c.2.1 7) (c.2.1 8) (c.2.1 9) (c.2.1 10) (c.1 11) (c.2.1 11) (c.2.1 12) (c.2.1 13) (c.1 12) (c.1 13) (c.1 14) (c.2.1 14) (c.2.1 15) (c.2.1 16) (c.1 15) (c.2.1 17) (c.2.1 18) (c.2.1 19) (c.2.1 20) (c.1 16) (c.2.1 21) a1 z hz))))
def F9_count (m : MS) (a1 : Int32) : Option (Int32 × MS) := bd (f_X9_count (m.1 0) (m.1 2) (m.1 3) (m.2 0) (m.2 3) a1) (fun z => some (z.1, (va_up m.1 0 z.2, m.2)))
set_option maxRecDepth 100000 in
theorem C9_count (l : Launch) (D : va_G) (cy : Nat → ClassId) (mAd : Nat → Nat) (iAd gAd rAd : Nat → Nat → Nat) (aM : Nat → Nat) (GI GM GR : Nat → Option Nat) (c : CS) (m : MS) (a1 : Int32) (r : Int32) (m1 : MS) (h : F9_count m a1 = some (r, m1)) : MI l yX9_count wsX9_count ({ frames := 1, cells := 0, slots := 0, locals := 21 } : Room) D cy [.ref (aM 0), .int a1] (WC cy mAd iAd gAd rAd GI GM GR c ++ WM cy aM m) r (WC cy mAd iAd gAd rAd GI GM GR c ++ WM cy aM m1) := by
  unfold F9_count at h
  obtain ⟨z, hz, h⟩ := bd_some h
  obtain ⟨h1, h2⟩ := Prod.mk.inj (Option.some.inj h)
  subst h1 h2
  exact MI.pre _ (c_X9_count l D cy aM (m.1 0) (m.1 1) (m.1 2) (m.1 3) (m.1 4) (m.1 5) (m.1 6) (m.1 7) (m.1 8) (m.1 9) (m.1 10) (m.1 11) (m.1 12) (m.1 13) (m.2 0) (m.2 1) (m.2 2) (m.2 3) (m.2 4) (m.2 5) (m.2 6) (m.2 7) (m.2 8) (m.2 9) (m.2 10) (m.2 11) (m.2 12) a1 z hz)
def F8_status (c : CS)  : Option (Int32 × CS) := bd (f_X8_status (c.1 1) ) (fun z => some (z, c))
set_option maxRecDepth 100000 in
theorem C8_status (l : Launch) (D : va_G) (cy : Nat → ClassId) (mAd : Nat → Nat) (iAd gAd rAd : Nat → Nat → Nat) (aM : Nat → Nat) (GI GM GR : Nat → Option Nat) (hGI : ∀ k, k < 8 → GI k = some (iAd k 0)) (hGM : ∀ k, k < 2 → GM k = some (gAd k 0)) (hGR : ∀ k, k < 24 → GR k = some (rAd k 0)) (c : CS) (m : MS)  (r : Int32) (c1 : CS) (h : F8_status c  = some (r, c1)) : MI l yX8_status wsX8_status ({ frames := 0, cells := 0, slots := 0, locals := 0 } : Room) D cy [.ref (mAd 0)] (WC cy mAd iAd gAd rAd GI GM GR c ++ WM cy aM m) r (WC cy mAd iAd gAd rAd GI GM GR c1 ++ WM cy aM m) := by
  unfold F8_status at h
  obtain ⟨z, hz, h⟩ := bd_some h
  obtain ⟨h1, h2⟩ := Prod.mk.inj (Option.some.inj h)
  subst h1 h2
  exact MI.tail _ (MI.tail _ (MI.tail _ (MI.tail _ (c_X8_status l D cy mAd GI GM GR (c.1 0) (c.1 1) (c.2.1 0) (c.2.1 1) (c.1 2) (c.1 3) (c.1 4) (c.1 5) (c.1 6) (c.1 7) (c.2.1 2) (c.1 8) (c.2.1 3) (c.2.1 4) (c.2.1 5) (c.2.1 6) (c.1 9) (c.1 10) (c.2.1 7) (c.2.1 8) (c.2.1 9) (c.2.1 10) (c.1 11) (c.2.1 11) (c.2.1 12) (c.2.1 13) (c.1 12) (c.1 13) (c.1 14) (c.2.1 14) (c.2.1 15) (c.2.1 16) (c.1 15) (c.2.1 17) (c.2.1 18) (c.2.1 19) (c.2.1 20) (c.1 16) (c.2.1 21)  z hz))))
def F9_status (m : MS)  : Option (Int32 × MS) := bd (f_X9_status (m.1 0) (m.1 1) ) (fun z => some (z.1, (va_up m.1 0 z.2, m.2)))
set_option maxRecDepth 100000 in
theorem C9_status (l : Launch) (D : va_G) (cy : Nat → ClassId) (mAd : Nat → Nat) (iAd gAd rAd : Nat → Nat → Nat) (aM : Nat → Nat) (GI GM GR : Nat → Option Nat) (c : CS) (m : MS)  (r : Int32) (m1 : MS) (h : F9_status m  = some (r, m1)) : MI l yX9_status wsX9_status ({ frames := 0, cells := 0, slots := 0, locals := 0 } : Room) D cy [.ref (aM 0)] (WC cy mAd iAd gAd rAd GI GM GR c ++ WM cy aM m) r (WC cy mAd iAd gAd rAd GI GM GR c ++ WM cy aM m1) := by
  unfold F9_status at h
  obtain ⟨z, hz, h⟩ := bd_some h
  obtain ⟨h1, h2⟩ := Prod.mk.inj (Option.some.inj h)
  subst h1 h2
  exact MI.pre _ (c_X9_status l D cy aM (m.1 0) (m.1 1) (m.1 2) (m.1 3) (m.1 4) (m.1 5) (m.1 6) (m.1 7) (m.1 8) (m.1 9) (m.1 10) (m.1 11) (m.1 12) (m.1 13) (m.2 0) (m.2 1) (m.2 2) (m.2 3) (m.2 4) (m.2 5) (m.2 6) (m.2 7) (m.2 8) (m.2 9) (m.2 10) (m.2 11) (m.2 12)  z hz)
