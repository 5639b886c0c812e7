def kq (i : Int32) (N : Nat) : Nat := if inb i N = true then ix i else 0
theorem kq_lt {i : Int32} {N : Nat} (hN : 0 < N) : kq i N < N := by
  unfold kq
  split
  · rename_i h; exact inb_lt h
  · exact hN
theorem kq_in {i : Int32} {N : Nat} (h : inb i N = true) : kq i N = ix i := if_pos h
theorem MI.member2 {l : Launch} {y : MethodName} {ws : List Cond} {rm : Room} {D : va_G} {cy : Nat → ClassId} {av : List Value} {P P1 : va_W} {r : Int32} {N k j : Nat} {f g : Nat → va_W} (hk : k < N) (hj : j < N) (hkj : k ≠ j) (hg : ∀ i, i ≠ k → i ≠ j → g i = f i) (hM : MI l y ws rm D cy av (P ++ f k ++ f j) r (P1 ++ g k ++ g j)) : MI l y ws rm D cy av (P ++ fam N f) r (P1 ++ fam N g) := by
  have hn : (List.range N).Nodup := List.nodup_range
  have hj2 : j ∈ (List.range N).erase k := (List.Nodup.mem_erase_iff hn).mpr ⟨fun e => hkj e.symm, List.mem_range.mpr hj⟩
  have hp : ∀ f : Nat → va_W, (fam N f).Perm (f k ++ (f j ++ (((List.range N).erase k).erase j).flatMap f)) := by
    intro f
    refine (fam_perm hk f).trans (List.Perm.append_left _ ?_)
    have h := (List.perm_cons_erase hj2).flatMap_right f
    rw [List.flatMap_cons] at h
    exact h
  have hr : (((List.range N).erase k).erase j).flatMap g = (((List.range N).erase k).erase j).flatMap f := by
    have hn2 : ((List.range N).erase k).Nodup := hn.erase k
    rw [List.flatMap_def, List.flatMap_def]
    congr 1
    apply List.map_congr_left
    intro i hi
    have h1 := (List.Nodup.mem_erase_iff hn2).mp hi
    have h2 := (List.Nodup.mem_erase_iff hn).mp h1.2
    exact hg i h2.1 h1.1
  refine MI.reframe ((((List.range N).erase k).erase j).flatMap f) hM ?_ ?_
  · rw [List.append_assoc, List.append_assoc]
    exact (List.Perm.append_left P (hp f)).symm
  · rw [List.append_assoc, List.append_assoc, ← hr]
    exact (List.Perm.append_left P1 (hp g)).symm
def f_X8_image (sta : Int32) (wat : Int32) (lev : Nat → Int32) (kin : Nat → Int32) (cdp : Nat → Int32) (sil : Nat → Int32) (hour : Int32) (dep : Nat → Int32) (arr : Nat → Int32) (deb : Nat → Int32) (g_sta : Nat → Int32) (g_wat : Nat → Int32) (g_lev : Nat → Nat → Int32) (g_kin : Nat → Nat → Int32) (g_cdp : Nat → Nat → Int32) (g_sil : Nat → Nat → Int32) (g_hour : Nat → Int32) (g_dep : Nat → Nat → Int32) (g_arr : Nat → Nat → Int32) (g_deb : Nat → Nat → Int32) (p1 : Int32) : Option (Int32 × (Nat → Int32) × (Nat → Int32) × (Nat → Nat → Int32) × (Nat → Nat → Int32) × (Nat → Nat → Int32) × (Nat → Nat → Int32) × (Nat → Int32) × (Nat → Nat → Int32) × (Nat → Nat → Int32) × (Nat → Nat → Int32)) := bd (f_X8_image_m sta wat lev kin cdp sil hour dep arr deb (g_sta (kq p1 2)) (g_wat (kq p1 2)) (g_lev (kq p1 2)) (g_kin (kq p1 2)) (g_cdp (kq p1 2)) (g_sil (kq p1 2)) (g_hour (kq p1 2)) (g_dep (kq p1 2)) (g_arr (kq p1 2)) (g_deb (kq p1 2)) p1) (fun z => some (z.1, va_up g_sta (kq p1 2) z.2.1, va_up g_wat (kq p1 2) z.2.2.1, va_up g_lev (kq p1 2) z.2.2.2.1, va_up g_kin (kq p1 2) z.2.2.2.2.1, va_up g_cdp (kq p1 2) z.2.2.2.2.2.1, va_up g_sil (kq p1 2) z.2.2.2.2.2.2.1, va_up g_hour (kq p1 2) z.2.2.2.2.2.2.2.1, va_up g_dep (kq p1 2) z.2.2.2.2.2.2.2.2.1, va_up g_arr (kq p1 2) z.2.2.2.2.2.2.2.2.2.1, va_up g_deb (kq p1 2) z.2.2.2.2.2.2.2.2.2.2))
set_option maxRecDepth 100000 in
theorem c_X8_image (l : Launch) (D : va_G) (cy : Nat → ClassId) (mAd : Nat → Nat) (gAd : Nat → Nat → Nat) (GI : Nat → Option Nat) (GM : Nat → Option Nat) (GR : Nat → Option Nat) (lfa : Int32) (lfi : Int32) (lan : Nat → Int32) (siz : Nat → Int32) (len : Int32) (tok : Int32) (stt : Int32) (fin : Int32) (num : Int32) (flw : Int32) (byt : Nat → Int32) (dwat : Int32) (dlev : Nat → Int32) (dkin : Nat → Int32) (dcdp : Nat → Int32) (dsil : Nat → Int32) (sta : Int32) (wat : Int32) (lev : Nat → Int32) (kin : Nat → Int32) (cdp : Nat → Int32) (sil : Nat → Int32) (hour : Int32) (dep : Nat → Int32) (arr : Nat → Int32) (deb : Nat → Int32) (nxt : Int32) (kep : Int32) (fhour : Int32) (fdep : Nat → Int32) (farr : Nat → Int32) (fdeb : Nat → Int32) (gft : Int32) (bal : Nat → Int32) (giv : Nat → Int32) (tak : Nat → Int32) (inc : Nat → Int32) (trc : Int32) (nrs : Nat → Int32) (g_sta : Nat → Int32) (g_wat : Nat → Int32) (g_lev : Nat → Nat → Int32) (g_kin : Nat → Nat → Int32) (g_cdp : Nat → Nat → Int32) (g_sil : Nat → Nat → Int32) (g_hour : Nat → Int32) (g_dep : Nat → Nat → Int32) (g_arr : Nat → Nat → Int32) (g_deb : Nat → Nat → Int32) (p1 : Int32) (hGM : ∀ k, k < 2 → GM k = some (gAd k 0)) (z : (Int32 × (Nat → Int32) × (Nat → Int32) × (Nat → Nat → Int32) × (Nat → Nat → Int32) × (Nat → Nat → Int32) × (Nat → Nat → Int32) × (Nat → Int32) × (Nat → Nat → Int32) × (Nat → Nat → Int32) × (Nat → Nat → Int32))) (hz : f_X8_image sta wat lev kin cdp sil hour dep arr deb g_sta g_wat g_lev g_kin g_cdp g_sil g_hour g_dep g_arr g_deb p1 = some z) : MI l yX8_image wsX8_image ({ frames := 3, cells := 0, slots := 0, locals := 102 } : Room) D cy [.ref (mAd 0), .int p1] (w_Top cy mAd GI GM GR lfa lfi lan siz len tok stt fin num flw byt dwat dlev dkin dcdp dsil sta wat lev kin cdp sil hour dep arr deb nxt kep fhour fdep farr fdeb gft bal giv tak inc trc nrs ++ w_FImg cy gAd g_sta g_wat g_lev g_kin g_cdp g_sil g_hour g_dep g_arr g_deb) z.1 (w_Top cy mAd GI GM GR lfa lfi lan siz len tok stt fin num flw byt dwat dlev dkin dcdp dsil sta wat lev kin cdp sil hour dep arr deb nxt kep fhour fdep farr fdeb gft bal giv tak inc trc nrs ++ w_FImg cy gAd z.2.1 z.2.2.1 z.2.2.2.1 z.2.2.2.2.1 z.2.2.2.2.2.1 z.2.2.2.2.2.2.1 z.2.2.2.2.2.2.2.1 z.2.2.2.2.2.2.2.2.1 z.2.2.2.2.2.2.2.2.2.1 z.2.2.2.2.2.2.2.2.2.2) := by
  unfold f_X8_image at hz
  obtain ⟨z1, hz1, H⟩ := bd_some hz
  obtain rfl := Option.some.inj H
  have hk : kq p1 2 < 2 := kq_lt (by decide)
  refine MI.member (k := kq p1 2) (f := fun k => w_BA cy (gAd k) (g_sta k) (g_wat k) (g_lev k) (g_kin k) (g_cdp k) (g_sil k) (g_hour k) (g_dep k) (g_arr k) (g_deb k)) (g := fun k => w_BA cy (gAd k) ((va_up g_sta (kq p1 2) z1.2.1) k) ((va_up g_wat (kq p1 2) z1.2.2.1) k) ((va_up g_lev (kq p1 2) z1.2.2.2.1) k) ((va_up g_kin (kq p1 2) z1.2.2.2.2.1) k) ((va_up g_cdp (kq p1 2) z1.2.2.2.2.2.1) k) ((va_up g_sil (kq p1 2) z1.2.2.2.2.2.2.1) k) ((va_up g_hour (kq p1 2) z1.2.2.2.2.2.2.2.1) k) ((va_up g_dep (kq p1 2) z1.2.2.2.2.2.2.2.2.1) k) ((va_up g_arr (kq p1 2) z1.2.2.2.2.2.2.2.2.2.1) k) ((va_up g_deb (kq p1 2) z1.2.2.2.2.2.2.2.2.2.2) k)) hk ?_ ?_
  · intro j hj
    first | rfl | simp only [va_up_ne _ _ hj]
  · have h := c_X8_image_m l D cy mAd (gAd (kq p1 2)) GI GM GR lfa lfi lan siz len tok stt fin num flw byt dwat dlev dkin dcdp dsil sta wat lev kin cdp sil hour dep arr deb nxt kep fhour fdep farr fdeb gft bal giv tak inc trc nrs (g_sta (kq p1 2)) (g_wat (kq p1 2)) (g_lev (kq p1 2)) (g_kin (kq p1 2)) (g_cdp (kq p1 2)) (g_sil (kq p1 2)) (g_hour (kq p1 2)) (g_dep (kq p1 2)) (g_arr (kq p1 2)) (g_deb (kq p1 2)) p1 (fun hb => by rw [← kq_in hb]; exact hGM _ hk) z1 hz1
    first | exact h | (simp only [va_up_self]; exact h)
def f_X8_restore (sta : Int32) (wat : Int32) (lev : Nat → Int32) (kin : Nat → Int32) (cdp : Nat → Int32) (sil : Nat → Int32) (hour : Int32) (dep : Nat → Int32) (arr : Nat → Int32) (deb : Nat → Int32) (kep : Int32) (g_sta : Nat → Int32) (g_wat : Nat → Int32) (g_lev : Nat → Nat → Int32) (g_kin : Nat → Nat → Int32) (g_cdp : Nat → Nat → Int32) (g_sil : Nat → Nat → Int32) (g_hour : Nat → Int32) (g_dep : Nat → Nat → Int32) (g_arr : Nat → Nat → Int32) (g_deb : Nat → Nat → Int32) (p1 : Int32) : Option (Int32 × Int32 × Int32 × (Nat → Int32) × (Nat → Int32) × (Nat → Int32) × (Nat → Int32) × Int32 × (Nat → Int32) × (Nat → Int32) × (Nat → Int32) × Int32) := bd (f_X8_restore_m sta wat lev kin cdp sil hour dep arr deb kep (g_sta (kq p1 2)) (g_wat (kq p1 2)) (g_lev (kq p1 2)) (g_kin (kq p1 2)) (g_cdp (kq p1 2)) (g_sil (kq p1 2)) (g_hour (kq p1 2)) (g_dep (kq p1 2)) (g_arr (kq p1 2)) (g_deb (kq p1 2)) p1) (fun z => some (z.1, z.2.1, z.2.2.1, z.2.2.2.1, z.2.2.2.2.1, z.2.2.2.2.2.1, z.2.2.2.2.2.2.1, z.2.2.2.2.2.2.2.1, z.2.2.2.2.2.2.2.2.1, z.2.2.2.2.2.2.2.2.2.1, z.2.2.2.2.2.2.2.2.2.2.1, z.2.2.2.2.2.2.2.2.2.2.2))
set_option maxRecDepth 100000 in
theorem c_X8_restore (l : Launch) (D : va_G) (cy : Nat → ClassId) (mAd : Nat → Nat) (gAd : Nat → Nat → Nat) (GI : Nat → Option Nat) (GM : Nat → Option Nat) (GR : Nat → Option Nat) (lfa : Int32) (lfi : Int32) (lan : Nat → Int32) (siz : Nat → Int32) (len : Int32) (tok : Int32) (stt : Int32) (fin : Int32) (num : Int32) (flw : Int32) (byt : Nat → Int32) (dwat : Int32) (dlev : Nat → Int32) (dkin : Nat → Int32) (dcdp : Nat → Int32) (dsil : Nat → Int32) (sta : Int32) (wat : Int32) (lev : Nat → Int32) (kin : Nat → Int32) (cdp : Nat → Int32) (sil : Nat → Int32) (hour : Int32) (dep : Nat → Int32) (arr : Nat → Int32) (deb : Nat → Int32) (nxt : Int32) (kep : Int32) (fhour : Int32) (fdep : Nat → Int32) (farr : Nat → Int32) (fdeb : Nat → Int32) (gft : Int32) (bal : Nat → Int32) (giv : Nat → Int32) (tak : Nat → Int32) (inc : Nat → Int32) (trc : Int32) (nrs : Nat → Int32) (g_sta : Nat → Int32) (g_wat : Nat → Int32) (g_lev : Nat → Nat → Int32) (g_kin : Nat → Nat → Int32) (g_cdp : Nat → Nat → Int32) (g_sil : Nat → Nat → Int32) (g_hour : Nat → Int32) (g_dep : Nat → Nat → Int32) (g_arr : Nat → Nat → Int32) (g_deb : Nat → Nat → Int32) (p1 : Int32) (hGM : ∀ k, k < 2 → GM k = some (gAd k 0)) (z : (Int32 × Int32 × Int32 × (Nat → Int32) × (Nat → Int32) × (Nat → Int32) × (Nat → Int32) × Int32 × (Nat → Int32) × (Nat → Int32) × (Nat → Int32) × Int32)) (hz : f_X8_restore sta wat lev kin cdp sil hour dep arr deb kep g_sta g_wat g_lev g_kin g_cdp g_sil g_hour g_dep g_arr g_deb p1 = some z) : MI l yX8_restore wsX8_restore ({ frames := 3, cells := 0, slots := 0, locals := 102 } : Room) D cy [.ref (mAd 0), .int p1] (w_Top cy mAd GI GM GR lfa lfi lan siz len tok stt fin num flw byt dwat dlev dkin dcdp dsil sta wat lev kin cdp sil hour dep arr deb nxt kep fhour fdep farr fdeb gft bal giv tak inc trc nrs ++ w_FImg cy gAd g_sta g_wat g_lev g_kin g_cdp g_sil g_hour g_dep g_arr g_deb) z.1 (w_Top cy mAd GI GM GR lfa lfi lan siz len tok stt fin num flw byt dwat dlev dkin dcdp dsil z.2.1 z.2.2.1 z.2.2.2.1 z.2.2.2.2.1 z.2.2.2.2.2.1 z.2.2.2.2.2.2.1 z.2.2.2.2.2.2.2.1 z.2.2.2.2.2.2.2.2.1 z.2.2.2.2.2.2.2.2.2.1 z.2.2.2.2.2.2.2.2.2.2.1 nxt z.2.2.2.2.2.2.2.2.2.2.2 fhour fdep farr fdeb gft bal giv tak inc trc nrs ++ w_FImg cy gAd g_sta g_wat g_lev g_kin g_cdp g_sil g_hour g_dep g_arr g_deb) := by
  unfold f_X8_restore at hz
  obtain ⟨z1, hz1, H⟩ := bd_some hz
  obtain rfl := Option.some.inj H
  have hk : kq p1 2 < 2 := kq_lt (by decide)
  refine MI.member (k := kq p1 2) (f := fun k => w_BA cy (gAd k) (g_sta k) (g_wat k) (g_lev k) (g_kin k) (g_cdp k) (g_sil k) (g_hour k) (g_dep k) (g_arr k) (g_deb k)) (g := fun k => w_BA cy (gAd k) (g_sta k) (g_wat k) (g_lev k) (g_kin k) (g_cdp k) (g_sil k) (g_hour k) (g_dep k) (g_arr k) (g_deb k)) hk ?_ ?_
  · intro j hj
    first | rfl | simp only [va_up_ne _ _ hj]
  · have h := c_X8_restore_m l D cy mAd (gAd (kq p1 2)) GI GM GR lfa lfi lan siz len tok stt fin num flw byt dwat dlev dkin dcdp dsil sta wat lev kin cdp sil hour dep arr deb nxt kep fhour fdep farr fdeb gft bal giv tak inc trc nrs (g_sta (kq p1 2)) (g_wat (kq p1 2)) (g_lev (kq p1 2)) (g_kin (kq p1 2)) (g_cdp (kq p1 2)) (g_sil (kq p1 2)) (g_hour (kq p1 2)) (g_dep (kq p1 2)) (g_arr (kq p1 2)) (g_deb (kq p1 2)) p1 (fun hb => by rw [← kq_in hb]; exact hGM _ hk) z1 hz1
    first | exact h | (simp only [va_up_self]; exact h)
def f_X8_frauds (lfi : Int32) (lan : Nat → Int32) (siz : Nat → Int32) (sta : Int32) (wat : Int32) (lev : Nat → Int32) (kin : Nat → Int32) (sil : Nat → Int32) (hour : Int32) (dep : Nat → Int32) (arr : Nat → Int32) (deb : Nat → Int32) (fhour : Int32) (fdep : Nat → Int32) (farr : Nat → Int32) (fdeb : Nat → Int32) (i_itm : Nat → Nat → Int32) (p1 : Int32) (p2 : Int32) : Option (Int32 × Int32 × Int32 × (Nat → Int32) × (Nat → Int32) × (Nat → Int32)) := bd (f_X8_frauds_m lfi lan siz sta wat lev kin sil hour dep arr deb fhour fdep farr fdeb (i_itm (kq p1 8)) p1 p2) (fun z => some (z.1, z.2.1, z.2.2.1, z.2.2.2.1, z.2.2.2.2.1, z.2.2.2.2.2))
set_option maxRecDepth 100000 in
theorem c_X8_frauds (l : Launch) (D : va_G) (cy : Nat → ClassId) (mAd : Nat → Nat) (iAd : Nat → Nat → Nat) (GI : Nat → Option Nat) (GM : Nat → Option Nat) (GR : Nat → Option Nat) (lfa : Int32) (lfi : Int32) (lan : Nat → Int32) (siz : Nat → Int32) (len : Int32) (tok : Int32) (stt : Int32) (fin : Int32) (num : Int32) (flw : Int32) (byt : Nat → Int32) (dwat : Int32) (dlev : Nat → Int32) (dkin : Nat → Int32) (dcdp : Nat → Int32) (dsil : Nat → Int32) (sta : Int32) (wat : Int32) (lev : Nat → Int32) (kin : Nat → Int32) (cdp : Nat → Int32) (sil : Nat → Int32) (hour : Int32) (dep : Nat → Int32) (arr : Nat → Int32) (deb : Nat → Int32) (nxt : Int32) (kep : Int32) (fhour : Int32) (fdep : Nat → Int32) (farr : Nat → Int32) (fdeb : Nat → Int32) (gft : Int32) (bal : Nat → Int32) (giv : Nat → Int32) (tak : Nat → Int32) (inc : Nat → Int32) (trc : Int32) (nrs : Nat → Int32) (i_itm : Nat → Nat → Int32) (p1 : Int32) (p2 : Int32) (hGI : ∀ k, k < 8 → GI k = some (iAd k 0)) (z : (Int32 × Int32 × Int32 × (Nat → Int32) × (Nat → Int32) × (Nat → Int32))) (hz : f_X8_frauds lfi lan siz sta wat lev kin sil hour dep arr deb fhour fdep farr fdeb i_itm p1 p2 = some z) : MI l yX8_frauds wsX8_frauds ({ frames := 6, cells := 0, slots := 0, locals := 133 } : Room) D cy [.ref (mAd 0), .int p1, .int p2] (w_Top cy mAd GI GM GR lfa lfi lan siz len tok stt fin num flw byt dwat dlev dkin dcdp dsil sta wat lev kin cdp sil hour dep arr deb nxt kep fhour fdep farr fdeb gft bal giv tak inc trc nrs ++ w_FItm cy iAd i_itm) z.1 (w_Top cy mAd GI GM GR lfa z.2.1 lan siz len tok stt fin num flw byt dwat dlev dkin dcdp dsil sta wat lev kin cdp sil hour dep arr deb nxt kep z.2.2.1 z.2.2.2.1 z.2.2.2.2.1 z.2.2.2.2.2 gft bal giv tak inc trc nrs ++ w_FItm cy iAd i_itm) := by
  unfold f_X8_frauds at hz
  obtain ⟨z1, hz1, H⟩ := bd_some hz
  obtain rfl := Option.some.inj H
  have hk : kq p1 8 < 8 := kq_lt (by decide)
  refine MI.member (k := kq p1 8) (f := fun k => w_Itm cy (iAd k) (i_itm k)) (g := fun k => w_Itm cy (iAd k) (i_itm k)) hk ?_ ?_
  · intro j hj
    first | rfl | simp only [va_up_ne _ _ hj]
  · have h := c_X8_frauds_m l D cy mAd (iAd (kq p1 8)) GI GM GR lfa lfi lan siz len tok stt fin num flw byt dwat dlev dkin dcdp dsil sta wat lev kin cdp sil hour dep arr deb nxt kep fhour fdep farr fdeb gft bal giv tak inc trc nrs (i_itm (kq p1 8)) p1 p2 (fun hb => by rw [← kq_in hb]; exact hGI _ hk) z1 hz1
    first | exact h | (simp only [va_up_self]; exact h)
def f_X8_copy (lfi : Int32) (lan : Nat → Int32) (siz : Nat → Int32) (i_itm : Nat → Nat → Int32) (p1 p2 p3 p4 p5 : Int32) : Option (Int32 × Int32 × (Nat → Nat → Int32)) := if kq p1 8 = kq p3 8 then bd (f_X8_copy_e lfi lan siz (i_itm (kq p1 8)) p1 p2 p3 p4 p5) (fun z => some (z.1, z.2.1, va_up i_itm (kq p3 8) z.2.2)) else bd (f_X8_copy_n lfi lan siz (i_itm (kq p1 8)) (i_itm (kq p3 8)) p1 p2 p3 p4 p5) (fun z => some (z.1, z.2.1, va_up i_itm (kq p3 8) z.2.2))
set_option maxRecDepth 100000 in
theorem c_X8_copy (l : Launch) (D : va_G) (cy : Nat → ClassId) (mAd : Nat → Nat) (iAd : Nat → Nat → Nat) (GI GM GR : Nat → Option Nat) (lfa : Int32) (lfi : Int32) (lan : Nat → Int32) (siz : Nat → Int32) (len : Int32) (tok : Int32) (stt : Int32) (fin : Int32) (num : Int32) (flw : Int32) (byt : Nat → Int32) (dwat : Int32) (dlev : Nat → Int32) (dkin : Nat → Int32) (dcdp : Nat → Int32) (dsil : Nat → Int32) (sta : Int32) (wat : Int32) (lev : Nat → Int32) (kin : Nat → Int32) (cdp : Nat → Int32) (sil : Nat → Int32) (hour : Int32) (dep : Nat → Int32) (arr : Nat → Int32) (deb : Nat → Int32) (nxt : Int32) (kep : Int32) (fhour : Int32) (fdep : Nat → Int32) (farr : Nat → Int32) (fdeb : Nat → Int32) (gft : Int32) (bal : Nat → Int32) (giv : Nat → Int32) (tak : Nat → Int32) (inc : Nat → Int32) (trc : Int32) (nrs : Nat → Int32) (i_itm : Nat → Nat → Int32) (p1 p2 p3 p4 p5 : Int32) (hGI : ∀ k, k < 8 → GI k = some (iAd k 0)) (z : (Int32 × Int32 × (Nat → Nat → Int32))) (hz : f_X8_copy lfi lan siz i_itm p1 p2 p3 p4 p5 = some z) : MI l yX8_copy wsX8_copy ({ frames := 1, cells := 0, slots := 0, locals := 60 } : Room) D cy [.ref (mAd 0), .int p1, .int p2, .int p3, .int p4, .int p5] (w_Top cy mAd GI GM GR lfa lfi lan siz len tok stt fin num flw byt dwat dlev dkin dcdp dsil sta wat lev kin cdp sil hour dep arr deb nxt kep fhour fdep farr fdeb gft bal giv tak inc trc nrs ++ w_FItm cy iAd i_itm) z.1 (w_Top cy mAd GI GM GR lfa z.2.1 lan siz len tok stt fin num flw byt dwat dlev dkin dcdp dsil sta wat lev kin cdp sil hour dep arr deb nxt kep fhour fdep farr fdeb gft bal giv tak inc trc nrs ++ w_FItm cy iAd z.2.2) := by
  unfold f_X8_copy at hz
  have hk1 : kq p1 8 < 8 := kq_lt (by decide)
  have hk3 : kq p3 8 < 8 := kq_lt (by decide)
  by_cases hkk : kq p1 8 = kq p3 8
  · have hz := if_t hz hkk
    obtain ⟨z1, hz1, H⟩ := bd_some hz
    obtain rfl := Option.some.inj H
    rw [hkk] at hz1
    refine MI.member (k := kq p3 8) (f := fun k => w_Itm cy (iAd k) (i_itm k)) (g := fun k => w_Itm cy (iAd k) (va_up i_itm (kq p3 8) z1.2.2 k)) hk3 ?_ ?_
    · intro j hj
      simp only [va_up_ne _ _ hj]
    · have h := c_X8_copy_e l D cy mAd (iAd (kq p3 8)) GI GM GR lfa lfi lan siz len tok stt fin num flw byt dwat dlev dkin dcdp dsil sta wat lev kin cdp sil hour dep arr deb nxt kep fhour fdep farr fdeb gft bal giv tak inc trc nrs (i_itm (kq p3 8)) p1 p2 p3 p4 p5 (fun hb => by rw [← kq_in hb, hkk]; exact hGI _ hk3) (fun hb => by rw [← kq_in hb]; exact hGI _ hk3) z1 hz1
      simp only [va_up_self]
      exact h
  · have hz := if_f hz hkk
    obtain ⟨z1, hz1, H⟩ := bd_some hz
    obtain rfl := Option.some.inj H
    refine MI.member2 (k := kq p1 8) (j := kq p3 8) (f := fun k => w_Itm cy (iAd k) (i_itm k)) (g := fun k => w_Itm cy (iAd k) (va_up i_itm (kq p3 8) z1.2.2 k)) hk1 hk3 hkk ?_ ?_
    · intro j _ hj
      simp only [va_up_ne _ _ hj]
    · have h := c_X8_copy_n l D cy mAd (iAd (kq p1 8)) (iAd (kq p3 8)) GI GM GR lfa lfi lan siz len tok stt fin num flw byt dwat dlev dkin dcdp dsil sta wat lev kin cdp sil hour dep arr deb nxt kep fhour fdep farr fdeb gft bal giv tak inc trc nrs (i_itm (kq p1 8)) (i_itm (kq p3 8)) p1 p2 p3 p4 p5 (fun hb => by rw [← kq_in hb]; exact hGI _ hk1) (fun hb => by rw [← kq_in hb]; exact hGI _ hk3) z1 hz1
      simp only [va_up_self, va_up_ne _ _ hkk]
      exact h
