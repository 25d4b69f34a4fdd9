set_option maxHeartbeats 4000000 in
set_option maxRecDepth 100000 in
theorem c_X5_recorded (G : GG) (l : Launch) (x b hh a o : Nat) (fl : Nat → Option Fil) (hs : List St) (σ : St) (r : Int) (hr : -5 ≤ r ∧ r ≤ 1000) (hga : G.2.2 ≤ hh) (hxh : x + 1 ≤ hh) : Ct G l yX5_recorded cX5_recorded 2 (some .int) ({ frames := 1, cells := 0, slots := 0, locals := 20 } : Room) [.ref (x), .int (iI (r))] (fun H => Ob G x 5 [.ref b, .ref hh, .ref a] H ∧ HistR G hh fl o hs H ∧ DiscAt G (hh + 2 + 29 * ((o + hs.length) % 5)) fl σ H) (WE (iI r) (fun H H1 => (∃ o, HistR G hh fl o (hsA σ hs r) H1) ∧ FrS hh (hh + 1) H H1)) := by
  refine Ct.of (by decide +kernel) (Nat.le_of_ble_eq_true rfl) ?_
  intro p e s m args below meth c ls E hnm hP hl
  obtain ⟨hx0, hH, hSl⟩ := hP
  obtain ⟨hr1, hr2⟩ := hr
  have hl : lv_has ls 2 [(0, .ref (x)), (1, .int (iI (r)))] := hl
  have hL : Lk G [] := Lk.nil
  generalize ([] : List Loc) = locs at hL ⊢
  refine lv_iload_n E.1 E.2.1 dX5_recorded_0 rfl (lv_at hl 1 rfl) ?_
  refine kSRE (As := [.int (iI (r))]) E cw_X5_88 (c_X5_isError G l (r) (by unfold okI; omega)) trivial hL hl.1 rfl rfl (Nat.le_of_ble_eq_true rfl) ⟨Nat.le_of_ble_eq_true rfl, Nat.le_of_ble_eq_true rfl⟩ ⟨rfl, rfl⟩ ⟨Nat.le_of_ble_eq_true rfl, Nat.le_of_ble_eq_true rfl⟩ dX5_recorded_1 (fun locs hL => ?_)
  refine r_bif_ne (tgt := 14) E dX5_recorded_4 (by decide)  (fun c4 => ?_) (fun c4 => ?_)
  · have c4 := of_decide_eq_true c4
    refine lv_iload_n E.1 E.2.1 dX5_recorded_14 rfl (lv_at hl 1 rfl) ?_
    refine e_iret (rm := ({ frames := 1, cells := 0, slots := 0, locals := 20 } : Room)) (v := iI (r)) E hL dX5_recorded_15 ?_
    refine ⟨rfl, ⟨o, ?_⟩, FrS.rf⟩
    unfold hsA; rw [if_pos (by omega)]; exact hH
  · have c4 := of_decide_eq_false c4
    refine lv_aload_n E.1 E.2.1 dX5_recorded_7 rfl (lv_at hl 0 rfl) ?_
    refine m_get E hx0 fw_X5_19 rfl dX5_recorded_8 ?_
    refine kVWV (As := []) E cw_X5_211 (c_X2_recordSketch G l hh o fl hs σ hga) hH.2.2.1 ⟨_, _, rfl⟩ ⟨hH, hSl⟩ hL hl.1 rfl rfl (Nat.le_of_ble_eq_true rfl) ⟨Nat.le_of_ble_eq_true rfl, Nat.le_of_ble_eq_true rfl⟩ ⟨Nat.le_of_ble_eq_true rfl, Nat.le_of_ble_eq_true rfl⟩ dX5_recorded_11 (fun H1 locs hL hw_ => ?_)
    refine lv_iload_n E.1 E.2.1 dX5_recorded_14 rfl (lv_at hl 1 rfl) ?_
    refine e_iret (rm := ({ frames := 1, cells := 0, slots := 0, locals := 20 } : Room)) (v := iI (r)) E hL dX5_recorded_15 ?_
    refine ⟨rfl, ?_, hw_.2⟩
    unfold hsA; rw [if_neg (by omega)]; exact hw_.1

set_option maxHeartbeats 4000000 in
set_option maxRecDepth 100000 in
theorem c_X5_begin (G : GG) (l : Launch) (x fb : Nat) (fl : Nat → Option Fil) (σ : St) (hs : List St) (tx : Nat → Int) (len : Nat) (hI : Inv σ) (hT : TxOk tx len) (hfx : x + 179 ≤ fb) (hgx : G.2.2 ≤ x) (y : Int) (hy : okI y) : Ct G l yX5_begin cX5_begin 2 (some .int) ({ frames := 5, cells := 0, slots := 0, locals := 118 } : Room) [.ref (x), .int (iI (y))] (fun H => XAt G x fb fl σ hs tx len H ∧ fb ≤ H.size) (WE (iI (spBegin σ y).1) (XP G x fb fl (spBegin σ y).2 (hsA σ hs (spBegin σ y).1) tx len)) := by
  refine Ct.of (by decide +kernel) (Nat.le_of_ble_eq_true rfl) ?_
  intro p e s m args below meth c ls E hnm hP hl
  obtain ⟨hP, hsz⟩ := hP
  obtain ⟨hx0, hP, ⟨o, hH⟩, ⟨p1, le, fi, sc, ho, ha⟩, hFl⟩ := hP
  obtain ⟨b, hbe⟩ : ∃ b, b = x + 1 := ⟨_, rfl⟩
  obtain ⟨hh, hhe⟩ : ∃ q, q = x + 30 := ⟨_, rfl⟩
  obtain ⟨a, hae⟩ : ∃ q, q = x + 177 := ⟨_, rfl⟩
  rw [← hbe] at hx0 hP
  rw [← hhe] at hx0 hH
  rw [← hae] at hx0 ho ha
  have i1 := hI.mn12
  have i2 := hI.nx240
  have hR : FrR x (x + 179) s.heap s.heap := FrR.rf
  have hT80 := hT.1
  have hgf := hFl.1
  obtain ⟨hy1, hy2⟩ := hy
  have hl : lv_has ls 2 [(0, .ref (x)), (1, .int (iI (y)))] := hl
  have hL : Lk G [] := Lk.nil
  generalize ([] : List Loc) = locs at hL ⊢
  refine lv_aload_n E.1 E.2.1 dX5_begin_0 rfl (lv_at hl 0 rfl) ?_
  refine m_get E hx0 fw_X5_19 rfl dX5_begin_1 ?_
  refine lv_aload_n E.1 E.2.1 dX5_begin_4 rfl (lv_at hl 0 rfl) ?_
  refine m_get E hx0 fw_X5_12 rfl dX5_begin_5 ?_
  refine kVWV (As := [.ref (b)]) E cw_X5_30 (c_X2_sketch G l hh b fb o fl hs σ hI (by omega) (by omega) (by omega)) hH.2.2.1 ⟨_, _, rfl⟩ ⟨hH, hP, hFl⟩ hL hl.1 rfl rfl (Nat.le_of_ble_eq_true rfl) ⟨Nat.le_of_ble_eq_true rfl, Nat.le_of_ble_eq_true rfl⟩ ⟨Nat.le_of_ble_eq_true rfl, Nat.le_of_ble_eq_true rfl⟩ dX5_begin_8 (fun H1 locs hL hw_ => ?_)
  obtain ⟨hH, hSl, hq⟩ := hw_
  have hx0 := hx0.kept (hq.2 _ (by omega))
  have hP : DiscAt G b fl σ H1 := hP.kept (fun q g1 g2 => hq.2 q (by omega))
  have ho := ho.kept (hq.2 _ (by omega))
  have ha := ha.kept (hq.2 _ (by omega))
  have hFl : FlAt G fb fl H1 := hFl.kept (fun q g1 g2 => hq.2 q (by omega))
  have hsz : fb ≤ H1.size := by have h9 := hq.1; omega
  have hR : FrR x (x + 179) s.heap H1 := hR.trans (hq.R.wide (by omega) (by omega))
  refine lv_aload_n E.1 E.2.1 dX5_begin_11 rfl (lv_at hl 0 rfl) ?_
  refine lv_aload_n E.1 E.2.1 dX5_begin_12 rfl (lv_at hl 0 rfl) ?_
  refine m_get E hx0 fw_X5_12 rfl dX5_begin_13 ?_
  refine lv_iload_n E.1 E.2.1 dX5_begin_16 rfl (lv_at hl 1 rfl) ?_
  refine kVWE (As := [.int (iI (y))]) E cw_X5_34 (c_X1_beginSession G l b fb fl σ hI (y) (by unfold okI; omega) (by omega) (by omega)) hP.1 ⟨_, _, rfl⟩ ⟨hP, hFl⟩ hL hl.1 rfl rfl (Nat.le_of_ble_eq_true rfl) ⟨Nat.le_of_ble_eq_true rfl, Nat.le_of_ble_eq_true rfl⟩ ⟨Nat.le_of_ble_eq_true rfl, Nat.le_of_ble_eq_true rfl⟩ dX5_begin_17 (fun H2 locs hL hw_ => ?_)
  have hbd := spBegin_b hI (y)
  obtain ⟨hP1, hq⟩ := hw_
  have hx0 := hx0.kept (hq.2 _ (by omega))
  have ho := ho.kept (hq.2 _ (by omega))
  have ha := ha.kept (hq.2 _ (by omega))
  have hFl : FlAt G fb fl H2 := hFl.kept (fun q g1 g2 => hq.2 q (by omega))
  have hH : HistR G hh fl o hs H2 := hH.kept (fun q g1 g2 => hq.2 q (by omega))
  have hSl : DiscAt G (hh + 2 + 29 * ((o + hs.length) % 5)) fl σ H2 := hSl.kept (fun q g1 g2 => hq.2 q (by omega))
  have hsz : fb ≤ H2.size := by have h9 := hq.1; omega
  have hR : FrR x (x + 179) s.heap H2 := hR.trans (hq.R.wide (by omega) (by omega))
  have hP := hP1
  have hE : Ext fl fl := Ext.rf
  refine kVWE (As := [.int (iI ((spBegin σ (y)).1))]) E cw_X5_38 (c_X5_recorded G l x b hh a o fl hs σ ((spBegin σ (y)).1) (by omega) (by omega) (by omega)) hx0 ⟨_, _, rfl⟩ ⟨hx0, hH, hSl⟩ hL hl.1 rfl rfl (Nat.le_of_ble_eq_true rfl) ⟨Nat.le_of_ble_eq_true rfl, Nat.le_of_ble_eq_true rfl⟩ ⟨Nat.le_of_ble_eq_true rfl, Nat.le_of_ble_eq_true rfl⟩ dX5_begin_20 (fun H3 locs hL hw_ => ?_)
  obtain ⟨hH, hq⟩ := hw_
  have hx0 := hx0.kept (hq.2 _ (by omega))
  have hP : DiscAt G b fl (spBegin σ (y)).2 H3 := hP.kept (fun q g1 g2 => hq.2 q (by omega))
  have ho := ho.kept (hq.2 _ (by omega))
  have ha := ha.kept (hq.2 _ (by omega))
  have hFl : FlAt G fb fl H3 := hFl.kept (fun q g1 g2 => hq.2 q (by omega))
  have hsz : fb ≤ H3.size := by have h9 := hq.1; omega
  have hR : FrR x (x + 179) s.heap H3 := hR.trans (hq.R.wide (by omega) (by omega))
  refine e_iret (rm := ({ frames := 5, cells := 0, slots := 0, locals := 118 } : Room)) (v := iI ((spBegin σ (y)).1)) E hL dX5_begin_23 ?_
  subst hbe; subst hhe; subst hae
  exact ⟨rfl, ⟨_, hE, hx0, hP, hH, ⟨_, _, _, _, ho, ha⟩, hFl⟩, hR⟩

set_option maxHeartbeats 4000000 in
set_option maxRecDepth 100000 in
theorem c_X5_write (G : GG) (l : Launch) (x fb : Nat) (fl : Nat → Option Fil) (σ : St) (hs : List St) (tx : Nat → Int) (len : Nat) (hI : Inv σ) (hT : TxOk tx len) (hfx : x + 179 ≤ fb) (hgx : G.2.2 ≤ x) (y z : Int) (hy : okI y) (hz : okI z) : Ct G l yX5_write cX5_write 3 (some .int) ({ frames := 4, cells := 1, slots := 3, locals := 87 } : Room) [.ref (x), .int (iI (y)), .int (iI (z))] (fun H => XAt G x fb fl σ hs tx len H ∧ fb ≤ H.size) (WE (iI (spWrite σ y z).1) (XP G x fb fl (spWrite σ y z).2 (hsA σ hs (spWrite σ y z).1) tx len)) := by
  refine Ct.of (by decide +kernel) (Nat.le_of_ble_eq_true rfl) ?_
  intro p e s m args below meth c ls E hnm hP hl
  obtain ⟨hP, hsz⟩ := hP
  obtain ⟨hx0, hP, ⟨o, hH⟩, ⟨p1, le, fi, sc, ho, ha⟩, hFl⟩ := hP
  obtain ⟨b, hbe⟩ : ∃ b, b = x + 1 := ⟨_, rfl⟩
  obtain ⟨hh, hhe⟩ : ∃ q, q = x + 30 := ⟨_, rfl⟩
  obtain ⟨a, hae⟩ : ∃ q, q = x + 177 := ⟨_, rfl⟩
  rw [← hbe] at hx0 hP
  rw [← hhe] at hx0 hH
  rw [← hae] at hx0 ho ha
  have i1 := hI.mn12
  have i2 := hI.nx240
  have hR : FrR x (x + 179) s.heap s.heap := FrR.rf
  have hT80 := hT.1
  have hgf := hFl.1
  obtain ⟨hy1, hy2⟩ := hy
  obtain ⟨hz1, hz2⟩ := hz
  have hl : lv_has ls 3 [(0, .ref (x)), (1, .int (iI (y))), (2, .int (iI (z)))] := hl
  have hL : Lk G [] := Lk.nil
  generalize ([] : List Loc) = locs at hL ⊢
  refine lv_aload_n E.1 E.2.1 dX5_write_0 rfl (lv_at hl 0 rfl) ?_
  refine m_get E hx0 fw_X5_19 rfl dX5_write_1 ?_
  refine lv_aload_n E.1 E.2.1 dX5_write_4 rfl (lv_at hl 0 rfl) ?_
  refine m_get E hx0 fw_X5_12 rfl dX5_write_5 ?_
  refine kVWV (As := [.ref (b)]) E cw_X5_30 (c_X2_sketch G l hh b fb o fl hs σ hI (by omega) (by omega) (by omega)) hH.2.2.1 ⟨_, _, rfl⟩ ⟨hH, hP, hFl⟩ hL hl.1 rfl rfl (Nat.le_of_ble_eq_true rfl) ⟨Nat.le_of_ble_eq_true rfl, Nat.le_of_ble_eq_true rfl⟩ ⟨Nat.le_of_ble_eq_true rfl, Nat.le_of_ble_eq_true rfl⟩ dX5_write_8 (fun H1 locs hL hw_ => ?_)
  obtain ⟨hH, hSl, hq⟩ := hw_
  have hx0 := hx0.kept (hq.2 _ (by omega))
  have hP : DiscAt G b fl σ H1 := hP.kept (fun q g1 g2 => hq.2 q (by omega))
  have ho := ho.kept (hq.2 _ (by omega))
  have ha := ha.kept (hq.2 _ (by omega))
  have hFl : FlAt G fb fl H1 := hFl.kept (fun q g1 g2 => hq.2 q (by omega))
  have hsz : fb ≤ H1.size := by have h9 := hq.1; omega
  have hR : FrR x (x + 179) s.heap H1 := hR.trans (hq.R.wide (by omega) (by omega))
  refine lv_aload_n E.1 E.2.1 dX5_write_11 rfl (lv_at hl 0 rfl) ?_
  refine lv_aload_n E.1 E.2.1 dX5_write_12 rfl (lv_at hl 0 rfl) ?_
  refine m_get E hx0 fw_X5_12 rfl dX5_write_13 ?_
  refine lv_iload_n E.1 E.2.1 dX5_write_16 rfl (lv_at hl 1 rfl) ?_
  refine lv_iload_n E.1 E.2.1 dX5_write_17 rfl (lv_at hl 2 rfl) ?_
  refine kVWE (As := [.int (iI (y)), .int (iI (z))]) E cw_X5_41 (c_X1_writeFile G l b fb fl σ hI (y) (z) (by unfold okI; omega) (by unfold okI; omega) (by omega) (by omega)) hP.1 ⟨_, _, rfl⟩ ⟨hP, hFl, hsz⟩ hL hl.1 rfl rfl (Nat.le_of_ble_eq_true rfl) ⟨Nat.le_of_ble_eq_true rfl, Nat.le_of_ble_eq_true rfl⟩ ⟨Nat.le_of_ble_eq_true rfl, Nat.le_of_ble_eq_true rfl⟩ dX5_write_18 (fun H2 locs hL hw_ => ?_)
  have hbd := spWrite_b hI (y) (z)
  obtain ⟨fl', hE, hFl1, hP1, hq⟩ := hw_
  have hx0 := hx0.kept (hq.2 _ (by omega) (by omega))
  have ho := ho.kept (hq.2 _ (by omega) (by omega))
  have ha := ha.kept (hq.2 _ (by omega) (by omega))
  have hH : HistR G hh fl o hs H2 := hH.kept (fun q g1 g2 => hq.2 q (by omega) (by omega))
  have hSl : DiscAt G (hh + 2 + 29 * ((o + hs.length) % 5)) fl σ H2 := hSl.kept (fun q g1 g2 => hq.2 q (by omega) (by omega))
  have hsz : fb ≤ H2.size := by have h9 := hq.1; omega
  have hR : FrR x (x + 179) s.heap H2 := hR.trans (hq.wide (by omega) (by omega))
  have hP := hP1
  have hFl := hFl1
  have hH := hH.ext hE
  have hSl := hSl.ext hE
  refine kVWE (As := [.int (iI ((spWrite σ (y) (z)).1))]) E cw_X5_38 (c_X5_recorded G l x b hh a o fl' hs σ ((spWrite σ (y) (z)).1) (by omega) (by omega) (by omega)) hx0 ⟨_, _, rfl⟩ ⟨hx0, hH, hSl⟩ hL hl.1 rfl rfl (Nat.le_of_ble_eq_true rfl) ⟨Nat.le_of_ble_eq_true rfl, Nat.le_of_ble_eq_true rfl⟩ ⟨Nat.le_of_ble_eq_true rfl, Nat.le_of_ble_eq_true rfl⟩ dX5_write_21 (fun H3 locs hL hw_ => ?_)
  obtain ⟨hH, hq⟩ := hw_
  have hx0 := hx0.kept (hq.2 _ (by omega))
  have hP : DiscAt G b fl' (spWrite σ (y) (z)).2 H3 := hP.kept (fun q g1 g2 => hq.2 q (by omega))
  have ho := ho.kept (hq.2 _ (by omega))
  have ha := ha.kept (hq.2 _ (by omega))
  have hFl : FlAt G fb fl' H3 := hFl.kept (fun q g1 g2 => hq.2 q (by omega))
  have hsz : fb ≤ H3.size := by have h9 := hq.1; omega
  have hR : FrR x (x + 179) s.heap H3 := hR.trans (hq.R.wide (by omega) (by omega))
  refine e_iret (rm := ({ frames := 4, cells := 1, slots := 3, locals := 87 } : Room)) (v := iI ((spWrite σ (y) (z)).1)) E hL dX5_write_24 ?_
  subst hbe; subst hhe; subst hae
  exact ⟨rfl, ⟨_, hE, hx0, hP, hH, ⟨_, _, _, _, ho, ha⟩, hFl⟩, hR⟩

set_option maxHeartbeats 4000000 in
set_option maxRecDepth 100000 in
theorem c_X5_remove (G : GG) (l : Launch) (x fb : Nat) (fl : Nat → Option Fil) (σ : St) (hs : List St) (tx : Nat → Int) (len : Nat) (hI : Inv σ) (hT : TxOk tx len) (hfx : x + 179 ≤ fb) (hgx : G.2.2 ≤ x) (y : Int) (hy : okI y) : Ct G l yX5_remove cX5_remove 2 (some .int) ({ frames := 4, cells := 0, slots := 0, locals := 86 } : Room) [.ref (x), .int (iI (y))] (fun H => XAt G x fb fl σ hs tx len H ∧ fb ≤ H.size) (WE (iI (spRemove σ y).1) (XP G x fb fl (spRemove σ y).2 (hsA σ hs (spRemove σ y).1) tx len)) := by
  refine Ct.of (by decide +kernel) (Nat.le_of_ble_eq_true rfl) ?_
  intro p e s m args below meth c ls E hnm hP hl
  obtain ⟨hP, hsz⟩ := hP
  obtain ⟨hx0, hP, ⟨o, hH⟩, ⟨p1, le, fi, sc, ho, ha⟩, hFl⟩ := hP
  obtain ⟨b, hbe⟩ : ∃ b, b = x + 1 := ⟨_, rfl⟩
  obtain ⟨hh, hhe⟩ : ∃ q, q = x + 30 := ⟨_, rfl⟩
  obtain ⟨a, hae⟩ : ∃ q, q = x + 177 := ⟨_, rfl⟩
  rw [← hbe] at hx0 hP
  rw [← hhe] at hx0 hH
  rw [← hae] at hx0 ho ha
  have i1 := hI.mn12
  have i2 := hI.nx240
  have hR : FrR x (x + 179) s.heap s.heap := FrR.rf
  have hT80 := hT.1
  have hgf := hFl.1
  obtain ⟨hy1, hy2⟩ := hy
  have hl : lv_has ls 2 [(0, .ref (x)), (1, .int (iI (y)))] := hl
  have hL : Lk G [] := Lk.nil
  generalize ([] : List Loc) = locs at hL ⊢
  refine lv_aload_n E.1 E.2.1 dX5_remove_0 rfl (lv_at hl 0 rfl) ?_
  refine m_get E hx0 fw_X5_19 rfl dX5_remove_1 ?_
  refine lv_aload_n E.1 E.2.1 dX5_remove_4 rfl (lv_at hl 0 rfl) ?_
  refine m_get E hx0 fw_X5_12 rfl dX5_remove_5 ?_
  refine kVWV (As := [.ref (b)]) E cw_X5_30 (c_X2_sketch G l hh b fb o fl hs σ hI (by omega) (by omega) (by omega)) hH.2.2.1 ⟨_, _, rfl⟩ ⟨hH, hP, hFl⟩ hL hl.1 rfl rfl (Nat.le_of_ble_eq_true rfl) ⟨Nat.le_of_ble_eq_true rfl, Nat.le_of_ble_eq_true rfl⟩ ⟨Nat.le_of_ble_eq_true rfl, Nat.le_of_ble_eq_true rfl⟩ dX5_remove_8 (fun H1 locs hL hw_ => ?_)
  obtain ⟨hH, hSl, hq⟩ := hw_
  have hx0 := hx0.kept (hq.2 _ (by omega))
  have hP : DiscAt G b fl σ H1 := hP.kept (fun q g1 g2 => hq.2 q (by omega))
  have ho := ho.kept (hq.2 _ (by omega))
  have ha := ha.kept (hq.2 _ (by omega))
  have hFl : FlAt G fb fl H1 := hFl.kept (fun q g1 g2 => hq.2 q (by omega))
  have hsz : fb ≤ H1.size := by have h9 := hq.1; omega
  have hR : FrR x (x + 179) s.heap H1 := hR.trans (hq.R.wide (by omega) (by omega))
  refine lv_aload_n E.1 E.2.1 dX5_remove_11 rfl (lv_at hl 0 rfl) ?_
  refine lv_aload_n E.1 E.2.1 dX5_remove_12 rfl (lv_at hl 0 rfl) ?_
  refine m_get E hx0 fw_X5_12 rfl dX5_remove_13 ?_
  refine lv_iload_n E.1 E.2.1 dX5_remove_16 rfl (lv_at hl 1 rfl) ?_
  refine kVWE (As := [.int (iI (y))]) E cw_X5_45 (c_X1_removeEntry G l b fl σ hI (y) (by unfold okI; omega) (by omega)) hP.1 ⟨_, _, rfl⟩ hP hL hl.1 rfl rfl (Nat.le_of_ble_eq_true rfl) ⟨Nat.le_of_ble_eq_true rfl, Nat.le_of_ble_eq_true rfl⟩ ⟨Nat.le_of_ble_eq_true rfl, Nat.le_of_ble_eq_true rfl⟩ dX5_remove_17 (fun H2 locs hL hw_ => ?_)
  have hbd := spRemove_b (σ := σ) (y)
  obtain ⟨hP1, hq⟩ := hw_
  have hx0 := hx0.kept (hq.2 _ (by omega))
  have ho := ho.kept (hq.2 _ (by omega))
  have ha := ha.kept (hq.2 _ (by omega))
  have hFl : FlAt G fb fl H2 := hFl.kept (fun q g1 g2 => hq.2 q (by omega))
  have hH : HistR G hh fl o hs H2 := hH.kept (fun q g1 g2 => hq.2 q (by omega))
  have hSl : DiscAt G (hh + 2 + 29 * ((o + hs.length) % 5)) fl σ H2 := hSl.kept (fun q g1 g2 => hq.2 q (by omega))
  have hsz : fb ≤ H2.size := by have h9 := hq.1; omega
  have hR : FrR x (x + 179) s.heap H2 := hR.trans (hq.R.wide (by omega) (by omega))
  have hP := hP1
  have hE : Ext fl fl := Ext.rf
  refine kVWE (As := [.int (iI ((spRemove σ (y)).1))]) E cw_X5_38 (c_X5_recorded G l x b hh a o fl hs σ ((spRemove σ (y)).1) (by omega) (by omega) (by omega)) hx0 ⟨_, _, rfl⟩ ⟨hx0, hH, hSl⟩ hL hl.1 rfl rfl (Nat.le_of_ble_eq_true rfl) ⟨Nat.le_of_ble_eq_true rfl, Nat.le_of_ble_eq_true rfl⟩ ⟨Nat.le_of_ble_eq_true rfl, Nat.le_of_ble_eq_true rfl⟩ dX5_remove_20 (fun H3 locs hL hw_ => ?_)
  obtain ⟨hH, hq⟩ := hw_
  have hx0 := hx0.kept (hq.2 _ (by omega))
  have hP : DiscAt G b fl (spRemove σ (y)).2 H3 := hP.kept (fun q g1 g2 => hq.2 q (by omega))
  have ho := ho.kept (hq.2 _ (by omega))
  have ha := ha.kept (hq.2 _ (by omega))
  have hFl : FlAt G fb fl H3 := hFl.kept (fun q g1 g2 => hq.2 q (by omega))
  have hsz : fb ≤ H3.size := by have h9 := hq.1; omega
  have hR : FrR x (x + 179) s.heap H3 := hR.trans (hq.R.wide (by omega) (by omega))
  refine e_iret (rm := ({ frames := 4, cells := 0, slots := 0, locals := 86 } : Room)) (v := iI ((spRemove σ (y)).1)) E hL dX5_remove_23 ?_
  subst hbe; subst hhe; subst hae
  exact ⟨rfl, ⟨_, hE, hx0, hP, hH, ⟨_, _, _, _, ho, ha⟩, hFl⟩, hR⟩

set_option maxHeartbeats 4000000 in
set_option maxRecDepth 100000 in
theorem c_X5_keep (G : GG) (l : Launch) (x fb : Nat) (fl : Nat → Option Fil) (σ : St) (hs : List St) (tx : Nat → Int) (len : Nat) (hI : Inv σ) (hT : TxOk tx len) (hfx : x + 179 ≤ fb) (hgx : G.2.2 ≤ x) (y z : Int) (hy : okI y) (hz : okI z) : Ct G l yX5_keep cX5_keep 3 (some .int) ({ frames := 4, cells := 0, slots := 0, locals := 96 } : Room) [.ref (x), .int (iI (y)), .int (iI (z))] (fun H => XAt G x fb fl σ hs tx len H ∧ fb ≤ H.size) (WE (iI (spKeep σ y z).1) (XP G x fb fl (spKeep σ y z).2 (hsA σ hs (spKeep σ y z).1) tx len)) := by
  refine Ct.of (by decide +kernel) (Nat.le_of_ble_eq_true rfl) ?_
  intro p e s m args below meth c ls E hnm hP hl
  obtain ⟨hP, hsz⟩ := hP
  obtain ⟨hx0, hP, ⟨o, hH⟩, ⟨p1, le, fi, sc, ho, ha⟩, hFl⟩ := hP
  obtain ⟨b, hbe⟩ : ∃ b, b = x + 1 := ⟨_, rfl⟩
  obtain ⟨hh, hhe⟩ : ∃ q, q = x + 30 := ⟨_, rfl⟩
  obtain ⟨a, hae⟩ : ∃ q, q = x + 177 := ⟨_, rfl⟩
  rw [← hbe] at hx0 hP
  rw [← hhe] at hx0 hH
  rw [← hae] at hx0 ho ha
  have i1 := hI.mn12
  have i2 := hI.nx240
  have hR : FrR x (x + 179) s.heap s.heap := FrR.rf
  have hT80 := hT.1
  have hgf := hFl.1
  obtain ⟨hy1, hy2⟩ := hy
  obtain ⟨hz1, hz2⟩ := hz
  have hl : lv_has ls 3 [(0, .ref (x)), (1, .int (iI (y))), (2, .int (iI (z)))] := hl
  have hL : Lk G [] := Lk.nil
  generalize ([] : List Loc) = locs at hL ⊢
  refine lv_aload_n E.1 E.2.1 dX5_keep_0 rfl (lv_at hl 0 rfl) ?_
  refine m_get E hx0 fw_X5_19 rfl dX5_keep_1 ?_
  refine lv_aload_n E.1 E.2.1 dX5_keep_4 rfl (lv_at hl 0 rfl) ?_
  refine m_get E hx0 fw_X5_12 rfl dX5_keep_5 ?_
  refine kVWV (As := [.ref (b)]) E cw_X5_30 (c_X2_sketch G l hh b fb o fl hs σ hI (by omega) (by omega) (by omega)) hH.2.2.1 ⟨_, _, rfl⟩ ⟨hH, hP, hFl⟩ hL hl.1 rfl rfl (Nat.le_of_ble_eq_true rfl) ⟨Nat.le_of_ble_eq_true rfl, Nat.le_of_ble_eq_true rfl⟩ ⟨Nat.le_of_ble_eq_true rfl, Nat.le_of_ble_eq_true rfl⟩ dX5_keep_8 (fun H1 locs hL hw_ => ?_)
  obtain ⟨hH, hSl, hq⟩ := hw_
  have hx0 := hx0.kept (hq.2 _ (by omega))
  have hP : DiscAt G b fl σ H1 := hP.kept (fun q g1 g2 => hq.2 q (by omega))
  have ho := ho.kept (hq.2 _ (by omega))
  have ha := ha.kept (hq.2 _ (by omega))
  have hFl : FlAt G fb fl H1 := hFl.kept (fun q g1 g2 => hq.2 q (by omega))
  have hsz : fb ≤ H1.size := by have h9 := hq.1; omega
  have hR : FrR x (x + 179) s.heap H1 := hR.trans (hq.R.wide (by omega) (by omega))
  refine lv_aload_n E.1 E.2.1 dX5_keep_11 rfl (lv_at hl 0 rfl) ?_
  refine lv_aload_n E.1 E.2.1 dX5_keep_12 rfl (lv_at hl 0 rfl) ?_
  refine m_get E hx0 fw_X5_12 rfl dX5_keep_13 ?_
  refine lv_iload_n E.1 E.2.1 dX5_keep_16 rfl (lv_at hl 1 rfl) ?_
  refine lv_iload_n E.1 E.2.1 dX5_keep_17 rfl (lv_at hl 2 rfl) ?_
  refine kVWE (As := [.int (iI (y)), .int (iI (z))]) E cw_X5_48 (c_X1_keepEntry G l b fb fl σ hI (y) (z) (by unfold okI; omega) (by unfold okI; omega) (by omega) (by omega)) hP.1 ⟨_, _, rfl⟩ ⟨hP, hFl⟩ hL hl.1 rfl rfl (Nat.le_of_ble_eq_true rfl) ⟨Nat.le_of_ble_eq_true rfl, Nat.le_of_ble_eq_true rfl⟩ ⟨Nat.le_of_ble_eq_true rfl, Nat.le_of_ble_eq_true rfl⟩ dX5_keep_18 (fun H2 locs hL hw_ => ?_)
  have hbd := spKeep_b hI (y) (z)
  obtain ⟨hP1, hq⟩ := hw_
  have hx0 := hx0.kept (hq.2 _ (by omega))
  have ho := ho.kept (hq.2 _ (by omega))
  have ha := ha.kept (hq.2 _ (by omega))
  have hFl : FlAt G fb fl H2 := hFl.kept (fun q g1 g2 => hq.2 q (by omega))
  have hH : HistR G hh fl o hs H2 := hH.kept (fun q g1 g2 => hq.2 q (by omega))
  have hSl : DiscAt G (hh + 2 + 29 * ((o + hs.length) % 5)) fl σ H2 := hSl.kept (fun q g1 g2 => hq.2 q (by omega))
  have hsz : fb ≤ H2.size := by have h9 := hq.1; omega
  have hR : FrR x (x + 179) s.heap H2 := hR.trans (hq.R.wide (by omega) (by omega))
  have hP := hP1
  have hE : Ext fl fl := Ext.rf
  refine kVWE (As := [.int (iI ((spKeep σ (y) (z)).1))]) E cw_X5_38 (c_X5_recorded G l x b hh a o fl hs σ ((spKeep σ (y) (z)).1) (by omega) (by omega) (by omega)) hx0 ⟨_, _, rfl⟩ ⟨hx0, hH, hSl⟩ hL hl.1 rfl rfl (Nat.le_of_ble_eq_true rfl) ⟨Nat.le_of_ble_eq_true rfl, Nat.le_of_ble_eq_true rfl⟩ ⟨Nat.le_of_ble_eq_true rfl, Nat.le_of_ble_eq_true rfl⟩ dX5_keep_21 (fun H3 locs hL hw_ => ?_)
  obtain ⟨hH, hq⟩ := hw_
  have hx0 := hx0.kept (hq.2 _ (by omega))
  have hP : DiscAt G b fl (spKeep σ (y) (z)).2 H3 := hP.kept (fun q g1 g2 => hq.2 q (by omega))
  have ho := ho.kept (hq.2 _ (by omega))
  have ha := ha.kept (hq.2 _ (by omega))
  have hFl : FlAt G fb fl H3 := hFl.kept (fun q g1 g2 => hq.2 q (by omega))
  have hsz : fb ≤ H3.size := by have h9 := hq.1; omega
  have hR : FrR x (x + 179) s.heap H3 := hR.trans (hq.R.wide (by omega) (by omega))
  refine e_iret (rm := ({ frames := 4, cells := 0, slots := 0, locals := 96 } : Room)) (v := iI ((spKeep σ (y) (z)).1)) E hL dX5_keep_24 ?_
  subst hbe; subst hhe; subst hae
  exact ⟨rfl, ⟨_, hE, hx0, hP, hH, ⟨_, _, _, _, ho, ha⟩, hFl⟩, hR⟩

set_option maxHeartbeats 4000000 in
set_option maxRecDepth 100000 in
theorem c_X5_close (G : GG) (l : Launch) (x fb : Nat) (fl : Nat → Option Fil) (σ : St) (hs : List St) (tx : Nat → Int) (len : Nat) (hI : Inv σ) (hT : TxOk tx len) (hfx : x + 179 ≤ fb) (hgx : G.2.2 ≤ x) : Ct G l yX5_close cX5_close 1 (some .int) ({ frames := 4, cells := 0, slots := 0, locals := 86 } : Room) [.ref (x)] (fun H => XAt G x fb fl σ hs tx len H ∧ fb ≤ H.size) (WE (iI (spClose σ).1) (XP G x fb fl (spClose σ).2 (hsA σ hs (spClose σ).1) tx len)) := by
  refine Ct.of (by decide +kernel) (Nat.le_of_ble_eq_true rfl) ?_
  intro p e s m args below meth c ls E hnm hP hl
  obtain ⟨hP, hsz⟩ := hP
  obtain ⟨hx0, hP, ⟨o, hH⟩, ⟨p1, le, fi, sc, ho, ha⟩, hFl⟩ := hP
  obtain ⟨b, hbe⟩ : ∃ b, b = x + 1 := ⟨_, rfl⟩
  obtain ⟨hh, hhe⟩ : ∃ q, q = x + 30 := ⟨_, rfl⟩
  obtain ⟨a, hae⟩ : ∃ q, q = x + 177 := ⟨_, rfl⟩
  rw [← hbe] at hx0 hP
  rw [← hhe] at hx0 hH
  rw [← hae] at hx0 ho ha
  have i1 := hI.mn12
  have i2 := hI.nx240
  have hR : FrR x (x + 179) s.heap s.heap := FrR.rf
  have hT80 := hT.1
  have hgf := hFl.1
  have hl : lv_has ls 1 [(0, .ref (x))] := hl
  have hL : Lk G [] := Lk.nil
  generalize ([] : List Loc) = locs at hL ⊢
  refine lv_aload_n E.1 E.2.1 dX5_close_0 rfl (lv_at hl 0 rfl) ?_
  refine m_get E hx0 fw_X5_19 rfl dX5_close_1 ?_
  refine lv_aload_n E.1 E.2.1 dX5_close_4 rfl (lv_at hl 0 rfl) ?_
  refine m_get E hx0 fw_X5_12 rfl dX5_close_5 ?_
  refine kVWV (As := [.ref (b)]) E cw_X5_30 (c_X2_sketch G l hh b fb o fl hs σ hI (by omega) (by omega) (by omega)) hH.2.2.1 ⟨_, _, rfl⟩ ⟨hH, hP, hFl⟩ hL hl.1 rfl rfl (Nat.le_of_ble_eq_true rfl) ⟨Nat.le_of_ble_eq_true rfl, Nat.le_of_ble_eq_true rfl⟩ ⟨Nat.le_of_ble_eq_true rfl, Nat.le_of_ble_eq_true rfl⟩ dX5_close_8 (fun H1 locs hL hw_ => ?_)
  obtain ⟨hH, hSl, hq⟩ := hw_
  have hx0 := hx0.kept (hq.2 _ (by omega))
  have hP : DiscAt G b fl σ H1 := hP.kept (fun q g1 g2 => hq.2 q (by omega))
  have ho := ho.kept (hq.2 _ (by omega))
  have ha := ha.kept (hq.2 _ (by omega))
  have hFl : FlAt G fb fl H1 := hFl.kept (fun q g1 g2 => hq.2 q (by omega))
  have hsz : fb ≤ H1.size := by have h9 := hq.1; omega
  have hR : FrR x (x + 179) s.heap H1 := hR.trans (hq.R.wide (by omega) (by omega))
  refine lv_aload_n E.1 E.2.1 dX5_close_11 rfl (lv_at hl 0 rfl) ?_
  refine lv_aload_n E.1 E.2.1 dX5_close_12 rfl (lv_at hl 0 rfl) ?_
  refine m_get E hx0 fw_X5_12 rfl dX5_close_13 ?_
  refine kVWE (As := []) E cw_X5_51 (c_X1_closeSession G l b fl σ hI   (by omega)) hP.1 ⟨_, _, rfl⟩ hP hL hl.1 rfl rfl (Nat.le_of_ble_eq_true rfl) ⟨Nat.le_of_ble_eq_true rfl, Nat.le_of_ble_eq_true rfl⟩ ⟨Nat.le_of_ble_eq_true rfl, Nat.le_of_ble_eq_true rfl⟩ dX5_close_16 (fun H2 locs hL hw_ => ?_)
  have hbd := spClose_b hI 
  obtain ⟨hP1, hq⟩ := hw_
  have hx0 := hx0.kept (hq.2 _ (by omega))
  have ho := ho.kept (hq.2 _ (by omega))
  have ha := ha.kept (hq.2 _ (by omega))
  have hFl : FlAt G fb fl H2 := hFl.kept (fun q g1 g2 => hq.2 q (by omega))
  have hH : HistR G hh fl o hs H2 := hH.kept (fun q g1 g2 => hq.2 q (by omega))
  have hSl : DiscAt G (hh + 2 + 29 * ((o + hs.length) % 5)) fl σ H2 := hSl.kept (fun q g1 g2 => hq.2 q (by omega))
  have hsz : fb ≤ H2.size := by have h9 := hq.1; omega
  have hR : FrR x (x + 179) s.heap H2 := hR.trans (hq.R.wide (by omega) (by omega))
  have hP := hP1
  have hE : Ext fl fl := Ext.rf
  refine kVWE (As := [.int (iI ((spClose σ).1))]) E cw_X5_38 (c_X5_recorded G l x b hh a o fl hs σ ((spClose σ).1) (by omega) (by omega) (by omega)) hx0 ⟨_, _, rfl⟩ ⟨hx0, hH, hSl⟩ hL hl.1 rfl rfl (Nat.le_of_ble_eq_true rfl) ⟨Nat.le_of_ble_eq_true rfl, Nat.le_of_ble_eq_true rfl⟩ ⟨Nat.le_of_ble_eq_true rfl, Nat.le_of_ble_eq_true rfl⟩ dX5_close_19 (fun H3 locs hL hw_ => ?_)
  obtain ⟨hH, hq⟩ := hw_
  have hx0 := hx0.kept (hq.2 _ (by omega))
  have hP : DiscAt G b fl (spClose σ).2 H3 := hP.kept (fun q g1 g2 => hq.2 q (by omega))
  have ho := ho.kept (hq.2 _ (by omega))
  have ha := ha.kept (hq.2 _ (by omega))
  have hFl : FlAt G fb fl H3 := hFl.kept (fun q g1 g2 => hq.2 q (by omega))
  have hsz : fb ≤ H3.size := by have h9 := hq.1; omega
  have hR : FrR x (x + 179) s.heap H3 := hR.trans (hq.R.wide (by omega) (by omega))
  refine e_iret (rm := ({ frames := 4, cells := 0, slots := 0, locals := 86 } : Room)) (v := iI ((spClose σ).1)) E hL dX5_close_22 ?_
  subst hbe; subst hhe; subst hae
  exact ⟨rfl, ⟨_, hE, hx0, hP, hH, ⟨_, _, _, _, ho, ha⟩, hFl⟩, hR⟩

set_option maxHeartbeats 4000000 in
set_option maxRecDepth 100000 in
theorem c_X5_eject (G : GG) (l : Launch) (x fb : Nat) (fl : Nat → Option Fil) (σ : St) (hs : List St) (tx : Nat → Int) (len : Nat) (hI : Inv σ) (hT : TxOk tx len) (hfx : x + 179 ≤ fb) (hgx : G.2.2 ≤ x) : Ct G l yX5_eject cX5_eject 1 (some .int) ({ frames := 4, cells := 0, slots := 0, locals := 86 } : Room) [.ref (x)] (fun H => XAt G x fb fl σ hs tx len H ∧ fb ≤ H.size) (WE (iI (spEject σ).1) (XP G x fb fl (spEject σ).2 (hsA σ hs (spEject σ).1) tx len)) := by
  refine Ct.of (by decide +kernel) (Nat.le_of_ble_eq_true rfl) ?_
  intro p e s m args below meth c ls E hnm hP hl
  obtain ⟨hP, hsz⟩ := hP
  obtain ⟨hx0, hP, ⟨o, hH⟩, ⟨p1, le, fi, sc, ho, ha⟩, hFl⟩ := hP
  obtain ⟨b, hbe⟩ : ∃ b, b = x + 1 := ⟨_, rfl⟩
  obtain ⟨hh, hhe⟩ : ∃ q, q = x + 30 := ⟨_, rfl⟩
  obtain ⟨a, hae⟩ : ∃ q, q = x + 177 := ⟨_, rfl⟩
  rw [← hbe] at hx0 hP
  rw [← hhe] at hx0 hH
  rw [← hae] at hx0 ho ha
  have i1 := hI.mn12
  have i2 := hI.nx240
  have hR : FrR x (x + 179) s.heap s.heap := FrR.rf
  have hT80 := hT.1
  have hgf := hFl.1
  have hl : lv_has ls 1 [(0, .ref (x))] := hl
  have hL : Lk G [] := Lk.nil
  generalize ([] : List Loc) = locs at hL ⊢
  refine lv_aload_n E.1 E.2.1 dX5_eject_0 rfl (lv_at hl 0 rfl) ?_
  refine m_get E hx0 fw_X5_19 rfl dX5_eject_1 ?_
  refine lv_aload_n E.1 E.2.1 dX5_eject_4 rfl (lv_at hl 0 rfl) ?_
  refine m_get E hx0 fw_X5_12 rfl dX5_eject_5 ?_
  refine kVWV (As := [.ref (b)]) E cw_X5_30 (c_X2_sketch G l hh b fb o fl hs σ hI (by omega) (by omega) (by omega)) hH.2.2.1 ⟨_, _, rfl⟩ ⟨hH, hP, hFl⟩ hL hl.1 rfl rfl (Nat.le_of_ble_eq_true rfl) ⟨Nat.le_of_ble_eq_true rfl, Nat.le_of_ble_eq_true rfl⟩ ⟨Nat.le_of_ble_eq_true rfl, Nat.le_of_ble_eq_true rfl⟩ dX5_eject_8 (fun H1 locs hL hw_ => ?_)
  obtain ⟨hH, hSl, hq⟩ := hw_
  have hx0 := hx0.kept (hq.2 _ (by omega))
  have hP : DiscAt G b fl σ H1 := hP.kept (fun q g1 g2 => hq.2 q (by omega))
  have ho := ho.kept (hq.2 _ (by omega))
  have ha := ha.kept (hq.2 _ (by omega))
  have hFl : FlAt G fb fl H1 := hFl.kept (fun q g1 g2 => hq.2 q (by omega))
  have hsz : fb ≤ H1.size := by have h9 := hq.1; omega
  have hR : FrR x (x + 179) s.heap H1 := hR.trans (hq.R.wide (by omega) (by omega))
  refine lv_aload_n E.1 E.2.1 dX5_eject_11 rfl (lv_at hl 0 rfl) ?_
  refine lv_aload_n E.1 E.2.1 dX5_eject_12 rfl (lv_at hl 0 rfl) ?_
  refine m_get E hx0 fw_X5_12 rfl dX5_eject_13 ?_
  refine kVWE (As := []) E cw_X5_55 (c_X1_breakSession G l b fl σ hI   (by omega)) hP.1 ⟨_, _, rfl⟩ hP hL hl.1 rfl rfl (Nat.le_of_ble_eq_true rfl) ⟨Nat.le_of_ble_eq_true rfl, Nat.le_of_ble_eq_true rfl⟩ ⟨Nat.le_of_ble_eq_true rfl, Nat.le_of_ble_eq_true rfl⟩ dX5_eject_16 (fun H2 locs hL hw_ => ?_)
  have hbd := spEject_b (σ := σ) 
  obtain ⟨hP1, hq⟩ := hw_
  have hx0 := hx0.kept (hq.2 _ (by omega))
  have ho := ho.kept (hq.2 _ (by omega))
  have ha := ha.kept (hq.2 _ (by omega))
  have hFl : FlAt G fb fl H2 := hFl.kept (fun q g1 g2 => hq.2 q (by omega))
  have hH : HistR G hh fl o hs H2 := hH.kept (fun q g1 g2 => hq.2 q (by omega))
  have hSl : DiscAt G (hh + 2 + 29 * ((o + hs.length) % 5)) fl σ H2 := hSl.kept (fun q g1 g2 => hq.2 q (by omega))
  have hsz : fb ≤ H2.size := by have h9 := hq.1; omega
  have hR : FrR x (x + 179) s.heap H2 := hR.trans (hq.R.wide (by omega) (by omega))
  have hP := hP1
  have hE : Ext fl fl := Ext.rf
  refine kVWE (As := [.int (iI ((spEject σ).1))]) E cw_X5_38 (c_X5_recorded G l x b hh a o fl hs σ ((spEject σ).1) (by omega) (by omega) (by omega)) hx0 ⟨_, _, rfl⟩ ⟨hx0, hH, hSl⟩ hL hl.1 rfl rfl (Nat.le_of_ble_eq_true rfl) ⟨Nat.le_of_ble_eq_true rfl, Nat.le_of_ble_eq_true rfl⟩ ⟨Nat.le_of_ble_eq_true rfl, Nat.le_of_ble_eq_true rfl⟩ dX5_eject_19 (fun H3 locs hL hw_ => ?_)
  obtain ⟨hH, hq⟩ := hw_
  have hx0 := hx0.kept (hq.2 _ (by omega))
  have hP : DiscAt G b fl (spEject σ).2 H3 := hP.kept (fun q g1 g2 => hq.2 q (by omega))
  have ho := ho.kept (hq.2 _ (by omega))
  have ha := ha.kept (hq.2 _ (by omega))
  have hFl : FlAt G fb fl H3 := hFl.kept (fun q g1 g2 => hq.2 q (by omega))
  have hsz : fb ≤ H3.size := by have h9 := hq.1; omega
  have hR : FrR x (x + 179) s.heap H3 := hR.trans (hq.R.wide (by omega) (by omega))
  refine e_iret (rm := ({ frames := 4, cells := 0, slots := 0, locals := 86 } : Room)) (v := iI ((spEject σ).1)) E hL dX5_eject_22 ?_
  subst hbe; subst hhe; subst hae
  exact ⟨rfl, ⟨_, hE, hx0, hP, hH, ⟨_, _, _, _, ho, ha⟩, hFl⟩, hR⟩

set_option maxHeartbeats 4000000 in
set_option maxRecDepth 100000 in
theorem c_X5_repair (G : GG) (l : Launch) (x fb : Nat) (fl : Nat → Option Fil) (σ : St) (hs : List St) (tx : Nat → Int) (len : Nat) (hI : Inv σ) (hT : TxOk tx len) (hfx : x + 179 ≤ fb) (hgx : G.2.2 ≤ x) (y : Int) (hy : okI y) : Ct G l yX5_repair cX5_repair 2 (some .int) ({ frames := 4, cells := 0, slots := 0, locals := 86 } : Room) [.ref (x), .int (iI (y))] (fun H => XAt G x fb fl σ hs tx len H ∧ fb ≤ H.size) (WE (iI (spRepair σ y).1) (XP G x fb fl (spRepair σ y).2 (hsA σ hs (spRepair σ y).1) tx len)) := by
  refine Ct.of (by decide +kernel) (Nat.le_of_ble_eq_true rfl) ?_
  intro p e s m args below meth c ls E hnm hP hl
  obtain ⟨hP, hsz⟩ := hP
  obtain ⟨hx0, hP, ⟨o, hH⟩, ⟨p1, le, fi, sc, ho, ha⟩, hFl⟩ := hP
  obtain ⟨b, hbe⟩ : ∃ b, b = x + 1 := ⟨_, rfl⟩
  obtain ⟨hh, hhe⟩ : ∃ q, q = x + 30 := ⟨_, rfl⟩
  obtain ⟨a, hae⟩ : ∃ q, q = x + 177 := ⟨_, rfl⟩
  rw [← hbe] at hx0 hP
  rw [← hhe] at hx0 hH
  rw [← hae] at hx0 ho ha
  have i1 := hI.mn12
  have i2 := hI.nx240
  have hR : FrR x (x + 179) s.heap s.heap := FrR.rf
  have hT80 := hT.1
  have hgf := hFl.1
  obtain ⟨hy1, hy2⟩ := hy
  have hl : lv_has ls 2 [(0, .ref (x)), (1, .int (iI (y)))] := hl
  have hL : Lk G [] := Lk.nil
  generalize ([] : List Loc) = locs at hL ⊢
  refine lv_aload_n E.1 E.2.1 dX5_repair_0 rfl (lv_at hl 0 rfl) ?_
  refine m_get E hx0 fw_X5_19 rfl dX5_repair_1 ?_
  refine lv_aload_n E.1 E.2.1 dX5_repair_4 rfl (lv_at hl 0 rfl) ?_
  refine m_get E hx0 fw_X5_12 rfl dX5_repair_5 ?_
  refine kVWV (As := [.ref (b)]) E cw_X5_30 (c_X2_sketch G l hh b fb o fl hs σ hI (by omega) (by omega) (by omega)) hH.2.2.1 ⟨_, _, rfl⟩ ⟨hH, hP, hFl⟩ hL hl.1 rfl rfl (Nat.le_of_ble_eq_true rfl) ⟨Nat.le_of_ble_eq_true rfl, Nat.le_of_ble_eq_true rfl⟩ ⟨Nat.le_of_ble_eq_true rfl, Nat.le_of_ble_eq_true rfl⟩ dX5_repair_8 (fun H1 locs hL hw_ => ?_)
  obtain ⟨hH, hSl, hq⟩ := hw_
  have hx0 := hx0.kept (hq.2 _ (by omega))
  have hP : DiscAt G b fl σ H1 := hP.kept (fun q g1 g2 => hq.2 q (by omega))
  have ho := ho.kept (hq.2 _ (by omega))
  have ha := ha.kept (hq.2 _ (by omega))
  have hFl : FlAt G fb fl H1 := hFl.kept (fun q g1 g2 => hq.2 q (by omega))
  have hsz : fb ≤ H1.size := by have h9 := hq.1; omega
  have hR : FrR x (x + 179) s.heap H1 := hR.trans (hq.R.wide (by omega) (by omega))
  refine lv_aload_n E.1 E.2.1 dX5_repair_11 rfl (lv_at hl 0 rfl) ?_
  refine lv_aload_n E.1 E.2.1 dX5_repair_12 rfl (lv_at hl 0 rfl) ?_
  refine m_get E hx0 fw_X5_12 rfl dX5_repair_13 ?_
  refine lv_iload_n E.1 E.2.1 dX5_repair_16 rfl (lv_at hl 1 rfl) ?_
  refine kVWE (As := [.int (iI (y))]) E cw_X5_58 (c_X1_repairSession G l b fl σ hI (y) (by unfold okI; omega) (by omega)) hP.1 ⟨_, _, rfl⟩ hP hL hl.1 rfl rfl (Nat.le_of_ble_eq_true rfl) ⟨Nat.le_of_ble_eq_true rfl, Nat.le_of_ble_eq_true rfl⟩ ⟨Nat.le_of_ble_eq_true rfl, Nat.le_of_ble_eq_true rfl⟩ dX5_repair_17 (fun H2 locs hL hw_ => ?_)
  have hbd := spRepair_b hI (y)
  obtain ⟨hP1, hq⟩ := hw_
  have hx0 := hx0.kept (hq.2 _ (by omega))
  have ho := ho.kept (hq.2 _ (by omega))
  have ha := ha.kept (hq.2 _ (by omega))
  have hFl : FlAt G fb fl H2 := hFl.kept (fun q g1 g2 => hq.2 q (by omega))
  have hH : HistR G hh fl o hs H2 := hH.kept (fun q g1 g2 => hq.2 q (by omega))
  have hSl : DiscAt G (hh + 2 + 29 * ((o + hs.length) % 5)) fl σ H2 := hSl.kept (fun q g1 g2 => hq.2 q (by omega))
  have hsz : fb ≤ H2.size := by have h9 := hq.1; omega
  have hR : FrR x (x + 179) s.heap H2 := hR.trans (hq.R.wide (by omega) (by omega))
  have hP := hP1
  have hE : Ext fl fl := Ext.rf
  refine kVWE (As := [.int (iI ((spRepair σ (y)).1))]) E cw_X5_38 (c_X5_recorded G l x b hh a o fl hs σ ((spRepair σ (y)).1) (by omega) (by omega) (by omega)) hx0 ⟨_, _, rfl⟩ ⟨hx0, hH, hSl⟩ hL hl.1 rfl rfl (Nat.le_of_ble_eq_true rfl) ⟨Nat.le_of_ble_eq_true rfl, Nat.le_of_ble_eq_true rfl⟩ ⟨Nat.le_of_ble_eq_true rfl, Nat.le_of_ble_eq_true rfl⟩ dX5_repair_20 (fun H3 locs hL hw_ => ?_)
  obtain ⟨hH, hq⟩ := hw_
  have hx0 := hx0.kept (hq.2 _ (by omega))
  have hP : DiscAt G b fl (spRepair σ (y)).2 H3 := hP.kept (fun q g1 g2 => hq.2 q (by omega))
  have ho := ho.kept (hq.2 _ (by omega))
  have ha := ha.kept (hq.2 _ (by omega))
  have hFl : FlAt G fb fl H3 := hFl.kept (fun q g1 g2 => hq.2 q (by omega))
  have hsz : fb ≤ H3.size := by have h9 := hq.1; omega
  have hR : FrR x (x + 179) s.heap H3 := hR.trans (hq.R.wide (by omega) (by omega))
  refine e_iret (rm := ({ frames := 4, cells := 0, slots := 0, locals := 86 } : Room)) (v := iI ((spRepair σ (y)).1)) E hL dX5_repair_23 ?_
  subst hbe; subst hhe; subst hae
  exact ⟨rfl, ⟨_, hE, hx0, hP, hH, ⟨_, _, _, _, ho, ha⟩, hFl⟩, hR⟩

set_option maxHeartbeats 4000000 in
set_option maxRecDepth 100000 in
theorem c_X5_damage (G : GG) (l : Launch) (x fb : Nat) (fl : Nat → Option Fil) (σ : St) (hs : List St) (tx : Nat → Int) (len : Nat) (hI : Inv σ) (hT : TxOk tx len) (hfx : x + 179 ≤ fb) (hgx : G.2.2 ≤ x) (y : Int) (hy : okI y) : Ct G l yX5_damage cX5_damage 2 (some .int) ({ frames := 4, cells := 0, slots := 0, locals := 86 } : Room) [.ref (x), .int (iI (y))] (fun H => XAt G x fb fl σ hs tx len H ∧ fb ≤ H.size) (WE (iI (spDamage σ y).1) (XP G x fb fl (spDamage σ y).2 (hsA σ hs (spDamage σ y).1) tx len)) := by
  refine Ct.of (by decide +kernel) (Nat.le_of_ble_eq_true rfl) ?_
  intro p e s m args below meth c ls E hnm hP hl
  obtain ⟨hP, hsz⟩ := hP
  obtain ⟨hx0, hP, ⟨o, hH⟩, ⟨p1, le, fi, sc, ho, ha⟩, hFl⟩ := hP
  obtain ⟨b, hbe⟩ : ∃ b, b = x + 1 := ⟨_, rfl⟩
  obtain ⟨hh, hhe⟩ : ∃ q, q = x + 30 := ⟨_, rfl⟩
  obtain ⟨a, hae⟩ : ∃ q, q = x + 177 := ⟨_, rfl⟩
  rw [← hbe] at hx0 hP
  rw [← hhe] at hx0 hH
  rw [← hae] at hx0 ho ha
  have i1 := hI.mn12
  have i2 := hI.nx240
  have hR : FrR x (x + 179) s.heap s.heap := FrR.rf
  have hT80 := hT.1
  have hgf := hFl.1
  obtain ⟨hy1, hy2⟩ := hy
  have hl : lv_has ls 2 [(0, .ref (x)), (1, .int (iI (y)))] := hl
  have hL : Lk G [] := Lk.nil
  generalize ([] : List Loc) = locs at hL ⊢
  refine lv_aload_n E.1 E.2.1 dX5_damage_0 rfl (lv_at hl 0 rfl) ?_
  refine m_get E hx0 fw_X5_19 rfl dX5_damage_1 ?_
  refine lv_aload_n E.1 E.2.1 dX5_damage_4 rfl (lv_at hl 0 rfl) ?_
  refine m_get E hx0 fw_X5_12 rfl dX5_damage_5 ?_
  refine kVWV (As := [.ref (b)]) E cw_X5_30 (c_X2_sketch G l hh b fb o fl hs σ hI (by omega) (by omega) (by omega)) hH.2.2.1 ⟨_, _, rfl⟩ ⟨hH, hP, hFl⟩ hL hl.1 rfl rfl (Nat.le_of_ble_eq_true rfl) ⟨Nat.le_of_ble_eq_true rfl, Nat.le_of_ble_eq_true rfl⟩ ⟨Nat.le_of_ble_eq_true rfl, Nat.le_of_ble_eq_true rfl⟩ dX5_damage_8 (fun H1 locs hL hw_ => ?_)
  obtain ⟨hH, hSl, hq⟩ := hw_
  have hx0 := hx0.kept (hq.2 _ (by omega))
  have hP : DiscAt G b fl σ H1 := hP.kept (fun q g1 g2 => hq.2 q (by omega))
  have ho := ho.kept (hq.2 _ (by omega))
  have ha := ha.kept (hq.2 _ (by omega))
  have hFl : FlAt G fb fl H1 := hFl.kept (fun q g1 g2 => hq.2 q (by omega))
  have hsz : fb ≤ H1.size := by have h9 := hq.1; omega
  have hR : FrR x (x + 179) s.heap H1 := hR.trans (hq.R.wide (by omega) (by omega))
  refine lv_aload_n E.1 E.2.1 dX5_damage_11 rfl (lv_at hl 0 rfl) ?_
  refine lv_aload_n E.1 E.2.1 dX5_damage_12 rfl (lv_at hl 0 rfl) ?_
  refine m_get E hx0 fw_X5_12 rfl dX5_damage_13 ?_
  refine lv_iload_n E.1 E.2.1 dX5_damage_16 rfl (lv_at hl 1 rfl) ?_
  refine kVWE (As := [.int (iI (y))]) E cw_X5_61 (c_X1_damageSector G l b fl σ hI (y) (by unfold okI; omega) (by omega)) hP.1 ⟨_, _, rfl⟩ hP hL hl.1 rfl rfl (Nat.le_of_ble_eq_true rfl) ⟨Nat.le_of_ble_eq_true rfl, Nat.le_of_ble_eq_true rfl⟩ ⟨Nat.le_of_ble_eq_true rfl, Nat.le_of_ble_eq_true rfl⟩ dX5_damage_17 (fun H2 locs hL hw_ => ?_)
  have hbd := spDamage_b (σ := σ) (y)
  obtain ⟨hP1, hq⟩ := hw_
  have hx0 := hx0.kept (hq.2 _ (by omega))
  have ho := ho.kept (hq.2 _ (by omega))
  have ha := ha.kept (hq.2 _ (by omega))
  have hFl : FlAt G fb fl H2 := hFl.kept (fun q g1 g2 => hq.2 q (by omega))
  have hH : HistR G hh fl o hs H2 := hH.kept (fun q g1 g2 => hq.2 q (by omega))
  have hSl : DiscAt G (hh + 2 + 29 * ((o + hs.length) % 5)) fl σ H2 := hSl.kept (fun q g1 g2 => hq.2 q (by omega))
  have hsz : fb ≤ H2.size := by have h9 := hq.1; omega
  have hR : FrR x (x + 179) s.heap H2 := hR.trans (hq.R.wide (by omega) (by omega))
  have hP := hP1
  have hE : Ext fl fl := Ext.rf
  refine kVWE (As := [.int (iI ((spDamage σ (y)).1))]) E cw_X5_38 (c_X5_recorded G l x b hh a o fl hs σ ((spDamage σ (y)).1) (by omega) (by omega) (by omega)) hx0 ⟨_, _, rfl⟩ ⟨hx0, hH, hSl⟩ hL hl.1 rfl rfl (Nat.le_of_ble_eq_true rfl) ⟨Nat.le_of_ble_eq_true rfl, Nat.le_of_ble_eq_true rfl⟩ ⟨Nat.le_of_ble_eq_true rfl, Nat.le_of_ble_eq_true rfl⟩ dX5_damage_20 (fun H3 locs hL hw_ => ?_)
  obtain ⟨hH, hq⟩ := hw_
  have hx0 := hx0.kept (hq.2 _ (by omega))
  have hP : DiscAt G b fl (spDamage σ (y)).2 H3 := hP.kept (fun q g1 g2 => hq.2 q (by omega))
  have ho := ho.kept (hq.2 _ (by omega))
  have ha := ha.kept (hq.2 _ (by omega))
  have hFl : FlAt G fb fl H3 := hFl.kept (fun q g1 g2 => hq.2 q (by omega))
  have hsz : fb ≤ H3.size := by have h9 := hq.1; omega
  have hR : FrR x (x + 179) s.heap H3 := hR.trans (hq.R.wide (by omega) (by omega))
  refine e_iret (rm := ({ frames := 4, cells := 0, slots := 0, locals := 86 } : Room)) (v := iI ((spDamage σ (y)).1)) E hL dX5_damage_23 ?_
  subst hbe; subst hhe; subst hae
  exact ⟨rfl, ⟨_, hE, hx0, hP, hH, ⟨_, _, _, _, ho, ha⟩, hFl⟩, hR⟩

set_option maxHeartbeats 4000000 in
set_option maxRecDepth 100000 in
theorem c_X5_set (G : GG) (l : Launch) (x fb : Nat) (fl : Nat → Option Fil) (σ : St) (hs : List St) (tx : Nat → Int) (len : Nat) (hI : Inv σ) (hT : TxOk tx len) (hfx : x + 179 ≤ fb) (hgx : G.2.2 ≤ x) (y z : Int) (hy : okI y) (hz : okI z) : Ct G l yX5_set cX5_set 3 (some .int) ({ frames := 4, cells := 0, slots := 0, locals := 86 } : Room) [.ref (x), .int (iI (y)), .int (iI (z))] (fun H => XAt G x fb fl σ hs tx len H ∧ fb ≤ H.size) (WE (iI (spSet σ y z).1) (XP G x fb fl (spSet σ y z).2 (hsA σ hs (spSet σ y z).1) tx len)) := by
  refine Ct.of (by decide +kernel) (Nat.le_of_ble_eq_true rfl) ?_
  intro p e s m args below meth c ls E hnm hP hl
  obtain ⟨hP, hsz⟩ := hP
  obtain ⟨hx0, hP, ⟨o, hH⟩, ⟨p1, le, fi, sc, ho, ha⟩, hFl⟩ := hP
  obtain ⟨b, hbe⟩ : ∃ b, b = x + 1 := ⟨_, rfl⟩
  obtain ⟨hh, hhe⟩ : ∃ q, q = x + 30 := ⟨_, rfl⟩
  obtain ⟨a, hae⟩ : ∃ q, q = x + 177 := ⟨_, rfl⟩
  rw [← hbe] at hx0 hP
  rw [← hhe] at hx0 hH
  rw [← hae] at hx0 ho ha
  have i1 := hI.mn12
  have i2 := hI.nx240
  have hR : FrR x (x + 179) s.heap s.heap := FrR.rf
  have hT80 := hT.1
  have hgf := hFl.1
  obtain ⟨hy1, hy2⟩ := hy
  obtain ⟨hz1, hz2⟩ := hz
  have hl : lv_has ls 3 [(0, .ref (x)), (1, .int (iI (y))), (2, .int (iI (z)))] := hl
  have hL : Lk G [] := Lk.nil
  generalize ([] : List Loc) = locs at hL ⊢
  refine lv_aload_n E.1 E.2.1 dX5_set_0 rfl (lv_at hl 0 rfl) ?_
  refine m_get E hx0 fw_X5_19 rfl dX5_set_1 ?_
  refine lv_aload_n E.1 E.2.1 dX5_set_4 rfl (lv_at hl 0 rfl) ?_
  refine m_get E hx0 fw_X5_12 rfl dX5_set_5 ?_
  refine kVWV (As := [.ref (b)]) E cw_X5_30 (c_X2_sketch G l hh b fb o fl hs σ hI (by omega) (by omega) (by omega)) hH.2.2.1 ⟨_, _, rfl⟩ ⟨hH, hP, hFl⟩ hL hl.1 rfl rfl (Nat.le_of_ble_eq_true rfl) ⟨Nat.le_of_ble_eq_true rfl, Nat.le_of_ble_eq_true rfl⟩ ⟨Nat.le_of_ble_eq_true rfl, Nat.le_of_ble_eq_true rfl⟩ dX5_set_8 (fun H1 locs hL hw_ => ?_)
  obtain ⟨hH, hSl, hq⟩ := hw_
  have hx0 := hx0.kept (hq.2 _ (by omega))
  have hP : DiscAt G b fl σ H1 := hP.kept (fun q g1 g2 => hq.2 q (by omega))
  have ho := ho.kept (hq.2 _ (by omega))
  have ha := ha.kept (hq.2 _ (by omega))
  have hFl : FlAt G fb fl H1 := hFl.kept (fun q g1 g2 => hq.2 q (by omega))
  have hsz : fb ≤ H1.size := by have h9 := hq.1; omega
  have hR : FrR x (x + 179) s.heap H1 := hR.trans (hq.R.wide (by omega) (by omega))
  refine lv_aload_n E.1 E.2.1 dX5_set_11 rfl (lv_at hl 0 rfl) ?_
  refine lv_aload_n E.1 E.2.1 dX5_set_12 rfl (lv_at hl 0 rfl) ?_
  refine m_get E hx0 fw_X5_12 rfl dX5_set_13 ?_
  refine lv_iload_n E.1 E.2.1 dX5_set_16 rfl (lv_at hl 1 rfl) ?_
  refine lv_iload_n E.1 E.2.1 dX5_set_17 rfl (lv_at hl 2 rfl) ?_
  refine kVWE (As := [.int (iI (y)), .int (iI (z))]) E cw_X5_64 (c_X1_changeSetting G l b fl σ hI (y) (z) (by unfold okI; omega) (by unfold okI; omega) (by omega)) hP.1 ⟨_, _, rfl⟩ hP hL hl.1 rfl rfl (Nat.le_of_ble_eq_true rfl) ⟨Nat.le_of_ble_eq_true rfl, Nat.le_of_ble_eq_true rfl⟩ ⟨Nat.le_of_ble_eq_true rfl, Nat.le_of_ble_eq_true rfl⟩ dX5_set_18 (fun H2 locs hL hw_ => ?_)
  have hbd := spSet_b hI (y) (z)
  obtain ⟨hP1, hq⟩ := hw_
  have hx0 := hx0.kept (hq.2 _ (by omega))
  have ho := ho.kept (hq.2 _ (by omega))
  have ha := ha.kept (hq.2 _ (by omega))
  have hFl : FlAt G fb fl H2 := hFl.kept (fun q g1 g2 => hq.2 q (by omega))
  have hH : HistR G hh fl o hs H2 := hH.kept (fun q g1 g2 => hq.2 q (by omega))
  have hSl : DiscAt G (hh + 2 + 29 * ((o + hs.length) % 5)) fl σ H2 := hSl.kept (fun q g1 g2 => hq.2 q (by omega))
  have hsz : fb ≤ H2.size := by have h9 := hq.1; omega
  have hR : FrR x (x + 179) s.heap H2 := hR.trans (hq.R.wide (by omega) (by omega))
  have hP := hP1
  have hE : Ext fl fl := Ext.rf
  refine kVWE (As := [.int (iI ((spSet σ (y) (z)).1))]) E cw_X5_38 (c_X5_recorded G l x b hh a o fl hs σ ((spSet σ (y) (z)).1) (by omega) (by omega) (by omega)) hx0 ⟨_, _, rfl⟩ ⟨hx0, hH, hSl⟩ hL hl.1 rfl rfl (Nat.le_of_ble_eq_true rfl) ⟨Nat.le_of_ble_eq_true rfl, Nat.le_of_ble_eq_true rfl⟩ ⟨Nat.le_of_ble_eq_true rfl, Nat.le_of_ble_eq_true rfl⟩ dX5_set_21 (fun H3 locs hL hw_ => ?_)
  obtain ⟨hH, hq⟩ := hw_
  have hx0 := hx0.kept (hq.2 _ (by omega))
  have hP : DiscAt G b fl (spSet σ (y) (z)).2 H3 := hP.kept (fun q g1 g2 => hq.2 q (by omega))
  have ho := ho.kept (hq.2 _ (by omega))
  have ha := ha.kept (hq.2 _ (by omega))
  have hFl : FlAt G fb fl H3 := hFl.kept (fun q g1 g2 => hq.2 q (by omega))
  have hsz : fb ≤ H3.size := by have h9 := hq.1; omega
  have hR : FrR x (x + 179) s.heap H3 := hR.trans (hq.R.wide (by omega) (by omega))
  refine e_iret (rm := ({ frames := 4, cells := 0, slots := 0, locals := 86 } : Room)) (v := iI ((spSet σ (y) (z)).1)) E hL dX5_set_24 ?_
  subst hbe; subst hhe; subst hae
  exact ⟨rfl, ⟨_, hE, hx0, hP, hH, ⟨_, _, _, _, ho, ha⟩, hFl⟩, hR⟩
