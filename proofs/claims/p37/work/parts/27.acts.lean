set_option maxHeartbeats 4000000 in
set_option maxRecDepth 100000 in
theorem c_X5_append (G : GG) (l : Launch) (x fb : Nat) (fl : Nat → Option Fil) (σ : St) (hs : List St) (tx : Nat → Int) (len : Nat) (hI : Inv σ) (hT : TxOk tx len) (hfx : x + 179 ≤ fb) (hgx : G.2.2 ≤ x) (y : Int) (hy : okI y) : Ct G l yX5_append cX5_append 2 (some .int) ({ frames := 1, cells := 0, slots := 0, locals := 21 } : Room) [.ref (x), .int (iI (y))] (fun H => XAt G x fb fl σ hs tx len H ∧ fb ≤ H.size) (WE (iI (spAppend tx len y).1) (XP G x fb fl σ hs (spAppend tx len y).2.1 (spAppend tx len y).2.2)) := by
  refine Ct.of (by decide +kernel) (Nat.le_of_ble_eq_true rfl) ?_
  intro p e s m args below meth c ls E hnm hP hl
  obtain ⟨hP, hsz⟩ := hP
  obtain ⟨hx0, hP, ⟨o, hH⟩, ⟨p1, le, fi, sc, ho, ha⟩, hFl⟩ := hP
  obtain ⟨b, hbe⟩ : ∃ b, b = x + 1 := ⟨_, rfl⟩
  obtain ⟨hh, hhe⟩ : ∃ q, q = x + 30 := ⟨_, rfl⟩
  obtain ⟨a, hae⟩ : ∃ q, q = x + 177 := ⟨_, rfl⟩
  rw [← hbe] at hx0 hP
  rw [← hhe] at hx0 hH
  rw [← hae] at hx0 ho ha
  have i1 := hI.mn12
  have i2 := hI.nx240
  have hgf := hFl.1
  have hT80 := hT.1
  obtain ⟨hy1, hy2⟩ := hy
  have hl : lv_has ls 2 [(0, .ref (x)), (1, .int (iI (y)))] := hl
  have hL : Lk G [] := Lk.nil
  generalize ([] : List Loc) = locs at hL ⊢
  refine lv_iload_n E.1 E.2.1 dX5_append_0 rfl (lv_at hl 1 rfl) ?_
  refine r_bipush E dX5_append_1 (by decide) ?_
  refine r_icmp_lt (tgt := 12) E dX5_append_3 (by decide) (by omega) (by omega) (fun c3 => ?_) (fun c3 => ?_)
  · refine r_bipush E dX5_append_12 (by decide) ?_
    refine e_iret (rm := ({ frames := 1, cells := 0, slots := 0, locals := 21 } : Room)) (v := iI ((-2))) E hL dX5_append_14 ?_
    have hsp : spAppend tx len y = (-2, tx, len) := by unfold spAppend; rw [if_pos (by omega)]
    rw [hsp]
    subst hbe; subst hhe; subst hae
    exact ⟨rfl, ⟨_, Ext.rf, hx0, hP, ⟨o, hH⟩, ⟨_, _, _, _, ho, ha⟩, hFl⟩, FrR.rf⟩
  · refine lv_iload_n E.1 E.2.1 dX5_append_6 rfl (lv_at hl 1 rfl) ?_
    refine r_bipush E dX5_append_7 (by decide) ?_
    refine r_icmp_le (tgt := 15) E dX5_append_9 (by decide) (by omega) (by omega) (fun c9 => ?_) (fun c9 => ?_)
    · refine lv_aload_n E.1 E.2.1 dX5_append_15 rfl (lv_at hl 0 rfl) ?_
      refine m_get E hx0 fw_X5_26 rfl dX5_append_16 ?_
      refine lv_iload_n E.1 E.2.1 dX5_append_19 rfl (lv_at hl 1 rfl) ?_
      refine lv_i2c E.1 E.2.1 dX5_append_20 (i2c_id (by omega) (by omega)) ?_
      refine kVWE (As := [.int (iI (y))]) E cw_X5_67 (c_X0_addSign G l a tx len p1 le fi sc hT (y) (by omega) (by omega)) ho ⟨_, _, rfl⟩ ⟨ho, ha⟩ hL hl.1 rfl rfl (Nat.le_of_ble_eq_true rfl) ⟨Nat.le_of_ble_eq_true rfl, Nat.le_of_ble_eq_true rfl⟩ ⟨Nat.le_of_ble_eq_true rfl, Nat.le_of_ble_eq_true rfl⟩ dX5_append_21 (fun H1 locs hL hw_ => ?_)
      obtain ⟨hTx, hq⟩ := hw_
      have hx0 := hx0.kept (hq.2 _ (by omega))
      have hP := hP.kept (fun q g1 g2 => hq.2 q (by omega))
      have hH := hH.kept (fun q g1 g2 => hq.2 q (by omega))
      have hFl := hFl.kept (fun q g1 g2 => hq.2 q (by omega))
      have hR := hq.R.wide (lo' := x) (hi' := x + 179) (by omega) (by omega)
      refine r_bif_eq (tgt := 37) E dX5_append_24 (by decide)  (fun c24 => ?_) (fun c24 => ?_)
      · have c24 := of_decide_eq_false c24
        refine r_bipush E dX5_append_37 (by decide) ?_
        refine e_iret (rm := ({ frames := 1, cells := 0, slots := 0, locals := 21 } : Room)) (v := iI ((-4))) E hL dX5_append_39 ?_
        rw [if_neg c24] at hTx
        have hsp : spAppend tx len y = (-4, tx, len) := by unfold spAppend; rw [if_neg (by omega), if_neg c24]
        rw [hsp]
        subst hbe; subst hhe; subst hae
        exact ⟨rfl, ⟨_, Ext.rf, hx0, hP, ⟨o, hH⟩, ⟨_, _, _, _, hTx⟩, hFl⟩, hR⟩
      · have c24 := of_decide_eq_true c24
        rw [if_pos c24] at hTx
        obtain ⟨ho, ha⟩ := hTx
        refine lv_aload_n E.1 E.2.1 dX5_append_27 rfl (lv_at hl 0 rfl) ?_
        refine m_get E hx0 fw_X5_26 rfl dX5_append_28 ?_
        refine m_get E ho fw_X5_71 rfl dX5_append_31 ?_
        refine lv_goto (tgt := 39) E.1 E.2.1 dX5_append_34 (by decide) ?_
        refine e_iret (rm := ({ frames := 1, cells := 0, slots := 0, locals := 21 } : Room)) (v := iI (((len + 1 : Nat) : Int))) E hL dX5_append_39 ?_
        have hsp : spAppend tx len y = ((len : Int) + 1, va_up tx len y, len + 1) := by unfold spAppend; rw [if_neg (by omega), if_pos c24]
        rw [hsp]
        subst hbe; subst hhe; subst hae
        exact ⟨rfl, ⟨_, Ext.rf, hx0, hP, ⟨o, hH⟩, ⟨_, _, _, _, ho, ha⟩, hFl⟩, hR⟩
    · refine r_bipush E dX5_append_12 (by decide) ?_
      refine e_iret (rm := ({ frames := 1, cells := 0, slots := 0, locals := 21 } : Room)) (v := iI ((-2))) E hL dX5_append_14 ?_
      have hsp : spAppend tx len y = (-2, tx, len) := by unfold spAppend; rw [if_pos (by omega)]
      rw [hsp]
      subst hbe; subst hhe; subst hae
      exact ⟨rfl, ⟨_, Ext.rf, hx0, hP, ⟨o, hH⟩, ⟨_, _, _, _, ho, ha⟩, hFl⟩, FrR.rf⟩

set_option maxHeartbeats 4000000 in
set_option maxRecDepth 100000 in
theorem c_X5_clearText (G : GG) (l : Launch) (x fb : Nat) (fl : Nat → Option Fil) (σ : St) (hs : List St) (tx : Nat → Int) (len : Nat) (hI : Inv σ) (hT : TxOk tx len) (hfx : x + 179 ≤ fb) (hgx : G.2.2 ≤ x) : Ct G l yX5_clearText cX5_clearText 2 (some .int) ({ frames := 0, cells := 0, slots := 0, locals := 0 } : Room) [.ref (x)] (fun H => XAt G x fb fl σ hs tx len H ∧ fb ≤ H.size) (WE (iI len) (XP G x fb fl σ hs tx 0)) := by
  refine Ct.of (by decide +kernel) (Nat.le_of_ble_eq_true rfl) ?_
  intro p e s m args below meth c ls E hnm hP hl
  obtain ⟨hP, hsz⟩ := hP
  obtain ⟨hx0, hP, ⟨o, hH⟩, ⟨p1, le, fi, sc, ho, ha⟩, hFl⟩ := hP
  obtain ⟨b, hbe⟩ : ∃ b, b = x + 1 := ⟨_, rfl⟩
  obtain ⟨hh, hhe⟩ : ∃ q, q = x + 30 := ⟨_, rfl⟩
  obtain ⟨a, hae⟩ : ∃ q, q = x + 177 := ⟨_, rfl⟩
  rw [← hbe] at hx0 hP
  rw [← hhe] at hx0 hH
  rw [← hae] at hx0 ho ha
  have i1 := hI.mn12
  have i2 := hI.nx240
  have hgf := hFl.1
  have hT80 := hT.1
  have hl : lv_has ls 2 [(0, .ref (x))] := hl
  have hL : Lk G [] := Lk.nil
  generalize ([] : List Loc) = locs at hL ⊢
  refine lv_aload_n E.1 E.2.1 dX5_clearText_0 rfl (lv_at hl 0 rfl) ?_
  refine m_get E hx0 fw_X5_26 rfl dX5_clearText_1 ?_
  refine m_get E ho fw_X5_71 rfl dX5_clearText_4 ?_
  refine lv_istore_n (lv' := [(1, .int (iI ((len : Int)))), (0, .ref (x))]) E.1 E.2.1 dX5_clearText_7 rfl hl (by decide) rfl (fun ls hl => ?_)
  refine lv_aload_n E.1 E.2.1 dX5_clearText_8 rfl (lv_at hl 1 rfl) ?_
  refine m_get E hx0 fw_X5_26 rfl dX5_clearText_9 ?_
  refine r_const E dX5_clearText_12 ?_
  refine m_put E ho fw_X5_71 fp_X0_1 rfl rfl (Nat.le_of_ble_eq_true rfl) hL (by omega) dX5_clearText_13 (fun H1 locs hL hO_ hF_ => ?_)
  have hx0 := hx0.kept (hF_.2 _ (by omega))
  have ha := ha.kept (hF_.2 _ (by omega))
  have hq : FrS a (a + 1) s.heap H1 := FrS.of1 hF_ (by omega) (by omega)
  have hP := hP.kept (fun q g1 g2 => hq.2 q (by omega))
  have hH := hH.kept (fun q g1 g2 => hq.2 q (by omega))
  have hFl := hFl.kept (fun q g1 g2 => hq.2 q (by omega))
  have hR := hq.R.wide (lo' := x) (hi' := x + 179) (by omega) (by omega)
  have ho : Ob G (a) 0 [.ref (a + 1), .int (iI (0)), .int (iI ((p1 : Int))), .int (iI (le)), .int (iI (fi)), .int (iI (sc))] H1 := hO_
  clear hO_
  refine lv_iload_n E.1 E.2.1 dX5_clearText_16 rfl (lv_at hl 0 rfl) ?_
  refine e_iret (rm := ({ frames := 0, cells := 0, slots := 0, locals := 0 } : Room)) (v := iI ((len : Int))) E hL dX5_clearText_17 ?_
  subst hbe; subst hhe; subst hae
  exact ⟨rfl, ⟨_, Ext.rf, hx0, hP, ⟨o, hH⟩, ⟨_, _, _, _, ho, ha⟩, hFl⟩, hR⟩

set_option maxHeartbeats 4000000 in
set_option maxRecDepth 100000 in
theorem c_X5_fault (G : GG) (l : Launch) (x fb : Nat) (fl : Nat → Option Fil) (σ : St) (hs : List St) (tx : Nat → Int) (len : Nat) (hI : Inv σ) (hT : TxOk tx len) (hfx : x + 179 ≤ fb) (hgx : G.2.2 ≤ x) : Ct G l yX5_fault cX5_fault 1 (some .int) ({ frames := 6, cells := 0, slots := 0, locals := 129 } : Room) [.ref (x)] (fun H => XAt G x fb fl σ hs tx len H ∧ fb ≤ H.size) (WE (iI (pFlt tx len 0)) (XP G x fb fl σ hs tx len)) := by
  refine Ct.of (by decide +kernel) (Nat.le_of_ble_eq_true rfl) ?_
  intro p e s m args below meth c ls E hnm hP hl
  obtain ⟨hP, hsz⟩ := hP
  obtain ⟨hx0, hP, ⟨o, hH⟩, ⟨p1, le, fi, sc, ho, ha⟩, hFl⟩ := hP
  obtain ⟨b, hbe⟩ : ∃ b, b = x + 1 := ⟨_, rfl⟩
  obtain ⟨hh, hhe⟩ : ∃ q, q = x + 30 := ⟨_, rfl⟩
  obtain ⟨a, hae⟩ : ∃ q, q = x + 177 := ⟨_, rfl⟩
  rw [← hbe] at hx0 hP
  rw [← hhe] at hx0 hH
  rw [← hae] at hx0 ho ha
  have i1 := hI.mn12
  have i2 := hI.nx240
  have hgf := hFl.1
  have hT80 := hT.1
  have hl : lv_has ls 1 [(0, .ref (x))] := hl
  have hL : Lk G [] := Lk.nil
  generalize ([] : List Loc) = locs at hL ⊢
  refine lv_aload_n E.1 E.2.1 dX5_fault_0 rfl (lv_at hl 0 rfl) ?_
  refine m_get E hx0 fw_X5_26 rfl dX5_fault_1 ?_
  refine kVWE (As := []) E cw_X5_75 (c_X0_firstFault G l a tx len p1 le fi sc hT (by omega)) ho ⟨_, _, rfl⟩ ⟨ho, ha⟩ hL hl.1 rfl rfl (Nat.le_of_ble_eq_true rfl) ⟨Nat.le_of_ble_eq_true rfl, Nat.le_of_ble_eq_true rfl⟩ ⟨Nat.le_of_ble_eq_true rfl, Nat.le_of_ble_eq_true rfl⟩ dX5_fault_4 (fun H1 locs hL hw_ => ?_)
  obtain ⟨⟨p1, le, fi, sc, ho, ha⟩, hq⟩ := hw_
  have hx0 := hx0.kept (hq.2 _ (by omega))
  have hP := hP.kept (fun q g1 g2 => hq.2 q (by omega))
  have hH := hH.kept (fun q g1 g2 => hq.2 q (by omega))
  have hFl := hFl.kept (fun q g1 g2 => hq.2 q (by omega))
  have hR := hq.R.wide (lo' := x) (hi' := x + 179) (by omega) (by omega)
  refine e_iret (rm := ({ frames := 6, cells := 0, slots := 0, locals := 129 } : Room)) (v := iI (pFlt tx len 0)) E hL dX5_fault_7 ?_
  subst hbe; subst hhe; subst hae
  exact ⟨rfl, ⟨_, Ext.rf, hx0, hP, ⟨o, hH⟩, ⟨_, _, _, _, ho, ha⟩, hFl⟩, hR⟩

set_option maxHeartbeats 4000000 in
set_option maxRecDepth 100000 in
theorem c_X5_undo (G : GG) (l : Launch) (x fb : Nat) (fl : Nat → Option Fil) (σ : St) (hs : List St) (tx : Nat → Int) (len : Nat) (hI : Inv σ) (hT : TxOk tx len) (hfx : x + 179 ≤ fb) (hgx : G.2.2 ≤ x) (hIs : ∀ τ ∈ hs, Inv τ) : Ct G l yX5_undo cX5_undo 1 (some .int) ({ frames := 4, cells := 0, slots := 0, locals := 86 } : Room) [.ref (x)] (fun H => XAt G x fb fl σ hs tx len H ∧ fb ≤ H.size) (WE (iI (spUndo σ hs).1) (XP G x fb fl (spUndo σ hs).2.1 (spUndo σ hs).2.2 tx len)) := by
  refine Ct.of (by decide +kernel) (Nat.le_of_ble_eq_true rfl) ?_
  intro p e s m args below meth c ls E hnm hP hl
  obtain ⟨hP, hsz⟩ := hP
  obtain ⟨hx0, hP, ⟨o, hH⟩, ⟨p1, le, fi, sc, ho, ha⟩, hFl⟩ := hP
  obtain ⟨b, hbe⟩ : ∃ b, b = x + 1 := ⟨_, rfl⟩
  obtain ⟨hh, hhe⟩ : ∃ q, q = x + 30 := ⟨_, rfl⟩
  obtain ⟨a, hae⟩ : ∃ q, q = x + 177 := ⟨_, rfl⟩
  rw [← hbe] at hx0 hP
  rw [← hhe] at hx0 hH
  rw [← hae] at hx0 ho ha
  have i1 := hI.mn12
  have i2 := hI.nx240
  have hgf := hFl.1
  have hT80 := hT.1
  have hl : lv_has ls 1 [(0, .ref (x))] := hl
  have hL : Lk G [] := Lk.nil
  generalize ([] : List Loc) = locs at hL ⊢
  refine lv_aload_n E.1 E.2.1 dX5_undo_0 rfl (lv_at hl 0 rfl) ?_
  refine m_get E hx0 fw_X5_19 rfl dX5_undo_1 ?_
  refine lv_aload_n E.1 E.2.1 dX5_undo_4 rfl (lv_at hl 0 rfl) ?_
  refine m_get E hx0 fw_X5_12 rfl dX5_undo_5 ?_
  refine kVWE (As := [.ref (b)]) E cw_X5_95 (c_X2_takeBack G l hh b fb o fl hs σ (by omega) (by omega) (by omega) hIs) hH.2.2.1 ⟨_, _, rfl⟩ ⟨hH, hP, hFl⟩ hL hl.1 rfl rfl (Nat.le_of_ble_eq_true rfl) ⟨Nat.le_of_ble_eq_true rfl, Nat.le_of_ble_eq_true rfl⟩ ⟨Nat.le_of_ble_eq_true rfl, Nat.le_of_ble_eq_true rfl⟩ dX5_undo_8 (fun H1 locs hL hw_ => ?_)
  obtain ⟨hH, hP, hq, hqz⟩ := hw_
  have hx0 := hx0.kept (hq _ (by omega))
  have ho := ho.kept (hq _ (by omega))
  have ha := ha.kept (hq _ (by omega))
  have hFl : FlAt G fb fl H1 := hFl.kept (fun q g1 g2 => hq q (by omega))
  have hR : FrR x (x + 179) s.heap H1 := ⟨Nat.le_of_eq hqz.symm, fun q g1 g2 => hq q (by omega)⟩
  refine r_bif_eq (tgt := 24) E dX5_undo_11 (by decide)  (fun c11 => ?_) (fun c11 => ?_)
  · have c11 := of_decide_eq_false c11
    refine r_bipush E dX5_undo_24 (by decide) ?_
    refine e_iret (rm := ({ frames := 4, cells := 0, slots := 0, locals := 86 } : Room)) (v := iI ((-6))) E hL dX5_undo_26 ?_
    have hnil : hs = [] := Classical.not_not.mp c11
    subst hnil
    have hsp : spUndo σ [] = (-6, σ, []) := rfl
    rw [hsp]
    subst hbe; subst hhe; subst hae
    exact ⟨rfl, ⟨_, Ext.rf, hx0, hP, ⟨o, hH⟩, ⟨_, _, _, _, ho, ha⟩, hFl⟩, hR⟩
  · have c11 := of_decide_eq_true c11
    refine lv_aload_n E.1 E.2.1 dX5_undo_14 rfl (lv_at hl 0 rfl) ?_
    refine m_get E hx0 fw_X5_19 rfl dX5_undo_15 ?_
    refine m_get E hH.2.2.1 fw_X5_99 rfl dX5_undo_18 ?_
    refine lv_goto (tgt := 26) E.1 E.2.1 dX5_undo_21 (by decide) ?_
    refine e_iret (rm := ({ frames := 4, cells := 0, slots := 0, locals := 86 } : Room)) (v := iI ((hs.dropLast.length : Int))) E hL dX5_undo_26 ?_
    have hsp : spUndo σ hs = ((hs.length : Int) - 1, hs.getLast?.getD σ, hs.dropLast) := by unfold spUndo; rw [if_neg c11]
    have hln : 0 < hs.length := List.length_pos_iff.mpr c11
    rw [hsp]
    subst hbe; subst hhe; subst hae
    refine ⟨?_, ⟨_, Ext.rf, hx0, hP, ⟨o, hH⟩, ⟨_, _, _, _, ho, ha⟩, hFl⟩, hR⟩
    rw [show ((hs.dropLast.length : Nat) : Int) = (hs.length : Int) - 1 by rw [List.length_dropLast]; omega]

set_option maxHeartbeats 4000000 in
set_option maxRecDepth 100000 in
theorem c_X5_executeCommand (G : GG) (l : Launch) (x b hh a fb : Nat) (fl : Nat → Option Fil) (σ : St) (tx : Nat → Int) (len p1 : Nat) (le fi sc : Int) (hI : Inv σ) (cc_ : Int) (X Y : Nat) (hok : okCmd (some (cc_, X, Y)) le fi sc) (hcc : (cc_ = 99 ∨ cc_ = 101) ∨ (cc_ = 98 ∧ X ≤ 1) ∨ (cc_ = 114 ∧ X ≤ 19) ∨ (cc_ = 100 ∧ X ≤ 239) ∨ (cc_ = 119 ∧ X ≤ 19 ∧ 1 ≤ Y ∧ Y ≤ 40) ∨ (cc_ = 107 ∧ X ≤ 19 ∧ Y ≤ 11)) (hga : G.2.2 ≤ b) (hfb : b + 29 ≤ fb) (hab : b + 29 ≤ a) (haf : a + 2 ≤ fb) (hbx : x < b) : Ct G l yX5_executeCommand cX5_executeCommand 1 (some .int) ({ frames := 5, cells := 1, slots := 3, locals := 118 } : Room) [.ref (x)] (fun H => Ob G x 5 [.ref b, .ref hh, .ref a] H ∧ DiscAt G b fl σ H ∧ FlAt G fb fl H ∧ TxR G a tx len p1 le fi sc H ∧ fb ≤ H.size) (WDF G b fb fl (spCmd σ (cc_, X, Y))) := by
  refine Ct.of (by decide +kernel) (Nat.le_of_ble_eq_true rfl) ?_
  intro p e s m args below meth c ls E hnm hP hl
  obtain ⟨hx0, hP, hFl, ⟨ho, ha⟩, hsz⟩ := hP
  have i1 := hI.mn12
  obtain ⟨hle, hok2⟩ := hok cc_ X Y rfl
  have hl : lv_has ls 1 [(0, .ref (x))] := hl
  have hL : Lk G [] := Lk.nil
  generalize ([] : List Loc) = locs at hL ⊢
  refine lv_aload_n E.1 E.2.1 dX5_executeCommand_0 rfl (lv_at hl 0 rfl) ?_
  refine m_get E hx0 fw_X5_26 rfl dX5_executeCommand_1 ?_
  refine m_get E ho fw_X5_214 rfl dX5_executeCommand_4 ?_
  by_cases ts98 : (le) = 98
  · refine lv_tableIn (off := 101) (tgt := 108) E.1 E.2.1 dX5_executeCommand_7 (by rw [iI_toInt (by omega) (by omega)]; omega) (by rw [iI_toInt (by omega) (by omega)]; omega) (by rw [iI_toInt (by omega) (by omega), ts98]; rfl) (by decide) ?_
    have hfi : fi = (X : Int) := hok2.1 (by omega)
    subst hfi
    refine lv_aload_n E.1 E.2.1 dX5_executeCommand_108 rfl (lv_at hl 0 rfl) ?_
    refine m_get E hx0 fw_X5_12 rfl dX5_executeCommand_109 ?_
    refine lv_aload_n E.1 E.2.1 dX5_executeCommand_112 rfl (lv_at hl 0 rfl) ?_
    refine m_get E hx0 fw_X5_26 rfl dX5_executeCommand_113 ?_
    refine m_get E ho fw_X5_217 rfl dX5_executeCommand_116 ?_
    refine kVWE (As := [.int (iI ((X : Int)))]) E cw_X5_34 (c_X1_beginSession G l b fb fl σ hI ((X : Int)) (by unfold okI; omega) (by omega) (by omega)) hP.1 ⟨_, _, rfl⟩ ⟨hP, hFl⟩ hL hl.1 rfl rfl (Nat.le_of_ble_eq_true rfl) ⟨Nat.le_of_ble_eq_true rfl, Nat.le_of_ble_eq_true rfl⟩ ⟨Nat.le_of_ble_eq_true rfl, Nat.le_of_ble_eq_true rfl⟩ dX5_executeCommand_119 (fun H1 locs hL hw_ => ?_)
    have hcm : spCmd σ (cc_, X, Y) = spBegin σ ((X : Int)) := by
      have he9 : cc_ = 98 := by omega
      subst he9
      rfl
    refine W.widen (k := 1) (n := 3) (Nat.le_of_ble_eq_true rfl) (Nat.le_of_ble_eq_true rfl) ?_
    refine e_iret (rm := ({ frames := 5, cells := 1, slots := 3, locals := 118 } : Room)) (v := iI ((spBegin σ ((X : Int))).1)) E hL dX5_executeCommand_122 ?_
    rw [hcm]
    obtain ⟨hP1, hq⟩ := hw_
    exact ⟨rfl, fl, Ext.rf, hFl.kept (fun q g1 g2 => hq.2 q (by omega)), hP1, hq.R⟩
  by_cases ts99 : (le) = 99
  · refine lv_tableIn (off := 175) (tgt := 182) E.1 E.2.1 dX5_executeCommand_7 (by rw [iI_toInt (by omega) (by omega)]; omega) (by rw [iI_toInt (by omega) (by omega)]; omega) (by rw [iI_toInt (by omega) (by omega), ts99]; rfl) (by decide) ?_
    refine lv_aload_n E.1 E.2.1 dX5_executeCommand_182 rfl (lv_at hl 0 rfl) ?_
    refine m_get E hx0 fw_X5_12 rfl dX5_executeCommand_183 ?_
    refine kVWE (As := []) E cw_X5_51 (c_X1_closeSession G l b fl σ hI   (by omega)) hP.1 ⟨_, _, rfl⟩ hP hL hl.1 rfl rfl (Nat.le_of_ble_eq_true rfl) ⟨Nat.le_of_ble_eq_true rfl, Nat.le_of_ble_eq_true rfl⟩ ⟨Nat.le_of_ble_eq_true rfl, Nat.le_of_ble_eq_true rfl⟩ dX5_executeCommand_186 (fun H1 locs hL hw_ => ?_)
    have hcm : spCmd σ (cc_, X, Y) = spClose σ  := by
      have he9 : cc_ = 99 := by omega
      subst he9
      rfl
    refine W.widen (k := 1) (n := 3) (Nat.le_of_ble_eq_true rfl) (Nat.le_of_ble_eq_true rfl) ?_
    refine e_iret (rm := ({ frames := 5, cells := 1, slots := 3, locals := 118 } : Room)) (v := iI ((spClose σ).1)) E hL dX5_executeCommand_189 ?_
    rw [hcm]
    obtain ⟨hP1, hq⟩ := hw_
    exact ⟨rfl, fl, Ext.rf, hFl.kept (fun q g1 g2 => hq.2 q (by omega)), hP1, hq.R⟩
  by_cases ts100 : (le) = 100
  · refine lv_tableIn (off := 191) (tgt := 198) E.1 E.2.1 dX5_executeCommand_7 (by rw [iI_toInt (by omega) (by omega)]; omega) (by rw [iI_toInt (by omega) (by omega)]; omega) (by rw [iI_toInt (by omega) (by omega), ts100]; rfl) (by decide) ?_
    have hfi : fi = (X : Int) := hok2.1 (by omega)
    subst hfi
    refine lv_aload_n E.1 E.2.1 dX5_executeCommand_198 rfl (lv_at hl 0 rfl) ?_
    refine m_get E hx0 fw_X5_12 rfl dX5_executeCommand_199 ?_
    refine lv_aload_n E.1 E.2.1 dX5_executeCommand_202 rfl (lv_at hl 0 rfl) ?_
    refine m_get E hx0 fw_X5_26 rfl dX5_executeCommand_203 ?_
    refine m_get E ho fw_X5_217 rfl dX5_executeCommand_206 ?_
    refine kVWE (As := [.int (iI ((X : Int)))]) E cw_X5_61 (c_X1_damageSector G l b fl σ hI ((X : Int)) (by unfold okI; omega) (by omega)) hP.1 ⟨_, _, rfl⟩ hP hL hl.1 rfl rfl (Nat.le_of_ble_eq_true rfl) ⟨Nat.le_of_ble_eq_true rfl, Nat.le_of_ble_eq_true rfl⟩ ⟨Nat.le_of_ble_eq_true rfl, Nat.le_of_ble_eq_true rfl⟩ dX5_executeCommand_209 (fun H1 locs hL hw_ => ?_)
    have hcm : spCmd σ (cc_, X, Y) = spDamage σ ((X : Int)) := by
      have he9 : cc_ = 100 := by omega
      subst he9
      rfl
    refine W.widen (k := 1) (n := 3) (Nat.le_of_ble_eq_true rfl) (Nat.le_of_ble_eq_true rfl) ?_
    refine e_iret (rm := ({ frames := 5, cells := 1, slots := 3, locals := 118 } : Room)) (v := iI ((spDamage σ ((X : Int))).1)) E hL dX5_executeCommand_212 ?_
    rw [hcm]
    obtain ⟨hP1, hq⟩ := hw_
    exact ⟨rfl, fl, Ext.rf, hFl.kept (fun q g1 g2 => hq.2 q (by omega)), hP1, hq.R⟩
  by_cases ts101 : (le) = 101
  · refine lv_tableIn (off := 183) (tgt := 190) E.1 E.2.1 dX5_executeCommand_7 (by rw [iI_toInt (by omega) (by omega)]; omega) (by rw [iI_toInt (by omega) (by omega)]; omega) (by rw [iI_toInt (by omega) (by omega), ts101]; rfl) (by decide) ?_
    refine lv_aload_n E.1 E.2.1 dX5_executeCommand_190 rfl (lv_at hl 0 rfl) ?_
    refine m_get E hx0 fw_X5_12 rfl dX5_executeCommand_191 ?_
    refine kVWE (As := []) E cw_X5_55 (c_X1_breakSession G l b fl σ hI   (by omega)) hP.1 ⟨_, _, rfl⟩ hP hL hl.1 rfl rfl (Nat.le_of_ble_eq_true rfl) ⟨Nat.le_of_ble_eq_true rfl, Nat.le_of_ble_eq_true rfl⟩ ⟨Nat.le_of_ble_eq_true rfl, Nat.le_of_ble_eq_true rfl⟩ dX5_executeCommand_194 (fun H1 locs hL hw_ => ?_)
    have hcm : spCmd σ (cc_, X, Y) = spEject σ  := by
      have he9 : cc_ = 101 := by omega
      subst he9
      rfl
    refine W.widen (k := 1) (n := 3) (Nat.le_of_ble_eq_true rfl) (Nat.le_of_ble_eq_true rfl) ?_
    refine e_iret (rm := ({ frames := 5, cells := 1, slots := 3, locals := 118 } : Room)) (v := iI ((spEject σ).1)) E hL dX5_executeCommand_197 ?_
    rw [hcm]
    obtain ⟨hP1, hq⟩ := hw_
    exact ⟨rfl, fl, Ext.rf, hFl.kept (fun q g1 g2 => hq.2 q (by omega)), hP1, hq.R⟩
  by_cases ts102 : (le) = 102
  · refine lv_tableIn (off := 206) (tgt := 213) E.1 E.2.1 dX5_executeCommand_7 (by rw [iI_toInt (by omega) (by omega)]; omega) (by rw [iI_toInt (by omega) (by omega)]; omega) (by rw [iI_toInt (by omega) (by omega), ts102]; rfl) (by decide) ?_
    refine r_bipush E dX5_executeCommand_213 (by decide) ?_
    exfalso; omega
  by_cases ts103 : (le) = 103
  · refine lv_tableIn (off := 206) (tgt := 213) E.1 E.2.1 dX5_executeCommand_7 (by rw [iI_toInt (by omega) (by omega)]; omega) (by rw [iI_toInt (by omega) (by omega)]; omega) (by rw [iI_toInt (by omega) (by omega), ts103]; rfl) (by decide) ?_
    refine r_bipush E dX5_executeCommand_213 (by decide) ?_
    exfalso; omega
  by_cases ts104 : (le) = 104
  · refine lv_tableIn (off := 206) (tgt := 213) E.1 E.2.1 dX5_executeCommand_7 (by rw [iI_toInt (by omega) (by omega)]; omega) (by rw [iI_toInt (by omega) (by omega)]; omega) (by rw [iI_toInt (by omega) (by omega), ts104]; rfl) (by decide) ?_
    refine r_bipush E dX5_executeCommand_213 (by decide) ?_
    exfalso; omega
  by_cases ts105 : (le) = 105
  · refine lv_tableIn (off := 206) (tgt := 213) E.1 E.2.1 dX5_executeCommand_7 (by rw [iI_toInt (by omega) (by omega)]; omega) (by rw [iI_toInt (by omega) (by omega)]; omega) (by rw [iI_toInt (by omega) (by omega), ts105]; rfl) (by decide) ?_
    refine r_bipush E dX5_executeCommand_213 (by decide) ?_
    exfalso; omega
  by_cases ts106 : (le) = 106
  · refine lv_tableIn (off := 206) (tgt := 213) E.1 E.2.1 dX5_executeCommand_7 (by rw [iI_toInt (by omega) (by omega)]; omega) (by rw [iI_toInt (by omega) (by omega)]; omega) (by rw [iI_toInt (by omega) (by omega), ts106]; rfl) (by decide) ?_
    refine r_bipush E dX5_executeCommand_213 (by decide) ?_
    exfalso; omega
  by_cases ts107 : (le) = 107
  · refine lv_tableIn (off := 153) (tgt := 160) E.1 E.2.1 dX5_executeCommand_7 (by rw [iI_toInt (by omega) (by omega)]; omega) (by rw [iI_toInt (by omega) (by omega)]; omega) (by rw [iI_toInt (by omega) (by omega), ts107]; rfl) (by decide) ?_
    have hfi : fi = (X : Int) := hok2.1 (by omega)
    subst hfi
    have hsc : sc = (Y : Int) := hok2.2 (by omega)
    subst hsc
    refine lv_aload_n E.1 E.2.1 dX5_executeCommand_160 rfl (lv_at hl 0 rfl) ?_
    refine m_get E hx0 fw_X5_12 rfl dX5_executeCommand_161 ?_
    refine lv_aload_n E.1 E.2.1 dX5_executeCommand_164 rfl (lv_at hl 0 rfl) ?_
    refine m_get E hx0 fw_X5_26 rfl dX5_executeCommand_165 ?_
    refine m_get E ho fw_X5_217 rfl dX5_executeCommand_168 ?_
    refine lv_aload_n E.1 E.2.1 dX5_executeCommand_171 rfl (lv_at hl 0 rfl) ?_
    refine m_get E hx0 fw_X5_26 rfl dX5_executeCommand_172 ?_
    refine m_get E ho fw_X5_220 rfl dX5_executeCommand_175 ?_
    refine kVWE (As := [.int (iI ((X : Int))), .int (iI ((Y : Int)))]) E cw_X5_48 (c_X1_keepEntry G l b fb fl σ hI ((X : Int)) ((Y : Int)) (by unfold okI; omega) (by unfold okI; omega) (by omega) (by omega)) hP.1 ⟨_, _, rfl⟩ ⟨hP, hFl⟩ hL hl.1 rfl rfl (Nat.le_of_ble_eq_true rfl) ⟨Nat.le_of_ble_eq_true rfl, Nat.le_of_ble_eq_true rfl⟩ ⟨Nat.le_of_ble_eq_true rfl, Nat.le_of_ble_eq_true rfl⟩ dX5_executeCommand_178 (fun H1 locs hL hw_ => ?_)
    have hcm : spCmd σ (cc_, X, Y) = spKeep σ ((X : Int)) ((Y : Int)) := by
      have he9 : cc_ = 107 := by omega
      subst he9
      rfl
    refine W.widen (k := 1) (n := 3) (Nat.le_of_ble_eq_true rfl) (Nat.le_of_ble_eq_true rfl) ?_
    refine e_iret (rm := ({ frames := 5, cells := 1, slots := 3, locals := 118 } : Room)) (v := iI ((spKeep σ ((X : Int)) ((Y : Int))).1)) E hL dX5_executeCommand_181 ?_
    rw [hcm]
    obtain ⟨hP1, hq⟩ := hw_
    exact ⟨rfl, fl, Ext.rf, hFl.kept (fun q g1 g2 => hq.2 q (by omega)), hP1, hq.R⟩
  by_cases ts108 : (le) = 108
  · refine lv_tableIn (off := 206) (tgt := 213) E.1 E.2.1 dX5_executeCommand_7 (by rw [iI_toInt (by omega) (by omega)]; omega) (by rw [iI_toInt (by omega) (by omega)]; omega) (by rw [iI_toInt (by omega) (by omega), ts108]; rfl) (by decide) ?_
    refine r_bipush E dX5_executeCommand_213 (by decide) ?_
    exfalso; omega
  by_cases ts109 : (le) = 109
  · refine lv_tableIn (off := 206) (tgt := 213) E.1 E.2.1 dX5_executeCommand_7 (by rw [iI_toInt (by omega) (by omega)]; omega) (by rw [iI_toInt (by omega) (by omega)]; omega) (by rw [iI_toInt (by omega) (by omega), ts109]; rfl) (by decide) ?_
    refine r_bipush E dX5_executeCommand_213 (by decide) ?_
    exfalso; omega
  by_cases ts110 : (le) = 110
  · refine lv_tableIn (off := 206) (tgt := 213) E.1 E.2.1 dX5_executeCommand_7 (by rw [iI_toInt (by omega) (by omega)]; omega) (by rw [iI_toInt (by omega) (by omega)]; omega) (by rw [iI_toInt (by omega) (by omega), ts110]; rfl) (by decide) ?_
    refine r_bipush E dX5_executeCommand_213 (by decide) ?_
    exfalso; omega
  by_cases ts111 : (le) = 111
  · refine lv_tableIn (off := 206) (tgt := 213) E.1 E.2.1 dX5_executeCommand_7 (by rw [iI_toInt (by omega) (by omega)]; omega) (by rw [iI_toInt (by omega) (by omega)]; omega) (by rw [iI_toInt (by omega) (by omega), ts111]; rfl) (by decide) ?_
    refine r_bipush E dX5_executeCommand_213 (by decide) ?_
    exfalso; omega
  by_cases ts112 : (le) = 112
  · refine lv_tableIn (off := 206) (tgt := 213) E.1 E.2.1 dX5_executeCommand_7 (by rw [iI_toInt (by omega) (by omega)]; omega) (by rw [iI_toInt (by omega) (by omega)]; omega) (by rw [iI_toInt (by omega) (by omega), ts112]; rfl) (by decide) ?_
    refine r_bipush E dX5_executeCommand_213 (by decide) ?_
    exfalso; omega
  by_cases ts113 : (le) = 113
  · refine lv_tableIn (off := 206) (tgt := 213) E.1 E.2.1 dX5_executeCommand_7 (by rw [iI_toInt (by omega) (by omega)]; omega) (by rw [iI_toInt (by omega) (by omega)]; omega) (by rw [iI_toInt (by omega) (by omega), ts113]; rfl) (by decide) ?_
    refine r_bipush E dX5_executeCommand_213 (by decide) ?_
    exfalso; omega
  by_cases ts114 : (le) = 114
  · refine lv_tableIn (off := 138) (tgt := 145) E.1 E.2.1 dX5_executeCommand_7 (by rw [iI_toInt (by omega) (by omega)]; omega) (by rw [iI_toInt (by omega) (by omega)]; omega) (by rw [iI_toInt (by omega) (by omega), ts114]; rfl) (by decide) ?_
    have hfi : fi = (X : Int) := hok2.1 (by omega)
    subst hfi
    refine lv_aload_n E.1 E.2.1 dX5_executeCommand_145 rfl (lv_at hl 0 rfl) ?_
    refine m_get E hx0 fw_X5_12 rfl dX5_executeCommand_146 ?_
    refine lv_aload_n E.1 E.2.1 dX5_executeCommand_149 rfl (lv_at hl 0 rfl) ?_
    refine m_get E hx0 fw_X5_26 rfl dX5_executeCommand_150 ?_
    refine m_get E ho fw_X5_217 rfl dX5_executeCommand_153 ?_
    refine kVWE (As := [.int (iI ((X : Int)))]) E cw_X5_45 (c_X1_removeEntry G l b fl σ hI ((X : Int)) (by unfold okI; omega) (by omega)) hP.1 ⟨_, _, rfl⟩ hP hL hl.1 rfl rfl (Nat.le_of_ble_eq_true rfl) ⟨Nat.le_of_ble_eq_true rfl, Nat.le_of_ble_eq_true rfl⟩ ⟨Nat.le_of_ble_eq_true rfl, Nat.le_of_ble_eq_true rfl⟩ dX5_executeCommand_156 (fun H1 locs hL hw_ => ?_)
    have hcm : spCmd σ (cc_, X, Y) = spRemove σ ((X : Int)) := by
      have he9 : cc_ = 114 := by omega
      subst he9
      rfl
    refine W.widen (k := 1) (n := 3) (Nat.le_of_ble_eq_true rfl) (Nat.le_of_ble_eq_true rfl) ?_
    refine e_iret (rm := ({ frames := 5, cells := 1, slots := 3, locals := 118 } : Room)) (v := iI ((spRemove σ ((X : Int))).1)) E hL dX5_executeCommand_159 ?_
    rw [hcm]
    obtain ⟨hP1, hq⟩ := hw_
    exact ⟨rfl, fl, Ext.rf, hFl.kept (fun q g1 g2 => hq.2 q (by omega)), hP1, hq.R⟩
  by_cases ts115 : (le) = 115
  · refine lv_tableIn (off := 206) (tgt := 213) E.1 E.2.1 dX5_executeCommand_7 (by rw [iI_toInt (by omega) (by omega)]; omega) (by rw [iI_toInt (by omega) (by omega)]; omega) (by rw [iI_toInt (by omega) (by omega), ts115]; rfl) (by decide) ?_
    refine r_bipush E dX5_executeCommand_213 (by decide) ?_
    exfalso; omega
  by_cases ts116 : (le) = 116
  · refine lv_tableIn (off := 206) (tgt := 213) E.1 E.2.1 dX5_executeCommand_7 (by rw [iI_toInt (by omega) (by omega)]; omega) (by rw [iI_toInt (by omega) (by omega)]; omega) (by rw [iI_toInt (by omega) (by omega), ts116]; rfl) (by decide) ?_
    refine r_bipush E dX5_executeCommand_213 (by decide) ?_
    exfalso; omega
  by_cases ts117 : (le) = 117
  · refine lv_tableIn (off := 206) (tgt := 213) E.1 E.2.1 dX5_executeCommand_7 (by rw [iI_toInt (by omega) (by omega)]; omega) (by rw [iI_toInt (by omega) (by omega)]; omega) (by rw [iI_toInt (by omega) (by omega), ts117]; rfl) (by decide) ?_
    refine r_bipush E dX5_executeCommand_213 (by decide) ?_
    exfalso; omega
  by_cases ts118 : (le) = 118
  · refine lv_tableIn (off := 206) (tgt := 213) E.1 E.2.1 dX5_executeCommand_7 (by rw [iI_toInt (by omega) (by omega)]; omega) (by rw [iI_toInt (by omega) (by omega)]; omega) (by rw [iI_toInt (by omega) (by omega), ts118]; rfl) (by decide) ?_
    refine r_bipush E dX5_executeCommand_213 (by decide) ?_
    exfalso; omega
  by_cases ts119 : (le) = 119
  · refine lv_tableIn (off := 116) (tgt := 123) E.1 E.2.1 dX5_executeCommand_7 (by rw [iI_toInt (by omega) (by omega)]; omega) (by rw [iI_toInt (by omega) (by omega)]; omega) (by rw [iI_toInt (by omega) (by omega), ts119]; rfl) (by decide) ?_
    have hfi : fi = (X : Int) := hok2.1 (by omega)
    subst hfi
    have hsc : sc = (Y : Int) := hok2.2 (by omega)
    subst hsc
    refine lv_aload_n E.1 E.2.1 dX5_executeCommand_123 rfl (lv_at hl 0 rfl) ?_
    refine m_get E hx0 fw_X5_12 rfl dX5_executeCommand_124 ?_
    refine lv_aload_n E.1 E.2.1 dX5_executeCommand_127 rfl (lv_at hl 0 rfl) ?_
    refine m_get E hx0 fw_X5_26 rfl dX5_executeCommand_128 ?_
    refine m_get E ho fw_X5_217 rfl dX5_executeCommand_131 ?_
    refine lv_aload_n E.1 E.2.1 dX5_executeCommand_134 rfl (lv_at hl 0 rfl) ?_
    refine m_get E hx0 fw_X5_26 rfl dX5_executeCommand_135 ?_
    refine m_get E ho fw_X5_220 rfl dX5_executeCommand_138 ?_
    refine kVWE (As := [.int (iI ((X : Int))), .int (iI ((Y : Int)))]) E cw_X5_41 (c_X1_writeFile G l b fb fl σ hI ((X : Int)) ((Y : Int)) (by unfold okI; omega) (by unfold okI; omega) (by omega) (by omega)) hP.1 ⟨_, _, rfl⟩ ⟨hP, hFl, hsz⟩ hL hl.1 rfl rfl (Nat.le_of_ble_eq_true rfl) ⟨Nat.le_of_ble_eq_true rfl, Nat.le_of_ble_eq_true rfl⟩ ⟨Nat.le_of_ble_eq_true rfl, Nat.le_of_ble_eq_true rfl⟩ dX5_executeCommand_141 (fun H1 locs hL hw_ => ?_)
    have hcm : spCmd σ (cc_, X, Y) = spWrite σ ((X : Int)) ((Y : Int)) := by
      have he9 : cc_ = 119 := by omega
      subst he9
      rfl
    refine e_iret (rm := ({ frames := 5, cells := 1, slots := 3, locals := 118 } : Room)) (v := iI ((spWrite σ ((X : Int)) ((Y : Int))).1)) E hL dX5_executeCommand_144 ?_
    rw [hcm]
    exact ⟨rfl, hw_⟩
  refine lv_tableOut (tgt := 213) E.1 E.2.1 dX5_executeCommand_7 (by rw [iI_toInt (by omega) (by omega)]; omega) (by decide) ?_
  refine r_bipush E dX5_executeCommand_213 (by decide) ?_
  exfalso; omega
