set_option maxHeartbeats 4000000 in
set_option maxRecDepth 100000 in
theorem c_X0_signAt (G : GG) (l : Launch) (a : Nat) (tx : Nat → Int) (len p1 : Nat) (le fi sc : Int) (hT : TxOk tx len) (hp : p1 ≤ 100) : Ct G l yX0_signAt cX0_signAt 1 (some .int) ({ frames := 0, cells := 0, slots := 0, locals := 0 } : Room) [.ref (a)] (fun H => TxR G a tx len p1 le fi sc H) (RE (iI (hr tx len p1))) := by
  refine Ct.of (by decide +kernel) (Nat.le_of_ble_eq_true rfl) ?_
  intro p e s m args below meth c ls E hnm hP hl
  obtain ⟨ho, ha⟩ := hP
  have hl80 := hT.1
  have hl : lv_has ls 1 [(0, .ref (a))] := hl
  have hL : Lk G [] := Lk.nil
  generalize ([] : List Loc) = locs at hL ⊢
  refine lv_aload_n E.1 E.2.1 dX0_signAt_0 rfl (lv_at hl 0 rfl) ?_
  refine m_get E ho fw_X0_19 rfl dX0_signAt_1 ?_
  refine r_if_lt (tgt := 39) E dX0_signAt_4 (by decide) (by omega) (fun c4 => absurd c4 (by omega)) (fun c4 => ?_)
  refine lv_aload_n E.1 E.2.1 dX0_signAt_7 rfl (lv_at hl 0 rfl) ?_
  refine m_get E ho fw_X0_19 rfl dX0_signAt_8 ?_
  refine lv_aload_n E.1 E.2.1 dX0_signAt_11 rfl (lv_at hl 0 rfl) ?_
  refine m_get E ho fw_X0_15 rfl dX0_signAt_12 ?_
  refine r_icmp_ge (tgt := 39) E dX0_signAt_15 (by decide) (by omega) (by omega) (fun c15 => ?_) (fun c15 => ?_)
  · refine r_bipush E dX0_signAt_39 (by decide) ?_
    refine e_iret (rm := ({ frames := 0, cells := 0, slots := 0, locals := 0 } : Room)) (v := iI ((-6))) E hL dX0_signAt_41 ?_
    exact RE_i (by unfold hr; rw [if_neg (by omega)])
  · refine lv_aload_n E.1 E.2.1 dX0_signAt_18 rfl (lv_at hl 0 rfl) ?_
    refine m_get E ho fw_X0_19 rfl dX0_signAt_19 ?_
    refine r_bipush E dX0_signAt_22 (by decide) ?_
    refine r_icmp_ge (tgt := 39) E dX0_signAt_24 (by decide) (by omega) (by omega) (fun c24 => absurd c24 (by omega)) (fun c24 => ?_)
    refine lv_aload_n E.1 E.2.1 dX0_signAt_27 rfl (lv_at hl 0 rfl) ?_
    refine m_get E ho fw_X0_9 rfl dX0_signAt_28 ?_
    refine lv_aload_n E.1 E.2.1 dX0_signAt_31 rfl (lv_at hl 0 rfl) ?_
    refine m_get E ho fw_X0_19 rfl dX0_signAt_32 ?_
    refine r_cald E ha (p1) rfl (by omega) (by decide) dX0_signAt_35 ?_
    refine lv_goto (tgt := 41) E.1 E.2.1 dX0_signAt_36 (by decide) ?_
    refine e_iret (rm := ({ frames := 0, cells := 0, slots := 0, locals := 0 } : Room)) (v := iI (tx (p1))) E hL dX0_signAt_41 ?_
    exact RE_i (by unfold hr; rw [if_pos (by omega)])

set_option maxHeartbeats 4000000 in
set_option maxRecDepth 100000 in
theorem c_X0_digitAt (G : GG) (l : Launch) (a : Nat) (tx : Nat → Int) (len p1 : Nat) (le fi sc : Int) (hT : TxOk tx len) (hp : p1 ≤ 100) : Ct G l yX0_digitAt cX0_digitAt 2 (some .int) ({ frames := 1, cells := 0, slots := 0, locals := 20 } : Room) [.ref (a)] (fun H => TxR G a tx len p1 le fi sc H) (RE (iI (dgt tx len p1))) := by
  refine Ct.of (by decide +kernel) (Nat.le_of_ble_eq_true rfl) ?_
  intro p e s m args below meth c ls E hnm hP hl
  obtain ⟨ho, ha⟩ := hP
  have hl80 := hT.1
  have hl : lv_has ls 2 [(0, .ref (a))] := hl
  have hL : Lk G [] := Lk.nil
  generalize ([] : List Loc) = locs at hL ⊢
  refine lv_aload_n E.1 E.2.1 dX0_digitAt_0 rfl (lv_at hl 0 rfl) ?_
  refine kVRE (As := []) E cw_X0_30 (c_X0_signAt G l a tx len p1 le fi sc hT (by omega)) ho ⟨_, _, rfl⟩ ⟨ho, ha⟩ hL hl.1 rfl rfl (Nat.le_of_ble_eq_true rfl) ⟨Nat.le_of_ble_eq_true rfl, Nat.le_of_ble_eq_true rfl⟩ ⟨rfl, rfl⟩ ⟨Nat.le_of_ble_eq_true rfl, Nat.le_of_ble_eq_true rfl⟩ dX0_digitAt_1 (fun locs hL => ?_)
  have hb_ := hr_b hT p1
  refine lv_istore_n (lv' := [(1, .int (iI (hr tx len p1))), (0, .ref (a))]) E.1 E.2.1 dX0_digitAt_4 rfl hl (by decide) rfl (fun ls hl => ?_)
  refine lv_iload_n E.1 E.2.1 dX0_digitAt_5 rfl (lv_at hl 0 rfl) ?_
  refine r_bipush E dX0_digitAt_6 (by decide) ?_
  refine r_icmp_lt (tgt := 24) E dX0_digitAt_8 (by decide) (by omega) (by omega) (fun c8 => ?_) (fun c8 => ?_)
  · refine r_bipush E dX0_digitAt_24 (by decide) ?_
    refine e_iret (rm := ({ frames := 1, cells := 0, slots := 0, locals := 20 } : Room)) (v := iI ((-6))) E hL dX0_digitAt_26 ?_
    exact RE_i (by unfold dgt; rw [if_neg (by omega)])
  · refine lv_iload_n E.1 E.2.1 dX0_digitAt_11 rfl (lv_at hl 0 rfl) ?_
    refine r_bipush E dX0_digitAt_12 (by decide) ?_
    refine r_icmp_gt (tgt := 24) E dX0_digitAt_14 (by decide) (by omega) (by omega) (fun c14 => ?_) (fun c14 => ?_)
    · refine r_bipush E dX0_digitAt_24 (by decide) ?_
      refine e_iret (rm := ({ frames := 1, cells := 0, slots := 0, locals := 20 } : Room)) (v := iI ((-6))) E hL dX0_digitAt_26 ?_
      exact RE_i (by unfold dgt; rw [if_neg (by omega)])
    · refine lv_iload_n E.1 E.2.1 dX0_digitAt_17 rfl (lv_at hl 0 rfl) ?_
      refine r_bipush E dX0_digitAt_18 (by decide) ?_
      refine r_sub E dX0_digitAt_20 ?_
      refine lv_goto (tgt := 26) E.1 E.2.1 dX0_digitAt_21 (by decide) ?_
      refine e_iret (rm := ({ frames := 1, cells := 0, slots := 0, locals := 20 } : Room)) (v := iI ((hr tx len p1) - 48)) E hL dX0_digitAt_26 ?_
      exact RE_i (by unfold dgt; rw [if_pos (by omega)])

set_option maxHeartbeats 4000000 in
set_option maxRecDepth 100000 in
theorem c_X0_readSign (G : GG) (l : Launch) (a : Nat) (tx : Nat → Int) (len p1 : Nat) (le fi sc : Int) (hT : TxOk tx len) (z : Int) (hz : okI z) (hp : p1 ≤ 100) (hga : G.2.2 ≤ a) : Ct G l yX0_readSign cX0_readSign 2 (some .boolean) ({ frames := 1, cells := 0, slots := 0, locals := 20 } : Room) [.ref (a), .int (iI (z))] (fun H => TxR G a tx len p1 le fi sc H) (WE (b2i (decide (hr tx len p1 = z))) (fun H H1 => TxR G a tx len (if hr tx len p1 = z then p1 + 1 else p1) le fi sc H1 ∧ FrS a (a + 1) H H1)) := by
  refine Ct.of (by decide +kernel) (Nat.le_of_ble_eq_true rfl) ?_
  intro p e s m args below meth c ls E hnm hP hl
  obtain ⟨ho, ha⟩ := hP
  have hl80 := hT.1
  obtain ⟨hz1, hz2⟩ := hz
  have hS : FrS a (a + 1) s.heap s.heap := FrS.rf
  have hl : lv_has ls 2 [(0, .ref (a)), (1, .int (iI (z)))] := hl
  have hL : Lk G [] := Lk.nil
  generalize ([] : List Loc) = locs at hL ⊢
  refine lv_aload_n E.1 E.2.1 dX0_readSign_0 rfl (lv_at hl 0 rfl) ?_
  refine kVRE (As := []) E cw_X0_30 (c_X0_signAt G l a tx len p1 le fi sc hT (by omega)) ho ⟨_, _, rfl⟩ ⟨ho, ha⟩ hL hl.1 rfl rfl (Nat.le_of_ble_eq_true rfl) ⟨Nat.le_of_ble_eq_true rfl, Nat.le_of_ble_eq_true rfl⟩ ⟨rfl, rfl⟩ ⟨Nat.le_of_ble_eq_true rfl, Nat.le_of_ble_eq_true rfl⟩ dX0_readSign_1 (fun locs hL => ?_)
  have hb_ := hr_b hT p1
  refine lv_iload_n E.1 E.2.1 dX0_readSign_4 rfl (lv_at hl 1 rfl) ?_
  refine r_icmp_eq (tgt := 10) E dX0_readSign_5 (by decide) (by omega) (by omega) (fun c5 => ?_) (fun c5 => ?_)
  · refine lv_aload_n E.1 E.2.1 dX0_readSign_10 rfl (lv_at hl 0 rfl) ?_
    refine lv_dup E.1 E.2.1 dX0_readSign_11 rfl ?_
    refine m_get E ho fw_X0_19 rfl dX0_readSign_12 ?_
    refine r_const E dX0_readSign_15 ?_
    refine r_add E dX0_readSign_16 ?_
    refine m_put E ho fw_X0_19 fp_X0_2 rfl rfl (Nat.le_of_ble_eq_true rfl) hL (by omega) dX0_readSign_17 (fun H1 locs hL hO_ hF_ => ?_)
    have ha := ha.kept (hF_.2 _ (by omega))
    have hS := hS.trans (FrS.of1 (lo := a) (hi := a + 1) hF_ (by omega) (by omega))
    have ho : Ob G (a) 0 [.ref (a + 1), .int (iI ((len : Int))), .int (iI ((p1 : Int) + 1)), .int (iI (le)), .int (iI (fi)), .int (iI (sc))] H1 := hO_
    clear hO_
    refine r_const E dX0_readSign_20 ?_
    refine e_zret (rm := ({ frames := 1, cells := 0, slots := 0, locals := 20 } : Room)) (v := iI (1)) E hL rfl dX0_readSign_21 ?_
    refine ⟨by rw [decide_eq_true (by omega)]; rfl, ?_, hS⟩
    rw [if_pos (by omega)]
    exact TxR.mk2 ho ha rfl (by omega) rfl rfl rfl
  · refine r_const E dX0_readSign_8 ?_
    refine e_zret (rm := ({ frames := 1, cells := 0, slots := 0, locals := 20 } : Room)) (v := iI (0)) E hL rfl dX0_readSign_9 ?_
    refine ⟨by rw [decide_eq_false (by omega)]; rfl, ?_, hS⟩
    rw [if_neg (by omega)]
    exact ⟨ho, ha⟩

set_option maxHeartbeats 4000000 in
set_option maxRecDepth 100000 in
theorem c_X0_readNumber (G : GG) (l : Launch) (a : Nat) (tx : Nat → Int) (len p1 : Nat) (le fi sc : Int) (hT : TxOk tx len) (lo mo : Nat) (hmo : mo ≤ 239) (hlo : lo ≤ 100) (hp : p1 ≤ 90) (hga : G.2.2 ≤ a) : Ct G l yX0_readNumber cX0_readNumber 6 (some .int) ({ frames := 2, cells := 0, slots := 0, locals := 41 } : Room) [.ref (a), .int (iI ((lo : Int))), .int (iI ((mo : Int)))] (fun H => TxR G a tx len p1 le fi sc H) (WE (iI (oI (pNum tx len p1 lo mo).2)) (fun H H1 => TxR G a tx len (pNum tx len p1 lo mo).1 le fi sc H1 ∧ FrS a (a + 1) H H1)) := by
  refine Ct.of (by decide +kernel) (Nat.le_of_ble_eq_true rfl) ?_
  intro p e s m args below meth c ls E hnm hP hl
  obtain ⟨ho, ha⟩ := hP
  have hl80 := hT.1
  have hS : FrS a (a + 1) s.heap s.heap := FrS.rf
  have hl : lv_has ls 6 [(0, .ref (a)), (1, .int (iI ((lo : Int)))), (2, .int (iI ((mo : Int))))] := hl
  have hL : Lk G [] := Lk.nil
  generalize ([] : List Loc) = locs at hL ⊢
  refine lv_aload_n E.1 E.2.1 dX0_readNumber_0 rfl (lv_at hl 0 rfl) ?_
  refine kVRE (As := []) E cw_X0_55 (c_X0_digitAt G l a tx len p1 le fi sc hT (by omega)) ho ⟨_, _, rfl⟩ ⟨ho, ha⟩ hL hl.1 rfl rfl (Nat.le_of_ble_eq_true rfl) ⟨Nat.le_of_ble_eq_true rfl, Nat.le_of_ble_eq_true rfl⟩ ⟨rfl, rfl⟩ ⟨Nat.le_of_ble_eq_true rfl, Nat.le_of_ble_eq_true rfl⟩ dX0_readNumber_1 (fun locs hL => ?_)
  have hb_ := hr_b hT p1
  have hd_ := dgt_or tx len p1
  refine lv_istore_n (lv' := [(3, .int (iI (dgt tx len p1))), (0, .ref (a)), (1, .int (iI ((lo : Int)))), (2, .int (iI ((mo : Int))))]) E.1 E.2.1 dX0_readNumber_4 rfl hl (by decide) rfl (fun ls hl => ?_)
  refine lv_iload_n E.1 E.2.1 dX0_readNumber_5 rfl (lv_at hl 0 rfl) ?_
  refine lv_iload_n E.1 E.2.1 dX0_readNumber_6 rfl (lv_at hl 2 rfl) ?_
  refine r_icmp_lt (tgt := 15) E dX0_readNumber_7 (by decide) (by omega) (by omega) (fun c7 => ?_) (fun c7 => ?_)
  · refine r_bipush E dX0_readNumber_15 (by decide) ?_
    refine e_iret (rm := ({ frames := 2, cells := 0, slots := 0, locals := 41 } : Room)) (v := iI ((-6))) E hL dX0_readNumber_17 ?_
    have hpn : pNum tx len p1 lo mo = (p1, none) := pNum_none (by omega)
    rw [hpn]
    exact ⟨rfl, ⟨ho, ha⟩, hS⟩
  · refine lv_iload_n E.1 E.2.1 dX0_readNumber_10 rfl (lv_at hl 0 rfl) ?_
    refine lv_iload_n E.1 E.2.1 dX0_readNumber_11 rfl (lv_at hl 3 rfl) ?_
    refine r_icmp_le (tgt := 18) E dX0_readNumber_12 (by decide) (by omega) (by omega) (fun c12 => ?_) (fun c12 => ?_)
    · obtain ⟨dd, hdd⟩ : ∃ n : Nat, (n : Int) = dgt tx len p1 := ⟨(dgt tx len p1).toNat, by omega⟩
      refine lv_aload_n E.1 E.2.1 dX0_readNumber_18 rfl (lv_at hl 1 rfl) ?_
      refine lv_dup E.1 E.2.1 dX0_readNumber_19 rfl ?_
      refine m_get E ho fw_X0_19 rfl dX0_readNumber_20 ?_
      refine r_const E dX0_readNumber_23 ?_
      refine r_add E dX0_readNumber_24 ?_
      refine m_put E ho fw_X0_19 fp_X0_2 rfl rfl (Nat.le_of_ble_eq_true rfl) hL (by omega) dX0_readNumber_25 (fun H1 locs hL hO_ hF_ => ?_)
      have ha := ha.kept (hF_.2 _ (by omega))
      have hS := hS.trans (FrS.of1 (lo := a) (hi := a + 1) hF_ (by omega) (by omega))
      have ho : Ob G (a) 0 [.ref (a + 1), .int (iI ((len : Int))), .int (iI ((p1 : Int) + 1)), .int (iI (le)), .int (iI (fi)), .int (iI (sc))] H1 := hO_
      clear hO_
      refine r_const E dX0_readNumber_28 ?_
      refine lv_istore (lv' := [(4, .int (iI (0))), (3, .int (iI (dgt tx len p1))), (0, .ref (a)), (1, .int (iI ((lo : Int)))), (2, .int (iI ((mo : Int))))]) E.1 E.2.1 dX0_readNumber_29 hl (by decide) rfl (fun ls hl => ?_)
      have LP31 : ∀ (kin31 : Nat) (t v q : Nat) (H : Heap) (u x : Int) (ls : Array Slot) (locs : List Loc) (htv : t = 0 ∨ (t = 1 ∧ 10 ≤ v) ∨ (t = 2 ∧ 100 ≤ v)) (hv : v ≤ mo) (hu : u = (t : Int)) (hq9 : q ≤ 96 + t) (hTx : TxR G a tx len q le fi sc H) (hS : FrS a (a + 1) s.heap H) (hpl : pLoop tx len mo dd (p1 + 1) = pLoop tx len mo v q) (hx : x = (v : Int)) (hkin31 : mo - v = kin31) (hl : lv_has ls 6 [(4, .int (iI (u))), (3, .int (iI (x))), (0, .ref (a)), (1, .int (iI ((lo : Int)))), (2, .int (iI ((mo : Int))))]) (hL : Lk G locs), W p l e ({ frames := 2, cells := 0, slots := 0, locals := 41 } : Room) s m args below meth c H locs 0 0 (QQ G below args s ({ frames := 2, cells := 0, slots := 0, locals := 41 } : Room) (WE (iI (oI (pNum tx len p1 lo mo).2)) (fun H H1 => TxR G a tx len (pNum tx len p1 lo mo).1 le fi sc H1 ∧ FrS a (a + 1) H H1))) (F0 m 31 ls []) := by
        intro kin31
        induction kin31 using Nat.strongRecOn with
        | ind kin31 ihin31 =>
          intro t v q H u x ls locs htv hv hu hq9 hTx hS hpl hx hkin31 hl hL
          obtain ⟨ho, ha⟩ := hTx
          refine lv_iload E.1 E.2.1 dX0_readNumber_31 (lv_at hl 0 rfl) ?_
          refine r_bipush E dX0_readNumber_33 (by decide) ?_
          refine r_icmp_ge (tgt := 90) E dX0_readNumber_35 (by decide) (by omega) (by omega) (fun c35 => absurd c35 (by omega)) (fun c35 => ?_)
          refine lv_iload_n E.1 E.2.1 dX0_readNumber_38 rfl (lv_at hl 1 rfl) ?_
          refine r_if_le (tgt := 90) E dX0_readNumber_39 (by decide) (by omega) (fun c39 => ?_) (fun c39 => ?_)
          · refine lv_iload_n E.1 E.2.1 dX0_readNumber_90 rfl (lv_at hl 1 rfl) ?_
            refine e_iret (rm := ({ frames := 2, cells := 0, slots := 0, locals := 41 } : Room)) (v := iI (x)) E hL dX0_readNumber_91 ?_
            have hpn : pNum tx len p1 lo mo = (q, some v) := pNum_some (d := dd) (by omega) (by omega) (by omega) (by omega) (by rw [hpl, pLoop_no (by omega)])
            rw [hpn]
            exact ⟨by rw [hx]; rfl, ⟨ho, ha⟩, hS⟩
          · refine lv_aload_n E.1 E.2.1 dX0_readNumber_42 rfl (lv_at hl 2 rfl) ?_
            refine kVRE (As := []) E cw_X0_55 (c_X0_digitAt G l a tx len q le fi sc hT (by omega)) ho ⟨_, _, rfl⟩ ⟨ho, ha⟩ hL hl.1 rfl rfl (Nat.le_of_ble_eq_true rfl) ⟨Nat.le_of_ble_eq_true rfl, Nat.le_of_ble_eq_true rfl⟩ ⟨rfl, rfl⟩ ⟨Nat.le_of_ble_eq_true rfl, Nat.le_of_ble_eq_true rfl⟩ dX0_readNumber_43 (fun locs hL => ?_)
            have hb_ := hr_b hT q
            have hd_ := dgt_or tx len q
            refine lv_istore (lv' := [(5, .int (iI (dgt tx len q))), (4, .int (iI (u))), (3, .int (iI (x))), (0, .ref (a)), (1, .int (iI ((lo : Int)))), (2, .int (iI ((mo : Int))))]) E.1 E.2.1 dX0_readNumber_46 hl (by decide) rfl (fun ls hl => ?_)
            refine lv_iload E.1 E.2.1 dX0_readNumber_48 (lv_at hl 0 rfl) ?_
            refine r_if_lt (tgt := 64) E dX0_readNumber_50 (by decide) (by omega) (fun c50 => ?_) (fun c50 => ?_)
            · refine lv_iload_n E.1 E.2.1 dX0_readNumber_64 rfl (lv_at hl 2 rfl) ?_
              refine e_iret (rm := ({ frames := 2, cells := 0, slots := 0, locals := 41 } : Room)) (v := iI (x)) E hL dX0_readNumber_65 ?_
              have hpn : pNum tx len p1 lo mo = (q, some v) := pNum_some (d := dd) (by omega) (by omega) (by omega) (by omega) (by rw [hpl, pLoop_no (by omega)])
              rw [hpn]
              exact ⟨by rw [hx]; rfl, ⟨ho, ha⟩, hS⟩
            · refine lv_iload_n E.1 E.2.1 dX0_readNumber_53 rfl (lv_at hl 2 rfl) ?_
              refine r_bipush E dX0_readNumber_54 (by decide) ?_
              refine r_mul E dX0_readNumber_56 ?_
              refine lv_iload E.1 E.2.1 dX0_readNumber_57 (lv_at hl 0 rfl) ?_
              refine r_add E dX0_readNumber_59 ?_
              refine lv_iload_n E.1 E.2.1 dX0_readNumber_60 rfl (lv_at hl 5 rfl) ?_
              refine r_icmp_le (tgt := 66) E dX0_readNumber_61 (by decide) (by omega) (by omega) (fun c61 => ?_) (fun c61 => ?_)
              · obtain ⟨d2, hd2⟩ : ∃ n : Nat, (n : Int) = dgt tx len q := ⟨(dgt tx len q).toNat, by omega⟩
                refine lv_iload_n E.1 E.2.1 dX0_readNumber_66 rfl (lv_at hl 2 rfl) ?_
                refine r_bipush E dX0_readNumber_67 (by decide) ?_
                refine r_mul E dX0_readNumber_69 ?_
                refine lv_iload E.1 E.2.1 dX0_readNumber_70 (lv_at hl 0 rfl) ?_
                refine r_add E dX0_readNumber_72 ?_
                refine lv_istore_n (lv' := [(3, .int (iI ((x * 10) + (dgt tx len q)))), (5, .int (iI (dgt tx len q))), (4, .int (iI (u))), (0, .ref (a)), (1, .int (iI ((lo : Int)))), (2, .int (iI ((mo : Int))))]) E.1 E.2.1 dX0_readNumber_73 rfl hl (by decide) rfl (fun ls hl => ?_)
                refine lv_aload_n E.1 E.2.1 dX0_readNumber_74 rfl (lv_at hl 3 rfl) ?_
                refine lv_dup E.1 E.2.1 dX0_readNumber_75 rfl ?_
                refine m_get E ho fw_X0_19 rfl dX0_readNumber_76 ?_
                refine r_const E dX0_readNumber_79 ?_
                refine r_add E dX0_readNumber_80 ?_
                refine m_put E ho fw_X0_19 fp_X0_2 rfl rfl (Nat.le_of_ble_eq_true rfl) hL (by omega) dX0_readNumber_81 (fun H2 locs hL hO_ hF_ => ?_)
                have ha := ha.kept (hF_.2 _ (by omega))
                have hS := hS.trans (FrS.of1 (lo := a) (hi := a + 1) hF_ (by omega) (by omega))
                have ho : Ob G (a) 0 [.ref (a + 1), .int (iI ((len : Int))), .int (iI ((q : Int) + 1)), .int (iI (le)), .int (iI (fi)), .int (iI (sc))] H2 := hO_
                clear hO_
                refine r_inc (lv' := [(4, .int (iI (u + 1))), (3, .int (iI ((x * 10) + (dgt tx len q)))), (5, .int (iI (dgt tx len q))), (0, .ref (a)), (1, .int (iI ((lo : Int)))), (2, .int (iI ((mo : Int))))]) E dX0_readNumber_84 hl (k := 2) rfl (by decide) rfl (fun ls hl => ?_)
                refine lv_goto (tgt := 31) E.1 E.2.1 dX0_readNumber_87 (by decide) ?_
                refine ihin31 _ ?_ (t + 1) (10 * v + d2) (q + 1) H2 (u + 1) ((x * 10) + (dgt tx len q)) ls locs ?_ ?_ ?_ ?_ ?_ ?_ ?_ ?_ rfl (lv_sub hl [0, 1, 3, 4, 5] rfl) hL
                · omega
                · omega
                · omega
                · omega
                · omega
                · exact TxR.mk2 ho ha rfl (by omega) rfl rfl rfl
                · exact hS
                · rw [hpl, pLoop_yes (d := d2) (by omega) (by omega) (by omega) (by omega)]
                · omega
              · refine lv_iload_n E.1 E.2.1 dX0_readNumber_64 rfl (lv_at hl 2 rfl) ?_
                refine e_iret (rm := ({ frames := 2, cells := 0, slots := 0, locals := 41 } : Room)) (v := iI (x)) E hL dX0_readNumber_65 ?_
                have hpn : pNum tx len p1 lo mo = (q, some v) := pNum_some (d := dd) (by omega) (by omega) (by omega) (by omega) (by rw [hpl, pLoop_no (by omega)])
                rw [hpn]
                exact ⟨by rw [hx]; rfl, ⟨ho, ha⟩, hS⟩
      refine LP31 _ 0 dd (p1 + 1) H1 0 (dgt tx len p1) ls locs ?_ ?_ ?_ ?_ ?_ ?_ ?_ ?_ rfl (lv_sub hl [0, 1, 2, 3, 4] rfl) hL
      · omega
      · omega
      · rfl
      · omega
      · exact TxR.mk2 ho ha rfl (by omega) rfl rfl rfl
      · exact hS
      · rfl
      · omega
    · refine r_bipush E dX0_readNumber_15 (by decide) ?_
      refine e_iret (rm := ({ frames := 2, cells := 0, slots := 0, locals := 41 } : Room)) (v := iI ((-6))) E hL dX0_readNumber_17 ?_
      have hpn : pNum tx len p1 lo mo = (p1, none) := pNum_none (by omega)
      rw [hpn]
      exact ⟨rfl, ⟨ho, ha⟩, hS⟩

set_option maxHeartbeats 4000000 in
set_option maxRecDepth 100000 in
theorem c_X0_readFirst (G : GG) (l : Launch) (a : Nat) (tx : Nat → Int) (len p1 : Nat) (le fi sc : Int) (hT : TxOk tx len) (mo : Nat) (hmo : mo ≤ 239) (hp : p1 ≤ 90) (hga : G.2.2 ≤ a) : Ct G l yX0_readFirst cX0_readFirst 2 (some .boolean) ({ frames := 3, cells := 0, slots := 0, locals := 66 } : Room) [.ref (a), .int (iI ((mo : Int)))] (fun H => TxR G a tx len p1 le fi sc H) (WE (b2i (pNum tx len p1 0 mo).2.isSome) (fun H H1 => TxR G a tx len (pNum tx len p1 0 mo).1 le (oI (pNum tx len p1 0 mo).2) sc H1 ∧ FrS a (a + 1) H H1)) := by
  refine Ct.of (by decide +kernel) (Nat.le_of_ble_eq_true rfl) ?_
  intro p e s m args below meth c ls E hnm hP hl
  obtain ⟨ho, ha⟩ := hP
  have hl80 := hT.1
  have hS : FrS a (a + 1) s.heap s.heap := FrS.rf
  have hl : lv_has ls 2 [(0, .ref (a)), (1, .int (iI ((mo : Int))))] := hl
  have hL : Lk G [] := Lk.nil
  generalize ([] : List Loc) = locs at hL ⊢
  refine lv_aload_n E.1 E.2.1 dX0_readFirst_0 rfl (lv_at hl 0 rfl) ?_
  refine lv_aload_n E.1 E.2.1 dX0_readFirst_1 rfl (lv_at hl 0 rfl) ?_
  refine r_const E dX0_readFirst_2 ?_
  refine lv_iload_n E.1 E.2.1 dX0_readFirst_3 rfl (lv_at hl 1 rfl) ?_
  refine kVWE (As := [.int (iI (0)), .int (iI ((mo : Int)))]) E cw_X0_45 (c_X0_readNumber G l a tx len p1 le fi sc hT 0 mo (by omega) (by omega) (by omega) hga) ho ⟨_, _, rfl⟩ ⟨ho, ha⟩ hL hl.1 rfl rfl (Nat.le_of_ble_eq_true rfl) ⟨Nat.le_of_ble_eq_true rfl, Nat.le_of_ble_eq_true rfl⟩ ⟨Nat.le_of_ble_eq_true rfl, Nat.le_of_ble_eq_true rfl⟩ dX0_readFirst_4 (fun H1 locs hL hw_ => ?_)
  obtain ⟨⟨ho, ha⟩, hq⟩ := hw_
  have hS := hS.trans hq
  rcases hpn : (pNum tx len p1 0 mo).2 with _ | v
  · refine m_put E ho fw_X0_49 fp_X0_4 rfl rfl (Nat.le_of_ble_eq_true rfl) hL (by omega) dX0_readFirst_7 (fun H2 locs hL hO_ hF_ => ?_)
    have ha := ha.kept (hF_.2 _ (by omega))
    have hS := hS.trans (FrS.of1 (lo := a) (hi := a + 1) hF_ (by omega) (by omega))
    have ho : Ob G (a) 0 [.ref (a + 1), .int (iI ((len : Int))), .int (iI (((pNum tx len p1 0 mo).1 : Int))), .int (iI (le)), .int (iI (oI none)), .int (iI (sc))] H2 := hO_
    clear hO_
    refine lv_aload_n E.1 E.2.1 dX0_readFirst_10 rfl (lv_at hl 0 rfl) ?_
    refine m_get E ho fw_X0_49 rfl dX0_readFirst_11 ?_
    refine r_bipush E dX0_readFirst_14 (by decide) ?_
    rw [show oI none = -6 from rfl]
    refine r_icmp_eq (tgt := 23) E dX0_readFirst_16 (by decide) (by omega) (by omega) (fun c16 => ?_) (fun c16 => absurd c16 (by omega))
    refine r_const E dX0_readFirst_23 ?_
    refine e_zret (rm := ({ frames := 3, cells := 0, slots := 0, locals := 66 } : Room)) (v := iI (0)) E hL rfl dX0_readFirst_24 ?_
    exact ⟨rfl, ⟨ho, ha⟩, hS⟩
  · have hpb := (pNum_b tx len p1 0 mo).2.2 v hpn
    refine m_put E ho fw_X0_49 fp_X0_4 rfl rfl (Nat.le_of_ble_eq_true rfl) hL (by omega) dX0_readFirst_7 (fun H2 locs hL hO_ hF_ => ?_)
    have ha := ha.kept (hF_.2 _ (by omega))
    have hS := hS.trans (FrS.of1 (lo := a) (hi := a + 1) hF_ (by omega) (by omega))
    have ho : Ob G (a) 0 [.ref (a + 1), .int (iI ((len : Int))), .int (iI (((pNum tx len p1 0 mo).1 : Int))), .int (iI (le)), .int (iI (oI (some v))), .int (iI (sc))] H2 := hO_
    clear hO_
    refine lv_aload_n E.1 E.2.1 dX0_readFirst_10 rfl (lv_at hl 0 rfl) ?_
    refine m_get E ho fw_X0_49 rfl dX0_readFirst_11 ?_
    refine r_bipush E dX0_readFirst_14 (by decide) ?_
    rw [show oI (some v) = (v : Int) from rfl]
    refine r_icmp_eq (tgt := 23) E dX0_readFirst_16 (by decide) (by omega) (by omega) (fun c16 => absurd c16 (by omega)) (fun c16 => ?_)
    refine r_const E dX0_readFirst_19 ?_
    refine lv_goto (tgt := 24) E.1 E.2.1 dX0_readFirst_20 (by decide) ?_
    refine e_zret (rm := ({ frames := 3, cells := 0, slots := 0, locals := 66 } : Room)) (v := iI (1)) E hL rfl dX0_readFirst_24 ?_
    exact ⟨rfl, ⟨ho, ha⟩, hS⟩

set_option maxHeartbeats 4000000 in
set_option maxRecDepth 100000 in
theorem c_X0_readSecond (G : GG) (l : Launch) (a : Nat) (tx : Nat → Int) (len p1 : Nat) (le fi sc : Int) (hT : TxOk tx len) (lo mo : Nat) (hmo : mo ≤ 239) (hlo : lo ≤ 100) (hp : p1 ≤ 90) (hga : G.2.2 ≤ a) : Ct G l yX0_readSecond cX0_readSecond 3 (some .boolean) ({ frames := 3, cells := 0, slots := 0, locals := 66 } : Room) [.ref (a), .int (iI ((lo : Int))), .int (iI ((mo : Int)))] (fun H => TxR G a tx len p1 le fi sc H) (WE (b2i (pNum tx len p1 lo mo).2.isSome) (fun H H1 => TxR G a tx len (pNum tx len p1 lo mo).1 le fi (oI (pNum tx len p1 lo mo).2) H1 ∧ FrS a (a + 1) H H1)) := by
  refine Ct.of (by decide +kernel) (Nat.le_of_ble_eq_true rfl) ?_
  intro p e s m args below meth c ls E hnm hP hl
  obtain ⟨ho, ha⟩ := hP
  have hl80 := hT.1
  have hS : FrS a (a + 1) s.heap s.heap := FrS.rf
  have hl : lv_has ls 3 [(0, .ref (a)), (1, .int (iI ((lo : Int)))), (2, .int (iI ((mo : Int))))] := hl
  have hL : Lk G [] := Lk.nil
  generalize ([] : List Loc) = locs at hL ⊢
  refine lv_aload_n E.1 E.2.1 dX0_readSecond_0 rfl (lv_at hl 0 rfl) ?_
  refine lv_aload_n E.1 E.2.1 dX0_readSecond_1 rfl (lv_at hl 0 rfl) ?_
  refine lv_iload_n E.1 E.2.1 dX0_readSecond_2 rfl (lv_at hl 1 rfl) ?_
  refine lv_iload_n E.1 E.2.1 dX0_readSecond_3 rfl (lv_at hl 2 rfl) ?_
  refine kVWE (As := [.int (iI ((lo : Int))), .int (iI ((mo : Int)))]) E cw_X0_45 (c_X0_readNumber G l a tx len p1 le fi sc hT lo mo (by omega) (by omega) (by omega) hga) ho ⟨_, _, rfl⟩ ⟨ho, ha⟩ hL hl.1 rfl rfl (Nat.le_of_ble_eq_true rfl) ⟨Nat.le_of_ble_eq_true rfl, Nat.le_of_ble_eq_true rfl⟩ ⟨Nat.le_of_ble_eq_true rfl, Nat.le_of_ble_eq_true rfl⟩ dX0_readSecond_4 (fun H1 locs hL hw_ => ?_)
  obtain ⟨⟨ho, ha⟩, hq⟩ := hw_
  have hS := hS.trans hq
  rcases hpn : (pNum tx len p1 lo mo).2 with _ | v
  · refine m_put E ho fw_X0_52 fp_X0_5 rfl rfl (Nat.le_of_ble_eq_true rfl) hL (by omega) dX0_readSecond_7 (fun H2 locs hL hO_ hF_ => ?_)
    have ha := ha.kept (hF_.2 _ (by omega))
    have hS := hS.trans (FrS.of1 (lo := a) (hi := a + 1) hF_ (by omega) (by omega))
    have ho : Ob G (a) 0 [.ref (a + 1), .int (iI ((len : Int))), .int (iI (((pNum tx len p1 lo mo).1 : Int))), .int (iI (le)), .int (iI (fi)), .int (iI (oI none))] H2 := hO_
    clear hO_
    refine lv_aload_n E.1 E.2.1 dX0_readSecond_10 rfl (lv_at hl 0 rfl) ?_
    refine m_get E ho fw_X0_52 rfl dX0_readSecond_11 ?_
    refine r_bipush E dX0_readSecond_14 (by decide) ?_
    rw [show oI none = -6 from rfl]
    refine r_icmp_eq (tgt := 23) E dX0_readSecond_16 (by decide) (by omega) (by omega) (fun c16 => ?_) (fun c16 => absurd c16 (by omega))
    refine r_const E dX0_readSecond_23 ?_
    refine e_zret (rm := ({ frames := 3, cells := 0, slots := 0, locals := 66 } : Room)) (v := iI (0)) E hL rfl dX0_readSecond_24 ?_
    exact ⟨rfl, ⟨ho, ha⟩, hS⟩
  · have hpb := (pNum_b tx len p1 lo mo).2.2 v hpn
    refine m_put E ho fw_X0_52 fp_X0_5 rfl rfl (Nat.le_of_ble_eq_true rfl) hL (by omega) dX0_readSecond_7 (fun H2 locs hL hO_ hF_ => ?_)
    have ha := ha.kept (hF_.2 _ (by omega))
    have hS := hS.trans (FrS.of1 (lo := a) (hi := a + 1) hF_ (by omega) (by omega))
    have ho : Ob G (a) 0 [.ref (a + 1), .int (iI ((len : Int))), .int (iI (((pNum tx len p1 lo mo).1 : Int))), .int (iI (le)), .int (iI (fi)), .int (iI (oI (some v)))] H2 := hO_
    clear hO_
    refine lv_aload_n E.1 E.2.1 dX0_readSecond_10 rfl (lv_at hl 0 rfl) ?_
    refine m_get E ho fw_X0_52 rfl dX0_readSecond_11 ?_
    refine r_bipush E dX0_readSecond_14 (by decide) ?_
    rw [show oI (some v) = (v : Int) from rfl]
    refine r_icmp_eq (tgt := 23) E dX0_readSecond_16 (by decide) (by omega) (by omega) (fun c16 => absurd c16 (by omega)) (fun c16 => ?_)
    refine r_const E dX0_readSecond_19 ?_
    refine lv_goto (tgt := 24) E.1 E.2.1 dX0_readSecond_20 (by decide) ?_
    refine e_zret (rm := ({ frames := 3, cells := 0, slots := 0, locals := 66 } : Room)) (v := iI (1)) E hL rfl dX0_readSecond_24 ?_
    exact ⟨rfl, ⟨ho, ha⟩, hS⟩

set_option maxHeartbeats 4000000 in
set_option maxRecDepth 100000 in
theorem c_X0_readCommand (G : GG) (l : Launch) (a : Nat) (tx : Nat → Int) (len p1 : Nat) (le fi sc : Int) (hT : TxOk tx len) (hp : p1 ≤ len) (hga : G.2.2 ≤ a) : Ct G l yX0_readCommand cX0_readCommand 1 (some .boolean) ({ frames := 4, cells := 0, slots := 0, locals := 88 } : Room) [.ref (a)] (fun H => TxR G a tx len p1 le fi sc H) (WE (b2i (pCmd tx len p1).2.isSome) (fun H H1 => (∃ le fi sc, TxR G a tx len (pCmd tx len p1).1 le fi sc H1 ∧ okCmd (pCmd tx len p1).2 le fi sc) ∧ FrS a (a + 1) H H1)) := by
  refine Ct.of (by decide +kernel) (Nat.le_of_ble_eq_true rfl) ?_
  intro p e s m args below meth c ls E hnm hP hl
  obtain ⟨ho, ha⟩ := hP
  have hl80 := hT.1
  have hb_ := hr_b hT p1
  have hS : FrS a (a + 1) s.heap s.heap := FrS.rf
  have hl : lv_has ls 1 [(0, .ref (a))] := hl
  have hL : Lk G [] := Lk.nil
  generalize ([] : List Loc) = locs at hL ⊢
  refine lv_aload_n E.1 E.2.1 dX0_readCommand_0 rfl (lv_at hl 0 rfl) ?_
  refine lv_aload_n E.1 E.2.1 dX0_readCommand_1 rfl (lv_at hl 0 rfl) ?_
  refine kVRE (As := []) E cw_X0_30 (c_X0_signAt G l a tx len p1 le fi sc hT (by omega)) ho ⟨_, _, rfl⟩ ⟨ho, ha⟩ hL hl.1 rfl rfl (Nat.le_of_ble_eq_true rfl) ⟨Nat.le_of_ble_eq_true rfl, Nat.le_of_ble_eq_true rfl⟩ ⟨rfl, rfl⟩ ⟨Nat.le_of_ble_eq_true rfl, Nat.le_of_ble_eq_true rfl⟩ dX0_readCommand_2 (fun locs hL => ?_)
  have hb_ := hr_b hT p1
  refine m_put E ho fw_X0_34 fp_X0_3 rfl rfl (Nat.le_of_ble_eq_true rfl) hL (by omega) dX0_readCommand_5 (fun H1 locs hL hO_ hF_ => ?_)
  have ha := ha.kept (hF_.2 _ (by omega))
  have hS := hS.trans (FrS.of1 (lo := a) (hi := a + 1) hF_ (by omega) (by omega))
  have ho : Ob G (a) 0 [.ref (a + 1), .int (iI ((len : Int))), .int (iI ((p1 : Int))), .int (iI (hr tx len p1)), .int (iI (fi)), .int (iI (sc))] H1 := hO_
  clear hO_
  refine lv_aload_n E.1 E.2.1 dX0_readCommand_8 rfl (lv_at hl 0 rfl) ?_
  refine m_get E ho fw_X0_34 rfl dX0_readCommand_9 ?_
  by_cases ts98 : (hr tx len p1) = 98
  · refine lv_tableIn (off := 104) (tgt := 116) E.1 E.2.1 dX0_readCommand_12 (by rw [iI_toInt (by omega) (by omega)]; omega) (by rw [iI_toInt (by omega) (by omega)]; omega) (by rw [iI_toInt (by omega) (by omega), ts98]; rfl) (by decide) ?_
    refine lv_aload_n E.1 E.2.1 dX0_readCommand_116 rfl (lv_at hl 0 rfl) ?_
    refine lv_dup E.1 E.2.1 dX0_readCommand_117 rfl ?_
    refine m_get E ho fw_X0_19 rfl dX0_readCommand_118 ?_
    refine r_const E dX0_readCommand_121 ?_
    refine r_add E dX0_readCommand_122 ?_
    refine m_put E ho fw_X0_19 fp_X0_2 rfl rfl (Nat.le_of_ble_eq_true rfl) hL (by omega) dX0_readCommand_123 (fun H2 locs hL hO_ hF_ => ?_)
    have ha := ha.kept (hF_.2 _ (by omega))
    have hS := hS.trans (FrS.of1 (lo := a) (hi := a + 1) hF_ (by omega) (by omega))
    have ho : Ob G (a) 0 [.ref (a + 1), .int (iI ((len : Int))), .int (iI ((p1 : Int) + 1)), .int (iI (hr tx len p1)), .int (iI (fi)), .int (iI (sc))] H2 := hO_
    clear hO_
    rw [show ((p1 : Int) + 1) = ((p1 + 1 : Nat) : Int) by omega] at ho
    refine lv_aload_n E.1 E.2.1 dX0_readCommand_126 rfl (lv_at hl 0 rfl) ?_
    refine r_const E dX0_readCommand_127 ?_
    refine kVWE (As := [.int (iI (1))]) E cw_X0_37 (c_X0_readFirst G l a tx len (p1 + 1) (hr tx len p1) fi sc hT 1 (by omega) (by omega) hga) ho ⟨_, _, rfl⟩ ⟨ho, ha⟩ hL hl.1 rfl rfl (Nat.le_of_ble_eq_true rfl) ⟨Nat.le_of_ble_eq_true rfl, Nat.le_of_ble_eq_true rfl⟩ ⟨Nat.le_of_ble_eq_true rfl, Nat.le_of_ble_eq_true rfl⟩ dX0_readCommand_128 (fun H3 locs hL hw_ => ?_)
    obtain ⟨⟨ho, ha⟩, hq⟩ := hw_
    have hS := hS.trans hq
    have hpb_ := pNum_b tx len (p1 + 1) 0 1
    rcases hx : (pNum tx len (p1 + 1) 0 1).2 with _ | hxv
    · rw [hx] at ho
      refine e_zret (rm := ({ frames := 4, cells := 0, slots := 0, locals := 88 } : Room)) (v := b2i (none.isSome)) E hL (b2i_nar _) dX0_readCommand_131 ?_
      have hc : pCmd tx len p1 = ((pNum tx len (p1 + 1) 0 1).1, none) := by rw [pCmd_b ts98, hx]; rfl
      rw [hc]
      exact ⟨rfl, ⟨_, _, _, ⟨ho, ha⟩, fun c x y h => by cases h⟩, hS⟩
    · rw [hx] at ho
      refine e_zret (rm := ({ frames := 4, cells := 0, slots := 0, locals := 88 } : Room)) (v := b2i ((some hxv).isSome)) E hL (b2i_nar _) dX0_readCommand_131 ?_
      have hc : pCmd tx len p1 = ((pNum tx len (p1 + 1) 0 1).1, some (98, hxv, 0)) := by rw [pCmd_b ts98, hx]; rfl
      rw [hc]
      refine ⟨rfl, ⟨_, _, _, ⟨ho, ha⟩, ?_⟩, hS⟩
      intro c x y h; cases h
      exact ⟨ts98, fun _ => rfl, fun h => by omega⟩
  by_cases ts99 : (hr tx len p1) = 99
  · refine lv_tableIn (off := 243) (tgt := 255) E.1 E.2.1 dX0_readCommand_12 (by rw [iI_toInt (by omega) (by omega)]; omega) (by rw [iI_toInt (by omega) (by omega)]; omega) (by rw [iI_toInt (by omega) (by omega), ts99]; rfl) (by decide) ?_
    refine lv_aload_n E.1 E.2.1 dX0_readCommand_255 rfl (lv_at hl 0 rfl) ?_
    refine lv_dup E.1 E.2.1 dX0_readCommand_256 rfl ?_
    refine m_get E ho fw_X0_19 rfl dX0_readCommand_257 ?_
    refine r_const E dX0_readCommand_260 ?_
    refine r_add E dX0_readCommand_261 ?_
    refine m_put E ho fw_X0_19 fp_X0_2 rfl rfl (Nat.le_of_ble_eq_true rfl) hL (by omega) dX0_readCommand_262 (fun H2 locs hL hO_ hF_ => ?_)
    have ha := ha.kept (hF_.2 _ (by omega))
    have hS := hS.trans (FrS.of1 (lo := a) (hi := a + 1) hF_ (by omega) (by omega))
    have ho : Ob G (a) 0 [.ref (a + 1), .int (iI ((len : Int))), .int (iI ((p1 : Int) + 1)), .int (iI (hr tx len p1)), .int (iI (fi)), .int (iI (sc))] H2 := hO_
    clear hO_
    rw [show ((p1 : Int) + 1) = ((p1 + 1 : Nat) : Int) by omega] at ho
    refine r_const E dX0_readCommand_265 ?_
    refine e_zret (rm := ({ frames := 4, cells := 0, slots := 0, locals := 88 } : Room)) (v := iI (1)) E hL rfl dX0_readCommand_266 ?_
    have hc : pCmd tx len p1 = (p1 + 1, some (hr tx len p1, 0, 0)) := pCmd_ce (by omega)
    rw [hc]
    refine ⟨rfl, ⟨_, _, _, ⟨ho, ha⟩, ?_⟩, hS⟩
    intro c x y h; cases h
    exact ⟨rfl, fun h => by omega, fun h => by omega⟩
  by_cases ts100 : (hr tx len p1) = 100
  · refine lv_tableIn (off := 225) (tgt := 237) E.1 E.2.1 dX0_readCommand_12 (by rw [iI_toInt (by omega) (by omega)]; omega) (by rw [iI_toInt (by omega) (by omega)]; omega) (by rw [iI_toInt (by omega) (by omega), ts100]; rfl) (by decide) ?_
    refine lv_aload_n E.1 E.2.1 dX0_readCommand_237 rfl (lv_at hl 0 rfl) ?_
    refine lv_dup E.1 E.2.1 dX0_readCommand_238 rfl ?_
    refine m_get E ho fw_X0_19 rfl dX0_readCommand_239 ?_
    refine r_const E dX0_readCommand_242 ?_
    refine r_add E dX0_readCommand_243 ?_
    refine m_put E ho fw_X0_19 fp_X0_2 rfl rfl (Nat.le_of_ble_eq_true rfl) hL (by omega) dX0_readCommand_244 (fun H2 locs hL hO_ hF_ => ?_)
    have ha := ha.kept (hF_.2 _ (by omega))
    have hS := hS.trans (FrS.of1 (lo := a) (hi := a + 1) hF_ (by omega) (by omega))
    have ho : Ob G (a) 0 [.ref (a + 1), .int (iI ((len : Int))), .int (iI ((p1 : Int) + 1)), .int (iI (hr tx len p1)), .int (iI (fi)), .int (iI (sc))] H2 := hO_
    clear hO_
    rw [show ((p1 : Int) + 1) = ((p1 + 1 : Nat) : Int) by omega] at ho
    refine lv_aload_n E.1 E.2.1 dX0_readCommand_247 rfl (lv_at hl 0 rfl) ?_
    refine r_sipush E dX0_readCommand_248 (by decide) ?_
    refine kVWE (As := [.int (iI (239))]) E cw_X0_37 (c_X0_readFirst G l a tx len (p1 + 1) (hr tx len p1) fi sc hT 239 (by omega) (by omega) hga) ho ⟨_, _, rfl⟩ ⟨ho, ha⟩ hL hl.1 rfl rfl (Nat.le_of_ble_eq_true rfl) ⟨Nat.le_of_ble_eq_true rfl, Nat.le_of_ble_eq_true rfl⟩ ⟨Nat.le_of_ble_eq_true rfl, Nat.le_of_ble_eq_true rfl⟩ dX0_readCommand_251 (fun H3 locs hL hw_ => ?_)
    obtain ⟨⟨ho, ha⟩, hq⟩ := hw_
    have hS := hS.trans hq
    have hpb_ := pNum_b tx len (p1 + 1) 0 239
    rcases hx : (pNum tx len (p1 + 1) 0 239).2 with _ | hxv
    · rw [hx] at ho
      refine e_zret (rm := ({ frames := 4, cells := 0, slots := 0, locals := 88 } : Room)) (v := b2i (none.isSome)) E hL (b2i_nar _) dX0_readCommand_254 ?_
      have hc : pCmd tx len p1 = ((pNum tx len (p1 + 1) 0 239).1, none) := by rw [pCmd_d ts100, hx]; rfl
      rw [hc]
      exact ⟨rfl, ⟨_, _, _, ⟨ho, ha⟩, fun c x y h => by cases h⟩, hS⟩
    · rw [hx] at ho
      refine e_zret (rm := ({ frames := 4, cells := 0, slots := 0, locals := 88 } : Room)) (v := b2i ((some hxv).isSome)) E hL (b2i_nar _) dX0_readCommand_254 ?_
      have hc : pCmd tx len p1 = ((pNum tx len (p1 + 1) 0 239).1, some (100, hxv, 0)) := by rw [pCmd_d ts100, hx]; rfl
      rw [hc]
      refine ⟨rfl, ⟨_, _, _, ⟨ho, ha⟩, ?_⟩, hS⟩
      intro c x y h; cases h
      exact ⟨ts100, fun _ => rfl, fun h => by omega⟩
  by_cases ts101 : (hr tx len p1) = 101
  · refine lv_tableIn (off := 243) (tgt := 255) E.1 E.2.1 dX0_readCommand_12 (by rw [iI_toInt (by omega) (by omega)]; omega) (by rw [iI_toInt (by omega) (by omega)]; omega) (by rw [iI_toInt (by omega) (by omega), ts101]; rfl) (by decide) ?_
    refine lv_aload_n E.1 E.2.1 dX0_readCommand_255 rfl (lv_at hl 0 rfl) ?_
    refine lv_dup E.1 E.2.1 dX0_readCommand_256 rfl ?_
    refine m_get E ho fw_X0_19 rfl dX0_readCommand_257 ?_
    refine r_const E dX0_readCommand_260 ?_
    refine r_add E dX0_readCommand_261 ?_
    refine m_put E ho fw_X0_19 fp_X0_2 rfl rfl (Nat.le_of_ble_eq_true rfl) hL (by omega) dX0_readCommand_262 (fun H2 locs hL hO_ hF_ => ?_)
    have ha := ha.kept (hF_.2 _ (by omega))
    have hS := hS.trans (FrS.of1 (lo := a) (hi := a + 1) hF_ (by omega) (by omega))
    have ho : Ob G (a) 0 [.ref (a + 1), .int (iI ((len : Int))), .int (iI ((p1 : Int) + 1)), .int (iI (hr tx len p1)), .int (iI (fi)), .int (iI (sc))] H2 := hO_
    clear hO_
    rw [show ((p1 : Int) + 1) = ((p1 + 1 : Nat) : Int) by omega] at ho
    refine r_const E dX0_readCommand_265 ?_
    refine e_zret (rm := ({ frames := 4, cells := 0, slots := 0, locals := 88 } : Room)) (v := iI (1)) E hL rfl dX0_readCommand_266 ?_
    have hc : pCmd tx len p1 = (p1 + 1, some (hr tx len p1, 0, 0)) := pCmd_ce (by omega)
    rw [hc]
    refine ⟨rfl, ⟨_, _, _, ⟨ho, ha⟩, ?_⟩, hS⟩
    intro c x y h; cases h
    exact ⟨rfl, fun h => by omega, fun h => by omega⟩
  by_cases ts102 : (hr tx len p1) = 102
  · refine lv_tableIn (off := 255) (tgt := 267) E.1 E.2.1 dX0_readCommand_12 (by rw [iI_toInt (by omega) (by omega)]; omega) (by rw [iI_toInt (by omega) (by omega)]; omega) (by rw [iI_toInt (by omega) (by omega), ts102]; rfl) (by decide) ?_
    refine r_const E dX0_readCommand_267 ?_
    refine e_zret (rm := ({ frames := 4, cells := 0, slots := 0, locals := 88 } : Room)) (v := iI (0)) E hL rfl dX0_readCommand_268 ?_
    have hc : pCmd tx len p1 = (p1, none) := pCmd_no (by omega)
    rw [hc]
    exact ⟨rfl, ⟨_, _, _, ⟨ho, ha⟩, fun c x y h => by cases h⟩, hS⟩
  by_cases ts103 : (hr tx len p1) = 103
  · refine lv_tableIn (off := 255) (tgt := 267) E.1 E.2.1 dX0_readCommand_12 (by rw [iI_toInt (by omega) (by omega)]; omega) (by rw [iI_toInt (by omega) (by omega)]; omega) (by rw [iI_toInt (by omega) (by omega), ts103]; rfl) (by decide) ?_
    refine r_const E dX0_readCommand_267 ?_
    refine e_zret (rm := ({ frames := 4, cells := 0, slots := 0, locals := 88 } : Room)) (v := iI (0)) E hL rfl dX0_readCommand_268 ?_
    have hc : pCmd tx len p1 = (p1, none) := pCmd_no (by omega)
    rw [hc]
    exact ⟨rfl, ⟨_, _, _, ⟨ho, ha⟩, fun c x y h => by cases h⟩, hS⟩
  by_cases ts104 : (hr tx len p1) = 104
  · refine lv_tableIn (off := 255) (tgt := 267) E.1 E.2.1 dX0_readCommand_12 (by rw [iI_toInt (by omega) (by omega)]; omega) (by rw [iI_toInt (by omega) (by omega)]; omega) (by rw [iI_toInt (by omega) (by omega), ts104]; rfl) (by decide) ?_
    refine r_const E dX0_readCommand_267 ?_
    refine e_zret (rm := ({ frames := 4, cells := 0, slots := 0, locals := 88 } : Room)) (v := iI (0)) E hL rfl dX0_readCommand_268 ?_
    have hc : pCmd tx len p1 = (p1, none) := pCmd_no (by omega)
    rw [hc]
    exact ⟨rfl, ⟨_, _, _, ⟨ho, ha⟩, fun c x y h => by cases h⟩, hS⟩
  by_cases ts105 : (hr tx len p1) = 105
  · refine lv_tableIn (off := 255) (tgt := 267) E.1 E.2.1 dX0_readCommand_12 (by rw [iI_toInt (by omega) (by omega)]; omega) (by rw [iI_toInt (by omega) (by omega)]; omega) (by rw [iI_toInt (by omega) (by omega), ts105]; rfl) (by decide) ?_
    refine r_const E dX0_readCommand_267 ?_
    refine e_zret (rm := ({ frames := 4, cells := 0, slots := 0, locals := 88 } : Room)) (v := iI (0)) E hL rfl dX0_readCommand_268 ?_
    have hc : pCmd tx len p1 = (p1, none) := pCmd_no (by omega)
    rw [hc]
    exact ⟨rfl, ⟨_, _, _, ⟨ho, ha⟩, fun c x y h => by cases h⟩, hS⟩
  by_cases ts106 : (hr tx len p1) = 106
  · refine lv_tableIn (off := 255) (tgt := 267) E.1 E.2.1 dX0_readCommand_12 (by rw [iI_toInt (by omega) (by omega)]; omega) (by rw [iI_toInt (by omega) (by omega)]; omega) (by rw [iI_toInt (by omega) (by omega), ts106]; rfl) (by decide) ?_
    refine r_const E dX0_readCommand_267 ?_
    refine e_zret (rm := ({ frames := 4, cells := 0, slots := 0, locals := 88 } : Room)) (v := iI (0)) E hL rfl dX0_readCommand_268 ?_
    have hc : pCmd tx len p1 = (p1, none) := pCmd_no (by omega)
    rw [hc]
    exact ⟨rfl, ⟨_, _, _, ⟨ho, ha⟩, fun c x y h => by cases h⟩, hS⟩
  by_cases ts107 : (hr tx len p1) = 107
  · refine lv_tableIn (off := 181) (tgt := 193) E.1 E.2.1 dX0_readCommand_12 (by rw [iI_toInt (by omega) (by omega)]; omega) (by rw [iI_toInt (by omega) (by omega)]; omega) (by rw [iI_toInt (by omega) (by omega), ts107]; rfl) (by decide) ?_
    refine lv_aload_n E.1 E.2.1 dX0_readCommand_193 rfl (lv_at hl 0 rfl) ?_
    refine lv_dup E.1 E.2.1 dX0_readCommand_194 rfl ?_
    refine m_get E ho fw_X0_19 rfl dX0_readCommand_195 ?_
    refine r_const E dX0_readCommand_198 ?_
    refine r_add E dX0_readCommand_199 ?_
    refine m_put E ho fw_X0_19 fp_X0_2 rfl rfl (Nat.le_of_ble_eq_true rfl) hL (by omega) dX0_readCommand_200 (fun H2 locs hL hO_ hF_ => ?_)
    have ha := ha.kept (hF_.2 _ (by omega))
    have hS := hS.trans (FrS.of1 (lo := a) (hi := a + 1) hF_ (by omega) (by omega))
    have ho : Ob G (a) 0 [.ref (a + 1), .int (iI ((len : Int))), .int (iI ((p1 : Int) + 1)), .int (iI (hr tx len p1)), .int (iI (fi)), .int (iI (sc))] H2 := hO_
    clear hO_
    rw [show ((p1 : Int) + 1) = ((p1 + 1 : Nat) : Int) by omega] at ho
    refine lv_aload_n E.1 E.2.1 dX0_readCommand_203 rfl (lv_at hl 0 rfl) ?_
    refine r_bipush E dX0_readCommand_204 (by decide) ?_
    refine kVWE (As := [.int (iI (19))]) E cw_X0_37 (c_X0_readFirst G l a tx len (p1 + 1) (hr tx len p1) fi sc hT 19 (by omega) (by omega) hga) ho ⟨_, _, rfl⟩ ⟨ho, ha⟩ hL hl.1 rfl rfl (Nat.le_of_ble_eq_true rfl) ⟨Nat.le_of_ble_eq_true rfl, Nat.le_of_ble_eq_true rfl⟩ ⟨Nat.le_of_ble_eq_true rfl, Nat.le_of_ble_eq_true rfl⟩ dX0_readCommand_206 (fun H3 locs hL hw_ => ?_)
    obtain ⟨⟨ho, ha⟩, hq⟩ := hw_
    have hS := hS.trans hq
    have hpb_ := pNum_b tx len (p1 + 1) 0 19
    rcases hx : (pNum tx len (p1 + 1) 0 19).2 with _ | hxv
    · rw [hx] at ho
      rw [show b2i (none.isSome) = iI 0 from rfl]
      refine r_if_eq (tgt := 235) E dX0_readCommand_209 (by decide) (by omega) (fun c209 => ?_) (fun c209 => absurd c209 (by omega))
      refine r_const E dX0_readCommand_235 ?_
      refine e_zret (rm := ({ frames := 4, cells := 0, slots := 0, locals := 88 } : Room)) (v := iI (0)) E hL rfl dX0_readCommand_236 ?_
      have hc : pCmd tx len p1 = ((pNum tx len (p1 + 1) 0 19).1, none) := pCmd_k0 ts107 hx
      rw [hc]
      exact ⟨rfl, ⟨_, _, _, ⟨ho, ha⟩, fun c x y h => by cases h⟩, hS⟩
    · rw [hx] at ho
      rw [show b2i ((some hxv).isSome) = iI 1 from rfl]
      refine r_if_eq (tgt := 235) E dX0_readCommand_209 (by decide) (by omega) (fun c209 => absurd c209 (by omega)) (fun c209 => ?_)
      refine lv_aload_n E.1 E.2.1 dX0_readCommand_212 rfl (lv_at hl 0 rfl) ?_
      refine r_bipush E dX0_readCommand_213 (by decide) ?_
      refine kVWE (As := [.int (iI (46))]) E cw_X0_26 (c_X0_readSign G l a tx len (pNum tx len (p1 + 1) 0 19).1 (hr tx len p1) (oI (some hxv)) sc hT (46) (by unfold okI; omega) (by omega) hga) ho ⟨_, _, rfl⟩ ⟨ho, ha⟩ hL hl.1 rfl rfl (Nat.le_of_ble_eq_true rfl) ⟨Nat.le_of_ble_eq_true rfl, Nat.le_of_ble_eq_true rfl⟩ ⟨Nat.le_of_ble_eq_true rfl, Nat.le_of_ble_eq_true rfl⟩ dX0_readCommand_215 (fun H4 locs hL hw_ => ?_)
      by_cases hz_ : hr tx len (pNum tx len (p1 + 1) 0 19).1 = 46
      · rw [if_pos hz_] at hw_
        rw [decide_eq_true hz_]
        have hb_ := hr_b hT (pNum tx len (p1 + 1) 0 19).1
        obtain ⟨⟨ho, ha⟩, hq⟩ := hw_
        have hS := hS.trans hq
        rw [show b2i (true) = iI 1 from rfl]
        refine r_if_eq (tgt := 235) E dX0_readCommand_218 (by decide) (by omega) (fun c218 => absurd c218 (by omega)) (fun c218 => ?_)
        refine lv_aload_n E.1 E.2.1 dX0_readCommand_221 rfl (lv_at hl 0 rfl) ?_
        refine r_const E dX0_readCommand_222 ?_
        refine r_bipush E dX0_readCommand_223 (by decide) ?_
        refine kVWE (As := [.int (iI (0)), .int (iI (11))]) E cw_X0_41 (c_X0_readSecond G l a tx len ((pNum tx len (p1 + 1) 0 19).1 + 1) (hr tx len p1) (oI (some hxv)) sc hT 0 11 (by omega) (by omega) (by omega) hga) ho ⟨_, _, rfl⟩ ⟨ho, ha⟩ hL hl.1 rfl rfl (Nat.le_of_ble_eq_true rfl) ⟨Nat.le_of_ble_eq_true rfl, Nat.le_of_ble_eq_true rfl⟩ ⟨Nat.le_of_ble_eq_true rfl, Nat.le_of_ble_eq_true rfl⟩ dX0_readCommand_225 (fun H5 locs hL hw_ => ?_)
        obtain ⟨⟨ho, ha⟩, hq⟩ := hw_
        have hS := hS.trans hq
        have hpb_ := pNum_b tx len ((pNum tx len (p1 + 1) 0 19).1 + 1) 0 11
        rcases hy : (pNum tx len ((pNum tx len (p1 + 1) 0 19).1 + 1) 0 11).2 with _ | hyv
        · rw [hy] at ho
          rw [show b2i (none.isSome) = iI 0 from rfl]
          refine r_if_eq (tgt := 235) E dX0_readCommand_228 (by decide) (by omega) (fun c228 => ?_) (fun c228 => absurd c228 (by omega))
          refine r_const E dX0_readCommand_235 ?_
          refine e_zret (rm := ({ frames := 4, cells := 0, slots := 0, locals := 88 } : Room)) (v := iI (0)) E hL rfl dX0_readCommand_236 ?_
          have hc : pCmd tx len p1 = ((pNum tx len ((pNum tx len (p1 + 1) 0 19).1 + 1) 0 11).1, none) := by rw [pCmd_k1 ts107 hx, pSec_yes hz_, hy]; rfl
          rw [hc]
          exact ⟨rfl, ⟨_, _, _, ⟨ho, ha⟩, fun c x y h => by cases h⟩, hS⟩
        · rw [hy] at ho
          rw [show b2i ((some hyv).isSome) = iI 1 from rfl]
          refine r_if_eq (tgt := 235) E dX0_readCommand_228 (by decide) (by omega) (fun c228 => absurd c228 (by omega)) (fun c228 => ?_)
          refine r_const E dX0_readCommand_231 ?_
          refine lv_goto (tgt := 236) E.1 E.2.1 dX0_readCommand_232 (by decide) ?_
          refine e_zret (rm := ({ frames := 4, cells := 0, slots := 0, locals := 88 } : Room)) (v := iI (1)) E hL rfl dX0_readCommand_236 ?_
          have hc : pCmd tx len p1 = ((pNum tx len ((pNum tx len (p1 + 1) 0 19).1 + 1) 0 11).1, some (107, hxv, hyv)) := by rw [pCmd_k1 ts107 hx, pSec_yes hz_, hy]; rfl
          rw [hc]
          refine ⟨rfl, ⟨_, _, _, ⟨ho, ha⟩, ?_⟩, hS⟩
          intro c x y h; cases h
          exact ⟨ts107, fun _ => rfl, fun _ => rfl⟩
      · rw [if_neg hz_] at hw_
        rw [decide_eq_false hz_]
        obtain ⟨⟨ho, ha⟩, hq⟩ := hw_
        have hS := hS.trans hq
        rw [show b2i (false) = iI 0 from rfl]
        refine r_if_eq (tgt := 235) E dX0_readCommand_218 (by decide) (by omega) (fun c218 => ?_) (fun c218 => absurd c218 (by omega))
        refine r_const E dX0_readCommand_235 ?_
        refine e_zret (rm := ({ frames := 4, cells := 0, slots := 0, locals := 88 } : Room)) (v := iI (0)) E hL rfl dX0_readCommand_236 ?_
        have hc : pCmd tx len p1 = ((pNum tx len (p1 + 1) 0 19).1, none) := by rw [pCmd_k1 ts107 hx, pSec_no hz_]
        rw [hc]
        exact ⟨rfl, ⟨_, _, _, ⟨ho, ha⟩, fun c x y h => by cases h⟩, hS⟩
  by_cases ts108 : (hr tx len p1) = 108
  · refine lv_tableIn (off := 255) (tgt := 267) E.1 E.2.1 dX0_readCommand_12 (by rw [iI_toInt (by omega) (by omega)]; omega) (by rw [iI_toInt (by omega) (by omega)]; omega) (by rw [iI_toInt (by omega) (by omega), ts108]; rfl) (by decide) ?_
    refine r_const E dX0_readCommand_267 ?_
    refine e_zret (rm := ({ frames := 4, cells := 0, slots := 0, locals := 88 } : Room)) (v := iI (0)) E hL rfl dX0_readCommand_268 ?_
    have hc : pCmd tx len p1 = (p1, none) := pCmd_no (by omega)
    rw [hc]
    exact ⟨rfl, ⟨_, _, _, ⟨ho, ha⟩, fun c x y h => by cases h⟩, hS⟩
  by_cases ts109 : (hr tx len p1) = 109
  · refine lv_tableIn (off := 255) (tgt := 267) E.1 E.2.1 dX0_readCommand_12 (by rw [iI_toInt (by omega) (by omega)]; omega) (by rw [iI_toInt (by omega) (by omega)]; omega) (by rw [iI_toInt (by omega) (by omega), ts109]; rfl) (by decide) ?_
    refine r_const E dX0_readCommand_267 ?_
    refine e_zret (rm := ({ frames := 4, cells := 0, slots := 0, locals := 88 } : Room)) (v := iI (0)) E hL rfl dX0_readCommand_268 ?_
    have hc : pCmd tx len p1 = (p1, none) := pCmd_no (by omega)
    rw [hc]
    exact ⟨rfl, ⟨_, _, _, ⟨ho, ha⟩, fun c x y h => by cases h⟩, hS⟩
  by_cases ts110 : (hr tx len p1) = 110
  · refine lv_tableIn (off := 255) (tgt := 267) E.1 E.2.1 dX0_readCommand_12 (by rw [iI_toInt (by omega) (by omega)]; omega) (by rw [iI_toInt (by omega) (by omega)]; omega) (by rw [iI_toInt (by omega) (by omega), ts110]; rfl) (by decide) ?_
    refine r_const E dX0_readCommand_267 ?_
    refine e_zret (rm := ({ frames := 4, cells := 0, slots := 0, locals := 88 } : Room)) (v := iI (0)) E hL rfl dX0_readCommand_268 ?_
    have hc : pCmd tx len p1 = (p1, none) := pCmd_no (by omega)
    rw [hc]
    exact ⟨rfl, ⟨_, _, _, ⟨ho, ha⟩, fun c x y h => by cases h⟩, hS⟩
  by_cases ts111 : (hr tx len p1) = 111
  · refine lv_tableIn (off := 255) (tgt := 267) E.1 E.2.1 dX0_readCommand_12 (by rw [iI_toInt (by omega) (by omega)]; omega) (by rw [iI_toInt (by omega) (by omega)]; omega) (by rw [iI_toInt (by omega) (by omega), ts111]; rfl) (by decide) ?_
    refine r_const E dX0_readCommand_267 ?_
    refine e_zret (rm := ({ frames := 4, cells := 0, slots := 0, locals := 88 } : Room)) (v := iI (0)) E hL rfl dX0_readCommand_268 ?_
    have hc : pCmd tx len p1 = (p1, none) := pCmd_no (by omega)
    rw [hc]
    exact ⟨rfl, ⟨_, _, _, ⟨ho, ha⟩, fun c x y h => by cases h⟩, hS⟩
  by_cases ts112 : (hr tx len p1) = 112
  · refine lv_tableIn (off := 255) (tgt := 267) E.1 E.2.1 dX0_readCommand_12 (by rw [iI_toInt (by omega) (by omega)]; omega) (by rw [iI_toInt (by omega) (by omega)]; omega) (by rw [iI_toInt (by omega) (by omega), ts112]; rfl) (by decide) ?_
    refine r_const E dX0_readCommand_267 ?_
    refine e_zret (rm := ({ frames := 4, cells := 0, slots := 0, locals := 88 } : Room)) (v := iI (0)) E hL rfl dX0_readCommand_268 ?_
    have hc : pCmd tx len p1 = (p1, none) := pCmd_no (by omega)
    rw [hc]
    exact ⟨rfl, ⟨_, _, _, ⟨ho, ha⟩, fun c x y h => by cases h⟩, hS⟩
  by_cases ts113 : (hr tx len p1) = 113
  · refine lv_tableIn (off := 255) (tgt := 267) E.1 E.2.1 dX0_readCommand_12 (by rw [iI_toInt (by omega) (by omega)]; omega) (by rw [iI_toInt (by omega) (by omega)]; omega) (by rw [iI_toInt (by omega) (by omega), ts113]; rfl) (by decide) ?_
    refine r_const E dX0_readCommand_267 ?_
    refine e_zret (rm := ({ frames := 4, cells := 0, slots := 0, locals := 88 } : Room)) (v := iI (0)) E hL rfl dX0_readCommand_268 ?_
    have hc : pCmd tx len p1 = (p1, none) := pCmd_no (by omega)
    rw [hc]
    exact ⟨rfl, ⟨_, _, _, ⟨ho, ha⟩, fun c x y h => by cases h⟩, hS⟩
  by_cases ts114 : (hr tx len p1) = 114
  · refine lv_tableIn (off := 164) (tgt := 176) E.1 E.2.1 dX0_readCommand_12 (by rw [iI_toInt (by omega) (by omega)]; omega) (by rw [iI_toInt (by omega) (by omega)]; omega) (by rw [iI_toInt (by omega) (by omega), ts114]; rfl) (by decide) ?_
    refine lv_aload_n E.1 E.2.1 dX0_readCommand_176 rfl (lv_at hl 0 rfl) ?_
    refine lv_dup E.1 E.2.1 dX0_readCommand_177 rfl ?_
    refine m_get E ho fw_X0_19 rfl dX0_readCommand_178 ?_
    refine r_const E dX0_readCommand_181 ?_
    refine r_add E dX0_readCommand_182 ?_
    refine m_put E ho fw_X0_19 fp_X0_2 rfl rfl (Nat.le_of_ble_eq_true rfl) hL (by omega) dX0_readCommand_183 (fun H2 locs hL hO_ hF_ => ?_)
    have ha := ha.kept (hF_.2 _ (by omega))
    have hS := hS.trans (FrS.of1 (lo := a) (hi := a + 1) hF_ (by omega) (by omega))
    have ho : Ob G (a) 0 [.ref (a + 1), .int (iI ((len : Int))), .int (iI ((p1 : Int) + 1)), .int (iI (hr tx len p1)), .int (iI (fi)), .int (iI (sc))] H2 := hO_
    clear hO_
    rw [show ((p1 : Int) + 1) = ((p1 + 1 : Nat) : Int) by omega] at ho
    refine lv_aload_n E.1 E.2.1 dX0_readCommand_186 rfl (lv_at hl 0 rfl) ?_
    refine r_bipush E dX0_readCommand_187 (by decide) ?_
    refine kVWE (As := [.int (iI (19))]) E cw_X0_37 (c_X0_readFirst G l a tx len (p1 + 1) (hr tx len p1) fi sc hT 19 (by omega) (by omega) hga) ho ⟨_, _, rfl⟩ ⟨ho, ha⟩ hL hl.1 rfl rfl (Nat.le_of_ble_eq_true rfl) ⟨Nat.le_of_ble_eq_true rfl, Nat.le_of_ble_eq_true rfl⟩ ⟨Nat.le_of_ble_eq_true rfl, Nat.le_of_ble_eq_true rfl⟩ dX0_readCommand_189 (fun H3 locs hL hw_ => ?_)
    obtain ⟨⟨ho, ha⟩, hq⟩ := hw_
    have hS := hS.trans hq
    have hpb_ := pNum_b tx len (p1 + 1) 0 19
    rcases hx : (pNum tx len (p1 + 1) 0 19).2 with _ | hxv
    · rw [hx] at ho
      refine e_zret (rm := ({ frames := 4, cells := 0, slots := 0, locals := 88 } : Room)) (v := b2i (none.isSome)) E hL (b2i_nar _) dX0_readCommand_192 ?_
      have hc : pCmd tx len p1 = ((pNum tx len (p1 + 1) 0 19).1, none) := by rw [pCmd_r ts114, hx]; rfl
      rw [hc]
      exact ⟨rfl, ⟨_, _, _, ⟨ho, ha⟩, fun c x y h => by cases h⟩, hS⟩
    · rw [hx] at ho
      refine e_zret (rm := ({ frames := 4, cells := 0, slots := 0, locals := 88 } : Room)) (v := b2i ((some hxv).isSome)) E hL (b2i_nar _) dX0_readCommand_192 ?_
      have hc : pCmd tx len p1 = ((pNum tx len (p1 + 1) 0 19).1, some (114, hxv, 0)) := by rw [pCmd_r ts114, hx]; rfl
      rw [hc]
      refine ⟨rfl, ⟨_, _, _, ⟨ho, ha⟩, ?_⟩, hS⟩
      intro c x y h; cases h
      exact ⟨ts114, fun _ => rfl, fun h => by omega⟩
  by_cases ts115 : (hr tx len p1) = 115
  · refine lv_tableIn (off := 255) (tgt := 267) E.1 E.2.1 dX0_readCommand_12 (by rw [iI_toInt (by omega) (by omega)]; omega) (by rw [iI_toInt (by omega) (by omega)]; omega) (by rw [iI_toInt (by omega) (by omega), ts115]; rfl) (by decide) ?_
    refine r_const E dX0_readCommand_267 ?_
    refine e_zret (rm := ({ frames := 4, cells := 0, slots := 0, locals := 88 } : Room)) (v := iI (0)) E hL rfl dX0_readCommand_268 ?_
    have hc : pCmd tx len p1 = (p1, none) := pCmd_no (by omega)
    rw [hc]
    exact ⟨rfl, ⟨_, _, _, ⟨ho, ha⟩, fun c x y h => by cases h⟩, hS⟩
  by_cases ts116 : (hr tx len p1) = 116
  · refine lv_tableIn (off := 255) (tgt := 267) E.1 E.2.1 dX0_readCommand_12 (by rw [iI_toInt (by omega) (by omega)]; omega) (by rw [iI_toInt (by omega) (by omega)]; omega) (by rw [iI_toInt (by omega) (by omega), ts116]; rfl) (by decide) ?_
    refine r_const E dX0_readCommand_267 ?_
    refine e_zret (rm := ({ frames := 4, cells := 0, slots := 0, locals := 88 } : Room)) (v := iI (0)) E hL rfl dX0_readCommand_268 ?_
    have hc : pCmd tx len p1 = (p1, none) := pCmd_no (by omega)
    rw [hc]
    exact ⟨rfl, ⟨_, _, _, ⟨ho, ha⟩, fun c x y h => by cases h⟩, hS⟩
  by_cases ts117 : (hr tx len p1) = 117
  · refine lv_tableIn (off := 255) (tgt := 267) E.1 E.2.1 dX0_readCommand_12 (by rw [iI_toInt (by omega) (by omega)]; omega) (by rw [iI_toInt (by omega) (by omega)]; omega) (by rw [iI_toInt (by omega) (by omega), ts117]; rfl) (by decide) ?_
    refine r_const E dX0_readCommand_267 ?_
    refine e_zret (rm := ({ frames := 4, cells := 0, slots := 0, locals := 88 } : Room)) (v := iI (0)) E hL rfl dX0_readCommand_268 ?_
    have hc : pCmd tx len p1 = (p1, none) := pCmd_no (by omega)
    rw [hc]
    exact ⟨rfl, ⟨_, _, _, ⟨ho, ha⟩, fun c x y h => by cases h⟩, hS⟩
  by_cases ts118 : (hr tx len p1) = 118
  · refine lv_tableIn (off := 255) (tgt := 267) E.1 E.2.1 dX0_readCommand_12 (by rw [iI_toInt (by omega) (by omega)]; omega) (by rw [iI_toInt (by omega) (by omega)]; omega) (by rw [iI_toInt (by omega) (by omega), ts118]; rfl) (by decide) ?_
    refine r_const E dX0_readCommand_267 ?_
    refine e_zret (rm := ({ frames := 4, cells := 0, slots := 0, locals := 88 } : Room)) (v := iI (0)) E hL rfl dX0_readCommand_268 ?_
    have hc : pCmd tx len p1 = (p1, none) := pCmd_no (by omega)
    rw [hc]
    exact ⟨rfl, ⟨_, _, _, ⟨ho, ha⟩, fun c x y h => by cases h⟩, hS⟩
  by_cases ts119 : (hr tx len p1) = 119
  · refine lv_tableIn (off := 120) (tgt := 132) E.1 E.2.1 dX0_readCommand_12 (by rw [iI_toInt (by omega) (by omega)]; omega) (by rw [iI_toInt (by omega) (by omega)]; omega) (by rw [iI_toInt (by omega) (by omega), ts119]; rfl) (by decide) ?_
    refine lv_aload_n E.1 E.2.1 dX0_readCommand_132 rfl (lv_at hl 0 rfl) ?_
    refine lv_dup E.1 E.2.1 dX0_readCommand_133 rfl ?_
    refine m_get E ho fw_X0_19 rfl dX0_readCommand_134 ?_
    refine r_const E dX0_readCommand_137 ?_
    refine r_add E dX0_readCommand_138 ?_
    refine m_put E ho fw_X0_19 fp_X0_2 rfl rfl (Nat.le_of_ble_eq_true rfl) hL (by omega) dX0_readCommand_139 (fun H2 locs hL hO_ hF_ => ?_)
    have ha := ha.kept (hF_.2 _ (by omega))
    have hS := hS.trans (FrS.of1 (lo := a) (hi := a + 1) hF_ (by omega) (by omega))
    have ho : Ob G (a) 0 [.ref (a + 1), .int (iI ((len : Int))), .int (iI ((p1 : Int) + 1)), .int (iI (hr tx len p1)), .int (iI (fi)), .int (iI (sc))] H2 := hO_
    clear hO_
    rw [show ((p1 : Int) + 1) = ((p1 + 1 : Nat) : Int) by omega] at ho
    refine lv_aload_n E.1 E.2.1 dX0_readCommand_142 rfl (lv_at hl 0 rfl) ?_
    refine r_bipush E dX0_readCommand_143 (by decide) ?_
    refine kVWE (As := [.int (iI (19))]) E cw_X0_37 (c_X0_readFirst G l a tx len (p1 + 1) (hr tx len p1) fi sc hT 19 (by omega) (by omega) hga) ho ⟨_, _, rfl⟩ ⟨ho, ha⟩ hL hl.1 rfl rfl (Nat.le_of_ble_eq_true rfl) ⟨Nat.le_of_ble_eq_true rfl, Nat.le_of_ble_eq_true rfl⟩ ⟨Nat.le_of_ble_eq_true rfl, Nat.le_of_ble_eq_true rfl⟩ dX0_readCommand_145 (fun H3 locs hL hw_ => ?_)
    obtain ⟨⟨ho, ha⟩, hq⟩ := hw_
    have hS := hS.trans hq
    have hpb_ := pNum_b tx len (p1 + 1) 0 19
    rcases hx : (pNum tx len (p1 + 1) 0 19).2 with _ | hxv
    · rw [hx] at ho
      rw [show b2i (none.isSome) = iI 0 from rfl]
      refine r_if_eq (tgt := 174) E dX0_readCommand_148 (by decide) (by omega) (fun c148 => ?_) (fun c148 => absurd c148 (by omega))
      refine r_const E dX0_readCommand_174 ?_
      refine e_zret (rm := ({ frames := 4, cells := 0, slots := 0, locals := 88 } : Room)) (v := iI (0)) E hL rfl dX0_readCommand_175 ?_
      have hc : pCmd tx len p1 = ((pNum tx len (p1 + 1) 0 19).1, none) := pCmd_w0 ts119 hx
      rw [hc]
      exact ⟨rfl, ⟨_, _, _, ⟨ho, ha⟩, fun c x y h => by cases h⟩, hS⟩
    · rw [hx] at ho
      rw [show b2i ((some hxv).isSome) = iI 1 from rfl]
      refine r_if_eq (tgt := 174) E dX0_readCommand_148 (by decide) (by omega) (fun c148 => absurd c148 (by omega)) (fun c148 => ?_)
      refine lv_aload_n E.1 E.2.1 dX0_readCommand_151 rfl (lv_at hl 0 rfl) ?_
      refine r_bipush E dX0_readCommand_152 (by decide) ?_
      refine kVWE (As := [.int (iI (61))]) E cw_X0_26 (c_X0_readSign G l a tx len (pNum tx len (p1 + 1) 0 19).1 (hr tx len p1) (oI (some hxv)) sc hT (61) (by unfold okI; omega) (by omega) hga) ho ⟨_, _, rfl⟩ ⟨ho, ha⟩ hL hl.1 rfl rfl (Nat.le_of_ble_eq_true rfl) ⟨Nat.le_of_ble_eq_true rfl, Nat.le_of_ble_eq_true rfl⟩ ⟨Nat.le_of_ble_eq_true rfl, Nat.le_of_ble_eq_true rfl⟩ dX0_readCommand_154 (fun H4 locs hL hw_ => ?_)
      by_cases hz_ : hr tx len (pNum tx len (p1 + 1) 0 19).1 = 61
      · rw [if_pos hz_] at hw_
        rw [decide_eq_true hz_]
        have hb_ := hr_b hT (pNum tx len (p1 + 1) 0 19).1
        obtain ⟨⟨ho, ha⟩, hq⟩ := hw_
        have hS := hS.trans hq
        rw [show b2i (true) = iI 1 from rfl]
        refine r_if_eq (tgt := 174) E dX0_readCommand_157 (by decide) (by omega) (fun c157 => absurd c157 (by omega)) (fun c157 => ?_)
        refine lv_aload_n E.1 E.2.1 dX0_readCommand_160 rfl (lv_at hl 0 rfl) ?_
        refine r_const E dX0_readCommand_161 ?_
        refine r_bipush E dX0_readCommand_162 (by decide) ?_
        refine kVWE (As := [.int (iI (1)), .int (iI (40))]) E cw_X0_41 (c_X0_readSecond G l a tx len ((pNum tx len (p1 + 1) 0 19).1 + 1) (hr tx len p1) (oI (some hxv)) sc hT 1 40 (by omega) (by omega) (by omega) hga) ho ⟨_, _, rfl⟩ ⟨ho, ha⟩ hL hl.1 rfl rfl (Nat.le_of_ble_eq_true rfl) ⟨Nat.le_of_ble_eq_true rfl, Nat.le_of_ble_eq_true rfl⟩ ⟨Nat.le_of_ble_eq_true rfl, Nat.le_of_ble_eq_true rfl⟩ dX0_readCommand_164 (fun H5 locs hL hw_ => ?_)
        obtain ⟨⟨ho, ha⟩, hq⟩ := hw_
        have hS := hS.trans hq
        have hpb_ := pNum_b tx len ((pNum tx len (p1 + 1) 0 19).1 + 1) 1 40
        rcases hy : (pNum tx len ((pNum tx len (p1 + 1) 0 19).1 + 1) 1 40).2 with _ | hyv
        · rw [hy] at ho
          rw [show b2i (none.isSome) = iI 0 from rfl]
          refine r_if_eq (tgt := 174) E dX0_readCommand_167 (by decide) (by omega) (fun c167 => ?_) (fun c167 => absurd c167 (by omega))
          refine r_const E dX0_readCommand_174 ?_
          refine e_zret (rm := ({ frames := 4, cells := 0, slots := 0, locals := 88 } : Room)) (v := iI (0)) E hL rfl dX0_readCommand_175 ?_
          have hc : pCmd tx len p1 = ((pNum tx len ((pNum tx len (p1 + 1) 0 19).1 + 1) 1 40).1, none) := by rw [pCmd_w1 ts119 hx, pSec_yes hz_, hy]; rfl
          rw [hc]
          exact ⟨rfl, ⟨_, _, _, ⟨ho, ha⟩, fun c x y h => by cases h⟩, hS⟩
        · rw [hy] at ho
          rw [show b2i ((some hyv).isSome) = iI 1 from rfl]
          refine r_if_eq (tgt := 174) E dX0_readCommand_167 (by decide) (by omega) (fun c167 => absurd c167 (by omega)) (fun c167 => ?_)
          refine r_const E dX0_readCommand_170 ?_
          refine lv_goto (tgt := 175) E.1 E.2.1 dX0_readCommand_171 (by decide) ?_
          refine e_zret (rm := ({ frames := 4, cells := 0, slots := 0, locals := 88 } : Room)) (v := iI (1)) E hL rfl dX0_readCommand_175 ?_
          have hc : pCmd tx len p1 = ((pNum tx len ((pNum tx len (p1 + 1) 0 19).1 + 1) 1 40).1, some (119, hxv, hyv)) := by rw [pCmd_w1 ts119 hx, pSec_yes hz_, hy]; rfl
          rw [hc]
          refine ⟨rfl, ⟨_, _, _, ⟨ho, ha⟩, ?_⟩, hS⟩
          intro c x y h; cases h
          exact ⟨ts119, fun _ => rfl, fun _ => rfl⟩
      · rw [if_neg hz_] at hw_
        rw [decide_eq_false hz_]
        obtain ⟨⟨ho, ha⟩, hq⟩ := hw_
        have hS := hS.trans hq
        rw [show b2i (false) = iI 0 from rfl]
        refine r_if_eq (tgt := 174) E dX0_readCommand_157 (by decide) (by omega) (fun c157 => ?_) (fun c157 => absurd c157 (by omega))
        refine r_const E dX0_readCommand_174 ?_
        refine e_zret (rm := ({ frames := 4, cells := 0, slots := 0, locals := 88 } : Room)) (v := iI (0)) E hL rfl dX0_readCommand_175 ?_
        have hc : pCmd tx len p1 = ((pNum tx len (p1 + 1) 0 19).1, none) := by rw [pCmd_w1 ts119 hx, pSec_no hz_]
        rw [hc]
        exact ⟨rfl, ⟨_, _, _, ⟨ho, ha⟩, fun c x y h => by cases h⟩, hS⟩
  refine lv_tableOut (tgt := 267) E.1 E.2.1 dX0_readCommand_12 (by rw [iI_toInt (by omega) (by omega)]; omega) (by decide) ?_
  refine r_const E dX0_readCommand_267 ?_
  refine e_zret (rm := ({ frames := 4, cells := 0, slots := 0, locals := 88 } : Room)) (v := iI (0)) E hL rfl dX0_readCommand_268 ?_
  have hc : pCmd tx len p1 = (p1, none) := pCmd_no (by omega)
  rw [hc]
  exact ⟨rfl, ⟨_, _, _, ⟨ho, ha⟩, fun c x y h => by cases h⟩, hS⟩

set_option maxHeartbeats 4000000 in
set_option maxRecDepth 100000 in
theorem c_X0_firstFault (G : GG) (l : Launch) (a : Nat) (tx : Nat → Int) (len p1 : Nat) (le fi sc : Int) (hT : TxOk tx len) (hga : G.2.2 ≤ a) : Ct G l yX0_firstFault cX0_firstFault 2 (some .int) ({ frames := 5, cells := 0, slots := 0, locals := 108 } : Room) [.ref (a)] (fun H => TxR G a tx len p1 le fi sc H) (WE (iI (pFlt tx len 0)) (fun H H1 => (∃ p2 le fi sc, TxR G a tx len p2 le fi sc H1) ∧ FrS a (a + 1) H H1)) := by
  refine Ct.of (by decide +kernel) (Nat.le_of_ble_eq_true rfl) ?_
  intro p e s m args below meth c ls E hnm hP hl
  obtain ⟨ho, ha⟩ := hP
  have hl80 := hT.1
  have hS : FrS a (a + 1) s.heap s.heap := FrS.rf
  have hl : lv_has ls 2 [(0, .ref (a))] := hl
  have hL : Lk G [] := Lk.nil
  generalize ([] : List Loc) = locs at hL ⊢
  refine lv_aload_n E.1 E.2.1 dX0_firstFault_0 rfl (lv_at hl 0 rfl) ?_
  refine r_const E dX0_firstFault_1 ?_
  refine m_put E ho fw_X0_19 fp_X0_2 rfl rfl (Nat.le_of_ble_eq_true rfl) hL (by omega) dX0_firstFault_2 (fun H1 locs hL hO_ hF_ => ?_)
  have ha := ha.kept (hF_.2 _ (by omega))
  have hS := hS.trans (FrS.of1 (lo := a) (hi := a + 1) hF_ (by omega) (by omega))
  have ho : Ob G (a) 0 [.ref (a + 1), .int (iI ((len : Int))), .int (iI (0)), .int (iI (le)), .int (iI (fi)), .int (iI (sc))] H1 := hO_
  clear hO_
  refine r_const E dX0_firstFault_5 ?_
  refine lv_istore_n (lv' := [(1, .int (iI (0))), (0, .ref (a))]) E.1 E.2.1 dX0_firstFault_6 rfl hl (by decide) rfl (fun ls hl => ?_)
  have LP7 : ∀ (kin7 : Nat) (t q : Nat) (le fi sc : Int) (H : Heap) (u : Int) (ls : Array Slot) (locs : List Loc) (ht : 2 * t ≤ q) (hu : u = (t : Int)) (hq9 : q ≤ len) (hTx : TxR G a tx len q le fi sc H) (hS : FrS a (a + 1) s.heap H) (hfl : pFlt tx len 0 = pFlt tx len q) (hkin7 : len - q = kin7) (hl : lv_has ls 2 [(1, .int (iI (u))), (0, .ref (a))]) (hL : Lk G locs), W p l e ({ frames := 5, cells := 0, slots := 0, locals := 108 } : Room) s m args below meth c H locs 0 0 (QQ G below args s ({ frames := 5, cells := 0, slots := 0, locals := 108 } : Room) (WE (iI (pFlt tx len 0)) (fun H H1 => (∃ p2 le fi sc, TxR G a tx len p2 le fi sc H1) ∧ FrS a (a + 1) H H1))) (F0 m 7 ls []) := by
    intro kin7
    induction kin7 using Nat.strongRecOn with
    | ind kin7 ihin7 =>
      intro t q le fi sc H u ls locs ht hu hq9 hTx hS hfl hkin7 hl hL
      obtain ⟨ho, ha⟩ := hTx
      refine lv_iload_n E.1 E.2.1 dX0_firstFault_7 rfl (lv_at hl 0 rfl) ?_
      refine r_bipush E dX0_firstFault_8 (by decide) ?_
      refine r_icmp_ge (tgt := 54) E dX0_firstFault_10 (by decide) (by omega) (by omega) (fun c10 => absurd c10 (by omega)) (fun c10 => ?_)
      refine lv_aload_n E.1 E.2.1 dX0_firstFault_13 rfl (lv_at hl 1 rfl) ?_
      refine kVWE (As := []) E cw_X0_22 (c_X0_readCommand G l a tx len q le fi sc hT (by omega) hga) ho ⟨_, _, rfl⟩ ⟨ho, ha⟩ hL hl.1 rfl rfl (Nat.le_of_ble_eq_true rfl) ⟨Nat.le_of_ble_eq_true rfl, Nat.le_of_ble_eq_true rfl⟩ ⟨Nat.le_of_ble_eq_true rfl, Nat.le_of_ble_eq_true rfl⟩ dX0_firstFault_14 (fun H2 locs hL hw_ => ?_)
      obtain ⟨⟨le, fi, sc, ⟨ho, ha⟩, hok⟩, hq⟩ := hw_
      have hS := hS.trans hq
      have hpc := pCmd_all hT q
      refine r_bif_eq (tgt := 54) E dX0_firstFault_17 (by decide)  (fun c17 => ?_) (fun c17 => ?_)
      · refine lv_aload_n E.1 E.2.1 dX0_firstFault_54 rfl (lv_at hl 1 rfl) ?_
        refine m_get E ho fw_X0_19 rfl dX0_firstFault_55 ?_
        refine e_iret (rm := ({ frames := 5, cells := 0, slots := 0, locals := 108 } : Room)) (v := iI (((pCmd tx len q).1 : Int))) E hL dX0_firstFault_58 ?_
        refine ⟨by rw [hfl, pFlt, if_pos (Option.not_isSome_iff_eq_none.mp (by rw [c17]; decide))], ⟨_, _, _, _, ho, ha⟩, hS⟩
      · obtain ⟨⟨c_, x_, y_⟩, hcm⟩ := Option.isSome_iff_exists.mp c17
        have hpc2 := hpc.2.2 c_ x_ y_ hcm
        refine lv_aload_n E.1 E.2.1 dX0_firstFault_20 rfl (lv_at hl 1 rfl) ?_
        refine m_get E ho fw_X0_19 rfl dX0_firstFault_21 ?_
        refine lv_aload_n E.1 E.2.1 dX0_firstFault_24 rfl (lv_at hl 1 rfl) ?_
        refine m_get E ho fw_X0_15 rfl dX0_firstFault_25 ?_
        refine r_icmp_lt (tgt := 34) E dX0_firstFault_28 (by decide) (by omega) (by omega) (fun c28 => ?_) (fun c28 => ?_)
        · refine lv_aload_n E.1 E.2.1 dX0_firstFault_34 rfl (lv_at hl 1 rfl) ?_
          refine r_bipush E dX0_firstFault_35 (by decide) ?_
          refine kVWE (As := [.int (iI (59))]) E cw_X0_26 (c_X0_readSign G l a tx len (pCmd tx len q).1 le fi sc hT (59) (by unfold okI; omega) (by omega) hga) ho ⟨_, _, rfl⟩ ⟨ho, ha⟩ hL hl.1 rfl rfl (Nat.le_of_ble_eq_true rfl) ⟨Nat.le_of_ble_eq_true rfl, Nat.le_of_ble_eq_true rfl⟩ ⟨Nat.le_of_ble_eq_true rfl, Nat.le_of_ble_eq_true rfl⟩ dX0_firstFault_37 (fun H3 locs hL hw_ => ?_)
          by_cases hz_ : hr tx len (pCmd tx len q).1 = 59
          · rw [if_pos hz_] at hw_
            rw [decide_eq_true hz_]
            have hb_ := hr_b hT (pCmd tx len q).1
            obtain ⟨⟨ho, ha⟩, hq⟩ := hw_
            have hS := hS.trans hq
            rw [show b2i true = iI 1 from rfl]
            refine r_if_ne (tgt := 48) E dX0_firstFault_40 (by decide) (by omega) (fun c40 => ?_) (fun c40 => absurd c40 (by omega))
            refine r_inc (lv' := [(1, .int (iI (u + 1))), (0, .ref (a))]) E dX0_firstFault_48 hl (k := 0) rfl (by decide) rfl (fun ls hl => ?_)
            refine lv_goto (tgt := 7) E.1 E.2.1 dX0_firstFault_51 (by decide) ?_
            refine ihin7 _ ?_ (t + 1) ((pCmd tx len q).1 + 1) le fi sc H3 (u + 1) ls locs ?_ ?_ ?_ ?_ ?_ ?_ rfl (lv_sub hl [0, 1] rfl) hL
            · omega
            · omega
            · omega
            · omega
            · exact TxR.mk2 ho ha rfl (by omega) rfl rfl rfl
            · exact hS
            · rw [hfl, pFlt, if_neg (by rw [Option.isSome_iff_ne_none] at c17; exact c17), if_neg (by omega), dif_pos ⟨hz_, by omega, by omega⟩]
          · rw [if_neg hz_] at hw_
            rw [decide_eq_false hz_]
            obtain ⟨⟨ho, ha⟩, hq⟩ := hw_
            have hS := hS.trans hq
            rw [show b2i false = iI 0 from rfl]
            refine r_if_ne (tgt := 48) E dX0_firstFault_40 (by decide) (by omega) (fun c40 => absurd c40 (by omega)) (fun c40 => ?_)
            refine lv_aload_n E.1 E.2.1 dX0_firstFault_43 rfl (lv_at hl 1 rfl) ?_
            refine m_get E ho fw_X0_19 rfl dX0_firstFault_44 ?_
            refine e_iret (rm := ({ frames := 5, cells := 0, slots := 0, locals := 108 } : Room)) (v := iI (((pCmd tx len q).1 : Int))) E hL dX0_firstFault_47 ?_
            refine ⟨by rw [hfl, pFlt, if_neg (by rw [Option.isSome_iff_ne_none] at c17; exact c17), if_neg (by omega), dif_neg (fun g => hz_ g.1)], ⟨_, _, _, _, ho, ha⟩, hS⟩
        · refine r_bipush E dX0_firstFault_31 (by decide) ?_
          refine e_iret (rm := ({ frames := 5, cells := 0, slots := 0, locals := 108 } : Room)) (v := iI ((-6))) E hL dX0_firstFault_33 ?_
          refine ⟨by rw [hfl, pFlt, if_neg (by rw [Option.isSome_iff_ne_none] at c17; exact c17), if_pos (by omega)], ⟨_, _, _, _, ho, ha⟩, hS⟩
  refine LP7 _ 0 0 le fi sc H1 0 ls locs ?_ ?_ ?_ ?_ ?_ ?_ rfl (lv_sub hl [0, 1] rfl) hL
  · omega
  · rfl
  · omega
  · exact TxR.mk2 ho ha rfl rfl rfl rfl rfl
  · exact hS
  · rfl

set_option maxHeartbeats 4000000 in
set_option maxRecDepth 100000 in
theorem c_X0_addSign (G : GG) (l : Launch) (a : Nat) (tx : Nat → Int) (len p1 : Nat) (le fi sc : Int) (hT : TxOk tx len) (z : Int) (hz : 32 ≤ z ∧ z ≤ 126) (hga : G.2.2 ≤ a) : Ct G l yX0_addSign cX0_addSign 2 (some .boolean) ({ frames := 0, cells := 0, slots := 0, locals := 0 } : Room) [.ref (a), .int (iI (z))] (fun H => TxR G a tx len p1 le fi sc H) (WE (b2i (decide (len < 80))) (fun H H1 => (if len < 80 then TxR G a (va_up tx len z) (len + 1) p1 le fi sc H1 else TxR G a tx len p1 le fi sc H1) ∧ FrS a (a + 2) H H1)) := by
  refine Ct.of (by decide +kernel) (Nat.le_of_ble_eq_true rfl) ?_
  intro p e s m args below meth c ls E hnm hP hl
  obtain ⟨ho, ha⟩ := hP
  have hl80 := hT.1
  obtain ⟨hz1, hz2⟩ := hz
  have hS : FrS a (a + 2) s.heap s.heap := FrS.rf
  have hl : lv_has ls 2 [(0, .ref (a)), (1, .int (iI (z)))] := hl
  have hL : Lk G [] := Lk.nil
  generalize ([] : List Loc) = locs at hL ⊢
  refine lv_aload_n E.1 E.2.1 dX0_addSign_0 rfl (lv_at hl 0 rfl) ?_
  refine m_get E ho fw_X0_15 rfl dX0_addSign_1 ?_
  refine r_if_lt (tgt := 16) E dX0_addSign_4 (by decide) (by omega) (fun c4 => absurd c4 (by omega)) (fun c4 => ?_)
  refine lv_aload_n E.1 E.2.1 dX0_addSign_7 rfl (lv_at hl 0 rfl) ?_
  refine m_get E ho fw_X0_15 rfl dX0_addSign_8 ?_
  refine r_bipush E dX0_addSign_11 (by decide) ?_
  refine r_icmp_lt (tgt := 18) E dX0_addSign_13 (by decide) (by omega) (by omega) (fun c13 => ?_) (fun c13 => ?_)
  · refine lv_aload_n E.1 E.2.1 dX0_addSign_18 rfl (lv_at hl 0 rfl) ?_
    refine m_get E ho fw_X0_9 rfl dX0_addSign_19 ?_
    refine lv_aload_n E.1 E.2.1 dX0_addSign_22 rfl (lv_at hl 0 rfl) ?_
    refine m_get E ho fw_X0_15 rfl dX0_addSign_23 ?_
    refine lv_iload_n E.1 E.2.1 dX0_addSign_26 rfl (lv_at hl 1 rfl) ?_
    refine m_cast E ha (iI_in rfl (by omega) (by decide)) hL (by omega) dX0_addSign_27 (fun H1 locs hL hO_ hF_ => ?_)
    rw [iI_clamp rfl (by omega), nar_char (by omega) (by omega)] at hO_
    have ho := ho.kept (hF_.2 _ (by omega))
    have hS := hS.trans (FrS.of1 (lo := a) (hi := a + 2) hF_ (by omega) (by omega))
    have ha : Ia G (a + 1) 2 80 (upd (fun k => iI (tx k)) (len) (iI (z))) H1 := hO_
    clear hO_
    refine lv_aload_n E.1 E.2.1 dX0_addSign_28 rfl (lv_at hl 0 rfl) ?_
    refine lv_dup E.1 E.2.1 dX0_addSign_29 rfl ?_
    refine m_get E ho fw_X0_15 rfl dX0_addSign_30 ?_
    refine r_const E dX0_addSign_33 ?_
    refine r_add E dX0_addSign_34 ?_
    refine m_put E ho fw_X0_15 fp_X0_1 rfl rfl (Nat.le_of_ble_eq_true rfl) hL (by omega) dX0_addSign_35 (fun H2 locs hL hO_ hF_ => ?_)
    have ha := ha.kept (hF_.2 _ (by omega))
    have hS := hS.trans (FrS.of1 (lo := a) (hi := a + 2) hF_ (by omega) (by omega))
    have ho : Ob G (a) 0 [.ref (a + 1), .int (iI ((len : Int) + 1)), .int (iI ((p1 : Int))), .int (iI (le)), .int (iI (fi)), .int (iI (sc))] H2 := hO_
    clear hO_
    refine r_const E dX0_addSign_38 ?_
    refine e_zret (rm := ({ frames := 0, cells := 0, slots := 0, locals := 0 } : Room)) (v := iI (1)) E hL rfl dX0_addSign_39 ?_
    refine ⟨by rw [decide_eq_true (by omega)]; rfl, ?_, hS⟩
    rw [if_pos (by omega)]
    exact TxR.mk2 ho (ha.to (fun j _ => by by_cases hj : j = len <;> simp [upd, va_up, hj])) (by omega) rfl rfl rfl rfl
  · refine r_const E dX0_addSign_16 ?_
    refine e_zret (rm := ({ frames := 0, cells := 0, slots := 0, locals := 0 } : Room)) (v := iI (0)) E hL rfl dX0_addSign_17 ?_
    refine ⟨by rw [decide_eq_false (by omega)]; rfl, ?_, hS⟩
    rw [if_neg (by omega)]
    exact ⟨ho, ha⟩

set_option maxHeartbeats 4000000 in
set_option maxRecDepth 100000 in
theorem c_X0_init (G : GG) (l : Launch) (a : Nat) (hga : G.2.2 ≤ a) : Ct G l yX0_init cX0_init 1 none ({ frames := 1, cells := 1, slots := 80, locals := 24 } : Room) [.ref (a)] (fun H => Ob G a 0 [.null, .int 0, .int 0, .int 0, .int 0, .int 0] H ∧ H.size = a + 1) (WV (fun H H1 => TxR G a (fun _ => 0) 0 0 0 0 0 H1 ∧ H1.size = a + 2 ∧ ∀ q, q < a → H1[q]? = H[q]?)) := by
  refine Ct.of (by decide +kernel) (Nat.le_of_ble_eq_true rfl) ?_
  intro p e s m args below meth c ls E hnm hP hl
  obtain ⟨ho, hsz⟩ := hP
  have hfr : ∀ q, q < a → s.heap[q]? = s.heap[q]? := fun _ _ => rfl
  have hl : lv_has ls 1 [(0, .ref (a))] := hl
  have hL : Lk G [] := Lk.nil
  generalize ([] : List Loc) = locs at hL ⊢
  refine lv_aload_n E.1 E.2.1 dX0_init_0 rfl (lv_at hl 0 rfl) ?_
  refine m_objinit E oi_X0 hl.1 (Nat.le_of_ble_eq_true rfl) (Nat.le_of_ble_eq_true rfl) dX0_init_1 ?_
  refine lv_aload_n E.1 E.2.1 dX0_init_4 rfl (lv_at hl 0 rfl) ?_
  refine r_bipush E dX0_init_5 (by decide) ?_
  refine m_newi (atype := .char) (t := 2) (N := 80) E ac_char rfl rfl (fun _ _ => rfl) (by decide) (by decide) (by decide) (Nat.le_of_ble_eq_true rfl) (Nat.le_of_ble_eq_true rfl) dX0_init_7 (fun H1 hn2 hPu_ => ?_)
  rw [hsz] at hn2
  rw [hsz]
  have ho := ho.kept (hPu_.2 _ (by omega))
  have hfr : ∀ q, q < a → H1[q]? = s.heap[q]? := fun q hq => (hPu_.2 q (by omega)).trans (hfr q hq)
  have hsz : H1.size = a + 2 := by rw [hPu_.1]; omega
  refine m_putF E hnm ho fw_X0_9 fp_X0_0 rfl rfl (Nat.le_of_ble_eq_true rfl) hL (by omega) ⟨_, _, rfl⟩ dX0_init_9 (fun H3 locs hL hO_ hF_ => ?_)
  have hn2 := hn2.kept (hF_.2 _ (by omega))
  have hsz : H3.size = a + 2 := hF_.1.trans hsz
  have hfr : ∀ q, q < a → H3[q]? = s.heap[q]? := fun q hq => (hF_.2 q (by omega)).trans (hfr q hq)
  have ho : Ob G (a) 0 [.ref (a + 1), .int (0), .int (0), .int (0), .int (0), .int (0)] H3 := hO_
  clear hO_
  refine e_vret (rm := ({ frames := 1, cells := 1, slots := 80, locals := 24 } : Room)) E hL dX0_init_12 ⟨rfl, ?_⟩
  exact ⟨⟨ho, hn2⟩, by omega, hfr⟩
