set_option maxHeartbeats 4000000 in
set_option maxRecDepth 100000 in
theorem c_X0_signAt (G : GG) (l : Launch) (a : Nat) (tx : Nat → Int) (len p1 : Nat) (le fi sc : Int) (hT : TxOk tx len) (hp : p1 ≤ 100) : Ct G l yX0_signAt cX0_signAt 1 (some .int) ({ frames := 0, cells := 0, slots := 0, locals := 0 } : Room) [.ref (a)] (fun H => TxR G a tx len p1 le fi sc H) (RE (iI (hr tx len p1))) := by
  refine Ct.of (by decide +kernel) (Nat.le_of_ble_eq_true rfl) ?_
  intro p e s m args below meth c ls E hnm hP hl
  obtain ⟨ho, ha⟩ := hP
  have hl80 := hT.1
  have hl : lv_has ls 1 [(0, .ref (a))] := hl
  have hL : Lk G [] := Lk.nil
  generalize ([] : List Loc) = locs at hL ⊢
  refine lv_aload_n E.1 E.2.1 dX0_signAt_0 rfl (lv_at hl 0 rfl) ?_
  refine m_get E ho fw_X0_19 rfl dX0_signAt_1 ?_
  refine r_if_lt (tgt := 39) E dX0_signAt_4 (by decide) (by omega) (fun c4 => absurd c4 (by omega)) (fun c4 => ?_)
  refine lv_aload_n E.1 E.2.1 dX0_signAt_7 rfl (lv_at hl 0 rfl) ?_
  refine m_get E ho fw_X0_19 rfl dX0_signAt_8 ?_
  refine lv_aload_n E.1 E.2.1 dX0_signAt_11 rfl (lv_at hl 0 rfl) ?_
  refine m_get E ho fw_X0_15 rfl dX0_signAt_12 ?_
  refine r_icmp_ge (tgt := 39) E dX0_signAt_15 (by decide) (by omega) (by omega) (fun c15 => ?_) (fun c15 => ?_)
  · refine r_bipush E dX0_signAt_39 (by decide) ?_
    refine e_iret (rm := ({ frames := 0, cells := 0, slots := 0, locals := 0 } : Room)) (v := iI ((-6))) E hL dX0_signAt_41 ?_
    exact RE_i (by unfold hr; rw [if_neg (by omega)])
  · refine lv_aload_n E.1 E.2.1 dX0_signAt_18 rfl (lv_at hl 0 rfl) ?_
    refine m_get E ho fw_X0_19 rfl dX0_signAt_19 ?_
    refine r_bipush E dX0_signAt_22 (by decide) ?_
    refine r_icmp_ge (tgt := 39) E dX0_signAt_24 (by decide) (by omega) (by omega) (fun c24 => absurd c24 (by omega)) (fun c24 => ?_)
    refine lv_aload_n E.1 E.2.1 dX0_signAt_27 rfl (lv_at hl 0 rfl) ?_
    refine m_get E ho fw_X0_9 rfl dX0_signAt_28 ?_
    refine lv_aload_n E.1 E.2.1 dX0_signAt_31 rfl (lv_at hl 0 rfl) ?_
    refine m_get E ho fw_X0_19 rfl dX0_signAt_32 ?_
    refine r_cald E ha (p1) rfl (by omega) (by decide) dX0_signAt_35 ?_
    refine lv_goto (tgt := 41) E.1 E.2.1 dX0_signAt_36 (by decide) ?_
    refine e_iret (rm := ({ frames := 0, cells := 0, slots := 0, locals := 0 } : Room)) (v := iI (tx (p1))) E hL dX0_signAt_41 ?_
    exact RE_i (by unfold hr; rw [if_pos (by omega)])

set_option maxHeartbeats 4000000 in
set_option maxRecDepth 100000 in
theorem c_X0_digitAt (G : GG) (l : Launch) (a : Nat) (tx : Nat → Int) (len p1 : Nat) (le fi sc : Int) (hT : TxOk tx len) (hp : p1 ≤ 100) : Ct G l yX0_digitAt cX0_digitAt 2 (some .int) ({ frames := 1, cells := 0, slots := 0, locals := 20 } : Room) [.ref (a)] (fun H => TxR G a tx len p1 le fi sc H) (RE (iI (dgt tx len p1))) := by
  refine Ct.of (by decide +kernel) (Nat.le_of_ble_eq_true rfl) ?_
  intro p e s m args below meth c ls E hnm hP hl
  obtain ⟨ho, ha⟩ := hP
  have hl80 := hT.1
  have hl : lv_has ls 2 [(0, .ref (a))] := hl
  have hL : Lk G [] := Lk.nil
  generalize ([] : List Loc) = locs at hL ⊢
  refine lv_aload_n E.1 E.2.1 dX0_digitAt_0 rfl (lv_at hl 0 rfl) ?_
  refine kVRE (As := []) E cw_X0_30 (c_X0_signAt G l a tx len p1 le fi sc hT (by omega)) ho ⟨_, _, rfl⟩ ⟨ho, ha⟩ hL hl.1 rfl rfl (Nat.le_of_ble_eq_true rfl) ⟨Nat.le_of_ble_eq_true rfl, Nat.le_of_ble_eq_true rfl⟩ ⟨rfl, rfl⟩ ⟨Nat.le_of_ble_eq_true rfl, Nat.le_of_ble_eq_true rfl⟩ dX0_digitAt_1 (fun locs hL => ?_)
  have hb_ := hr_b hT p1
  refine lv_istore_n (lv' := [(1, .int (iI (hr tx len p1))), (0, .ref (a))]) E.1 E.2.1 dX0_digitAt_4 rfl hl (by decide) rfl (fun ls hl => ?_)
  refine lv_iload_n E.1 E.2.1 dX0_digitAt_5 rfl (lv_at hl 0 rfl) ?_
  refine r_bipush E dX0_digitAt_6 (by decide) ?_
  refine r_icmp_lt (tgt := 24) E dX0_digitAt_8 (by decide) (by omega) (by omega) (fun c8 => ?_) (fun c8 => ?_)
  · refine r_bipush E dX0_digitAt_24 (by decide) ?_
    refine e_iret (rm := ({ frames := 1, cells := 0, slots := 0, locals := 20 } : Room)) (v := iI ((-6))) E hL dX0_digitAt_26 ?_
    exact RE_i (by unfold dgt; rw [if_neg (by omega)])
  · refine lv_iload_n E.1 E.2.1 dX0_digitAt_11 rfl (lv_at hl 0 rfl) ?_
    refine r_bipush E dX0_digitAt_12 (by decide) ?_
    refine r_icmp_gt (tgt := 24) E dX0_digitAt_14 (by decide) (by omega) (by omega) (fun c14 => ?_) (fun c14 => ?_)
    · refine r_bipush E dX0_digitAt_24 (by decide) ?_
      refine e_iret (rm := ({ frames := 1, cells := 0, slots := 0, locals := 20 } : Room)) (v := iI ((-6))) E hL dX0_digitAt_26 ?_
      exact RE_i (by unfold dgt; rw [if_neg (by omega)])
    · refine lv_iload_n E.1 E.2.1 dX0_digitAt_17 rfl (lv_at hl 0 rfl) ?_
      refine r_bipush E dX0_digitAt_18 (by decide) ?_
      refine r_sub E dX0_digitAt_20 ?_
      refine lv_goto (tgt := 26) E.1 E.2.1 dX0_digitAt_21 (by decide) ?_
      refine e_iret (rm := ({ frames := 1, cells := 0, slots := 0, locals := 20 } : Room)) (v := iI ((hr tx len p1) - 48)) E hL dX0_digitAt_26 ?_
      exact RE_i (by unfold dgt; rw [if_pos (by omega)])

set_option maxHeartbeats 4000000 in
set_option maxRecDepth 100000 in
theorem c_X0_readSign (G : GG) (l : Launch) (a : Nat) (tx : Nat → Int) (len p1 : Nat) (le fi sc : Int) (hT : TxOk tx len) (z : Int) (hz : okI z) (hp : p1 ≤ 100) (hga : G.2.2 ≤ a) : Ct G l yX0_readSign cX0_readSign 2 (some .boolean) ({ frames := 1, cells := 0, slots := 0, locals := 20 } : Room) [.ref (a), .int (iI (z))] (fun H => TxR G a tx len p1 le fi sc H) (WE (b2i (decide (hr tx len p1 = z))) (fun H H1 => TxR G a tx len (if hr tx len p1 = z then p1 + 1 else p1) le fi sc H1 ∧ FrS a (a + 1) H H1)) := by
  refine Ct.of (by decide +kernel) (Nat.le_of_ble_eq_true rfl) ?_
  intro p e s m args below meth c ls E hnm hP hl
  obtain ⟨ho, ha⟩ := hP
  have hl80 := hT.1
  obtain ⟨hz1, hz2⟩ := hz
  have hS : FrS a (a + 1) s.heap s.heap := FrS.rf
  have hl : lv_has ls 2 [(0, .ref (a)), (1, .int (iI (z)))] := hl
  have hL : Lk G [] := Lk.nil
  generalize ([] : List Loc) = locs at hL ⊢
  refine lv_aload_n E.1 E.2.1 dX0_readSign_0 rfl (lv_at hl 0 rfl) ?_
  refine kVRE (As := []) E cw_X0_30 (c_X0_signAt G l a tx len p1 le fi sc hT (by omega)) ho ⟨_, _, rfl⟩ ⟨ho, ha⟩ hL hl.1 rfl rfl (Nat.le_of_ble_eq_true rfl) ⟨Nat.le_of_ble_eq_true rfl, Nat.le_of_ble_eq_true rfl⟩ ⟨rfl, rfl⟩ ⟨Nat.le_of_ble_eq_true rfl, Nat.le_of_ble_eq_true rfl⟩ dX0_readSign_1 (fun locs hL => ?_)
  have hb_ := hr_b hT p1
  refine lv_iload_n E.1 E.2.1 dX0_readSign_4 rfl (lv_at hl 1 rfl) ?_
  refine r_icmp_eq (tgt := 10) E dX0_readSign_5 (by decide) (by omega) (by omega) (fun c5 => ?_) (fun c5 => ?_)
  · refine lv_aload_n E.1 E.2.1 dX0_readSign_10 rfl (lv_at hl 0 rfl) ?_
    refine lv_dup E.1 E.2.1 dX0_readSign_11 rfl ?_
    refine m_get E ho fw_X0_19 rfl dX0_readSign_12 ?_
    refine r_const E dX0_readSign_15 ?_
    refine r_add E dX0_readSign_16 ?_
    refine m_put E ho fw_X0_19 fp_X0_2 rfl rfl (Nat.le_of_ble_eq_true rfl) hL (by omega) dX0_readSign_17 (fun H1 locs hL hO_ hF_ => ?_)
    have ha := ha.kept (hF_.2 _ (by omega))
    have hS := hS.trans (FrS.of1 (lo := a) (hi := a + 1) hF_ (by omega) (by omega))
    have ho : Ob G (a) 0 [.ref (a + 1), .int (iI ((len : Int))), .int (iI ((p1 : Int) + 1)), .int (iI (le)), .int (iI (fi)), .int (iI (sc))] H1 := hO_
    clear hO_
    refine r_const E dX0_readSign_20 ?_
    refine e_zret (rm := ({ frames := 1, cells := 0, slots := 0, locals := 20 } : Room)) (v := iI (1)) E hL rfl dX0_readSign_21 ?_
    refine ⟨by rw [decide_eq_true (by omega)]; rfl, ?_, hS⟩
    rw [if_pos (by omega)]
    exact TxR.mk2 ho ha rfl (by omega) rfl rfl rfl
  · refine r_const E dX0_readSign_8 ?_
    refine e_zret (rm := ({ frames := 1, cells := 0, slots := 0, locals := 20 } : Room)) (v := iI (0)) E hL rfl dX0_readSign_9 ?_
    refine ⟨by rw [decide_eq_false (by omega)]; rfl, ?_, hS⟩
    rw [if_neg (by omega)]
    exact ⟨ho, ha⟩

set_option maxHeartbeats 4000000 in
set_option maxRecDepth 100000 in
theorem c_X0_readNumber (G : GG) (l : Launch) (a : Nat) (tx : Nat → Int) (len p1 : Nat) (le fi sc : Int) (hT : TxOk tx len) (lo mo : Nat) (hmo : mo ≤ 239) (hlo : lo ≤ 100) (hp : p1 ≤ 90) (hga : G.2.2 ≤ a) : Ct G l yX0_readNumber cX0_readNumber 6 (some .int) ({ frames := 2, cells := 0, slots := 0, locals := 41 } : Room) [.ref (a), .int (iI ((lo : Int))), .int (iI ((mo : Int)))] (fun H => TxR G a tx len p1 le fi sc H) (WE (iI (oI (pNum tx len p1 lo mo).2)) (fun H H1 => TxR G a tx len (pNum tx len p1 lo mo).1 le fi sc H1 ∧ FrS a (a + 1) H H1)) := by
  refine Ct.of (by decide +kernel) (Nat.le_of_ble_eq_true rfl) ?_
  intro p e s m args below meth c ls E hnm hP hl
  obtain ⟨ho, ha⟩ := hP
  have hl80 := hT.1
  have hS : FrS a (a + 1) s.heap s.heap := FrS.rf
  have hl : lv_has ls 6 [(0, .ref (a)), (1, .int (iI ((lo : Int)))), (2, .int (iI ((mo : Int))))] := hl
  have hL : Lk G [] := Lk.nil
  generalize ([] : List Loc) = locs at hL ⊢
  refine lv_aload_n E.1 E.2.1 dX0_readNumber_0 rfl (lv_at hl 0 rfl) ?_
  refine kVRE (As := []) E cw_X0_55 (c_X0_digitAt G l a tx len p1 le fi sc hT (by omega)) ho ⟨_, _, rfl⟩ ⟨ho, ha⟩ hL hl.1 rfl rfl (Nat.le_of_ble_eq_true rfl) ⟨Nat.le_of_ble_eq_true rfl, Nat.le_of_ble_eq_true rfl⟩ ⟨rfl, rfl⟩ ⟨Nat.le_of_ble_eq_true rfl, Nat.le_of_ble_eq_true rfl⟩ dX0_readNumber_1 (fun locs hL => ?_)
  have hb_ := hr_b hT p1
  have hd_ := dgt_or tx len p1
  refine lv_istore_n (lv' := [(3, .int (iI (dgt tx len p1))), (0, .ref (a)), (1, .int (iI ((lo : Int)))), (2, .int (iI ((mo : Int))))]) E.1 E.2.1 dX0_readNumber_4 rfl hl (by decide) rfl (fun ls hl => ?_)
  refine lv_iload_n E.1 E.2.1 dX0_readNumber_5 rfl (lv_at hl 0 rfl) ?_
  refine lv_iload_n E.1 E.2.1 dX0_readNumber_6 rfl (lv_at hl 2 rfl) ?_
  refine r_icmp_lt (tgt := 15) E dX0_readNumber_7 (by decide) (by omega) (by omega) (fun c7 => ?_) (fun c7 => ?_)
  · refine r_bipush E dX0_readNumber_15 (by decide) ?_
    refine e_iret (rm := ({ frames := 2, cells := 0, slots := 0, locals := 41 } : Room)) (v := iI ((-6))) E hL dX0_readNumber_17 ?_
    have hpn : pNum tx len p1 lo mo = (p1, none) := pNum_none (by omega)
    rw [hpn]
    exact ⟨rfl, ⟨ho, ha⟩, hS⟩
  · refine lv_iload_n E.1 E.2.1 dX0_readNumber_10 rfl (lv_at hl 0 rfl) ?_
    refine lv_iload_n E.1 E.2.1 dX0_readNumber_11 rfl (lv_at hl 3 rfl) ?_
    refine r_icmp_le (tgt := 18) E dX0_readNumber_12 (by decide) (by omega) (by omega) (fun c12 => ?_) (fun c12 => ?_)
    · obtain ⟨dd, hdd⟩ : ∃ n : Nat, (n : Int) = dgt tx len p1 := ⟨(dgt tx len p1).toNat, by omega⟩
      refine lv_aload_n E.1 E.2.1 dX0_readNumber_18 rfl (lv_at hl 1 rfl) ?_
      refine lv_dup E.1 E.2.1 dX0_readNumber_19 rfl ?_
      refine m_get E ho fw_X0_19 rfl dX0_readNumber_20 ?_
      refine r_const E dX0_readNumber_23 ?_
      refine r_add E dX0_readNumber_24 ?_
      refine m_put E ho fw_X0_19 fp_X0_2 rfl rfl (Nat.le_of_ble_eq_true rfl) hL (by omega) dX0_readNumber_25 (fun H1 locs hL hO_ hF_ => ?_)
      have ha := ha.kept (hF_.2 _ (by omega))
      have hS := hS.trans (FrS.of1 (lo := a) (hi := a + 1) hF_ (by omega) (by omega))
      have ho : Ob G (a) 0 [.ref (a + 1), .int (iI ((len : Int))), .int (iI ((p1 : Int) + 1)), .int (iI (le)), .int (iI (fi)), .int (iI (sc))] H1 := hO_
      clear hO_
      refine r_const E dX0_readNumber_28 ?_
      refine lv_istore (lv' := [(4, .int (iI (0))), (3, .int (iI (dgt tx len p1))), (0, .ref (a)), (1, .int (iI ((lo : Int)))), (2, .int (iI ((mo : Int))))]) E.1 E.2.1 dX0_readNumber_29 hl (by decide) rfl (fun ls hl => ?_)
      have LP31 : ∀ (kin31 : Nat) (t v q : Nat) (H : Heap) (u x : Int) (ls : Array Slot) (locs : List Loc) (htv : t = 0 ∨ (t = 1 ∧ 10 ≤ v) ∨ (t = 2 ∧ 100 ≤ v)) (hv : v ≤ mo) (hu : u = (t : Int)) (hq9 : q ≤ 96 + t) (hTx : TxR G a tx len q le fi sc H) (hS : FrS a (a + 1) s.heap H) (hpl : pLoop tx len mo dd (p1 + 1) = pLoop tx len mo v q) (hx : x = (v : Int)) (hkin31 : mo - v = kin31) (hl : lv_has ls 6 [(4, .int (iI (u))), (3, .int (iI (x))), (0, .ref (a)), (1, .int (iI ((lo : Int)))), (2, .int (iI ((mo : Int))))]) (hL : Lk G locs), W p l e ({ frames := 2, cells := 0, slots := 0, locals := 41 } : Room) s m args below meth c H locs 0 0 (QQ G below args s ({ frames := 2, cells := 0, slots := 0, locals := 41 } : Room) (WE (iI (oI (pNum tx len p1 lo mo).2)) (fun H H1 => TxR G a tx len (pNum tx len p1 lo mo).1 le fi sc H1 ∧ FrS a (a + 1) H H1))) (F0 m 31 ls []) := by
        intro kin31
        induction kin31 using Nat.strongRecOn with
        | ind kin31 ihin31 =>
          intro t v q H u x ls locs htv hv hu hq9 hTx hS hpl hx hkin31 hl hL
          obtain ⟨ho, ha⟩ := hTx
          refine lv_iload E.1 E.2.1 dX0_readNumber_31 (lv_at hl 0 rfl) ?_
          refine r_bipush E dX0_readNumber_33 (by decide) ?_
          refine r_icmp_ge (tgt := 90) E dX0_readNumber_35 (by decide) (by omega) (by omega) (fun c35 => absurd c35 (by omega)) (fun c35 => ?_)
          refine lv_iload_n E.1 E.2.1 dX0_readNumber_38 rfl (lv_at hl 1 rfl) ?_
          refine r_if_le (tgt := 90) E dX0_readNumber_39 (by decide) (by omega) (fun c39 => ?_) (fun c39 => ?_)
          · refine lv_iload_n E.1 E.2.1 dX0_readNumber_90 rfl (lv_at hl 1 rfl) ?_
            refine e_iret (rm := ({ frames := 2, cells := 0, slots := 0, locals := 41 } : Room)) (v := iI (x)) E hL dX0_readNumber_91 ?_
            have hpn : pNum tx len p1 lo mo = (q, some v) := pNum_some (d := dd) (by omega) (by omega) (by omega) (by omega) (by rw [hpl, pLoop_no (by omega)])
            rw [hpn]
            exact ⟨by rw [hx]; rfl, ⟨ho, ha⟩, hS⟩
          · refine lv_aload_n E.1 E.2.1 dX0_readNumber_42 rfl (lv_at hl 2 rfl) ?_
            refine kVRE (As := []) E cw_X0_55 (c_X0_digitAt G l a tx len q le fi sc hT (by omega)) ho ⟨_, _, rfl⟩ ⟨ho, ha⟩ hL hl.1 rfl rfl (Nat.le_of_ble_eq_true rfl) ⟨Nat.le_of_ble_eq_true rfl, Nat.le_of_ble_eq_true rfl⟩ ⟨rfl, rfl⟩ ⟨Nat.le_of_ble_eq_true rfl, Nat.le_of_ble_eq_true rfl⟩ dX0_readNumber_43 (fun locs hL => ?_)
            have hb_ := hr_b hT q
            have hd_ := dgt_or tx len q
            refine lv_istore (lv' := [(5, .int (iI (dgt tx len q))), (4, .int (iI (u))), (3, .int (iI (x))), (0, .ref (a)), (1, .int (iI ((lo : Int)))), (2, .int (iI ((mo : Int))))]) E.1 E.2.1 dX0_readNumber_46 hl (by decide) rfl (fun ls hl => ?_)
            refine lv_iload E.1 E.2.1 dX0_readNumber_48 (lv_at hl 0 rfl) ?_
            refine r_if_lt (tgt := 64) E dX0_readNumber_50 (by decide) (by omega) (fun c50 => ?_) (fun c50 => ?_)
            · refine lv_iload_n E.1 E.2.1 dX0_readNumber_64 rfl (lv_at hl 2 rfl) ?_
              refine e_iret (rm := ({ frames := 2, cells := 0, slots := 0, locals := 41 } : Room)) (v := iI (x)) E hL dX0_readNumber_65 ?_
              have hpn : pNum tx len p1 lo mo = (q, some v) := pNum_some (d := dd) (by omega) (by omega) (by omega) (by omega) (by rw [hpl, pLoop_no (by omega)])
              rw [hpn]
              exact ⟨by rw [hx]; rfl, ⟨ho, ha⟩, hS⟩
            · refine lv_iload_n E.1 E.2.1 dX0_readNumber_53 rfl (lv_at hl 2 rfl) ?_
              refine r_bipush E dX0_readNumber_54 (by decide) ?_
              refine r_mul E dX0_readNumber_56 ?_
              refine lv_iload E.1 E.2.1 dX0_readNumber_57 (lv_at hl 0 rfl) ?_
              refine r_add E dX0_readNumber_59 ?_
              refine lv_iload_n E.1 E.2.1 dX0_readNumber_60 rfl (lv_at hl 5 rfl) ?_
              refine r_icmp_le (tgt := 66) E dX0_readNumber_61 (by decide) (by omega) (by omega) (fun c61 => ?_) (fun c61 => ?_)
              · obtain ⟨d2, hd2⟩ : ∃ n : Nat, (n : Int) = dgt tx len q := ⟨(dgt tx len q).toNat, by omega⟩
                refine lv_iload_n E.1 E.2.1 dX0_readNumber_66 rfl (lv_at hl 2 rfl) ?_
                refine r_bipush E dX0_readNumber_67 (by decide) ?_
                refine r_mul E dX0_readNumber_69 ?_
                refine lv_iload E.1 E.2.1 dX0_readNumber_70 (lv_at hl 0 rfl) ?_
                refine r_add E dX0_readNumber_72 ?_
                refine lv_istore_n (lv' := [(3, .int (iI ((x * 10) + (dgt tx len q)))), (5, .int (iI (dgt tx len q))), (4, .int (iI (u))), (0, .ref (a)), (1, .int (iI ((lo : Int)))), (2, .int (iI ((mo : Int))))]) E.1 E.2.1 dX0_readNumber_73 rfl hl (by decide) rfl (fun ls hl => ?_)
                refine lv_aload_n E.1 E.2.1 dX0_readNumber_74 rfl (lv_at hl 3 rfl) ?_
                refine lv_dup E.1 E.2.1 dX0_readNumber_75 rfl ?_
                refine m_get E ho fw_X0_19 rfl dX0_readNumber_76 ?_
                refine r_const E dX0_readNumber_79 ?_
                refine r_add E dX0_readNumber_80 ?_
                refine m_put E ho fw_X0_19 fp_X0_2 rfl rfl (Nat.le_of_ble_eq_true rfl) hL (by omega) dX0_readNumber_81 (fun H2 locs hL hO_ hF_ => ?_)
                have ha := ha.kept (hF_.2 _ (by omega))
                have hS := hS.trans (FrS.of1 (lo := a) (hi := a + 1) hF_ (by omega) (by omega))
                have ho : Ob G (a) 0 [.ref (a + 1), .int (iI ((len : Int))), .int (iI ((q : Int) + 1)), .int (iI (le)), .int (iI (fi)), .int (iI (sc))] H2 := hO_
                clear hO_
                refine r_inc (lv' := [(4, .int (iI (u + 1))), (3, .int (iI ((x * 10) + (dgt tx len q)))), (5, .int (iI (dgt tx len q))), (0, .ref (a)), (1, .int (iI ((lo : Int)))), (2, .int (iI ((mo : Int))))]) E dX0_readNumber_84 hl (k := 2) rfl (by decide) rfl (fun ls hl => ?_)
                refine lv_goto (tgt := 31) E.1 E.2.1 dX0_readNumber_87 (by decide) ?_
                refine ihin31 _ ?_ (t + 1) (10 * v + d2) (q + 1) H2 (u + 1) ((x * 10) + (dgt tx len q)) ls locs ?_ ?_ ?_ ?_ ?_ ?_ ?_ ?_ rfl (lv_sub hl [0, 1, 3, 4, 5] rfl) hL
                · omega
                · omega
                · omega
                · omega
                · omega
                · exact TxR.mk2 ho ha rfl (by omega) rfl rfl rfl
                · exact hS
                · rw [hpl, pLoop_yes (d := d2) (by omega) (by omega) (by omega) (by omega)]
                · omega
              · refine lv_iload_n E.1 E.2.1 dX0_readNumber_64 rfl (lv_at hl 2 rfl) ?_
                refine e_iret (rm := ({ frames := 2, cells := 0, slots := 0, locals := 41 } : Room)) (v := iI (x)) E hL dX0_readNumber_65 ?_
                have hpn : pNum tx len p1 lo mo = (q, some v) := pNum_some (d := dd) (by omega) (by omega) (by omega) (by omega) (by rw [hpl, pLoop_no (by omega)])
                rw [hpn]
                exact ⟨by rw [hx]; rfl, ⟨ho, ha⟩, hS⟩
      refine LP31 _ 0 dd (p1 + 1) H1 0 (dgt tx len p1) ls locs ?_ ?_ ?_ ?_ ?_ ?_ ?_ ?_ rfl (lv_sub hl [0, 1, 2, 3, 4] rfl) hL
      · omega
      · omega
      · rfl
      · omega
      · exact TxR.mk2 ho ha rfl (by omega) rfl rfl rfl
      · exact hS
      · rfl
      · omega
    · refine r_bipush E dX0_readNumber_15 (by decide) ?_
      refine e_iret (rm := ({ frames := 2, cells := 0, slots := 0, locals := 41 } : Room)) (v := iI ((-6))) E hL dX0_readNumber_17 ?_
      have hpn : pNum tx len p1 lo mo = (p1, none) := pNum_none (by omega)
      rw [hpn]
      exact ⟨rfl, ⟨ho, ha⟩, hS⟩

set_option maxHeartbeats 4000000 in
set_option maxRecDepth 100000 in
theorem c_X0_readFirst (G : GG) (l : Launch) (a : Nat) (tx : Nat → Int) (len p1 : Nat) (le fi sc : Int) (hT : TxOk tx len) (mo : Nat) (hmo : mo ≤ 239) (hp : p1 ≤ 90) (hga : G.2.2 ≤ a) : Ct G l yX0_readFirst cX0_readFirst 2 (some .boolean) ({ frames := 3, cells := 0, slots := 0, locals := 66 } : Room) [.ref (a), .int (iI ((mo : Int)))] (fun H => TxR G a tx len p1 le fi sc H) (WE (b2i (pNum tx len p1 0 mo).2.isSome) (fun H H1 => TxR G a tx len (pNum tx len p1 0 mo).1 le (oI (pNum tx len p1 0 mo).2) sc H1 ∧ FrS a (a + 1) H H1)) := by
  refine Ct.of (by decide +kernel) (Nat.le_of_ble_eq_true rfl) ?_
  intro p e s m args below meth c ls E hnm hP hl
  obtain ⟨ho, ha⟩ := hP
  have hl80 := hT.1
  have hS : FrS a (a + 1) s.heap s.heap := FrS.rf
  have hl : lv_has ls 2 [(0, .ref (a)), (1, .int (iI ((mo : Int))))] := hl
  have hL : Lk G [] := Lk.nil
  generalize ([] : List Loc) = locs at hL ⊢
  refine lv_aload_n E.1 E.2.1 dX0_readFirst_0 rfl (lv_at hl 0 rfl) ?_
  refine lv_aload_n E.1 E.2.1 dX0_readFirst_1 rfl (lv_at hl 0 rfl) ?_
  refine r_const E dX0_readFirst_2 ?_
  refine lv_iload_n E.1 E.2.1 dX0_readFirst_3 rfl (lv_at hl 1 rfl) ?_
  refine kVWE (As := [.int (iI (0)), .int (iI ((mo : Int)))]) E cw_X0_45 (c_X0_readNumber G l a tx len p1 le fi sc hT 0 mo (by omega) (by omega) (by omega) hga) ho ⟨_, _, rfl⟩ ⟨ho, ha⟩ hL hl.1 rfl rfl (Nat.le_of_ble_eq_true rfl) ⟨Nat.le_of_ble_eq_true rfl, Nat.le_of_ble_eq_true rfl⟩ ⟨Nat.le_of_ble_eq_true rfl, Nat.le_of_ble_eq_true rfl⟩ dX0_readFirst_4 (fun H1 locs hL hw_ => ?_)
  obtain ⟨⟨ho, ha⟩, hq⟩ := hw_
  have hS := hS.trans hq
  rcases hpn : (pNum tx len p1 0 mo).2 with _ | v
  · refine m_put E ho fw_X0_49 fp_X0_4 rfl rfl (Nat.le_of_ble_eq_true rfl) hL (by omega) dX0_readFirst_7 (fun H2 locs hL hO_ hF_ => ?_)
    have ha := ha.kept (hF_.2 _ (by omega))
    have hS := hS.trans (FrS.of1 (lo := a) (hi := a + 1) hF_ (by omega) (by omega))
    have ho : Ob G (a) 0 [.ref (a + 1), .int (iI ((len : Int))), .int (iI (((pNum tx len p1 0 mo).1 : Int))), .int (iI (le)), .int (iI (oI none)), .int (iI (sc))] H2 := hO_
    clear hO_
    refine lv_aload_n E.1 E.2.1 dX0_readFirst_10 rfl (lv_at hl 0 rfl) ?_
    refine m_get E ho fw_X0_49 rfl dX0_readFirst_11 ?_
    refine r_bipush E dX0_readFirst_14 (by decide) ?_
    rw [show oI none = -6 from rfl]
    refine r_icmp_eq (tgt := 23) E dX0_readFirst_16 (by decide) (by omega) (by omega) (fun c16 => ?_) (fun c16 => absurd c16 (by omega))
    refine r_const E dX0_readFirst_23 ?_
    refine e_zret (rm := ({ frames := 3, cells := 0, slots := 0, locals := 66 } : Room)) (v := iI (0)) E hL rfl dX0_readFirst_24 ?_
    exact ⟨rfl, ⟨ho, ha⟩, hS⟩
  · have hpb := (pNum_b tx len p1 0 mo).2.2 v hpn
    refine m_put E ho fw_X0_49 fp_X0_4 rfl rfl (Nat.le_of_ble_eq_true rfl) hL (by omega) dX0_readFirst_7 (fun H2 locs hL hO_ hF_ => ?_)
    have ha := ha.kept (hF_.2 _ (by omega))
    have hS := hS.trans (FrS.of1 (lo := a) (hi := a + 1) hF_ (by omega) (by omega))
    have ho : Ob G (a) 0 [.ref (a + 1), .int (iI ((len : Int))), .int (iI (((pNum tx len p1 0 mo).1 : Int))), .int (iI (le)), .int (iI (oI (some v))), .int (iI (sc))] H2 := hO_
    clear hO_
    refine lv_aload_n E.1 E.2.1 dX0_readFirst_10 rfl (lv_at hl 0 rfl) ?_
    refine m_get E ho fw_X0_49 rfl dX0_readFirst_11 ?_
    refine r_bipush E dX0_readFirst_14 (by decide) ?_
    rw [show oI (some v) = (v : Int) from rfl]
    refine r_icmp_eq (tgt := 23) E dX0_readFirst_16 (by decide) (by omega) (by omega) (fun c16 => absurd c16 (by omega)) (fun c16 => ?_)
    refine r_const E dX0_readFirst_19 ?_
    refine lv_goto (tgt := 24) E.1 E.2.1 dX0_readFirst_20 (by decide) ?_
    refine e_zret (rm := ({ frames := 3, cells := 0, slots := 0, locals := 66 } : Room)) (v := iI (1)) E hL rfl dX0_readFirst_24 ?_
    exact ⟨rfl, ⟨ho, ha⟩, hS⟩

set_option maxHeartbeats 4000000 in
set_option maxRecDepth 100000 in
theorem c_X0_readSecond (G : GG) (l : Launch) (a : Nat) (tx : Nat → Int) (len p1 : Nat) (le fi sc : Int) (hT : TxOk tx len) (lo mo : Nat) (hmo : mo ≤ 239) (hlo : lo ≤ 100) (hp : p1 ≤ 90) (hga : G.2.2 ≤ a) : Ct G l yX0_readSecond cX0_readSecond 3 (some .boolean) ({ frames := 3, cells := 0, slots := 0, locals := 66 } : Room) [.ref (a), .int (iI ((lo : Int))), .int (iI ((mo : Int)))] (fun H => TxR G a tx len p1 le fi sc H) (WE (b2i (pNum tx len p1 lo mo).2.isSome) (fun H H1 => TxR G a tx len (pNum tx len p1 lo mo).1 le fi (oI (pNum tx len p1 lo mo).2) H1 ∧ FrS a (a + 1) H H1)) := by
  refine Ct.of (by decide +kernel) (Nat.le_of_ble_eq_true rfl) ?_
  intro p e s m args below meth c ls E hnm hP hl
  obtain ⟨ho, ha⟩ := hP
  have hl80 := hT.1
  have hS : FrS a (a + 1) s.heap s.heap := FrS.rf
  have hl : lv_has ls 3 [(0, .ref (a)), (1, .int (iI ((lo : Int)))), (2, .int (iI ((mo : Int))))] := hl
  have hL : Lk G [] := Lk.nil
  generalize ([] : List Loc) = locs at hL ⊢
  refine lv_aload_n E.1 E.2.1 dX0_readSecond_0 rfl (lv_at hl 0 rfl) ?_
  refine lv_aload_n E.1 E.2.1 dX0_readSecond_1 rfl (lv_at hl 0 rfl) ?_
  refine lv_iload_n E.1 E.2.1 dX0_readSecond_2 rfl (lv_at hl 1 rfl) ?_
  refine lv_iload_n E.1 E.2.1 dX0_readSecond_3 rfl (lv_at hl 2 rfl) ?_
  refine kVWE (As := [.int (iI ((lo : Int))), .int (iI ((mo : Int)))]) E cw_X0_45 (c_X0_readNumber G l a tx len p1 le fi sc hT lo mo (by omega) (by omega) (by omega) hga) ho ⟨_, _, rfl⟩ ⟨ho, ha⟩ hL hl.1 rfl rfl (Nat.le_of_ble_eq_true rfl) ⟨Nat.le_of_ble_eq_true rfl, Nat.le_of_ble_eq_true rfl⟩ ⟨Nat.le_of_ble_eq_true rfl, Nat.le_of_ble_eq_true rfl⟩ dX0_readSecond_4 (fun H1 locs hL hw_ => ?_)
  obtain ⟨⟨ho, ha⟩, hq⟩ := hw_
  have hS := hS.trans hq
  rcases hpn : (pNum tx len p1 lo mo).2 with _ | v
  · refine m_put E ho fw_X0_52 fp_X0_5 rfl rfl (Nat.le_of_ble_eq_true rfl) hL (by omega) dX0_readSecond_7 (fun H2 locs hL hO_ hF_ => ?_)
    have ha := ha.kept (hF_.2 _ (by omega))
    have hS := hS.trans (FrS.of1 (lo := a) (hi := a + 1) hF_ (by omega) (by omega))
    have ho : Ob G (a) 0 [.ref (a + 1), .int (iI ((len : Int))), .int (iI (((pNum tx len p1 lo mo).1 : Int))), .int (iI (le)), .int (iI (fi)), .int (iI (oI none))] H2 := hO_
    clear hO_
    refine lv_aload_n E.1 E.2.1 dX0_readSecond_10 rfl (lv_at hl 0 rfl) ?_
    refine m_get E ho fw_X0_52 rfl dX0_readSecond_11 ?_
    refine r_bipush E dX0_readSecond_14 (by decide) ?_
    rw [show oI none = -6 from rfl]
    refine r_icmp_eq (tgt := 23) E dX0_readSecond_16 (by decide) (by omega) (by omega) (fun c16 => ?_) (fun c16 => absurd c16 (by omega))
    refine r_const E dX0_readSecond_23 ?_
    refine e_zret (rm := ({ frames := 3, cells := 0, slots := 0, locals := 66 } : Room)) (v := iI (0)) E hL rfl dX0_readSecond_24 ?_
    exact ⟨rfl, ⟨ho, ha⟩, hS⟩
  · have hpb := (pNum_b tx len p1 lo mo).2.2 v hpn
    refine m_put E ho fw_X0_52 fp_X0_5 rfl rfl (Nat.le_of_ble_eq_true rfl) hL (by omega) dX0_readSecond_7 (fun H2 locs hL hO_ hF_ => ?_)
    have ha := ha.kept (hF_.2 _ (by omega))
    have hS := hS.trans (FrS.of1 (lo := a) (hi := a + 1) hF_ (by omega) (by omega))
    have ho : Ob G (a) 0 [.ref (a + 1), .int (iI ((len : Int))), .int (iI (((pNum tx len p1 lo mo).1 : Int))), .int (iI (le)), .int (iI (fi)), .int (iI (oI (some v)))] H2 := hO_
    clear hO_
    refine lv_aload_n E.1 E.2.1 dX0_readSecond_10 rfl (lv_at hl 0 rfl) ?_
    refine m_get E ho fw_X0_52 rfl dX0_readSecond_11 ?_
    refine r_bipush E dX0_readSecond_14 (by decide) ?_
    rw [show oI (some v) = (v : Int) from rfl]
    refine r_icmp_eq (tgt := 23) E dX0_readSecond_16 (by decide) (by omega) (by omega) (fun c16 => absurd c16 (by omega)) (fun c16 => ?_)
    refine r_const E dX0_readSecond_19 ?_
    refine lv_goto (tgt := 24) E.1 E.2.1 dX0_readSecond_20 (by decide) ?_
    refine e_zret (rm := ({ frames := 3, cells := 0, slots := 0, locals := 66 } : Room)) (v := iI (1)) E hL rfl dX0_readSecond_24 ?_
    exact ⟨rfl, ⟨ho, ha⟩, hS⟩
