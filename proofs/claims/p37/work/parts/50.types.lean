set_option maxHeartbeats 4000000 in
set_option maxRecDepth 100000 in
theorem c_L_digits (G : GG) (l : Launch) (x fb : Nat) (fl : Nat → Option Fil) (σ : St) (hs : List St) (tx : Nat → Int) (len : Nat) (hI : Inv σ) (hT : TxOk tx len) (hfx : x + 179 ≤ fb) (hgx : G.2.2 ≤ x) (v : Int) (hv : 0 ≤ v ∧ v ≤ 999) (hl9 : len + 3 ≤ 80) : Ct G l yL_digits cL_digits 2 (some .boolean) ({ frames := 2, cells := 0, slots := 0, locals := 42 } : Room) [.ref (x), .int (iI (v))] (fun H => XAt G x fb fl σ hs tx len H ∧ fb ≤ H.size) (WE (iI 1) (fun H H1 => ∃ tx1 len1, TxOk tx1 len1 ∧ (len < len1 ∧ len1 ≤ len + 3 ∧ (v < 100 → len1 ≤ len + 2) ∧ (v < 10 → len1 ≤ len + 1) ∧ scn tx1 len1 = scn tx len) ∧ XP G x fb fl σ hs tx1 len1 H H1)) := by
  refine Ct.of (by decide +kernel) (Nat.le_of_ble_eq_true rfl) ?_
  intro p e s m args below meth c ls E hnm hP hl
  have hlt := hT.1
  have hl : lv_has ls 2 [(0, .ref (x)), (1, .int (iI (v)))] := hl
  have hL : Lk G [] := Lk.nil
  generalize ([] : List Loc) = locs at hL ⊢
  refine lv_iload_n E.1 E.2.1 dL_digits_0 rfl (lv_at hl 1 rfl) ?_
  refine r_bipush E dL_digits_1 (by decide) ?_
  refine r_icmp_lt (tgt := 20) E dL_digits_3 (by decide) (by omega) (by omega) (fun c3 => ?_) (fun c3 => ?_)
  · refine lv_iload_n E.1 E.2.1 dL_digits_20 rfl (lv_at hl 1 rfl) ?_
    refine r_bipush E dL_digits_21 (by decide) ?_
    refine r_icmp_lt (tgt := 43) E dL_digits_23 (by decide) (by omega) (by omega) (fun c23 => ?_) (fun c23 => ?_)
    · refine lv_aload_n E.1 E.2.1 dL_digits_43 rfl (lv_at hl 0 rfl) ?_
      refine r_bipush E dL_digits_44 (by decide) ?_
      refine lv_iload_n E.1 E.2.1 dL_digits_46 rfl (lv_at hl 1 rfl) ?_
      refine r_bipush E dL_digits_47 (by decide) ?_
      refine r_rem E dL_digits_49 (by omega) (by omega) (by omega) (by omega) ?_
      refine r_add E dL_digits_50 ?_
      refine kVWE (As := [.int (iI (48 + ((v) % (10))))]) E cw_L_93 (c_X5_append G l x fb fl σ hs tx len hI hT hfx hgx (48 + ((v) % (10))) (by unfold okI; omega)) hP.1.1 ⟨_, _, rfl⟩ ⟨hP.1, hP.2⟩ hL hl.1 rfl rfl (Nat.le_of_ble_eq_true rfl) ⟨Nat.le_of_ble_eq_true rfl, Nat.le_of_ble_eq_true rfl⟩ ⟨Nat.le_of_ble_eq_true rfl, Nat.le_of_ble_eq_true rfl⟩ dL_digits_51 (fun H1 locs hL hw_ => ?_)
      have hy1 : 32 ≤ ((48 + ((v) % (10))) : Int) ∧ ((48 + ((v) % (10))) : Int) ≤ 126 := by omega
      have hl1 : len < 80 := by omega
      rw [ap_ok hy1 hl1] at hw_ ⊢
      obtain ⟨⟨fl1, hE1, hX1⟩, hR1⟩ := hw_
      have hT1 := ap_tx hT hy1 hl1
      have hs1 : scn (va_up tx len (48 + ((v) % (10)))) (len + 1) = scn tx len := ap_scn (by omega)
      have hX1 : XAt G x fb fl1 σ hs (va_up tx len (48 + ((v) % (10)))) (len + 1) H1 := hX1
      generalize va_up tx len (48 + ((v) % (10))) = t1 at hX1 hT1 hs1
      obtain ⟨l1, hll1⟩ : ∃ q, q = len + 1 := ⟨_, rfl⟩
      rw [← hll1] at hX1 hT1 hs1
      have hz1 := FrR.size hR1 hP.2
      refine r_if_le (tgt := 61) E dL_digits_54 (by decide) (by omega) (fun c54 => absurd c54 (by omega)) (fun c54 => ?_)
      refine r_const E dL_digits_57 ?_
      refine lv_goto (tgt := 62) E.1 E.2.1 dL_digits_58 (by decide) ?_
      refine e_zret (rm := ({ frames := 2, cells := 0, slots := 0, locals := 42 } : Room)) (v := iI (1)) E hL rfl dL_digits_62 ?_
      exact ⟨rfl, _, _, hT1, ⟨by omega, by omega, fun _ => by omega, fun _ => by omega, by omega⟩, ⟨_, hE1, hX1⟩, hR1⟩
    · refine lv_aload_n E.1 E.2.1 dL_digits_26 rfl (lv_at hl 0 rfl) ?_
      refine r_bipush E dL_digits_27 (by decide) ?_
      refine lv_iload_n E.1 E.2.1 dL_digits_29 rfl (lv_at hl 1 rfl) ?_
      refine r_bipush E dL_digits_30 (by decide) ?_
      refine r_div E dL_digits_32 (by omega) (by omega) (by omega) (by omega) ?_
      refine r_bipush E dL_digits_33 (by decide) ?_
      refine r_rem E dL_digits_35 (by omega) (by omega) (by omega) (by omega) ?_
      refine r_add E dL_digits_36 ?_
      refine kVWE (As := [.int (iI (48 + (((v) / (10)) % (10))))]) E cw_L_93 (c_X5_append G l x fb fl σ hs tx len hI hT hfx hgx (48 + (((v) / (10)) % (10))) (by unfold okI; omega)) hP.1.1 ⟨_, _, rfl⟩ ⟨hP.1, hP.2⟩ hL hl.1 rfl rfl (Nat.le_of_ble_eq_true rfl) ⟨Nat.le_of_ble_eq_true rfl, Nat.le_of_ble_eq_true rfl⟩ ⟨Nat.le_of_ble_eq_true rfl, Nat.le_of_ble_eq_true rfl⟩ dL_digits_37 (fun H1 locs hL hw_ => ?_)
      have hy1 : 32 ≤ ((48 + (((v) / (10)) % (10))) : Int) ∧ ((48 + (((v) / (10)) % (10))) : Int) ≤ 126 := by omega
      have hl1 : len < 80 := by omega
      rw [ap_ok hy1 hl1] at hw_ ⊢
      obtain ⟨⟨fl1, hE1, hX1⟩, hR1⟩ := hw_
      have hT1 := ap_tx hT hy1 hl1
      have hs1 : scn (va_up tx len (48 + (((v) / (10)) % (10)))) (len + 1) = scn tx len := ap_scn (by omega)
      have hX1 : XAt G x fb fl1 σ hs (va_up tx len (48 + (((v) / (10)) % (10)))) (len + 1) H1 := hX1
      generalize va_up tx len (48 + (((v) / (10)) % (10))) = t1 at hX1 hT1 hs1
      obtain ⟨l1, hll1⟩ : ∃ q, q = len + 1 := ⟨_, rfl⟩
      rw [← hll1] at hX1 hT1 hs1
      have hz1 := FrR.size hR1 hP.2
      refine r_if_le (tgt := 61) E dL_digits_40 (by decide) (by omega) (fun c40 => absurd c40 (by omega)) (fun c40 => ?_)
      refine lv_aload_n E.1 E.2.1 dL_digits_43 rfl (lv_at hl 0 rfl) ?_
      refine r_bipush E dL_digits_44 (by decide) ?_
      refine lv_iload_n E.1 E.2.1 dL_digits_46 rfl (lv_at hl 1 rfl) ?_
      refine r_bipush E dL_digits_47 (by decide) ?_
      refine r_rem E dL_digits_49 (by omega) (by omega) (by omega) (by omega) ?_
      refine r_add E dL_digits_50 ?_
      refine kVWE (As := [.int (iI (48 + ((v) % (10))))]) E cw_L_93 (c_X5_append G l x fb fl1 σ hs t1 l1 hI hT1 hfx hgx (48 + ((v) % (10))) (by unfold okI; omega)) hX1.1 ⟨_, _, rfl⟩ ⟨hX1, hz1⟩ hL hl.1 rfl rfl (Nat.le_of_ble_eq_true rfl) ⟨Nat.le_of_ble_eq_true rfl, Nat.le_of_ble_eq_true rfl⟩ ⟨Nat.le_of_ble_eq_true rfl, Nat.le_of_ble_eq_true rfl⟩ dL_digits_51 (fun H3 locs hL hw_ => ?_)
      have hy3 : 32 ≤ ((48 + ((v) % (10))) : Int) ∧ ((48 + ((v) % (10))) : Int) ≤ 126 := by omega
      have hl3 : l1 < 80 := by omega
      rw [ap_ok hy3 hl3] at hw_ ⊢
      obtain ⟨⟨fl3, hE3, hX3⟩, hR3⟩ := hw_
      have hT3 := ap_tx hT1 hy3 hl3
      have hs3 : scn (va_up t1 l1 (48 + ((v) % (10)))) (l1 + 1) = scn t1 l1 := ap_scn (by omega)
      have hX3 : XAt G x fb fl3 σ hs (va_up t1 l1 (48 + ((v) % (10)))) (l1 + 1) H3 := hX3
      generalize va_up t1 l1 (48 + ((v) % (10))) = t3 at hX3 hT3 hs3
      obtain ⟨l3, hll3⟩ : ∃ q, q = l1 + 1 := ⟨_, rfl⟩
      rw [← hll3] at hX3 hT3 hs3
      have hz3 := FrR.size hR3 hz1
      have hR3 := hR1.trans hR3
      have hE3 := hE1.trans hE3
      refine r_if_le (tgt := 61) E dL_digits_54 (by decide) (by omega) (fun c54 => absurd c54 (by omega)) (fun c54 => ?_)
      refine r_const E dL_digits_57 ?_
      refine lv_goto (tgt := 62) E.1 E.2.1 dL_digits_58 (by decide) ?_
      refine e_zret (rm := ({ frames := 2, cells := 0, slots := 0, locals := 42 } : Room)) (v := iI (1)) E hL rfl dL_digits_62 ?_
      exact ⟨rfl, _, _, hT3, ⟨by omega, by omega, fun _ => by omega, fun _ => by omega, by omega⟩, ⟨_, hE3, hX3⟩, hR3⟩
  · refine lv_aload_n E.1 E.2.1 dL_digits_6 rfl (lv_at hl 0 rfl) ?_
    refine r_bipush E dL_digits_7 (by decide) ?_
    refine lv_iload_n E.1 E.2.1 dL_digits_9 rfl (lv_at hl 1 rfl) ?_
    refine r_bipush E dL_digits_10 (by decide) ?_
    refine r_div E dL_digits_12 (by omega) (by omega) (by omega) (by omega) ?_
    refine r_add E dL_digits_13 ?_
    refine kVWE (As := [.int (iI (48 + ((v) / (100))))]) E cw_L_93 (c_X5_append G l x fb fl σ hs tx len hI hT hfx hgx (48 + ((v) / (100))) (by unfold okI; omega)) hP.1.1 ⟨_, _, rfl⟩ ⟨hP.1, hP.2⟩ hL hl.1 rfl rfl (Nat.le_of_ble_eq_true rfl) ⟨Nat.le_of_ble_eq_true rfl, Nat.le_of_ble_eq_true rfl⟩ ⟨Nat.le_of_ble_eq_true rfl, Nat.le_of_ble_eq_true rfl⟩ dL_digits_14 (fun H1 locs hL hw_ => ?_)
    have hy1 : 32 ≤ ((48 + ((v) / (100))) : Int) ∧ ((48 + ((v) / (100))) : Int) ≤ 126 := by omega
    have hl1 : len < 80 := by omega
    rw [ap_ok hy1 hl1] at hw_ ⊢
    obtain ⟨⟨fl1, hE1, hX1⟩, hR1⟩ := hw_
    have hT1 := ap_tx hT hy1 hl1
    have hs1 : scn (va_up tx len (48 + ((v) / (100)))) (len + 1) = scn tx len := ap_scn (by omega)
    have hX1 : XAt G x fb fl1 σ hs (va_up tx len (48 + ((v) / (100)))) (len + 1) H1 := hX1
    generalize va_up tx len (48 + ((v) / (100))) = t1 at hX1 hT1 hs1
    obtain ⟨l1, hll1⟩ : ∃ q, q = len + 1 := ⟨_, rfl⟩
    rw [← hll1] at hX1 hT1 hs1
    have hz1 := FrR.size hR1 hP.2
    refine r_if_le (tgt := 61) E dL_digits_17 (by decide) (by omega) (fun c17 => absurd c17 (by omega)) (fun c17 => ?_)
    refine lv_iload_n E.1 E.2.1 dL_digits_20 rfl (lv_at hl 1 rfl) ?_
    refine r_bipush E dL_digits_21 (by decide) ?_
    refine r_icmp_lt (tgt := 43) E dL_digits_23 (by decide) (by omega) (by omega) (fun c23 => ?_) (fun c23 => ?_)
    · refine lv_aload_n E.1 E.2.1 dL_digits_43 rfl (lv_at hl 0 rfl) ?_
      refine r_bipush E dL_digits_44 (by decide) ?_
      refine lv_iload_n E.1 E.2.1 dL_digits_46 rfl (lv_at hl 1 rfl) ?_
      refine r_bipush E dL_digits_47 (by decide) ?_
      refine r_rem E dL_digits_49 (by omega) (by omega) (by omega) (by omega) ?_
      refine r_add E dL_digits_50 ?_
      refine kVWE (As := [.int (iI (48 + ((v) % (10))))]) E cw_L_93 (c_X5_append G l x fb fl1 σ hs t1 l1 hI hT1 hfx hgx (48 + ((v) % (10))) (by unfold okI; omega)) hX1.1 ⟨_, _, rfl⟩ ⟨hX1, hz1⟩ hL hl.1 rfl rfl (Nat.le_of_ble_eq_true rfl) ⟨Nat.le_of_ble_eq_true rfl, Nat.le_of_ble_eq_true rfl⟩ ⟨Nat.le_of_ble_eq_true rfl, Nat.le_of_ble_eq_true rfl⟩ dL_digits_51 (fun H3 locs hL hw_ => ?_)
      have hy3 : 32 ≤ ((48 + ((v) % (10))) : Int) ∧ ((48 + ((v) % (10))) : Int) ≤ 126 := by omega
      have hl3 : l1 < 80 := by omega
      rw [ap_ok hy3 hl3] at hw_ ⊢
      obtain ⟨⟨fl3, hE3, hX3⟩, hR3⟩ := hw_
      have hT3 := ap_tx hT1 hy3 hl3
      have hs3 : scn (va_up t1 l1 (48 + ((v) % (10)))) (l1 + 1) = scn t1 l1 := ap_scn (by omega)
      have hX3 : XAt G x fb fl3 σ hs (va_up t1 l1 (48 + ((v) % (10)))) (l1 + 1) H3 := hX3
      generalize va_up t1 l1 (48 + ((v) % (10))) = t3 at hX3 hT3 hs3
      obtain ⟨l3, hll3⟩ : ∃ q, q = l1 + 1 := ⟨_, rfl⟩
      rw [← hll3] at hX3 hT3 hs3
      have hz3 := FrR.size hR3 hz1
      have hR3 := hR1.trans hR3
      have hE3 := hE1.trans hE3
      refine r_if_le (tgt := 61) E dL_digits_54 (by decide) (by omega) (fun c54 => absurd c54 (by omega)) (fun c54 => ?_)
      refine r_const E dL_digits_57 ?_
      refine lv_goto (tgt := 62) E.1 E.2.1 dL_digits_58 (by decide) ?_
      refine e_zret (rm := ({ frames := 2, cells := 0, slots := 0, locals := 42 } : Room)) (v := iI (1)) E hL rfl dL_digits_62 ?_
      exact ⟨rfl, _, _, hT3, ⟨by omega, by omega, fun _ => by omega, fun _ => by omega, by omega⟩, ⟨_, hE3, hX3⟩, hR3⟩
    · refine lv_aload_n E.1 E.2.1 dL_digits_26 rfl (lv_at hl 0 rfl) ?_
      refine r_bipush E dL_digits_27 (by decide) ?_
      refine lv_iload_n E.1 E.2.1 dL_digits_29 rfl (lv_at hl 1 rfl) ?_
      refine r_bipush E dL_digits_30 (by decide) ?_
      refine r_div E dL_digits_32 (by omega) (by omega) (by omega) (by omega) ?_
      refine r_bipush E dL_digits_33 (by decide) ?_
      refine r_rem E dL_digits_35 (by omega) (by omega) (by omega) (by omega) ?_
      refine r_add E dL_digits_36 ?_
      refine kVWE (As := [.int (iI (48 + (((v) / (10)) % (10))))]) E cw_L_93 (c_X5_append G l x fb fl1 σ hs t1 l1 hI hT1 hfx hgx (48 + (((v) / (10)) % (10))) (by unfold okI; omega)) hX1.1 ⟨_, _, rfl⟩ ⟨hX1, hz1⟩ hL hl.1 rfl rfl (Nat.le_of_ble_eq_true rfl) ⟨Nat.le_of_ble_eq_true rfl, Nat.le_of_ble_eq_true rfl⟩ ⟨Nat.le_of_ble_eq_true rfl, Nat.le_of_ble_eq_true rfl⟩ dL_digits_37 (fun H3 locs hL hw_ => ?_)
      have hy3 : 32 ≤ ((48 + (((v) / (10)) % (10))) : Int) ∧ ((48 + (((v) / (10)) % (10))) : Int) ≤ 126 := by omega
      have hl3 : l1 < 80 := by omega
      rw [ap_ok hy3 hl3] at hw_ ⊢
      obtain ⟨⟨fl3, hE3, hX3⟩, hR3⟩ := hw_
      have hT3 := ap_tx hT1 hy3 hl3
      have hs3 : scn (va_up t1 l1 (48 + (((v) / (10)) % (10)))) (l1 + 1) = scn t1 l1 := ap_scn (by omega)
      have hX3 : XAt G x fb fl3 σ hs (va_up t1 l1 (48 + (((v) / (10)) % (10)))) (l1 + 1) H3 := hX3
      generalize va_up t1 l1 (48 + (((v) / (10)) % (10))) = t3 at hX3 hT3 hs3
      obtain ⟨l3, hll3⟩ : ∃ q, q = l1 + 1 := ⟨_, rfl⟩
      rw [← hll3] at hX3 hT3 hs3
      have hz3 := FrR.size hR3 hz1
      have hR3 := hR1.trans hR3
      have hE3 := hE1.trans hE3
      refine r_if_le (tgt := 61) E dL_digits_40 (by decide) (by omega) (fun c40 => absurd c40 (by omega)) (fun c40 => ?_)
      refine lv_aload_n E.1 E.2.1 dL_digits_43 rfl (lv_at hl 0 rfl) ?_
      refine r_bipush E dL_digits_44 (by decide) ?_
      refine lv_iload_n E.1 E.2.1 dL_digits_46 rfl (lv_at hl 1 rfl) ?_
      refine r_bipush E dL_digits_47 (by decide) ?_
      refine r_rem E dL_digits_49 (by omega) (by omega) (by omega) (by omega) ?_
      refine r_add E dL_digits_50 ?_
      refine kVWE (As := [.int (iI (48 + ((v) % (10))))]) E cw_L_93 (c_X5_append G l x fb fl3 σ hs t3 l3 hI hT3 hfx hgx (48 + ((v) % (10))) (by unfold okI; omega)) hX3.1 ⟨_, _, rfl⟩ ⟨hX3, hz3⟩ hL hl.1 rfl rfl (Nat.le_of_ble_eq_true rfl) ⟨Nat.le_of_ble_eq_true rfl, Nat.le_of_ble_eq_true rfl⟩ ⟨Nat.le_of_ble_eq_true rfl, Nat.le_of_ble_eq_true rfl⟩ dL_digits_51 (fun H5 locs hL hw_ => ?_)
      have hy5 : 32 ≤ ((48 + ((v) % (10))) : Int) ∧ ((48 + ((v) % (10))) : Int) ≤ 126 := by omega
      have hl5 : l3 < 80 := by omega
      rw [ap_ok hy5 hl5] at hw_ ⊢
      obtain ⟨⟨fl5, hE5, hX5⟩, hR5⟩ := hw_
      have hT5 := ap_tx hT3 hy5 hl5
      have hs5 : scn (va_up t3 l3 (48 + ((v) % (10)))) (l3 + 1) = scn t3 l3 := ap_scn (by omega)
      have hX5 : XAt G x fb fl5 σ hs (va_up t3 l3 (48 + ((v) % (10)))) (l3 + 1) H5 := hX5
      generalize va_up t3 l3 (48 + ((v) % (10))) = t5 at hX5 hT5 hs5
      obtain ⟨l5, hll5⟩ : ∃ q, q = l3 + 1 := ⟨_, rfl⟩
      rw [← hll5] at hX5 hT5 hs5
      have hz5 := FrR.size hR5 hz3
      have hR5 := hR3.trans hR5
      have hE5 := hE3.trans hE5
      refine r_if_le (tgt := 61) E dL_digits_54 (by decide) (by omega) (fun c54 => absurd c54 (by omega)) (fun c54 => ?_)
      refine r_const E dL_digits_57 ?_
      refine lv_goto (tgt := 62) E.1 E.2.1 dL_digits_58 (by decide) ?_
      refine e_zret (rm := ({ frames := 2, cells := 0, slots := 0, locals := 42 } : Room)) (v := iI (1)) E hL rfl dL_digits_62 ?_
      exact ⟨rfl, _, _, hT5, ⟨by omega, by omega, fun _ => by omega, fun _ => by omega, by omega⟩, ⟨_, hE5, hX5⟩, hR5⟩

set_option maxHeartbeats 4000000 in
set_option maxRecDepth 100000 in
theorem c_L_types (G : GG) (l : Launch) (x fb : Nat) (fl : Nat → Option Fil) (σ : St) (hs : List St) (tx : Nat → Int) (len : Nat) (hI : Inv σ) (hT : TxOk tx len) (hfx : x + 179 ≤ fb) (hgx : G.2.2 ≤ x) (v : Int32) : Ct G l yL_types cL_types 8 (some .boolean) ({ frames := 3, cells := 0, slots := 0, locals := 63 } : Room) [.ref (x), .int (v)] (fun H => XAt G x fb fl σ hs tx len H ∧ fb ≤ H.size) (WE (iI 1) (fun H H1 => ∃ tx1 len1, TxOk tx1 len1 ∧ TQ (lowI v 11) tx1 len1 ∧ XP G x fb fl σ hs tx1 len1 H H1)) := by
  refine Ct.of (by decide +kernel) (Nat.le_of_ble_eq_true rfl) ?_
  intro p e s m args below meth c ls E hnm hP hl
  have hlt := hT.1
  have hl : lv_has ls 8 [(0, .ref (x)), (1, .int (v))] := hl
  have hL : Lk G [] := Lk.nil
  generalize ([] : List Loc) = locs at hL ⊢
  refine lv_iload_n E.1 E.2.1 dL_types_0 rfl (lv_at hl 1 rfl) ?_
  refine r_bipush E dL_types_1 (by decide) ?_
  obtain ⟨w1, hw1⟩ : ∃ z : Int, lowI (v) (11) = z := ⟨_, rfl⟩
  have hw1b : 0 ≤ w1 ∧ w1 < (11) := by rw [← hw1]; exact low_b _ (by omega)
  have hw1c := c_L_low G l (v) (11) (by omega)
  rw [hw1] at hw1c
  refine kSRE (As := [.int (v), .int (iI (11))]) E cw_L_72 hw1c trivial hL hl.1 rfl rfl (Nat.le_of_ble_eq_true rfl) ⟨Nat.le_of_ble_eq_true rfl, Nat.le_of_ble_eq_true rfl⟩ ⟨rfl, rfl⟩ ⟨Nat.le_of_ble_eq_true rfl, Nat.le_of_ble_eq_true rfl⟩ dL_types_3 (fun locs hL => ?_)
  refine lv_istore_n (lv' := [(2, .int (iI (w1))), (0, .ref (x)), (1, .int (v))]) E.1 E.2.1 dL_types_6 rfl hl (by decide) rfl (fun ls hl => ?_)
  refine lv_aload_n E.1 E.2.1 dL_types_7 rfl (lv_at hl 1 rfl) ?_
  refine kVWE (As := []) E cw_L_96 (c_X5_clearText G l x fb fl σ hs tx len hI hT hfx hgx) hP.1.1 ⟨_, _, rfl⟩ ⟨hP.1, hP.2⟩ hL hl.1 rfl rfl (Nat.le_of_ble_eq_true rfl) ⟨Nat.le_of_ble_eq_true rfl, Nat.le_of_ble_eq_true rfl⟩ ⟨Nat.le_of_ble_eq_true rfl, Nat.le_of_ble_eq_true rfl⟩ dL_types_8 (fun H3 locs hL hw_ => ?_)
  obtain ⟨⟨fl1, hE1, hX1⟩, hR1⟩ := hw_
  obtain ⟨t1, ht1⟩ : ∃ q, q = tx := ⟨_, rfl⟩
  obtain ⟨l1, hll1⟩ : ∃ q : Nat, q = 0 := ⟨_, rfl⟩
  rw [← ht1, ← hll1] at hX1
  have hT1 : TxOk t1 l1 := by rw [hll1]; exact TxOk.zero
  clear ht1
  have hz1 := FrR.size hR1 hP.2
  refine r_if_lt (tgt := 18) E dL_types_11 (by decide) (by omega) (fun c11 => absurd c11 (by omega)) (fun c11 => ?_)
  refine r_const E dL_types_14 ?_
  refine lv_goto (tgt := 19) E.1 E.2.1 dL_types_15 (by decide) ?_
  refine lv_istore_n (lv' := [(3, .int (iI (1))), (2, .int (iI (w1))), (0, .ref (x)), (1, .int (v))]) E.1 E.2.1 dL_types_19 rfl hl (by decide) rfl (fun ls hl => ?_)
  refine r_const E dL_types_20 ?_
  refine lv_istore (lv' := [(4, .int (iI (0))), (3, .int (iI (1))), (2, .int (iI (w1))), (0, .ref (x)), (1, .int (v))]) E.1 E.2.1 dL_types_21 hl (by decide) rfl (fun ls hl => ?_)
  have LP23 : ∀ (kin23 : Nat) (k : Nat) (H : Heap) (u : Int) (flk : Nat → Option Fil) (txk : Nat → Int) (lenk : Nat) (ls : Array Slot) (locs : List Loc) (hk : (k : Int) ≤ w1) (hu : u = (k : Int)) (hXk : XAt G x fb flk σ hs txk lenk H) (hzk : fb ≤ H.size) (hEk : Ext fl flk) (hRk : FrR x (x + 179) s.heap H) (hTk : TxOk txk lenk) (hlk : lenk ≤ 7 * k) (hqk : (k = 0 ∧ lenk = 0 ∧ scn txk lenk = 0) ∨ (1 ≤ k ∧ 0 < lenk ∧ scn txk lenk + 1 ≤ k)) (hkin23 : 10 - k = kin23) (hl : lv_has ls 8 [(4, .int (iI (u))), (3, .int (iI (1))), (2, .int (iI (w1))), (0, .ref (x)), (1, .int (v))]) (hL : Lk G locs), W p l e ({ frames := 3, cells := 0, slots := 0, locals := 63 } : Room) s m args below meth c H locs 0 0 (QQ G below args s ({ frames := 3, cells := 0, slots := 0, locals := 63 } : Room) (WE (iI 1) (fun H H1 => ∃ tx1 len1, TxOk tx1 len1 ∧ TQ (lowI v 11) tx1 len1 ∧ XP G x fb fl σ hs tx1 len1 H H1))) (F0 m 23 ls []) := by
    intro kin23
    induction kin23 using Nat.strongRecOn with
    | ind kin23 ihin23 =>
      intro k H u flk txk lenk ls locs hk hu hXk hzk hEk hRk hTk hlk hqk hkin23 hl hL
      refine lv_iload E.1 E.2.1 dL_types_23 (lv_at hl 0 rfl) ?_
      refine lv_iload_n E.1 E.2.1 dL_types_25 rfl (lv_at hl 2 rfl) ?_
      refine r_icmp_ge (tgt := 382) E dL_types_26 (by decide) (by omega) (by omega) (fun c26 => ?_) (fun c26 => ?_)
      · refine lv_iload_n E.1 E.2.1 dL_types_382 rfl (lv_at hl 1 rfl) ?_
        refine r_if_eq (tgt := 411) E dL_types_383 (by decide) (by omega) (fun c383 => absurd c383 (by omega)) (fun c383 => ?_)
        refine lv_iload_n E.1 E.2.1 dL_types_386 rfl (lv_at hl 4 rfl) ?_
        refine r_bipush E dL_types_387 (by decide) ?_
        refine lv_ishr E.1 E.2.1 dL_types_389 ?_
        refine r_bipush E dL_types_390 (by decide) ?_
        obtain ⟨w4, hw4⟩ : ∃ z : Int, lowI (((v) >>> ((iI (26)) &&& 31))) (6) = z := ⟨_, rfl⟩
        have hw4b : 0 ≤ w4 ∧ w4 < (6) := by rw [← hw4]; exact low_b _ (by omega)
        have hw4c := c_L_low G l (((v) >>> ((iI (26)) &&& 31))) (6) (by omega)
        rw [hw4] at hw4c
        refine kSRE (As := [.int (((v) >>> ((iI (26)) &&& 31))), .int (iI (6))]) E cw_L_72 hw4c trivial hL hl.1 rfl rfl (Nat.le_of_ble_eq_true rfl) ⟨Nat.le_of_ble_eq_true rfl, Nat.le_of_ble_eq_true rfl⟩ ⟨rfl, rfl⟩ ⟨Nat.le_of_ble_eq_true rfl, Nat.le_of_ble_eq_true rfl⟩ dL_types_392 (fun locs hL => ?_)
        refine r_if_gt (tgt := 407) E dL_types_395 (by decide) (by omega) (fun c395 => ?_) (fun c395 => ?_)
        · refine r_const E dL_types_407 ?_
          refine lv_goto (tgt := 412) E.1 E.2.1 dL_types_408 (by decide) ?_
          rw [hw1]
          refine e_zret (rm := ({ frames := 3, cells := 0, slots := 0, locals := 63 } : Room)) (v := iI (1)) E hL rfl dL_types_412 ?_
          exact ⟨rfl, _, _, hTk, (by rcases hqk with ⟨q1, q2, q3⟩ | ⟨q1, q2, q3⟩; exact Or.inl ⟨q2, by omega⟩; exact Or.inr (Or.inr ⟨q2, by omega⟩)), ⟨_, hEk, hXk⟩, hRk⟩
        · refine lv_aload_n E.1 E.2.1 dL_types_398 rfl (lv_at hl 3 rfl) ?_
          refine r_bipush E dL_types_399 (by decide) ?_
          refine kVWE (As := [.int (iI (59))]) E cw_L_93 (c_X5_append G l x fb flk σ hs txk lenk hI hTk hfx hgx (59) (by unfold okI; omega)) hXk.1 ⟨_, _, rfl⟩ ⟨hXk, hzk⟩ hL hl.1 rfl rfl (Nat.le_of_ble_eq_true rfl) ⟨Nat.le_of_ble_eq_true rfl, Nat.le_of_ble_eq_true rfl⟩ ⟨Nat.le_of_ble_eq_true rfl, Nat.le_of_ble_eq_true rfl⟩ dL_types_401 (fun H5 locs hL hw_ => ?_)
          have hy5 : 32 ≤ ((59) : Int) ∧ ((59) : Int) ≤ 126 := by omega
          have hl5 : lenk < 80 := by omega
          rw [ap_ok hy5 hl5] at hw_ ⊢
          obtain ⟨⟨fl5, hE5, hX5⟩, hR5⟩ := hw_
          have hT5 := ap_tx hTk hy5 hl5
          have hs5 : scn (va_up txk lenk 59) (lenk + 1) = scn txk lenk + 1 := ap_scn9
          have hq5 : va_up txk lenk (59) (lenk + 1 - 1) = 59 := up_s
          have hX5 : XAt G x fb fl5 σ hs (va_up txk lenk (59)) (lenk + 1) H5 := hX5
          generalize va_up txk lenk (59) = t5 at hX5 hT5 hs5 hq5
          obtain ⟨l5, hll5⟩ : ∃ q, q = lenk + 1 := ⟨_, rfl⟩
          rw [← hll5] at hX5 hT5 hs5 hq5
          have hz5 := FrR.size hR5 hzk
          have hR5 := hRk.trans hR5
          have hE5 := hEk.trans hE5
          refine r_if_le (tgt := 411) E dL_types_404 (by decide) (by omega) (fun c404 => absurd c404 (by omega)) (fun c404 => ?_)
          refine r_const E dL_types_407 ?_
          refine lv_goto (tgt := 412) E.1 E.2.1 dL_types_408 (by decide) ?_
          rw [hw1]
          refine e_zret (rm := ({ frames := 3, cells := 0, slots := 0, locals := 63 } : Room)) (v := iI (1)) E hL rfl dL_types_412 ?_
          exact ⟨rfl, _, _, hT5, Or.inr (Or.inl ⟨by omega, hq5⟩), ⟨_, hE5, hX5⟩, hR5⟩
      · subst hu
        refine lv_iload_n E.1 E.2.1 dL_types_29 rfl (lv_at hl 4 rfl) ?_
        refine r_const E dL_types_30 ?_
        refine r_const E dL_types_31 ?_
        refine lv_iload E.1 E.2.1 dL_types_32 (lv_at hl 0 rfl) ?_
        refine r_mul E dL_types_34 ?_
        refine r_add E dL_types_35 ?_
        refine lv_ishr E.1 E.2.1 dL_types_36 ?_
        refine lv_istore (lv' := [(5, .int (((v) >>> ((iI (1 + (2 * (k : Int)))) &&& 31)))), (4, .int (iI ((k : Int)))), (3, .int (iI (1))), (2, .int (iI (w1))), (0, .ref (x)), (1, .int (v))]) E.1 E.2.1 dL_types_37 hl (by decide) rfl (fun ls hl => ?_)
        refine lv_iload E.1 E.2.1 dL_types_39 (lv_at hl 0 rfl) ?_
        refine r_bipush E dL_types_41 (by decide) ?_
        obtain ⟨w4, hw4⟩ : ∃ z : Int, lowI (((v) >>> ((iI (1 + (2 * (k : Int)))) &&& 31))) (16) = z := ⟨_, rfl⟩
        have hw4b : 0 ≤ w4 ∧ w4 < (16) := by rw [← hw4]; exact low_b _ (by omega)
        have hw4c := c_L_low G l (((v) >>> ((iI (1 + (2 * (k : Int)))) &&& 31))) (16) (by omega)
        rw [hw4] at hw4c
        refine kSRE (As := [.int (((v) >>> ((iI (1 + (2 * (k : Int)))) &&& 31))), .int (iI (16))]) E cw_L_72 hw4c trivial hL hl.1 rfl rfl (Nat.le_of_ble_eq_true rfl) ⟨Nat.le_of_ble_eq_true rfl, Nat.le_of_ble_eq_true rfl⟩ ⟨rfl, rfl⟩ ⟨Nat.le_of_ble_eq_true rfl, Nat.le_of_ble_eq_true rfl⟩ dL_types_43 (fun locs hL => ?_)
        refine lv_istore (lv' := [(6, .int (iI (w4))), (5, .int (((v) >>> ((iI (1 + (2 * (k : Int)))) &&& 31)))), (4, .int (iI ((k : Int)))), (3, .int (iI (1))), (2, .int (iI (w1))), (0, .ref (x)), (1, .int (v))]) E.1 E.2.1 dL_types_46 hl (by decide) rfl (fun ls hl => ?_)
        have J67_4 : ∀ (v67 : Int) (hv67 : v67 = 22 ∨ v67 = 20) (ls : Array Slot) (locs : List Loc) (hl : lv_has ls 8 [(6, .int (iI (w4))), (5, .int (((v) >>> ((iI (1 + (2 * (k : Int)))) &&& 31)))), (4, .int (iI ((k : Int)))), (3, .int (iI (1))), (2, .int (iI (w1))), (0, .ref (x)), (1, .int (v))]) (hL : Lk G locs), W p l e ({ frames := 3, cells := 0, slots := 0, locals := 63 } : Room) s m args below meth c H locs 0 0 (QQ G below args s ({ frames := 3, cells := 0, slots := 0, locals := 63 } : Room) (WE (iI 1) (fun H H1 => ∃ tx1 len1, TxOk tx1 len1 ∧ TQ (lowI v 11) tx1 len1 ∧ XP G x fb fl σ hs tx1 len1 H H1))) (F0 m 67 ls [.int (iI (v67))]) := by
          intro v67 hv67 ls locs hl hL
          refine lv_istore (lv' := [(7, .int (iI (v67))), (6, .int (iI (w4))), (5, .int (((v) >>> ((iI (1 + (2 * (k : Int)))) &&& 31)))), (4, .int (iI ((k : Int)))), (3, .int (iI (1))), (2, .int (iI (w1))), (0, .ref (x)), (1, .int (v))]) E.1 E.2.1 dL_types_67 hl (by decide) rfl (fun ls hl => ?_)
          refine lv_iload_n E.1 E.2.1 dL_types_69 rfl (lv_at hl 4 rfl) ?_
          refine r_if_eq (tgt := 171) E dL_types_70 (by decide) (by omega) (fun c70 => absurd c70 (by omega)) (fun c70 => ?_)
          refine lv_iload E.1 E.2.1 dL_types_73 (lv_at hl 3 rfl) ?_
          refine r_if_eq (tgt := 87) E dL_types_75 (by decide) (by omega) (fun c75 => ?_) (fun c75 => ?_)
          · refine lv_aload_n E.1 E.2.1 dL_types_87 rfl (lv_at hl 6 rfl) ?_
            have J161_5 : ∀ (v161 : Int) (hv161 : 98 ≤ v161 ∧ v161 ≤ 119) (ls : Array Slot) (locs : List Loc) (hl : lv_has ls 8 [(7, .int (iI (v67))), (6, .int (iI (w4))), (5, .int (((v) >>> ((iI (1 + (2 * (k : Int)))) &&& 31)))), (4, .int (iI ((k : Int)))), (3, .int (iI (1))), (2, .int (iI (w1))), (0, .ref (x)), (1, .int (v))]) (hL : Lk G locs), W p l e ({ frames := 3, cells := 0, slots := 0, locals := 63 } : Room) s m args below meth c H locs 0 0 (QQ G below args s ({ frames := 3, cells := 0, slots := 0, locals := 63 } : Room) (WE (iI 1) (fun H H1 => ∃ tx1 len1, TxOk tx1 len1 ∧ TQ (lowI v 11) tx1 len1 ∧ XP G x fb fl σ hs tx1 len1 H H1))) (F0 m 161 ls [.int (iI (v161)), .ref (x)]) := by
              intro v161 hv161 ls locs hl hL
              refine kVWE (As := [.int (iI (v161))]) E cw_L_93 (c_X5_append G l x fb flk σ hs txk lenk hI hTk hfx hgx (v161) (by unfold okI; omega)) hXk.1 ⟨_, _, rfl⟩ ⟨hXk, hzk⟩ hL hl.1 rfl rfl (Nat.le_of_ble_eq_true rfl) ⟨Nat.le_of_ble_eq_true rfl, Nat.le_of_ble_eq_true rfl⟩ ⟨Nat.le_of_ble_eq_true rfl, Nat.le_of_ble_eq_true rfl⟩ dL_types_161 (fun H7 locs hL hw_ => ?_)
              have hy7 : 32 ≤ ((v161) : Int) ∧ ((v161) : Int) ≤ 126 := by omega
              have hl7 : lenk < 80 := by omega
              rw [ap_ok hy7 hl7] at hw_ ⊢
              obtain ⟨⟨fl7, hE7, hX7⟩, hR7⟩ := hw_
              have hT7 := ap_tx hTk hy7 hl7
              have hs7 : scn (va_up txk lenk (v161)) (lenk + 1) = scn txk lenk := ap_scn (by omega)
              have hX7 : XAt G x fb fl7 σ hs (va_up txk lenk (v161)) (lenk + 1) H7 := hX7
              generalize va_up txk lenk (v161) = t7 at hX7 hT7 hs7
              obtain ⟨l7, hll7⟩ : ∃ q, q = lenk + 1 := ⟨_, rfl⟩
              rw [← hll7] at hX7 hT7 hs7
              have hz7 := FrR.size hR7 hzk
              have hR7 := hRk.trans hR7
              have hE7 := hEk.trans hE7
              refine r_if_le (tgt := 171) E dL_types_164 (by decide) (by omega) (fun c164 => absurd c164 (by omega)) (fun c164 => ?_)
              refine r_const E dL_types_167 ?_
              refine lv_goto (tgt := 172) E.1 E.2.1 dL_types_168 (by decide) ?_
              refine lv_istore_n (lv' := [(3, .int (iI (1))), (7, .int (iI (v67))), (6, .int (iI (w4))), (5, .int (((v) >>> ((iI (1 + (2 * (k : Int)))) &&& 31)))), (4, .int (iI ((k : Int)))), (2, .int (iI (w1))), (0, .ref (x)), (1, .int (v))]) E.1 E.2.1 dL_types_172 rfl hl (by decide) rfl (fun ls hl => ?_)
              refine lv_iload_n E.1 E.2.1 dL_types_173 rfl (lv_at hl 0 rfl) ?_
              refine r_if_eq (tgt := 282) E dL_types_174 (by decide) (by omega) (fun c174 => absurd c174 (by omega)) (fun c174 => ?_)
              refine lv_iload E.1 E.2.1 dL_types_177 (lv_at hl 2 rfl) ?_
              refine r_bipush E dL_types_179 (by decide) ?_
              refine r_icmp_le (tgt := 191) E dL_types_181 (by decide) (by omega) (by omega) (fun c181 => ?_) (fun c181 => ?_)
              · refine lv_aload_n E.1 E.2.1 dL_types_191 rfl (lv_at hl 6 rfl) ?_
                have J272_8 : ∀ (v272 : Int) (hv272 : 0 ≤ v272 ∧ ((v272 ≤ 2 ∧ w4 < 3) ∨ (v272 ≤ 249 ∧ 13 < w4) ∨ v272 ≤ 21)) (ls : Array Slot) (locs : List Loc) (hl : lv_has ls 8 [(3, .int (iI (1))), (7, .int (iI (v67))), (6, .int (iI (w4))), (5, .int (((v) >>> ((iI (1 + (2 * (k : Int)))) &&& 31)))), (4, .int (iI ((k : Int)))), (2, .int (iI (w1))), (0, .ref (x)), (1, .int (v))]) (hL : Lk G locs), W p l e ({ frames := 3, cells := 0, slots := 0, locals := 63 } : Room) s m args below meth c H7 locs 0 0 (QQ G below args s ({ frames := 3, cells := 0, slots := 0, locals := 63 } : Room) (WE (iI 1) (fun H H1 => ∃ tx1 len1, TxOk tx1 len1 ∧ TQ (lowI v 11) tx1 len1 ∧ XP G x fb fl σ hs tx1 len1 H H1))) (F0 m 272 ls [.int (iI (v272)), .ref (x)]) := by
                  intro v272 hv272 ls locs hl hL
                  refine kSWE (As := [.ref (x), .int (iI (v272))]) E cw_L_99 (c_L_digits G l x fb fl7 σ hs t7 l7 hI hT7 hfx hgx (v272) (by omega) (by omega)) ⟨hX7, hz7⟩ hL hl.1 rfl rfl (Nat.le_of_ble_eq_true rfl) ⟨Nat.le_of_ble_eq_true rfl, Nat.le_of_ble_eq_true rfl⟩ ⟨Nat.le_of_ble_eq_true rfl, Nat.le_of_ble_eq_true rfl⟩ dL_types_272 (fun H11 locs hL hw_ => ?_)
                  obtain ⟨t9, l9, hT9, ⟨hd9a, hd9b, hd9c, hd9d, hs9⟩, ⟨fl9, hE9, hX9⟩, hR9⟩ := hw_
                  have hz9 := FrR.size hR9 hz7
                  have hR9 := hR7.trans hR9
                  have hE9 := hE7.trans hE9
                  refine r_if_eq (tgt := 282) E dL_types_275 (by decide) (by omega) (fun c275 => absurd c275 (by omega)) (fun c275 => ?_)
                  refine r_const E dL_types_278 ?_
                  refine lv_goto (tgt := 283) E.1 E.2.1 dL_types_279 (by decide) ?_
                  refine lv_istore_n (lv' := [(3, .int (iI (1))), (7, .int (iI (v67))), (6, .int (iI (w4))), (5, .int (((v) >>> ((iI (1 + (2 * (k : Int)))) &&& 31)))), (4, .int (iI ((k : Int)))), (2, .int (iI (w1))), (0, .ref (x)), (1, .int (v))]) E.1 E.2.1 dL_types_283 rfl hl (by decide) rfl (fun ls hl => ?_)
                  refine lv_iload_n E.1 E.2.1 dL_types_284 rfl (lv_at hl 0 rfl) ?_
                  refine r_if_eq (tgt := 374) E dL_types_285 (by decide) (by omega) (fun c285 => absurd c285 (by omega)) (fun c285 => ?_)
                  refine lv_iload E.1 E.2.1 dL_types_288 (lv_at hl 2 rfl) ?_
                  refine r_const E dL_types_290 ?_
                  refine r_icmp_lt (tgt := 370) E dL_types_291 (by decide) (by omega) (by omega) (fun c291 => ?_) (fun c291 => ?_)
                  · refine r_const E dL_types_370 ?_
                    refine lv_goto (tgt := 375) E.1 E.2.1 dL_types_371 (by decide) ?_
                    refine lv_istore_n (lv' := [(3, .int (iI (1))), (7, .int (iI (v67))), (6, .int (iI (w4))), (5, .int (((v) >>> ((iI (1 + (2 * (k : Int)))) &&& 31)))), (4, .int (iI ((k : Int)))), (2, .int (iI (w1))), (0, .ref (x)), (1, .int (v))]) E.1 E.2.1 dL_types_375 rfl hl (by decide) rfl (fun ls hl => ?_)
                    refine r_inc (lv' := [(4, .int (iI ((k : Int) + 1))), (3, .int (iI (1))), (7, .int (iI (v67))), (6, .int (iI (w4))), (5, .int (((v) >>> ((iI (1 + (2 * (k : Int)))) &&& 31)))), (2, .int (iI (w1))), (0, .ref (x)), (1, .int (v))]) E dL_types_376 hl (k := 4) rfl (by decide) rfl (fun ls hl => ?_)
                    refine lv_goto (tgt := 23) E.1 E.2.1 dL_types_379 (by decide) ?_
                    refine ihin23 _ ?_ (k + 1) H11 ((k : Int) + 1) fl9 t9 l9 ls locs ?_ ?_ ?_ ?_ ?_ ?_ ?_ ?_ ?_ rfl (lv_sub hl [0, 1, 5, 6, 7] rfl) hL
                    · omega
                    · omega
                    · omega
                    · exact hX9
                    · exact hz9
                    · exact hE9
                    · exact hR9
                    · exact hT9
                    · omega
                    · omega
                  · refine lv_iload E.1 E.2.1 dL_types_294 (lv_at hl 2 rfl) ?_
                    refine r_bipush E dL_types_296 (by decide) ?_
                    refine r_icmp_eq (tgt := 370) E dL_types_298 (by decide) (by omega) (by omega) (fun c298 => ?_) (fun c298 => ?_)
                    · refine r_const E dL_types_370 ?_
                      refine lv_goto (tgt := 375) E.1 E.2.1 dL_types_371 (by decide) ?_
                      refine lv_istore_n (lv' := [(3, .int (iI (1))), (7, .int (iI (v67))), (6, .int (iI (w4))), (5, .int (((v) >>> ((iI (1 + (2 * (k : Int)))) &&& 31)))), (4, .int (iI ((k : Int)))), (2, .int (iI (w1))), (0, .ref (x)), (1, .int (v))]) E.1 E.2.1 dL_types_375 rfl hl (by decide) rfl (fun ls hl => ?_)
                      refine r_inc (lv' := [(4, .int (iI ((k : Int) + 1))), (3, .int (iI (1))), (7, .int (iI (v67))), (6, .int (iI (w4))), (5, .int (((v) >>> ((iI (1 + (2 * (k : Int)))) &&& 31)))), (2, .int (iI (w1))), (0, .ref (x)), (1, .int (v))]) E dL_types_376 hl (k := 4) rfl (by decide) rfl (fun ls hl => ?_)
                      refine lv_goto (tgt := 23) E.1 E.2.1 dL_types_379 (by decide) ?_
                      refine ihin23 _ ?_ (k + 1) H11 ((k : Int) + 1) fl9 t9 l9 ls locs ?_ ?_ ?_ ?_ ?_ ?_ ?_ ?_ ?_ rfl (lv_sub hl [0, 1, 5, 6, 7] rfl) hL
                      · omega
                      · omega
                      · omega
                      · exact hX9
                      · exact hz9
                      · exact hE9
                      · exact hR9
                      · exact hT9
                      · omega
                      · omega
                    · refine lv_iload E.1 E.2.1 dL_types_301 (lv_at hl 2 rfl) ?_
                      refine r_bipush E dL_types_303 (by decide) ?_
                      refine r_icmp_gt (tgt := 370) E dL_types_305 (by decide) (by omega) (by omega) (fun c305 => ?_) (fun c305 => ?_)
                      · refine r_const E dL_types_370 ?_
                        refine lv_goto (tgt := 375) E.1 E.2.1 dL_types_371 (by decide) ?_
                        refine lv_istore_n (lv' := [(3, .int (iI (1))), (7, .int (iI (v67))), (6, .int (iI (w4))), (5, .int (((v) >>> ((iI (1 + (2 * (k : Int)))) &&& 31)))), (4, .int (iI ((k : Int)))), (2, .int (iI (w1))), (0, .ref (x)), (1, .int (v))]) E.1 E.2.1 dL_types_375 rfl hl (by decide) rfl (fun ls hl => ?_)
                        refine r_inc (lv' := [(4, .int (iI ((k : Int) + 1))), (3, .int (iI (1))), (7, .int (iI (v67))), (6, .int (iI (w4))), (5, .int (((v) >>> ((iI (1 + (2 * (k : Int)))) &&& 31)))), (2, .int (iI (w1))), (0, .ref (x)), (1, .int (v))]) E dL_types_376 hl (k := 4) rfl (by decide) rfl (fun ls hl => ?_)
                        refine lv_goto (tgt := 23) E.1 E.2.1 dL_types_379 (by decide) ?_
                        refine ihin23 _ ?_ (k + 1) H11 ((k : Int) + 1) fl9 t9 l9 ls locs ?_ ?_ ?_ ?_ ?_ ?_ ?_ ?_ ?_ rfl (lv_sub hl [0, 1, 5, 6, 7] rfl) hL
                        · omega
                        · omega
                        · omega
                        · exact hX9
                        · exact hz9
                        · exact hE9
                        · exact hR9
                        · exact hT9
                        · omega
                        · omega
                      · refine lv_aload_n E.1 E.2.1 dL_types_308 rfl (lv_at hl 6 rfl) ?_
                        have J323_11 : ∀ (v323 : Int) (hv323 : v323 = 61 ∨ v323 = 46) (ls : Array Slot) (locs : List Loc) (hl : lv_has ls 8 [(3, .int (iI (1))), (7, .int (iI (v67))), (6, .int (iI (w4))), (5, .int (((v) >>> ((iI (1 + (2 * (k : Int)))) &&& 31)))), (4, .int (iI ((k : Int)))), (2, .int (iI (w1))), (0, .ref (x)), (1, .int (v))]) (hL : Lk G locs), W p l e ({ frames := 3, cells := 0, slots := 0, locals := 63 } : Room) s m args below meth c H11 locs 0 0 (QQ G below args s ({ frames := 3, cells := 0, slots := 0, locals := 63 } : Room) (WE (iI 1) (fun H H1 => ∃ tx1 len1, TxOk tx1 len1 ∧ TQ (lowI v 11) tx1 len1 ∧ XP G x fb fl σ hs tx1 len1 H H1))) (F0 m 323 ls [.int (iI (v323)), .ref (x)]) := by
                          intro v323 hv323 ls locs hl hL
                          refine kVWE (As := [.int (iI (v323))]) E cw_L_93 (c_X5_append G l x fb fl9 σ hs t9 l9 hI hT9 hfx hgx (v323) (by unfold okI; omega)) hX9.1 ⟨_, _, rfl⟩ ⟨hX9, hz9⟩ hL hl.1 rfl rfl (Nat.le_of_ble_eq_true rfl) ⟨Nat.le_of_ble_eq_true rfl, Nat.le_of_ble_eq_true rfl⟩ ⟨Nat.le_of_ble_eq_true rfl, Nat.le_of_ble_eq_true rfl⟩ dL_types_323 (fun H13 locs hL hw_ => ?_)
                          have hy13 : 32 ≤ ((v323) : Int) ∧ ((v323) : Int) ≤ 126 := by omega
                          have hl13 : l9 < 80 := by omega
                          rw [ap_ok hy13 hl13] at hw_ ⊢
                          obtain ⟨⟨fl13, hE13, hX13⟩, hR13⟩ := hw_
                          have hT13 := ap_tx hT9 hy13 hl13
                          have hs13 : scn (va_up t9 l9 (v323)) (l9 + 1) = scn t9 l9 := ap_scn (by omega)
                          have hX13 : XAt G x fb fl13 σ hs (va_up t9 l9 (v323)) (l9 + 1) H13 := hX13
                          generalize va_up t9 l9 (v323) = t13 at hX13 hT13 hs13
                          obtain ⟨l13, hll13⟩ : ∃ q, q = l9 + 1 := ⟨_, rfl⟩
                          rw [← hll13] at hX13 hT13 hs13
                          have hz13 := FrR.size hR13 hz9
                          have hR13 := hR9.trans hR13
                          have hE13 := hE9.trans hE13
                          refine r_if_le (tgt := 374) E dL_types_326 (by decide) (by omega) (fun c326 => absurd c326 (by omega)) (fun c326 => ?_)
                          refine lv_aload_n E.1 E.2.1 dL_types_329 rfl (lv_at hl 6 rfl) ?_
                          refine lv_iload E.1 E.2.1 dL_types_330 (lv_at hl 3 rfl) ?_
                          refine r_const E dL_types_332 ?_
                          refine lv_ishr E.1 E.2.1 dL_types_333 ?_
                          refine r_bipush E dL_types_334 (by decide) ?_
                          obtain ⟨w15, hw15⟩ : ∃ z : Int, lowI (((((v) >>> ((iI (1 + (2 * (k : Int)))) &&& 31))) >>> ((iI (4)) &&& 31))) (12) = z := ⟨_, rfl⟩
                          have hw15b : 0 ≤ w15 ∧ w15 < (12) := by rw [← hw15]; exact low_b _ (by omega)
                          have hw15c := c_L_low G l (((((v) >>> ((iI (1 + (2 * (k : Int)))) &&& 31))) >>> ((iI (4)) &&& 31))) (12) (by omega)
                          rw [hw15] at hw15c
                          refine kSRE (As := [.int (((((v) >>> ((iI (1 + (2 * (k : Int)))) &&& 31))) >>> ((iI (4)) &&& 31))), .int (iI (12))]) E cw_L_72 hw15c trivial hL hl.1 rfl rfl (Nat.le_of_ble_eq_true rfl) ⟨Nat.le_of_ble_eq_true rfl, Nat.le_of_ble_eq_true rfl⟩ ⟨rfl, rfl⟩ ⟨Nat.le_of_ble_eq_true rfl, Nat.le_of_ble_eq_true rfl⟩ dL_types_336 (fun locs hL => ?_)
                          have J363_15 : ∀ (v363 : Int) (hv363 : v363 = 0 ∨ v363 = 1) (ls : Array Slot) (locs : List Loc) (hl : lv_has ls 8 [(3, .int (iI (1))), (7, .int (iI (v67))), (6, .int (iI (w4))), (5, .int (((v) >>> ((iI (1 + (2 * (k : Int)))) &&& 31)))), (4, .int (iI ((k : Int)))), (2, .int (iI (w1))), (0, .ref (x)), (1, .int (v))]) (hL : Lk G locs), W p l e ({ frames := 3, cells := 0, slots := 0, locals := 63 } : Room) s m args below meth c H13 locs 0 0 (QQ G below args s ({ frames := 3, cells := 0, slots := 0, locals := 63 } : Room) (WE (iI 1) (fun H H1 => ∃ tx1 len1, TxOk tx1 len1 ∧ TQ (lowI v 11) tx1 len1 ∧ XP G x fb fl σ hs tx1 len1 H H1))) (F0 m 363 ls [.int (iI (v363)), .int (iI (w15)), .ref (x)]) := by
                            intro v363 hv363 ls locs hl hL
                            refine r_add E dL_types_363 ?_
                            refine kSWE (As := [.ref (x), .int (iI (w15 + v363))]) E cw_L_99 (c_L_digits G l x fb fl13 σ hs t13 l13 hI hT13 hfx hgx (w15 + v363) (by omega) (by omega)) ⟨hX13, hz13⟩ hL hl.1 rfl rfl (Nat.le_of_ble_eq_true rfl) ⟨Nat.le_of_ble_eq_true rfl, Nat.le_of_ble_eq_true rfl⟩ ⟨Nat.le_of_ble_eq_true rfl, Nat.le_of_ble_eq_true rfl⟩ dL_types_364 (fun H18 locs hL hw_ => ?_)
                            obtain ⟨t16, l16, hT16, ⟨hd16a, hd16b, hd16c, hd16d, hs16⟩, ⟨fl16, hE16, hX16⟩, hR16⟩ := hw_
                            have hz16 := FrR.size hR16 hz13
                            have hR16 := hR13.trans hR16
                            have hE16 := hE13.trans hE16
                            refine r_if_eq (tgt := 374) E dL_types_367 (by decide) (by omega) (fun c367 => absurd c367 (by omega)) (fun c367 => ?_)
                            refine r_const E dL_types_370 ?_
                            refine lv_goto (tgt := 375) E.1 E.2.1 dL_types_371 (by decide) ?_
                            refine lv_istore_n (lv' := [(3, .int (iI (1))), (7, .int (iI (v67))), (6, .int (iI (w4))), (5, .int (((v) >>> ((iI (1 + (2 * (k : Int)))) &&& 31)))), (4, .int (iI ((k : Int)))), (2, .int (iI (w1))), (0, .ref (x)), (1, .int (v))]) E.1 E.2.1 dL_types_375 rfl hl (by decide) rfl (fun ls hl => ?_)
                            refine r_inc (lv' := [(4, .int (iI ((k : Int) + 1))), (3, .int (iI (1))), (7, .int (iI (v67))), (6, .int (iI (w4))), (5, .int (((v) >>> ((iI (1 + (2 * (k : Int)))) &&& 31)))), (2, .int (iI (w1))), (0, .ref (x)), (1, .int (v))]) E dL_types_376 hl (k := 4) rfl (by decide) rfl (fun ls hl => ?_)
                            refine lv_goto (tgt := 23) E.1 E.2.1 dL_types_379 (by decide) ?_
                            refine ihin23 _ ?_ (k + 1) H18 ((k : Int) + 1) fl16 t16 l16 ls locs ?_ ?_ ?_ ?_ ?_ ?_ ?_ ?_ ?_ rfl (lv_sub hl [0, 1, 5, 6, 7] rfl) hL
                            · omega
                            · omega
                            · omega
                            · exact hX16
                            · exact hz16
                            · exact hE16
                            · exact hR16
                            · exact hT16
                            · omega
                            · omega
                          refine lv_iload E.1 E.2.1 dL_types_339 (lv_at hl 2 rfl) ?_
                          refine r_bipush E dL_types_341 (by decide) ?_
                          refine r_icmp_ge (tgt := 362) E dL_types_343 (by decide) (by omega) (by omega) (fun c343 => ?_) (fun c343 => ?_)
                          · refine r_const E dL_types_362 ?_
                            exact J363_15 _ (by omega) ls locs (lv_sub hl [0, 1, 2, 3, 4, 5, 6, 7] rfl) hL
                          · refine lv_iload_n E.1 E.2.1 dL_types_346 rfl (lv_at hl 7 rfl) ?_
                            refine r_bipush E dL_types_347 (by decide) ?_
                            refine lv_ishr E.1 E.2.1 dL_types_349 ?_
                            refine r_bipush E dL_types_350 (by decide) ?_
                            obtain ⟨w17, hw17⟩ : ∃ z : Int, lowI (((v) >>> ((iI (25)) &&& 31))) (9) = z := ⟨_, rfl⟩
                            have hw17b : 0 ≤ w17 ∧ w17 < (9) := by rw [← hw17]; exact low_b _ (by omega)
                            have hw17c := c_L_low G l (((v) >>> ((iI (25)) &&& 31))) (9) (by omega)
                            rw [hw17] at hw17c
                            refine kSRE (As := [.int (((v) >>> ((iI (25)) &&& 31))), .int (iI (9))]) E cw_L_72 hw17c trivial hL hl.1 rfl rfl (Nat.le_of_ble_eq_true rfl) ⟨Nat.le_of_ble_eq_true rfl, Nat.le_of_ble_eq_true rfl⟩ ⟨rfl, rfl⟩ ⟨Nat.le_of_ble_eq_true rfl, Nat.le_of_ble_eq_true rfl⟩ dL_types_352 (fun locs hL => ?_)
                            refine r_if_le (tgt := 362) E dL_types_355 (by decide) (by omega) (fun c355 => ?_) (fun c355 => ?_)
                            · refine r_const E dL_types_362 ?_
                              exact J363_15 _ (by omega) ls locs (lv_sub hl [0, 1, 2, 3, 4, 5, 6, 7] rfl) hL
                            · refine r_const E dL_types_358 ?_
                              refine lv_goto (tgt := 363) E.1 E.2.1 dL_types_359 (by decide) ?_
                              exact J363_15 _ (by omega) ls locs (lv_sub hl [0, 1, 2, 3, 4, 5, 6, 7] rfl) hL
                        refine lv_iload E.1 E.2.1 dL_types_309 (lv_at hl 2 rfl) ?_
                        refine r_bipush E dL_types_311 (by decide) ?_
                        refine r_icmp_ge (tgt := 321) E dL_types_313 (by decide) (by omega) (by omega) (fun c313 => ?_) (fun c313 => ?_)
                        · refine r_bipush E dL_types_321 (by decide) ?_
                          exact J323_11 _ (by omega) ls locs (lv_sub hl [0, 1, 2, 3, 4, 5, 6, 7] rfl) hL
                        · refine r_bipush E dL_types_316 (by decide) ?_
                          refine lv_goto (tgt := 323) E.1 E.2.1 dL_types_318 (by decide) ?_
                          exact J323_11 _ (by omega) ls locs (lv_sub hl [0, 1, 2, 3, 4, 5, 6, 7] rfl) hL
                refine lv_iload E.1 E.2.1 dL_types_192 (lv_at hl 2 rfl) ?_
                refine r_const E dL_types_194 ?_
                refine r_icmp_ge (tgt := 225) E dL_types_195 (by decide) (by omega) (by omega) (fun c195 => ?_) (fun c195 => ?_)
                · refine lv_iload E.1 E.2.1 dL_types_225 (lv_at hl 2 rfl) ?_
                  refine r_bipush E dL_types_227 (by decide) ?_
                  refine r_icmp_le (tgt := 263) E dL_types_229 (by decide) (by omega) (by omega) (fun c229 => ?_) (fun c229 => ?_)
                  · refine lv_iload E.1 E.2.1 dL_types_263 (lv_at hl 3 rfl) ?_
                    refine r_const E dL_types_265 ?_
                    refine lv_ishr E.1 E.2.1 dL_types_266 ?_
                    refine lv_iload E.1 E.2.1 dL_types_267 (lv_at hl 1 rfl) ?_
                    obtain ⟨w10, hw10⟩ : ∃ z : Int, lowI (((((v) >>> ((iI (1 + (2 * (k : Int)))) &&& 31))) >>> ((iI (3)) &&& 31))) (v67) = z := ⟨_, rfl⟩
                    have hw10b : 0 ≤ w10 ∧ w10 < (v67) := by rw [← hw10]; exact low_b _ (by omega)
                    have hw10c := c_L_low G l (((((v) >>> ((iI (1 + (2 * (k : Int)))) &&& 31))) >>> ((iI (3)) &&& 31))) (v67) (by omega)
                    rw [hw10] at hw10c
                    refine kSRE (As := [.int (((((v) >>> ((iI (1 + (2 * (k : Int)))) &&& 31))) >>> ((iI (3)) &&& 31))), .int (iI (v67))]) E cw_L_72 hw10c trivial hL hl.1 rfl rfl (Nat.le_of_ble_eq_true rfl) ⟨Nat.le_of_ble_eq_true rfl, Nat.le_of_ble_eq_true rfl⟩ ⟨rfl, rfl⟩ ⟨Nat.le_of_ble_eq_true rfl, Nat.le_of_ble_eq_true rfl⟩ dL_types_269 (fun locs hL => ?_)
                    exact J272_8 _ (by omega) ls locs (lv_sub hl [0, 1, 2, 3, 4, 5, 6, 7] rfl) hL
                  · refine lv_iload E.1 E.2.1 dL_types_232 (lv_at hl 3 rfl) ?_
                    refine r_const E dL_types_234 ?_
                    refine lv_ishr E.1 E.2.1 dL_types_235 ?_
                    refine lv_iload_n E.1 E.2.1 dL_types_236 rfl (lv_at hl 7 rfl) ?_
                    refine r_bipush E dL_types_237 (by decide) ?_
                    refine lv_ishr E.1 E.2.1 dL_types_239 ?_
                    refine r_bipush E dL_types_240 (by decide) ?_
                    obtain ⟨w10, hw10⟩ : ∃ z : Int, lowI (((v) >>> ((iI (24)) &&& 31))) (9) = z := ⟨_, rfl⟩
                    have hw10b : 0 ≤ w10 ∧ w10 < (9) := by rw [← hw10]; exact low_b _ (by omega)
                    have hw10c := c_L_low G l (((v) >>> ((iI (24)) &&& 31))) (9) (by omega)
                    rw [hw10] at hw10c
                    refine kSRE (As := [.int (((v) >>> ((iI (24)) &&& 31))), .int (iI (9))]) E cw_L_72 hw10c trivial hL hl.1 rfl rfl (Nat.le_of_ble_eq_true rfl) ⟨Nat.le_of_ble_eq_true rfl, Nat.le_of_ble_eq_true rfl⟩ ⟨rfl, rfl⟩ ⟨Nat.le_of_ble_eq_true rfl, Nat.le_of_ble_eq_true rfl⟩ dL_types_242 (fun locs hL => ?_)
                    refine r_if_ne (tgt := 254) E dL_types_245 (by decide) (by omega) (fun c245 => ?_) (fun c245 => ?_)
                    · refine r_sipush E dL_types_254 (by decide) ?_
                      obtain ⟨w11, hw11⟩ : ∃ z : Int, lowI (((((v) >>> ((iI (1 + (2 * (k : Int)))) &&& 31))) >>> ((iI (2)) &&& 31))) (240) = z := ⟨_, rfl⟩
                      have hw11b : 0 ≤ w11 ∧ w11 < (240) := by rw [← hw11]; exact low_b _ (by omega)
                      have hw11c := c_L_low G l (((((v) >>> ((iI (1 + (2 * (k : Int)))) &&& 31))) >>> ((iI (2)) &&& 31))) (240) (by omega)
                      rw [hw11] at hw11c
                      refine kSRE (As := [.int (((((v) >>> ((iI (1 + (2 * (k : Int)))) &&& 31))) >>> ((iI (2)) &&& 31))), .int (iI (240))]) E cw_L_72 hw11c trivial hL hl.1 rfl rfl (Nat.le_of_ble_eq_true rfl) ⟨Nat.le_of_ble_eq_true rfl, Nat.le_of_ble_eq_true rfl⟩ ⟨rfl, rfl⟩ ⟨Nat.le_of_ble_eq_true rfl, Nat.le_of_ble_eq_true rfl⟩ dL_types_257 (fun locs hL => ?_)
                      refine lv_goto (tgt := 272) E.1 E.2.1 dL_types_260 (by decide) ?_
                      exact J272_8 _ (by omega) ls locs (lv_sub hl [0, 1, 2, 3, 4, 5, 6, 7] rfl) hL
                    · refine r_sipush E dL_types_248 (by decide) ?_
                      refine lv_goto (tgt := 257) E.1 E.2.1 dL_types_251 (by decide) ?_
                      obtain ⟨w11, hw11⟩ : ∃ z : Int, lowI (((((v) >>> ((iI (1 + (2 * (k : Int)))) &&& 31))) >>> ((iI (2)) &&& 31))) (250) = z := ⟨_, rfl⟩
                      have hw11b : 0 ≤ w11 ∧ w11 < (250) := by rw [← hw11]; exact low_b _ (by omega)
                      have hw11c := c_L_low G l (((((v) >>> ((iI (1 + (2 * (k : Int)))) &&& 31))) >>> ((iI (2)) &&& 31))) (250) (by omega)
                      rw [hw11] at hw11c
                      refine kSRE (As := [.int (((((v) >>> ((iI (1 + (2 * (k : Int)))) &&& 31))) >>> ((iI (2)) &&& 31))), .int (iI (250))]) E cw_L_72 hw11c trivial hL hl.1 rfl rfl (Nat.le_of_ble_eq_true rfl) ⟨Nat.le_of_ble_eq_true rfl, Nat.le_of_ble_eq_true rfl⟩ ⟨rfl, rfl⟩ ⟨Nat.le_of_ble_eq_true rfl, Nat.le_of_ble_eq_true rfl⟩ dL_types_257 (fun locs hL => ?_)
                      refine lv_goto (tgt := 272) E.1 E.2.1 dL_types_260 (by decide) ?_
                      exact J272_8 _ (by omega) ls locs (lv_sub hl [0, 1, 2, 3, 4, 5, 6, 7] rfl) hL
                · refine lv_iload E.1 E.2.1 dL_types_198 (lv_at hl 3 rfl) ?_
                  refine r_const E dL_types_200 ?_
                  refine lv_ishr E.1 E.2.1 dL_types_201 ?_
                  refine lv_iload_n E.1 E.2.1 dL_types_202 rfl (lv_at hl 7 rfl) ?_
                  refine r_bipush E dL_types_203 (by decide) ?_
                  refine lv_ishr E.1 E.2.1 dL_types_205 ?_
                  refine r_bipush E dL_types_206 (by decide) ?_
                  obtain ⟨w10, hw10⟩ : ∃ z : Int, lowI (((v) >>> ((iI (23)) &&& 31))) (9) = z := ⟨_, rfl⟩
                  have hw10b : 0 ≤ w10 ∧ w10 < (9) := by rw [← hw10]; exact low_b _ (by omega)
                  have hw10c := c_L_low G l (((v) >>> ((iI (23)) &&& 31))) (9) (by omega)
                  rw [hw10] at hw10c
                  refine kSRE (As := [.int (((v) >>> ((iI (23)) &&& 31))), .int (iI (9))]) E cw_L_72 hw10c trivial hL hl.1 rfl rfl (Nat.le_of_ble_eq_true rfl) ⟨Nat.le_of_ble_eq_true rfl, Nat.le_of_ble_eq_true rfl⟩ ⟨rfl, rfl⟩ ⟨Nat.le_of_ble_eq_true rfl, Nat.le_of_ble_eq_true rfl⟩ dL_types_208 (fun locs hL => ?_)
                  refine r_if_ne (tgt := 218) E dL_types_211 (by decide) (by omega) (fun c211 => ?_) (fun c211 => ?_)
                  · refine r_const E dL_types_218 ?_
                    obtain ⟨w11, hw11⟩ : ∃ z : Int, lowI (((((v) >>> ((iI (1 + (2 * (k : Int)))) &&& 31))) >>> ((iI (3)) &&& 31))) (2) = z := ⟨_, rfl⟩
                    have hw11b : 0 ≤ w11 ∧ w11 < (2) := by rw [← hw11]; exact low_b _ (by omega)
                    have hw11c := c_L_low G l (((((v) >>> ((iI (1 + (2 * (k : Int)))) &&& 31))) >>> ((iI (3)) &&& 31))) (2) (by omega)
                    rw [hw11] at hw11c
                    refine kSRE (As := [.int (((((v) >>> ((iI (1 + (2 * (k : Int)))) &&& 31))) >>> ((iI (3)) &&& 31))), .int (iI (2))]) E cw_L_72 hw11c trivial hL hl.1 rfl rfl (Nat.le_of_ble_eq_true rfl) ⟨Nat.le_of_ble_eq_true rfl, Nat.le_of_ble_eq_true rfl⟩ ⟨rfl, rfl⟩ ⟨Nat.le_of_ble_eq_true rfl, Nat.le_of_ble_eq_true rfl⟩ dL_types_219 (fun locs hL => ?_)
                    refine lv_goto (tgt := 272) E.1 E.2.1 dL_types_222 (by decide) ?_
                    exact J272_8 _ (by omega) ls locs (lv_sub hl [0, 1, 2, 3, 4, 5, 6, 7] rfl) hL
                  · refine r_const E dL_types_214 ?_
                    refine lv_goto (tgt := 219) E.1 E.2.1 dL_types_215 (by decide) ?_
                    obtain ⟨w11, hw11⟩ : ∃ z : Int, lowI (((((v) >>> ((iI (1 + (2 * (k : Int)))) &&& 31))) >>> ((iI (3)) &&& 31))) (3) = z := ⟨_, rfl⟩
                    have hw11b : 0 ≤ w11 ∧ w11 < (3) := by rw [← hw11]; exact low_b _ (by omega)
                    have hw11c := c_L_low G l (((((v) >>> ((iI (1 + (2 * (k : Int)))) &&& 31))) >>> ((iI (3)) &&& 31))) (3) (by omega)
                    rw [hw11] at hw11c
                    refine kSRE (As := [.int (((((v) >>> ((iI (1 + (2 * (k : Int)))) &&& 31))) >>> ((iI (3)) &&& 31))), .int (iI (3))]) E cw_L_72 hw11c trivial hL hl.1 rfl rfl (Nat.le_of_ble_eq_true rfl) ⟨Nat.le_of_ble_eq_true rfl, Nat.le_of_ble_eq_true rfl⟩ ⟨rfl, rfl⟩ ⟨Nat.le_of_ble_eq_true rfl, Nat.le_of_ble_eq_true rfl⟩ dL_types_219 (fun locs hL => ?_)
                    refine lv_goto (tgt := 272) E.1 E.2.1 dL_types_222 (by decide) ?_
                    exact J272_8 _ (by omega) ls locs (lv_sub hl [0, 1, 2, 3, 4, 5, 6, 7] rfl) hL
              · refine lv_iload E.1 E.2.1 dL_types_184 (lv_at hl 2 rfl) ?_
                refine r_bipush E dL_types_186 (by decide) ?_
                refine r_icmp_lt (tgt := 278) E dL_types_188 (by decide) (by omega) (by omega) (fun c188 => ?_) (fun c188 => ?_)
                · refine r_const E dL_types_278 ?_
                  refine lv_goto (tgt := 283) E.1 E.2.1 dL_types_279 (by decide) ?_
                  refine lv_istore_n (lv' := [(3, .int (iI (1))), (7, .int (iI (v67))), (6, .int (iI (w4))), (5, .int (((v) >>> ((iI (1 + (2 * (k : Int)))) &&& 31)))), (4, .int (iI ((k : Int)))), (2, .int (iI (w1))), (0, .ref (x)), (1, .int (v))]) E.1 E.2.1 dL_types_283 rfl hl (by decide) rfl (fun ls hl => ?_)
                  refine lv_iload_n E.1 E.2.1 dL_types_284 rfl (lv_at hl 0 rfl) ?_
                  refine r_if_eq (tgt := 374) E dL_types_285 (by decide) (by omega) (fun c285 => absurd c285 (by omega)) (fun c285 => ?_)
                  refine lv_iload E.1 E.2.1 dL_types_288 (lv_at hl 2 rfl) ?_
                  refine r_const E dL_types_290 ?_
                  refine r_icmp_lt (tgt := 370) E dL_types_291 (by decide) (by omega) (by omega) (fun c291 => ?_) (fun c291 => ?_)
                  · refine r_const E dL_types_370 ?_
                    refine lv_goto (tgt := 375) E.1 E.2.1 dL_types_371 (by decide) ?_
                    refine lv_istore_n (lv' := [(3, .int (iI (1))), (7, .int (iI (v67))), (6, .int (iI (w4))), (5, .int (((v) >>> ((iI (1 + (2 * (k : Int)))) &&& 31)))), (4, .int (iI ((k : Int)))), (2, .int (iI (w1))), (0, .ref (x)), (1, .int (v))]) E.1 E.2.1 dL_types_375 rfl hl (by decide) rfl (fun ls hl => ?_)
                    refine r_inc (lv' := [(4, .int (iI ((k : Int) + 1))), (3, .int (iI (1))), (7, .int (iI (v67))), (6, .int (iI (w4))), (5, .int (((v) >>> ((iI (1 + (2 * (k : Int)))) &&& 31)))), (2, .int (iI (w1))), (0, .ref (x)), (1, .int (v))]) E dL_types_376 hl (k := 4) rfl (by decide) rfl (fun ls hl => ?_)
                    refine lv_goto (tgt := 23) E.1 E.2.1 dL_types_379 (by decide) ?_
                    refine ihin23 _ ?_ (k + 1) H7 ((k : Int) + 1) fl7 t7 l7 ls locs ?_ ?_ ?_ ?_ ?_ ?_ ?_ ?_ ?_ rfl (lv_sub hl [0, 1, 5, 6, 7] rfl) hL
                    · omega
                    · omega
                    · omega
                    · exact hX7
                    · exact hz7
                    · exact hE7
                    · exact hR7
                    · exact hT7
                    · omega
                    · omega
                  · refine lv_iload E.1 E.2.1 dL_types_294 (lv_at hl 2 rfl) ?_
                    refine r_bipush E dL_types_296 (by decide) ?_
                    refine r_icmp_eq (tgt := 370) E dL_types_298 (by decide) (by omega) (by omega) (fun c298 => ?_) (fun c298 => ?_)
                    · refine r_const E dL_types_370 ?_
                      refine lv_goto (tgt := 375) E.1 E.2.1 dL_types_371 (by decide) ?_
                      refine lv_istore_n (lv' := [(3, .int (iI (1))), (7, .int (iI (v67))), (6, .int (iI (w4))), (5, .int (((v) >>> ((iI (1 + (2 * (k : Int)))) &&& 31)))), (4, .int (iI ((k : Int)))), (2, .int (iI (w1))), (0, .ref (x)), (1, .int (v))]) E.1 E.2.1 dL_types_375 rfl hl (by decide) rfl (fun ls hl => ?_)
                      refine r_inc (lv' := [(4, .int (iI ((k : Int) + 1))), (3, .int (iI (1))), (7, .int (iI (v67))), (6, .int (iI (w4))), (5, .int (((v) >>> ((iI (1 + (2 * (k : Int)))) &&& 31)))), (2, .int (iI (w1))), (0, .ref (x)), (1, .int (v))]) E dL_types_376 hl (k := 4) rfl (by decide) rfl (fun ls hl => ?_)
                      refine lv_goto (tgt := 23) E.1 E.2.1 dL_types_379 (by decide) ?_
                      refine ihin23 _ ?_ (k + 1) H7 ((k : Int) + 1) fl7 t7 l7 ls locs ?_ ?_ ?_ ?_ ?_ ?_ ?_ ?_ ?_ rfl (lv_sub hl [0, 1, 5, 6, 7] rfl) hL
                      · omega
                      · omega
                      · omega
                      · exact hX7
                      · exact hz7
                      · exact hE7
                      · exact hR7
                      · exact hT7
                      · omega
                      · omega
                    · refine lv_iload E.1 E.2.1 dL_types_301 (lv_at hl 2 rfl) ?_
                      refine r_bipush E dL_types_303 (by decide) ?_
                      refine r_icmp_gt (tgt := 370) E dL_types_305 (by decide) (by omega) (by omega) (fun c305 => ?_) (fun c305 => ?_)
                      · refine r_const E dL_types_370 ?_
                        refine lv_goto (tgt := 375) E.1 E.2.1 dL_types_371 (by decide) ?_
                        refine lv_istore_n (lv' := [(3, .int (iI (1))), (7, .int (iI (v67))), (6, .int (iI (w4))), (5, .int (((v) >>> ((iI (1 + (2 * (k : Int)))) &&& 31)))), (4, .int (iI ((k : Int)))), (2, .int (iI (w1))), (0, .ref (x)), (1, .int (v))]) E.1 E.2.1 dL_types_375 rfl hl (by decide) rfl (fun ls hl => ?_)
                        refine r_inc (lv' := [(4, .int (iI ((k : Int) + 1))), (3, .int (iI (1))), (7, .int (iI (v67))), (6, .int (iI (w4))), (5, .int (((v) >>> ((iI (1 + (2 * (k : Int)))) &&& 31)))), (2, .int (iI (w1))), (0, .ref (x)), (1, .int (v))]) E dL_types_376 hl (k := 4) rfl (by decide) rfl (fun ls hl => ?_)
                        refine lv_goto (tgt := 23) E.1 E.2.1 dL_types_379 (by decide) ?_
                        refine ihin23 _ ?_ (k + 1) H7 ((k : Int) + 1) fl7 t7 l7 ls locs ?_ ?_ ?_ ?_ ?_ ?_ ?_ ?_ ?_ rfl (lv_sub hl [0, 1, 5, 6, 7] rfl) hL
                        · omega
                        · omega
                        · omega
                        · exact hX7
                        · exact hz7
                        · exact hE7
                        · exact hR7
                        · exact hT7
                        · omega
                        · omega
                      · refine lv_aload_n E.1 E.2.1 dL_types_308 rfl (lv_at hl 6 rfl) ?_
                        have J323_8 : ∀ (v323 : Int) (hv323 : v323 = 61 ∨ v323 = 46) (ls : Array Slot) (locs : List Loc) (hl : lv_has ls 8 [(3, .int (iI (1))), (7, .int (iI (v67))), (6, .int (iI (w4))), (5, .int (((v) >>> ((iI (1 + (2 * (k : Int)))) &&& 31)))), (4, .int (iI ((k : Int)))), (2, .int (iI (w1))), (0, .ref (x)), (1, .int (v))]) (hL : Lk G locs), W p l e ({ frames := 3, cells := 0, slots := 0, locals := 63 } : Room) s m args below meth c H7 locs 0 0 (QQ G below args s ({ frames := 3, cells := 0, slots := 0, locals := 63 } : Room) (WE (iI 1) (fun H H1 => ∃ tx1 len1, TxOk tx1 len1 ∧ TQ (lowI v 11) tx1 len1 ∧ XP G x fb fl σ hs tx1 len1 H H1))) (F0 m 323 ls [.int (iI (v323)), .ref (x)]) := by
                          intro v323 hv323 ls locs hl hL
                          refine kVWE (As := [.int (iI (v323))]) E cw_L_93 (c_X5_append G l x fb fl7 σ hs t7 l7 hI hT7 hfx hgx (v323) (by unfold okI; omega)) hX7.1 ⟨_, _, rfl⟩ ⟨hX7, hz7⟩ hL hl.1 rfl rfl (Nat.le_of_ble_eq_true rfl) ⟨Nat.le_of_ble_eq_true rfl, Nat.le_of_ble_eq_true rfl⟩ ⟨Nat.le_of_ble_eq_true rfl, Nat.le_of_ble_eq_true rfl⟩ dL_types_323 (fun H10 locs hL hw_ => ?_)
                          have hy10 : 32 ≤ ((v323) : Int) ∧ ((v323) : Int) ≤ 126 := by omega
                          have hl10 : l7 < 80 := by omega
                          rw [ap_ok hy10 hl10] at hw_ ⊢
                          obtain ⟨⟨fl10, hE10, hX10⟩, hR10⟩ := hw_
                          have hT10 := ap_tx hT7 hy10 hl10
                          have hs10 : scn (va_up t7 l7 (v323)) (l7 + 1) = scn t7 l7 := ap_scn (by omega)
                          have hX10 : XAt G x fb fl10 σ hs (va_up t7 l7 (v323)) (l7 + 1) H10 := hX10
                          generalize va_up t7 l7 (v323) = t10 at hX10 hT10 hs10
                          obtain ⟨l10, hll10⟩ : ∃ q, q = l7 + 1 := ⟨_, rfl⟩
                          rw [← hll10] at hX10 hT10 hs10
                          have hz10 := FrR.size hR10 hz7
                          have hR10 := hR7.trans hR10
                          have hE10 := hE7.trans hE10
                          refine r_if_le (tgt := 374) E dL_types_326 (by decide) (by omega) (fun c326 => absurd c326 (by omega)) (fun c326 => ?_)
                          refine lv_aload_n E.1 E.2.1 dL_types_329 rfl (lv_at hl 6 rfl) ?_
                          refine lv_iload E.1 E.2.1 dL_types_330 (lv_at hl 3 rfl) ?_
                          refine r_const E dL_types_332 ?_
                          refine lv_ishr E.1 E.2.1 dL_types_333 ?_
                          refine r_bipush E dL_types_334 (by decide) ?_
                          obtain ⟨w12, hw12⟩ : ∃ z : Int, lowI (((((v) >>> ((iI (1 + (2 * (k : Int)))) &&& 31))) >>> ((iI (4)) &&& 31))) (12) = z := ⟨_, rfl⟩
                          have hw12b : 0 ≤ w12 ∧ w12 < (12) := by rw [← hw12]; exact low_b _ (by omega)
                          have hw12c := c_L_low G l (((((v) >>> ((iI (1 + (2 * (k : Int)))) &&& 31))) >>> ((iI (4)) &&& 31))) (12) (by omega)
                          rw [hw12] at hw12c
                          refine kSRE (As := [.int (((((v) >>> ((iI (1 + (2 * (k : Int)))) &&& 31))) >>> ((iI (4)) &&& 31))), .int (iI (12))]) E cw_L_72 hw12c trivial hL hl.1 rfl rfl (Nat.le_of_ble_eq_true rfl) ⟨Nat.le_of_ble_eq_true rfl, Nat.le_of_ble_eq_true rfl⟩ ⟨rfl, rfl⟩ ⟨Nat.le_of_ble_eq_true rfl, Nat.le_of_ble_eq_true rfl⟩ dL_types_336 (fun locs hL => ?_)
                          have J363_12 : ∀ (v363 : Int) (hv363 : v363 = 0 ∨ v363 = 1) (ls : Array Slot) (locs : List Loc) (hl : lv_has ls 8 [(3, .int (iI (1))), (7, .int (iI (v67))), (6, .int (iI (w4))), (5, .int (((v) >>> ((iI (1 + (2 * (k : Int)))) &&& 31)))), (4, .int (iI ((k : Int)))), (2, .int (iI (w1))), (0, .ref (x)), (1, .int (v))]) (hL : Lk G locs), W p l e ({ frames := 3, cells := 0, slots := 0, locals := 63 } : Room) s m args below meth c H10 locs 0 0 (QQ G below args s ({ frames := 3, cells := 0, slots := 0, locals := 63 } : Room) (WE (iI 1) (fun H H1 => ∃ tx1 len1, TxOk tx1 len1 ∧ TQ (lowI v 11) tx1 len1 ∧ XP G x fb fl σ hs tx1 len1 H H1))) (F0 m 363 ls [.int (iI (v363)), .int (iI (w12)), .ref (x)]) := by
                            intro v363 hv363 ls locs hl hL
                            refine r_add E dL_types_363 ?_
                            refine kSWE (As := [.ref (x), .int (iI (w12 + v363))]) E cw_L_99 (c_L_digits G l x fb fl10 σ hs t10 l10 hI hT10 hfx hgx (w12 + v363) (by omega) (by omega)) ⟨hX10, hz10⟩ hL hl.1 rfl rfl (Nat.le_of_ble_eq_true rfl) ⟨Nat.le_of_ble_eq_true rfl, Nat.le_of_ble_eq_true rfl⟩ ⟨Nat.le_of_ble_eq_true rfl, Nat.le_of_ble_eq_true rfl⟩ dL_types_364 (fun H15 locs hL hw_ => ?_)
                            obtain ⟨t13, l13, hT13, ⟨hd13a, hd13b, hd13c, hd13d, hs13⟩, ⟨fl13, hE13, hX13⟩, hR13⟩ := hw_
                            have hz13 := FrR.size hR13 hz10
                            have hR13 := hR10.trans hR13
                            have hE13 := hE10.trans hE13
                            refine r_if_eq (tgt := 374) E dL_types_367 (by decide) (by omega) (fun c367 => absurd c367 (by omega)) (fun c367 => ?_)
                            refine r_const E dL_types_370 ?_
                            refine lv_goto (tgt := 375) E.1 E.2.1 dL_types_371 (by decide) ?_
                            refine lv_istore_n (lv' := [(3, .int (iI (1))), (7, .int (iI (v67))), (6, .int (iI (w4))), (5, .int (((v) >>> ((iI (1 + (2 * (k : Int)))) &&& 31)))), (4, .int (iI ((k : Int)))), (2, .int (iI (w1))), (0, .ref (x)), (1, .int (v))]) E.1 E.2.1 dL_types_375 rfl hl (by decide) rfl (fun ls hl => ?_)
                            refine r_inc (lv' := [(4, .int (iI ((k : Int) + 1))), (3, .int (iI (1))), (7, .int (iI (v67))), (6, .int (iI (w4))), (5, .int (((v) >>> ((iI (1 + (2 * (k : Int)))) &&& 31)))), (2, .int (iI (w1))), (0, .ref (x)), (1, .int (v))]) E dL_types_376 hl (k := 4) rfl (by decide) rfl (fun ls hl => ?_)
                            refine lv_goto (tgt := 23) E.1 E.2.1 dL_types_379 (by decide) ?_
                            refine ihin23 _ ?_ (k + 1) H15 ((k : Int) + 1) fl13 t13 l13 ls locs ?_ ?_ ?_ ?_ ?_ ?_ ?_ ?_ ?_ rfl (lv_sub hl [0, 1, 5, 6, 7] rfl) hL
                            · omega
                            · omega
                            · omega
                            · exact hX13
                            · exact hz13
                            · exact hE13
                            · exact hR13
                            · exact hT13
                            · omega
                            · omega
                          refine lv_iload E.1 E.2.1 dL_types_339 (lv_at hl 2 rfl) ?_
                          refine r_bipush E dL_types_341 (by decide) ?_
                          refine r_icmp_ge (tgt := 362) E dL_types_343 (by decide) (by omega) (by omega) (fun c343 => ?_) (fun c343 => ?_)
                          · refine r_const E dL_types_362 ?_
                            exact J363_12 _ (by omega) ls locs (lv_sub hl [0, 1, 2, 3, 4, 5, 6, 7] rfl) hL
                          · refine lv_iload_n E.1 E.2.1 dL_types_346 rfl (lv_at hl 7 rfl) ?_
                            refine r_bipush E dL_types_347 (by decide) ?_
                            refine lv_ishr E.1 E.2.1 dL_types_349 ?_
                            refine r_bipush E dL_types_350 (by decide) ?_
                            obtain ⟨w14, hw14⟩ : ∃ z : Int, lowI (((v) >>> ((iI (25)) &&& 31))) (9) = z := ⟨_, rfl⟩
                            have hw14b : 0 ≤ w14 ∧ w14 < (9) := by rw [← hw14]; exact low_b _ (by omega)
                            have hw14c := c_L_low G l (((v) >>> ((iI (25)) &&& 31))) (9) (by omega)
                            rw [hw14] at hw14c
                            refine kSRE (As := [.int (((v) >>> ((iI (25)) &&& 31))), .int (iI (9))]) E cw_L_72 hw14c trivial hL hl.1 rfl rfl (Nat.le_of_ble_eq_true rfl) ⟨Nat.le_of_ble_eq_true rfl, Nat.le_of_ble_eq_true rfl⟩ ⟨rfl, rfl⟩ ⟨Nat.le_of_ble_eq_true rfl, Nat.le_of_ble_eq_true rfl⟩ dL_types_352 (fun locs hL => ?_)
                            refine r_if_le (tgt := 362) E dL_types_355 (by decide) (by omega) (fun c355 => ?_) (fun c355 => ?_)
                            · refine r_const E dL_types_362 ?_
                              exact J363_12 _ (by omega) ls locs (lv_sub hl [0, 1, 2, 3, 4, 5, 6, 7] rfl) hL
                            · refine r_const E dL_types_358 ?_
                              refine lv_goto (tgt := 363) E.1 E.2.1 dL_types_359 (by decide) ?_
                              exact J363_12 _ (by omega) ls locs (lv_sub hl [0, 1, 2, 3, 4, 5, 6, 7] rfl) hL
                        refine lv_iload E.1 E.2.1 dL_types_309 (lv_at hl 2 rfl) ?_
                        refine r_bipush E dL_types_311 (by decide) ?_
                        refine r_icmp_ge (tgt := 321) E dL_types_313 (by decide) (by omega) (by omega) (fun c313 => ?_) (fun c313 => ?_)
                        · refine r_bipush E dL_types_321 (by decide) ?_
                          exact J323_8 _ (by omega) ls locs (lv_sub hl [0, 1, 2, 3, 4, 5, 6, 7] rfl) hL
                        · refine r_bipush E dL_types_316 (by decide) ?_
                          refine lv_goto (tgt := 323) E.1 E.2.1 dL_types_318 (by decide) ?_
                          exact J323_8 _ (by omega) ls locs (lv_sub hl [0, 1, 2, 3, 4, 5, 6, 7] rfl) hL
                · refine lv_aload_n E.1 E.2.1 dL_types_191 rfl (lv_at hl 6 rfl) ?_
                  have J272_8 : ∀ (v272 : Int) (hv272 : 0 ≤ v272 ∧ ((v272 ≤ 2 ∧ w4 < 3) ∨ (v272 ≤ 249 ∧ 13 < w4) ∨ v272 ≤ 21)) (ls : Array Slot) (locs : List Loc) (hl : lv_has ls 8 [(3, .int (iI (1))), (7, .int (iI (v67))), (6, .int (iI (w4))), (5, .int (((v) >>> ((iI (1 + (2 * (k : Int)))) &&& 31)))), (4, .int (iI ((k : Int)))), (2, .int (iI (w1))), (0, .ref (x)), (1, .int (v))]) (hL : Lk G locs), W p l e ({ frames := 3, cells := 0, slots := 0, locals := 63 } : Room) s m args below meth c H7 locs 0 0 (QQ G below args s ({ frames := 3, cells := 0, slots := 0, locals := 63 } : Room) (WE (iI 1) (fun H H1 => ∃ tx1 len1, TxOk tx1 len1 ∧ TQ (lowI v 11) tx1 len1 ∧ XP G x fb fl σ hs tx1 len1 H H1))) (F0 m 272 ls [.int (iI (v272)), .ref (x)]) := by
                    intro v272 hv272 ls locs hl hL
                    refine kSWE (As := [.ref (x), .int (iI (v272))]) E cw_L_99 (c_L_digits G l x fb fl7 σ hs t7 l7 hI hT7 hfx hgx (v272) (by omega) (by omega)) ⟨hX7, hz7⟩ hL hl.1 rfl rfl (Nat.le_of_ble_eq_true rfl) ⟨Nat.le_of_ble_eq_true rfl, Nat.le_of_ble_eq_true rfl⟩ ⟨Nat.le_of_ble_eq_true rfl, Nat.le_of_ble_eq_true rfl⟩ dL_types_272 (fun H11 locs hL hw_ => ?_)
                    obtain ⟨t9, l9, hT9, ⟨hd9a, hd9b, hd9c, hd9d, hs9⟩, ⟨fl9, hE9, hX9⟩, hR9⟩ := hw_
                    have hz9 := FrR.size hR9 hz7
                    have hR9 := hR7.trans hR9
                    have hE9 := hE7.trans hE9
                    refine r_if_eq (tgt := 282) E dL_types_275 (by decide) (by omega) (fun c275 => absurd c275 (by omega)) (fun c275 => ?_)
                    refine r_const E dL_types_278 ?_
                    refine lv_goto (tgt := 283) E.1 E.2.1 dL_types_279 (by decide) ?_
                    refine lv_istore_n (lv' := [(3, .int (iI (1))), (7, .int (iI (v67))), (6, .int (iI (w4))), (5, .int (((v) >>> ((iI (1 + (2 * (k : Int)))) &&& 31)))), (4, .int (iI ((k : Int)))), (2, .int (iI (w1))), (0, .ref (x)), (1, .int (v))]) E.1 E.2.1 dL_types_283 rfl hl (by decide) rfl (fun ls hl => ?_)
                    refine lv_iload_n E.1 E.2.1 dL_types_284 rfl (lv_at hl 0 rfl) ?_
                    refine r_if_eq (tgt := 374) E dL_types_285 (by decide) (by omega) (fun c285 => absurd c285 (by omega)) (fun c285 => ?_)
                    refine lv_iload E.1 E.2.1 dL_types_288 (lv_at hl 2 rfl) ?_
                    refine r_const E dL_types_290 ?_
                    refine r_icmp_lt (tgt := 370) E dL_types_291 (by decide) (by omega) (by omega) (fun c291 => ?_) (fun c291 => ?_)
                    · refine r_const E dL_types_370 ?_
                      refine lv_goto (tgt := 375) E.1 E.2.1 dL_types_371 (by decide) ?_
                      refine lv_istore_n (lv' := [(3, .int (iI (1))), (7, .int (iI (v67))), (6, .int (iI (w4))), (5, .int (((v) >>> ((iI (1 + (2 * (k : Int)))) &&& 31)))), (4, .int (iI ((k : Int)))), (2, .int (iI (w1))), (0, .ref (x)), (1, .int (v))]) E.1 E.2.1 dL_types_375 rfl hl (by decide) rfl (fun ls hl => ?_)
                      refine r_inc (lv' := [(4, .int (iI ((k : Int) + 1))), (3, .int (iI (1))), (7, .int (iI (v67))), (6, .int (iI (w4))), (5, .int (((v) >>> ((iI (1 + (2 * (k : Int)))) &&& 31)))), (2, .int (iI (w1))), (0, .ref (x)), (1, .int (v))]) E dL_types_376 hl (k := 4) rfl (by decide) rfl (fun ls hl => ?_)
                      refine lv_goto (tgt := 23) E.1 E.2.1 dL_types_379 (by decide) ?_
                      refine ihin23 _ ?_ (k + 1) H11 ((k : Int) + 1) fl9 t9 l9 ls locs ?_ ?_ ?_ ?_ ?_ ?_ ?_ ?_ ?_ rfl (lv_sub hl [0, 1, 5, 6, 7] rfl) hL
                      · omega
                      · omega
                      · omega
                      · exact hX9
                      · exact hz9
                      · exact hE9
                      · exact hR9
                      · exact hT9
                      · omega
                      · omega
                    · refine lv_iload E.1 E.2.1 dL_types_294 (lv_at hl 2 rfl) ?_
                      refine r_bipush E dL_types_296 (by decide) ?_
                      refine r_icmp_eq (tgt := 370) E dL_types_298 (by decide) (by omega) (by omega) (fun c298 => ?_) (fun c298 => ?_)
                      · refine r_const E dL_types_370 ?_
                        refine lv_goto (tgt := 375) E.1 E.2.1 dL_types_371 (by decide) ?_
                        refine lv_istore_n (lv' := [(3, .int (iI (1))), (7, .int (iI (v67))), (6, .int (iI (w4))), (5, .int (((v) >>> ((iI (1 + (2 * (k : Int)))) &&& 31)))), (4, .int (iI ((k : Int)))), (2, .int (iI (w1))), (0, .ref (x)), (1, .int (v))]) E.1 E.2.1 dL_types_375 rfl hl (by decide) rfl (fun ls hl => ?_)
                        refine r_inc (lv' := [(4, .int (iI ((k : Int) + 1))), (3, .int (iI (1))), (7, .int (iI (v67))), (6, .int (iI (w4))), (5, .int (((v) >>> ((iI (1 + (2 * (k : Int)))) &&& 31)))), (2, .int (iI (w1))), (0, .ref (x)), (1, .int (v))]) E dL_types_376 hl (k := 4) rfl (by decide) rfl (fun ls hl => ?_)
                        refine lv_goto (tgt := 23) E.1 E.2.1 dL_types_379 (by decide) ?_
                        refine ihin23 _ ?_ (k + 1) H11 ((k : Int) + 1) fl9 t9 l9 ls locs ?_ ?_ ?_ ?_ ?_ ?_ ?_ ?_ ?_ rfl (lv_sub hl [0, 1, 5, 6, 7] rfl) hL
                        · omega
                        · omega
                        · omega
                        · exact hX9
                        · exact hz9
                        · exact hE9
                        · exact hR9
                        · exact hT9
                        · omega
                        · omega
                      · refine lv_iload E.1 E.2.1 dL_types_301 (lv_at hl 2 rfl) ?_
                        refine r_bipush E dL_types_303 (by decide) ?_
                        refine r_icmp_gt (tgt := 370) E dL_types_305 (by decide) (by omega) (by omega) (fun c305 => ?_) (fun c305 => ?_)
                        · refine r_const E dL_types_370 ?_
                          refine lv_goto (tgt := 375) E.1 E.2.1 dL_types_371 (by decide) ?_
                          refine lv_istore_n (lv' := [(3, .int (iI (1))), (7, .int (iI (v67))), (6, .int (iI (w4))), (5, .int (((v) >>> ((iI (1 + (2 * (k : Int)))) &&& 31)))), (4, .int (iI ((k : Int)))), (2, .int (iI (w1))), (0, .ref (x)), (1, .int (v))]) E.1 E.2.1 dL_types_375 rfl hl (by decide) rfl (fun ls hl => ?_)
                          refine r_inc (lv' := [(4, .int (iI ((k : Int) + 1))), (3, .int (iI (1))), (7, .int (iI (v67))), (6, .int (iI (w4))), (5, .int (((v) >>> ((iI (1 + (2 * (k : Int)))) &&& 31)))), (2, .int (iI (w1))), (0, .ref (x)), (1, .int (v))]) E dL_types_376 hl (k := 4) rfl (by decide) rfl (fun ls hl => ?_)
                          refine lv_goto (tgt := 23) E.1 E.2.1 dL_types_379 (by decide) ?_
                          refine ihin23 _ ?_ (k + 1) H11 ((k : Int) + 1) fl9 t9 l9 ls locs ?_ ?_ ?_ ?_ ?_ ?_ ?_ ?_ ?_ rfl (lv_sub hl [0, 1, 5, 6, 7] rfl) hL
                          · omega
                          · omega
                          · omega
                          · exact hX9
                          · exact hz9
                          · exact hE9
                          · exact hR9
                          · exact hT9
                          · omega
                          · omega
                        · refine lv_aload_n E.1 E.2.1 dL_types_308 rfl (lv_at hl 6 rfl) ?_
                          have J323_11 : ∀ (v323 : Int) (hv323 : v323 = 61 ∨ v323 = 46) (ls : Array Slot) (locs : List Loc) (hl : lv_has ls 8 [(3, .int (iI (1))), (7, .int (iI (v67))), (6, .int (iI (w4))), (5, .int (((v) >>> ((iI (1 + (2 * (k : Int)))) &&& 31)))), (4, .int (iI ((k : Int)))), (2, .int (iI (w1))), (0, .ref (x)), (1, .int (v))]) (hL : Lk G locs), W p l e ({ frames := 3, cells := 0, slots := 0, locals := 63 } : Room) s m args below meth c H11 locs 0 0 (QQ G below args s ({ frames := 3, cells := 0, slots := 0, locals := 63 } : Room) (WE (iI 1) (fun H H1 => ∃ tx1 len1, TxOk tx1 len1 ∧ TQ (lowI v 11) tx1 len1 ∧ XP G x fb fl σ hs tx1 len1 H H1))) (F0 m 323 ls [.int (iI (v323)), .ref (x)]) := by
                            intro v323 hv323 ls locs hl hL
                            refine kVWE (As := [.int (iI (v323))]) E cw_L_93 (c_X5_append G l x fb fl9 σ hs t9 l9 hI hT9 hfx hgx (v323) (by unfold okI; omega)) hX9.1 ⟨_, _, rfl⟩ ⟨hX9, hz9⟩ hL hl.1 rfl rfl (Nat.le_of_ble_eq_true rfl) ⟨Nat.le_of_ble_eq_true rfl, Nat.le_of_ble_eq_true rfl⟩ ⟨Nat.le_of_ble_eq_true rfl, Nat.le_of_ble_eq_true rfl⟩ dL_types_323 (fun H13 locs hL hw_ => ?_)
                            have hy13 : 32 ≤ ((v323) : Int) ∧ ((v323) : Int) ≤ 126 := by omega
                            have hl13 : l9 < 80 := by omega
                            rw [ap_ok hy13 hl13] at hw_ ⊢
                            obtain ⟨⟨fl13, hE13, hX13⟩, hR13⟩ := hw_
                            have hT13 := ap_tx hT9 hy13 hl13
                            have hs13 : scn (va_up t9 l9 (v323)) (l9 + 1) = scn t9 l9 := ap_scn (by omega)
                            have hX13 : XAt G x fb fl13 σ hs (va_up t9 l9 (v323)) (l9 + 1) H13 := hX13
                            generalize va_up t9 l9 (v323) = t13 at hX13 hT13 hs13
                            obtain ⟨l13, hll13⟩ : ∃ q, q = l9 + 1 := ⟨_, rfl⟩
                            rw [← hll13] at hX13 hT13 hs13
                            have hz13 := FrR.size hR13 hz9
                            have hR13 := hR9.trans hR13
                            have hE13 := hE9.trans hE13
                            refine r_if_le (tgt := 374) E dL_types_326 (by decide) (by omega) (fun c326 => absurd c326 (by omega)) (fun c326 => ?_)
                            refine lv_aload_n E.1 E.2.1 dL_types_329 rfl (lv_at hl 6 rfl) ?_
                            refine lv_iload E.1 E.2.1 dL_types_330 (lv_at hl 3 rfl) ?_
                            refine r_const E dL_types_332 ?_
                            refine lv_ishr E.1 E.2.1 dL_types_333 ?_
                            refine r_bipush E dL_types_334 (by decide) ?_
                            obtain ⟨w15, hw15⟩ : ∃ z : Int, lowI (((((v) >>> ((iI (1 + (2 * (k : Int)))) &&& 31))) >>> ((iI (4)) &&& 31))) (12) = z := ⟨_, rfl⟩
                            have hw15b : 0 ≤ w15 ∧ w15 < (12) := by rw [← hw15]; exact low_b _ (by omega)
                            have hw15c := c_L_low G l (((((v) >>> ((iI (1 + (2 * (k : Int)))) &&& 31))) >>> ((iI (4)) &&& 31))) (12) (by omega)
                            rw [hw15] at hw15c
                            refine kSRE (As := [.int (((((v) >>> ((iI (1 + (2 * (k : Int)))) &&& 31))) >>> ((iI (4)) &&& 31))), .int (iI (12))]) E cw_L_72 hw15c trivial hL hl.1 rfl rfl (Nat.le_of_ble_eq_true rfl) ⟨Nat.le_of_ble_eq_true rfl, Nat.le_of_ble_eq_true rfl⟩ ⟨rfl, rfl⟩ ⟨Nat.le_of_ble_eq_true rfl, Nat.le_of_ble_eq_true rfl⟩ dL_types_336 (fun locs hL => ?_)
                            have J363_15 : ∀ (v363 : Int) (hv363 : v363 = 0 ∨ v363 = 1) (ls : Array Slot) (locs : List Loc) (hl : lv_has ls 8 [(3, .int (iI (1))), (7, .int (iI (v67))), (6, .int (iI (w4))), (5, .int (((v) >>> ((iI (1 + (2 * (k : Int)))) &&& 31)))), (4, .int (iI ((k : Int)))), (2, .int (iI (w1))), (0, .ref (x)), (1, .int (v))]) (hL : Lk G locs), W p l e ({ frames := 3, cells := 0, slots := 0, locals := 63 } : Room) s m args below meth c H13 locs 0 0 (QQ G below args s ({ frames := 3, cells := 0, slots := 0, locals := 63 } : Room) (WE (iI 1) (fun H H1 => ∃ tx1 len1, TxOk tx1 len1 ∧ TQ (lowI v 11) tx1 len1 ∧ XP G x fb fl σ hs tx1 len1 H H1))) (F0 m 363 ls [.int (iI (v363)), .int (iI (w15)), .ref (x)]) := by
                              intro v363 hv363 ls locs hl hL
                              refine r_add E dL_types_363 ?_
                              refine kSWE (As := [.ref (x), .int (iI (w15 + v363))]) E cw_L_99 (c_L_digits G l x fb fl13 σ hs t13 l13 hI hT13 hfx hgx (w15 + v363) (by omega) (by omega)) ⟨hX13, hz13⟩ hL hl.1 rfl rfl (Nat.le_of_ble_eq_true rfl) ⟨Nat.le_of_ble_eq_true rfl, Nat.le_of_ble_eq_true rfl⟩ ⟨Nat.le_of_ble_eq_true rfl, Nat.le_of_ble_eq_true rfl⟩ dL_types_364 (fun H18 locs hL hw_ => ?_)
                              obtain ⟨t16, l16, hT16, ⟨hd16a, hd16b, hd16c, hd16d, hs16⟩, ⟨fl16, hE16, hX16⟩, hR16⟩ := hw_
                              have hz16 := FrR.size hR16 hz13
                              have hR16 := hR13.trans hR16
                              have hE16 := hE13.trans hE16
                              refine r_if_eq (tgt := 374) E dL_types_367 (by decide) (by omega) (fun c367 => absurd c367 (by omega)) (fun c367 => ?_)
                              refine r_const E dL_types_370 ?_
                              refine lv_goto (tgt := 375) E.1 E.2.1 dL_types_371 (by decide) ?_
                              refine lv_istore_n (lv' := [(3, .int (iI (1))), (7, .int (iI (v67))), (6, .int (iI (w4))), (5, .int (((v) >>> ((iI (1 + (2 * (k : Int)))) &&& 31)))), (4, .int (iI ((k : Int)))), (2, .int (iI (w1))), (0, .ref (x)), (1, .int (v))]) E.1 E.2.1 dL_types_375 rfl hl (by decide) rfl (fun ls hl => ?_)
                              refine r_inc (lv' := [(4, .int (iI ((k : Int) + 1))), (3, .int (iI (1))), (7, .int (iI (v67))), (6, .int (iI (w4))), (5, .int (((v) >>> ((iI (1 + (2 * (k : Int)))) &&& 31)))), (2, .int (iI (w1))), (0, .ref (x)), (1, .int (v))]) E dL_types_376 hl (k := 4) rfl (by decide) rfl (fun ls hl => ?_)
                              refine lv_goto (tgt := 23) E.1 E.2.1 dL_types_379 (by decide) ?_
                              refine ihin23 _ ?_ (k + 1) H18 ((k : Int) + 1) fl16 t16 l16 ls locs ?_ ?_ ?_ ?_ ?_ ?_ ?_ ?_ ?_ rfl (lv_sub hl [0, 1, 5, 6, 7] rfl) hL
                              · omega
                              · omega
                              · omega
                              · exact hX16
                              · exact hz16
                              · exact hE16
                              · exact hR16
                              · exact hT16
                              · omega
                              · omega
                            refine lv_iload E.1 E.2.1 dL_types_339 (lv_at hl 2 rfl) ?_
                            refine r_bipush E dL_types_341 (by decide) ?_
                            refine r_icmp_ge (tgt := 362) E dL_types_343 (by decide) (by omega) (by omega) (fun c343 => ?_) (fun c343 => ?_)
                            · refine r_const E dL_types_362 ?_
                              exact J363_15 _ (by omega) ls locs (lv_sub hl [0, 1, 2, 3, 4, 5, 6, 7] rfl) hL
                            · refine lv_iload_n E.1 E.2.1 dL_types_346 rfl (lv_at hl 7 rfl) ?_
                              refine r_bipush E dL_types_347 (by decide) ?_
                              refine lv_ishr E.1 E.2.1 dL_types_349 ?_
                              refine r_bipush E dL_types_350 (by decide) ?_
                              obtain ⟨w17, hw17⟩ : ∃ z : Int, lowI (((v) >>> ((iI (25)) &&& 31))) (9) = z := ⟨_, rfl⟩
                              have hw17b : 0 ≤ w17 ∧ w17 < (9) := by rw [← hw17]; exact low_b _ (by omega)
                              have hw17c := c_L_low G l (((v) >>> ((iI (25)) &&& 31))) (9) (by omega)
                              rw [hw17] at hw17c
                              refine kSRE (As := [.int (((v) >>> ((iI (25)) &&& 31))), .int (iI (9))]) E cw_L_72 hw17c trivial hL hl.1 rfl rfl (Nat.le_of_ble_eq_true rfl) ⟨Nat.le_of_ble_eq_true rfl, Nat.le_of_ble_eq_true rfl⟩ ⟨rfl, rfl⟩ ⟨Nat.le_of_ble_eq_true rfl, Nat.le_of_ble_eq_true rfl⟩ dL_types_352 (fun locs hL => ?_)
                              refine r_if_le (tgt := 362) E dL_types_355 (by decide) (by omega) (fun c355 => ?_) (fun c355 => ?_)
                              · refine r_const E dL_types_362 ?_
                                exact J363_15 _ (by omega) ls locs (lv_sub hl [0, 1, 2, 3, 4, 5, 6, 7] rfl) hL
                              · refine r_const E dL_types_358 ?_
                                refine lv_goto (tgt := 363) E.1 E.2.1 dL_types_359 (by decide) ?_
                                exact J363_15 _ (by omega) ls locs (lv_sub hl [0, 1, 2, 3, 4, 5, 6, 7] rfl) hL
                          refine lv_iload E.1 E.2.1 dL_types_309 (lv_at hl 2 rfl) ?_
                          refine r_bipush E dL_types_311 (by decide) ?_
                          refine r_icmp_ge (tgt := 321) E dL_types_313 (by decide) (by omega) (by omega) (fun c313 => ?_) (fun c313 => ?_)
                          · refine r_bipush E dL_types_321 (by decide) ?_
                            exact J323_11 _ (by omega) ls locs (lv_sub hl [0, 1, 2, 3, 4, 5, 6, 7] rfl) hL
                          · refine r_bipush E dL_types_316 (by decide) ?_
                            refine lv_goto (tgt := 323) E.1 E.2.1 dL_types_318 (by decide) ?_
                            exact J323_11 _ (by omega) ls locs (lv_sub hl [0, 1, 2, 3, 4, 5, 6, 7] rfl) hL
                  refine lv_iload E.1 E.2.1 dL_types_192 (lv_at hl 2 rfl) ?_
                  refine r_const E dL_types_194 ?_
                  refine r_icmp_ge (tgt := 225) E dL_types_195 (by decide) (by omega) (by omega) (fun c195 => ?_) (fun c195 => ?_)
                  · refine lv_iload E.1 E.2.1 dL_types_225 (lv_at hl 2 rfl) ?_
                    refine r_bipush E dL_types_227 (by decide) ?_
                    refine r_icmp_le (tgt := 263) E dL_types_229 (by decide) (by omega) (by omega) (fun c229 => ?_) (fun c229 => ?_)
                    · refine lv_iload E.1 E.2.1 dL_types_263 (lv_at hl 3 rfl) ?_
                      refine r_const E dL_types_265 ?_
                      refine lv_ishr E.1 E.2.1 dL_types_266 ?_
                      refine lv_iload E.1 E.2.1 dL_types_267 (lv_at hl 1 rfl) ?_
                      obtain ⟨w10, hw10⟩ : ∃ z : Int, lowI (((((v) >>> ((iI (1 + (2 * (k : Int)))) &&& 31))) >>> ((iI (3)) &&& 31))) (v67) = z := ⟨_, rfl⟩
                      have hw10b : 0 ≤ w10 ∧ w10 < (v67) := by rw [← hw10]; exact low_b _ (by omega)
                      have hw10c := c_L_low G l (((((v) >>> ((iI (1 + (2 * (k : Int)))) &&& 31))) >>> ((iI (3)) &&& 31))) (v67) (by omega)
                      rw [hw10] at hw10c
                      refine kSRE (As := [.int (((((v) >>> ((iI (1 + (2 * (k : Int)))) &&& 31))) >>> ((iI (3)) &&& 31))), .int (iI (v67))]) E cw_L_72 hw10c trivial hL hl.1 rfl rfl (Nat.le_of_ble_eq_true rfl) ⟨Nat.le_of_ble_eq_true rfl, Nat.le_of_ble_eq_true rfl⟩ ⟨rfl, rfl⟩ ⟨Nat.le_of_ble_eq_true rfl, Nat.le_of_ble_eq_true rfl⟩ dL_types_269 (fun locs hL => ?_)
                      exact J272_8 _ (by omega) ls locs (lv_sub hl [0, 1, 2, 3, 4, 5, 6, 7] rfl) hL
                    · refine lv_iload E.1 E.2.1 dL_types_232 (lv_at hl 3 rfl) ?_
                      refine r_const E dL_types_234 ?_
                      refine lv_ishr E.1 E.2.1 dL_types_235 ?_
                      refine lv_iload_n E.1 E.2.1 dL_types_236 rfl (lv_at hl 7 rfl) ?_
                      refine r_bipush E dL_types_237 (by decide) ?_
                      refine lv_ishr E.1 E.2.1 dL_types_239 ?_
                      refine r_bipush E dL_types_240 (by decide) ?_
                      obtain ⟨w10, hw10⟩ : ∃ z : Int, lowI (((v) >>> ((iI (24)) &&& 31))) (9) = z := ⟨_, rfl⟩
                      have hw10b : 0 ≤ w10 ∧ w10 < (9) := by rw [← hw10]; exact low_b _ (by omega)
                      have hw10c := c_L_low G l (((v) >>> ((iI (24)) &&& 31))) (9) (by omega)
                      rw [hw10] at hw10c
                      refine kSRE (As := [.int (((v) >>> ((iI (24)) &&& 31))), .int (iI (9))]) E cw_L_72 hw10c trivial hL hl.1 rfl rfl (Nat.le_of_ble_eq_true rfl) ⟨Nat.le_of_ble_eq_true rfl, Nat.le_of_ble_eq_true rfl⟩ ⟨rfl, rfl⟩ ⟨Nat.le_of_ble_eq_true rfl, Nat.le_of_ble_eq_true rfl⟩ dL_types_242 (fun locs hL => ?_)
                      refine r_if_ne (tgt := 254) E dL_types_245 (by decide) (by omega) (fun c245 => ?_) (fun c245 => ?_)
                      · refine r_sipush E dL_types_254 (by decide) ?_
                        obtain ⟨w11, hw11⟩ : ∃ z : Int, lowI (((((v) >>> ((iI (1 + (2 * (k : Int)))) &&& 31))) >>> ((iI (2)) &&& 31))) (240) = z := ⟨_, rfl⟩
                        have hw11b : 0 ≤ w11 ∧ w11 < (240) := by rw [← hw11]; exact low_b _ (by omega)
                        have hw11c := c_L_low G l (((((v) >>> ((iI (1 + (2 * (k : Int)))) &&& 31))) >>> ((iI (2)) &&& 31))) (240) (by omega)
                        rw [hw11] at hw11c
                        refine kSRE (As := [.int (((((v) >>> ((iI (1 + (2 * (k : Int)))) &&& 31))) >>> ((iI (2)) &&& 31))), .int (iI (240))]) E cw_L_72 hw11c trivial hL hl.1 rfl rfl (Nat.le_of_ble_eq_true rfl) ⟨Nat.le_of_ble_eq_true rfl, Nat.le_of_ble_eq_true rfl⟩ ⟨rfl, rfl⟩ ⟨Nat.le_of_ble_eq_true rfl, Nat.le_of_ble_eq_true rfl⟩ dL_types_257 (fun locs hL => ?_)
                        refine lv_goto (tgt := 272) E.1 E.2.1 dL_types_260 (by decide) ?_
                        exact J272_8 _ (by omega) ls locs (lv_sub hl [0, 1, 2, 3, 4, 5, 6, 7] rfl) hL
                      · refine r_sipush E dL_types_248 (by decide) ?_
                        refine lv_goto (tgt := 257) E.1 E.2.1 dL_types_251 (by decide) ?_
                        obtain ⟨w11, hw11⟩ : ∃ z : Int, lowI (((((v) >>> ((iI (1 + (2 * (k : Int)))) &&& 31))) >>> ((iI (2)) &&& 31))) (250) = z := ⟨_, rfl⟩
                        have hw11b : 0 ≤ w11 ∧ w11 < (250) := by rw [← hw11]; exact low_b _ (by omega)
                        have hw11c := c_L_low G l (((((v) >>> ((iI (1 + (2 * (k : Int)))) &&& 31))) >>> ((iI (2)) &&& 31))) (250) (by omega)
                        rw [hw11] at hw11c
                        refine kSRE (As := [.int (((((v) >>> ((iI (1 + (2 * (k : Int)))) &&& 31))) >>> ((iI (2)) &&& 31))), .int (iI (250))]) E cw_L_72 hw11c trivial hL hl.1 rfl rfl (Nat.le_of_ble_eq_true rfl) ⟨Nat.le_of_ble_eq_true rfl, Nat.le_of_ble_eq_true rfl⟩ ⟨rfl, rfl⟩ ⟨Nat.le_of_ble_eq_true rfl, Nat.le_of_ble_eq_true rfl⟩ dL_types_257 (fun locs hL => ?_)
                        refine lv_goto (tgt := 272) E.1 E.2.1 dL_types_260 (by decide) ?_
                        exact J272_8 _ (by omega) ls locs (lv_sub hl [0, 1, 2, 3, 4, 5, 6, 7] rfl) hL
                  · refine lv_iload E.1 E.2.1 dL_types_198 (lv_at hl 3 rfl) ?_
                    refine r_const E dL_types_200 ?_
                    refine lv_ishr E.1 E.2.1 dL_types_201 ?_
                    refine lv_iload_n E.1 E.2.1 dL_types_202 rfl (lv_at hl 7 rfl) ?_
                    refine r_bipush E dL_types_203 (by decide) ?_
                    refine lv_ishr E.1 E.2.1 dL_types_205 ?_
                    refine r_bipush E dL_types_206 (by decide) ?_
                    obtain ⟨w10, hw10⟩ : ∃ z : Int, lowI (((v) >>> ((iI (23)) &&& 31))) (9) = z := ⟨_, rfl⟩
                    have hw10b : 0 ≤ w10 ∧ w10 < (9) := by rw [← hw10]; exact low_b _ (by omega)
                    have hw10c := c_L_low G l (((v) >>> ((iI (23)) &&& 31))) (9) (by omega)
                    rw [hw10] at hw10c
                    refine kSRE (As := [.int (((v) >>> ((iI (23)) &&& 31))), .int (iI (9))]) E cw_L_72 hw10c trivial hL hl.1 rfl rfl (Nat.le_of_ble_eq_true rfl) ⟨Nat.le_of_ble_eq_true rfl, Nat.le_of_ble_eq_true rfl⟩ ⟨rfl, rfl⟩ ⟨Nat.le_of_ble_eq_true rfl, Nat.le_of_ble_eq_true rfl⟩ dL_types_208 (fun locs hL => ?_)
                    refine r_if_ne (tgt := 218) E dL_types_211 (by decide) (by omega) (fun c211 => ?_) (fun c211 => ?_)
                    · refine r_const E dL_types_218 ?_
                      obtain ⟨w11, hw11⟩ : ∃ z : Int, lowI (((((v) >>> ((iI (1 + (2 * (k : Int)))) &&& 31))) >>> ((iI (3)) &&& 31))) (2) = z := ⟨_, rfl⟩
                      have hw11b : 0 ≤ w11 ∧ w11 < (2) := by rw [← hw11]; exact low_b _ (by omega)
                      have hw11c := c_L_low G l (((((v) >>> ((iI (1 + (2 * (k : Int)))) &&& 31))) >>> ((iI (3)) &&& 31))) (2) (by omega)
                      rw [hw11] at hw11c
                      refine kSRE (As := [.int (((((v) >>> ((iI (1 + (2 * (k : Int)))) &&& 31))) >>> ((iI (3)) &&& 31))), .int (iI (2))]) E cw_L_72 hw11c trivial hL hl.1 rfl rfl (Nat.le_of_ble_eq_true rfl) ⟨Nat.le_of_ble_eq_true rfl, Nat.le_of_ble_eq_true rfl⟩ ⟨rfl, rfl⟩ ⟨Nat.le_of_ble_eq_true rfl, Nat.le_of_ble_eq_true rfl⟩ dL_types_219 (fun locs hL => ?_)
                      refine lv_goto (tgt := 272) E.1 E.2.1 dL_types_222 (by decide) ?_
                      exact J272_8 _ (by omega) ls locs (lv_sub hl [0, 1, 2, 3, 4, 5, 6, 7] rfl) hL
                    · refine r_const E dL_types_214 ?_
                      refine lv_goto (tgt := 219) E.1 E.2.1 dL_types_215 (by decide) ?_
                      obtain ⟨w11, hw11⟩ : ∃ z : Int, lowI (((((v) >>> ((iI (1 + (2 * (k : Int)))) &&& 31))) >>> ((iI (3)) &&& 31))) (3) = z := ⟨_, rfl⟩
                      have hw11b : 0 ≤ w11 ∧ w11 < (3) := by rw [← hw11]; exact low_b _ (by omega)
                      have hw11c := c_L_low G l (((((v) >>> ((iI (1 + (2 * (k : Int)))) &&& 31))) >>> ((iI (3)) &&& 31))) (3) (by omega)
                      rw [hw11] at hw11c
                      refine kSRE (As := [.int (((((v) >>> ((iI (1 + (2 * (k : Int)))) &&& 31))) >>> ((iI (3)) &&& 31))), .int (iI (3))]) E cw_L_72 hw11c trivial hL hl.1 rfl rfl (Nat.le_of_ble_eq_true rfl) ⟨Nat.le_of_ble_eq_true rfl, Nat.le_of_ble_eq_true rfl⟩ ⟨rfl, rfl⟩ ⟨Nat.le_of_ble_eq_true rfl, Nat.le_of_ble_eq_true rfl⟩ dL_types_219 (fun locs hL => ?_)
                      refine lv_goto (tgt := 272) E.1 E.2.1 dL_types_222 (by decide) ?_
                      exact J272_8 _ (by omega) ls locs (lv_sub hl [0, 1, 2, 3, 4, 5, 6, 7] rfl) hL
            refine lv_iload E.1 E.2.1 dL_types_88 (lv_at hl 1 rfl) ?_
            refine r_const E dL_types_90 ?_
            refine r_icmp_ge (tgt := 99) E dL_types_91 (by decide) (by omega) (by omega) (fun c91 => ?_) (fun c91 => ?_)
            · refine lv_iload E.1 E.2.1 dL_types_99 (lv_at hl 1 rfl) ?_
              refine r_bipush E dL_types_101 (by decide) ?_
              refine r_icmp_ge (tgt := 111) E dL_types_103 (by decide) (by omega) (by omega) (fun c103 => ?_) (fun c103 => ?_)
              · refine lv_iload E.1 E.2.1 dL_types_111 (lv_at hl 1 rfl) ?_
                refine r_bipush E dL_types_113 (by decide) ?_
                refine r_icmp_ne (tgt := 123) E dL_types_115 (by decide) (by omega) (by omega) (fun c115 => ?_) (fun c115 => ?_)
                · refine lv_iload E.1 E.2.1 dL_types_123 (lv_at hl 1 rfl) ?_
                  refine r_bipush E dL_types_125 (by decide) ?_
                  refine r_icmp_ge (tgt := 135) E dL_types_127 (by decide) (by omega) (by omega) (fun c127 => ?_) (fun c127 => ?_)
                  · refine lv_iload E.1 E.2.1 dL_types_135 (lv_at hl 1 rfl) ?_
                    refine r_bipush E dL_types_137 (by decide) ?_
                    refine r_icmp_ge (tgt := 147) E dL_types_139 (by decide) (by omega) (by omega) (fun c139 => ?_) (fun c139 => ?_)
                    · refine lv_iload E.1 E.2.1 dL_types_147 (lv_at hl 1 rfl) ?_
                      refine r_bipush E dL_types_149 (by decide) ?_
                      refine r_icmp_ne (tgt := 159) E dL_types_151 (by decide) (by omega) (by omega) (fun c151 => ?_) (fun c151 => ?_)
                      · refine r_bipush E dL_types_159 (by decide) ?_
                        exact J161_5 _ (by omega) ls locs (lv_sub hl [0, 1, 2, 3, 4, 5, 6, 7] rfl) hL
                      · refine r_bipush E dL_types_154 (by decide) ?_
                        refine lv_goto (tgt := 161) E.1 E.2.1 dL_types_156 (by decide) ?_
                        exact J161_5 _ (by omega) ls locs (lv_sub hl [0, 1, 2, 3, 4, 5, 6, 7] rfl) hL
                    · refine r_bipush E dL_types_142 (by decide) ?_
                      refine lv_goto (tgt := 161) E.1 E.2.1 dL_types_144 (by decide) ?_
                      exact J161_5 _ (by omega) ls locs (lv_sub hl [0, 1, 2, 3, 4, 5, 6, 7] rfl) hL
                  · refine r_bipush E dL_types_130 (by decide) ?_
                    refine lv_goto (tgt := 161) E.1 E.2.1 dL_types_132 (by decide) ?_
                    exact J161_5 _ (by omega) ls locs (lv_sub hl [0, 1, 2, 3, 4, 5, 6, 7] rfl) hL
                · refine r_bipush E dL_types_118 (by decide) ?_
                  refine lv_goto (tgt := 161) E.1 E.2.1 dL_types_120 (by decide) ?_
                  exact J161_5 _ (by omega) ls locs (lv_sub hl [0, 1, 2, 3, 4, 5, 6, 7] rfl) hL
              · refine r_bipush E dL_types_106 (by decide) ?_
                refine lv_goto (tgt := 161) E.1 E.2.1 dL_types_108 (by decide) ?_
                exact J161_5 _ (by omega) ls locs (lv_sub hl [0, 1, 2, 3, 4, 5, 6, 7] rfl) hL
            · refine r_bipush E dL_types_94 (by decide) ?_
              refine lv_goto (tgt := 161) E.1 E.2.1 dL_types_96 (by decide) ?_
              exact J161_5 _ (by omega) ls locs (lv_sub hl [0, 1, 2, 3, 4, 5, 6, 7] rfl) hL
          · refine lv_aload_n E.1 E.2.1 dL_types_78 rfl (lv_at hl 6 rfl) ?_
            refine r_bipush E dL_types_79 (by decide) ?_
            refine kVWE (As := [.int (iI (59))]) E cw_L_93 (c_X5_append G l x fb flk σ hs txk lenk hI hTk hfx hgx (59) (by unfold okI; omega)) hXk.1 ⟨_, _, rfl⟩ ⟨hXk, hzk⟩ hL hl.1 rfl rfl (Nat.le_of_ble_eq_true rfl) ⟨Nat.le_of_ble_eq_true rfl, Nat.le_of_ble_eq_true rfl⟩ ⟨Nat.le_of_ble_eq_true rfl, Nat.le_of_ble_eq_true rfl⟩ dL_types_81 (fun H6 locs hL hw_ => ?_)
            have hy6 : 32 ≤ ((59) : Int) ∧ ((59) : Int) ≤ 126 := by omega
            have hl6 : lenk < 80 := by omega
            rw [ap_ok hy6 hl6] at hw_ ⊢
            obtain ⟨⟨fl6, hE6, hX6⟩, hR6⟩ := hw_
            have hT6 := ap_tx hTk hy6 hl6
            have hs6 : scn (va_up txk lenk 59) (lenk + 1) = scn txk lenk + 1 := ap_scn9
            have hX6 : XAt G x fb fl6 σ hs (va_up txk lenk (59)) (lenk + 1) H6 := hX6
            generalize va_up txk lenk (59) = t6 at hX6 hT6 hs6
            obtain ⟨l6, hll6⟩ : ∃ q, q = lenk + 1 := ⟨_, rfl⟩
            rw [← hll6] at hX6 hT6 hs6
            have hz6 := FrR.size hR6 hzk
            have hR6 := hRk.trans hR6
            have hE6 := hEk.trans hE6
            refine r_if_le (tgt := 171) E dL_types_84 (by decide) (by omega) (fun c84 => absurd c84 (by omega)) (fun c84 => ?_)
            refine lv_aload_n E.1 E.2.1 dL_types_87 rfl (lv_at hl 6 rfl) ?_
            have J161_7 : ∀ (v161 : Int) (hv161 : 98 ≤ v161 ∧ v161 ≤ 119) (ls : Array Slot) (locs : List Loc) (hl : lv_has ls 8 [(7, .int (iI (v67))), (6, .int (iI (w4))), (5, .int (((v) >>> ((iI (1 + (2 * (k : Int)))) &&& 31)))), (4, .int (iI ((k : Int)))), (3, .int (iI (1))), (2, .int (iI (w1))), (0, .ref (x)), (1, .int (v))]) (hL : Lk G locs), W p l e ({ frames := 3, cells := 0, slots := 0, locals := 63 } : Room) s m args below meth c H6 locs 0 0 (QQ G below args s ({ frames := 3, cells := 0, slots := 0, locals := 63 } : Room) (WE (iI 1) (fun H H1 => ∃ tx1 len1, TxOk tx1 len1 ∧ TQ (lowI v 11) tx1 len1 ∧ XP G x fb fl σ hs tx1 len1 H H1))) (F0 m 161 ls [.int (iI (v161)), .ref (x)]) := by
              intro v161 hv161 ls locs hl hL
              refine kVWE (As := [.int (iI (v161))]) E cw_L_93 (c_X5_append G l x fb fl6 σ hs t6 l6 hI hT6 hfx hgx (v161) (by unfold okI; omega)) hX6.1 ⟨_, _, rfl⟩ ⟨hX6, hz6⟩ hL hl.1 rfl rfl (Nat.le_of_ble_eq_true rfl) ⟨Nat.le_of_ble_eq_true rfl, Nat.le_of_ble_eq_true rfl⟩ ⟨Nat.le_of_ble_eq_true rfl, Nat.le_of_ble_eq_true rfl⟩ dL_types_161 (fun H9 locs hL hw_ => ?_)
              have hy9 : 32 ≤ ((v161) : Int) ∧ ((v161) : Int) ≤ 126 := by omega
              have hl9 : l6 < 80 := by omega
              rw [ap_ok hy9 hl9] at hw_ ⊢
              obtain ⟨⟨fl9, hE9, hX9⟩, hR9⟩ := hw_
              have hT9 := ap_tx hT6 hy9 hl9
              have hs9 : scn (va_up t6 l6 (v161)) (l6 + 1) = scn t6 l6 := ap_scn (by omega)
              have hX9 : XAt G x fb fl9 σ hs (va_up t6 l6 (v161)) (l6 + 1) H9 := hX9
              generalize va_up t6 l6 (v161) = t9 at hX9 hT9 hs9
              obtain ⟨l9, hll9⟩ : ∃ q, q = l6 + 1 := ⟨_, rfl⟩
              rw [← hll9] at hX9 hT9 hs9
              have hz9 := FrR.size hR9 hz6
              have hR9 := hR6.trans hR9
              have hE9 := hE6.trans hE9
              refine r_if_le (tgt := 171) E dL_types_164 (by decide) (by omega) (fun c164 => absurd c164 (by omega)) (fun c164 => ?_)
              refine r_const E dL_types_167 ?_
              refine lv_goto (tgt := 172) E.1 E.2.1 dL_types_168 (by decide) ?_
              refine lv_istore_n (lv' := [(3, .int (iI (1))), (7, .int (iI (v67))), (6, .int (iI (w4))), (5, .int (((v) >>> ((iI (1 + (2 * (k : Int)))) &&& 31)))), (4, .int (iI ((k : Int)))), (2, .int (iI (w1))), (0, .ref (x)), (1, .int (v))]) E.1 E.2.1 dL_types_172 rfl hl (by decide) rfl (fun ls hl => ?_)
              refine lv_iload_n E.1 E.2.1 dL_types_173 rfl (lv_at hl 0 rfl) ?_
              refine r_if_eq (tgt := 282) E dL_types_174 (by decide) (by omega) (fun c174 => absurd c174 (by omega)) (fun c174 => ?_)
              refine lv_iload E.1 E.2.1 dL_types_177 (lv_at hl 2 rfl) ?_
              refine r_bipush E dL_types_179 (by decide) ?_
              refine r_icmp_le (tgt := 191) E dL_types_181 (by decide) (by omega) (by omega) (fun c181 => ?_) (fun c181 => ?_)
              · refine lv_aload_n E.1 E.2.1 dL_types_191 rfl (lv_at hl 6 rfl) ?_
                have J272_10 : ∀ (v272 : Int) (hv272 : 0 ≤ v272 ∧ ((v272 ≤ 2 ∧ w4 < 3) ∨ (v272 ≤ 249 ∧ 13 < w4) ∨ v272 ≤ 21)) (ls : Array Slot) (locs : List Loc) (hl : lv_has ls 8 [(3, .int (iI (1))), (7, .int (iI (v67))), (6, .int (iI (w4))), (5, .int (((v) >>> ((iI (1 + (2 * (k : Int)))) &&& 31)))), (4, .int (iI ((k : Int)))), (2, .int (iI (w1))), (0, .ref (x)), (1, .int (v))]) (hL : Lk G locs), W p l e ({ frames := 3, cells := 0, slots := 0, locals := 63 } : Room) s m args below meth c H9 locs 0 0 (QQ G below args s ({ frames := 3, cells := 0, slots := 0, locals := 63 } : Room) (WE (iI 1) (fun H H1 => ∃ tx1 len1, TxOk tx1 len1 ∧ TQ (lowI v 11) tx1 len1 ∧ XP G x fb fl σ hs tx1 len1 H H1))) (F0 m 272 ls [.int (iI (v272)), .ref (x)]) := by
                  intro v272 hv272 ls locs hl hL
                  refine kSWE (As := [.ref (x), .int (iI (v272))]) E cw_L_99 (c_L_digits G l x fb fl9 σ hs t9 l9 hI hT9 hfx hgx (v272) (by omega) (by omega)) ⟨hX9, hz9⟩ hL hl.1 rfl rfl (Nat.le_of_ble_eq_true rfl) ⟨Nat.le_of_ble_eq_true rfl, Nat.le_of_ble_eq_true rfl⟩ ⟨Nat.le_of_ble_eq_true rfl, Nat.le_of_ble_eq_true rfl⟩ dL_types_272 (fun H13 locs hL hw_ => ?_)
                  obtain ⟨t11, l11, hT11, ⟨hd11a, hd11b, hd11c, hd11d, hs11⟩, ⟨fl11, hE11, hX11⟩, hR11⟩ := hw_
                  have hz11 := FrR.size hR11 hz9
                  have hR11 := hR9.trans hR11
                  have hE11 := hE9.trans hE11
                  refine r_if_eq (tgt := 282) E dL_types_275 (by decide) (by omega) (fun c275 => absurd c275 (by omega)) (fun c275 => ?_)
                  refine r_const E dL_types_278 ?_
                  refine lv_goto (tgt := 283) E.1 E.2.1 dL_types_279 (by decide) ?_
                  refine lv_istore_n (lv' := [(3, .int (iI (1))), (7, .int (iI (v67))), (6, .int (iI (w4))), (5, .int (((v) >>> ((iI (1 + (2 * (k : Int)))) &&& 31)))), (4, .int (iI ((k : Int)))), (2, .int (iI (w1))), (0, .ref (x)), (1, .int (v))]) E.1 E.2.1 dL_types_283 rfl hl (by decide) rfl (fun ls hl => ?_)
                  refine lv_iload_n E.1 E.2.1 dL_types_284 rfl (lv_at hl 0 rfl) ?_
                  refine r_if_eq (tgt := 374) E dL_types_285 (by decide) (by omega) (fun c285 => absurd c285 (by omega)) (fun c285 => ?_)
                  refine lv_iload E.1 E.2.1 dL_types_288 (lv_at hl 2 rfl) ?_
                  refine r_const E dL_types_290 ?_
                  refine r_icmp_lt (tgt := 370) E dL_types_291 (by decide) (by omega) (by omega) (fun c291 => ?_) (fun c291 => ?_)
                  · refine r_const E dL_types_370 ?_
                    refine lv_goto (tgt := 375) E.1 E.2.1 dL_types_371 (by decide) ?_
                    refine lv_istore_n (lv' := [(3, .int (iI (1))), (7, .int (iI (v67))), (6, .int (iI (w4))), (5, .int (((v) >>> ((iI (1 + (2 * (k : Int)))) &&& 31)))), (4, .int (iI ((k : Int)))), (2, .int (iI (w1))), (0, .ref (x)), (1, .int (v))]) E.1 E.2.1 dL_types_375 rfl hl (by decide) rfl (fun ls hl => ?_)
                    refine r_inc (lv' := [(4, .int (iI ((k : Int) + 1))), (3, .int (iI (1))), (7, .int (iI (v67))), (6, .int (iI (w4))), (5, .int (((v) >>> ((iI (1 + (2 * (k : Int)))) &&& 31)))), (2, .int (iI (w1))), (0, .ref (x)), (1, .int (v))]) E dL_types_376 hl (k := 4) rfl (by decide) rfl (fun ls hl => ?_)
                    refine lv_goto (tgt := 23) E.1 E.2.1 dL_types_379 (by decide) ?_
                    refine ihin23 _ ?_ (k + 1) H13 ((k : Int) + 1) fl11 t11 l11 ls locs ?_ ?_ ?_ ?_ ?_ ?_ ?_ ?_ ?_ rfl (lv_sub hl [0, 1, 5, 6, 7] rfl) hL
                    · omega
                    · omega
                    · omega
                    · exact hX11
                    · exact hz11
                    · exact hE11
                    · exact hR11
                    · exact hT11
                    · omega
                    · omega
                  · refine lv_iload E.1 E.2.1 dL_types_294 (lv_at hl 2 rfl) ?_
                    refine r_bipush E dL_types_296 (by decide) ?_
                    refine r_icmp_eq (tgt := 370) E dL_types_298 (by decide) (by omega) (by omega) (fun c298 => ?_) (fun c298 => ?_)
                    · refine r_const E dL_types_370 ?_
                      refine lv_goto (tgt := 375) E.1 E.2.1 dL_types_371 (by decide) ?_
                      refine lv_istore_n (lv' := [(3, .int (iI (1))), (7, .int (iI (v67))), (6, .int (iI (w4))), (5, .int (((v) >>> ((iI (1 + (2 * (k : Int)))) &&& 31)))), (4, .int (iI ((k : Int)))), (2, .int (iI (w1))), (0, .ref (x)), (1, .int (v))]) E.1 E.2.1 dL_types_375 rfl hl (by decide) rfl (fun ls hl => ?_)
                      refine r_inc (lv' := [(4, .int (iI ((k : Int) + 1))), (3, .int (iI (1))), (7, .int (iI (v67))), (6, .int (iI (w4))), (5, .int (((v) >>> ((iI (1 + (2 * (k : Int)))) &&& 31)))), (2, .int (iI (w1))), (0, .ref (x)), (1, .int (v))]) E dL_types_376 hl (k := 4) rfl (by decide) rfl (fun ls hl => ?_)
                      refine lv_goto (tgt := 23) E.1 E.2.1 dL_types_379 (by decide) ?_
                      refine ihin23 _ ?_ (k + 1) H13 ((k : Int) + 1) fl11 t11 l11 ls locs ?_ ?_ ?_ ?_ ?_ ?_ ?_ ?_ ?_ rfl (lv_sub hl [0, 1, 5, 6, 7] rfl) hL
                      · omega
                      · omega
                      · omega
                      · exact hX11
                      · exact hz11
                      · exact hE11
                      · exact hR11
                      · exact hT11
                      · omega
                      · omega
                    · refine lv_iload E.1 E.2.1 dL_types_301 (lv_at hl 2 rfl) ?_
                      refine r_bipush E dL_types_303 (by decide) ?_
                      refine r_icmp_gt (tgt := 370) E dL_types_305 (by decide) (by omega) (by omega) (fun c305 => ?_) (fun c305 => ?_)
                      · refine r_const E dL_types_370 ?_
                        refine lv_goto (tgt := 375) E.1 E.2.1 dL_types_371 (by decide) ?_
                        refine lv_istore_n (lv' := [(3, .int (iI (1))), (7, .int (iI (v67))), (6, .int (iI (w4))), (5, .int (((v) >>> ((iI (1 + (2 * (k : Int)))) &&& 31)))), (4, .int (iI ((k : Int)))), (2, .int (iI (w1))), (0, .ref (x)), (1, .int (v))]) E.1 E.2.1 dL_types_375 rfl hl (by decide) rfl (fun ls hl => ?_)
                        refine r_inc (lv' := [(4, .int (iI ((k : Int) + 1))), (3, .int (iI (1))), (7, .int (iI (v67))), (6, .int (iI (w4))), (5, .int (((v) >>> ((iI (1 + (2 * (k : Int)))) &&& 31)))), (2, .int (iI (w1))), (0, .ref (x)), (1, .int (v))]) E dL_types_376 hl (k := 4) rfl (by decide) rfl (fun ls hl => ?_)
                        refine lv_goto (tgt := 23) E.1 E.2.1 dL_types_379 (by decide) ?_
                        refine ihin23 _ ?_ (k + 1) H13 ((k : Int) + 1) fl11 t11 l11 ls locs ?_ ?_ ?_ ?_ ?_ ?_ ?_ ?_ ?_ rfl (lv_sub hl [0, 1, 5, 6, 7] rfl) hL
                        · omega
                        · omega
                        · omega
                        · exact hX11
                        · exact hz11
                        · exact hE11
                        · exact hR11
                        · exact hT11
                        · omega
                        · omega
                      · refine lv_aload_n E.1 E.2.1 dL_types_308 rfl (lv_at hl 6 rfl) ?_
                        have J323_13 : ∀ (v323 : Int) (hv323 : v323 = 61 ∨ v323 = 46) (ls : Array Slot) (locs : List Loc) (hl : lv_has ls 8 [(3, .int (iI (1))), (7, .int (iI (v67))), (6, .int (iI (w4))), (5, .int (((v) >>> ((iI (1 + (2 * (k : Int)))) &&& 31)))), (4, .int (iI ((k : Int)))), (2, .int (iI (w1))), (0, .ref (x)), (1, .int (v))]) (hL : Lk G locs), W p l e ({ frames := 3, cells := 0, slots := 0, locals := 63 } : Room) s m args below meth c H13 locs 0 0 (QQ G below args s ({ frames := 3, cells := 0, slots := 0, locals := 63 } : Room) (WE (iI 1) (fun H H1 => ∃ tx1 len1, TxOk tx1 len1 ∧ TQ (lowI v 11) tx1 len1 ∧ XP G x fb fl σ hs tx1 len1 H H1))) (F0 m 323 ls [.int (iI (v323)), .ref (x)]) := by
                          intro v323 hv323 ls locs hl hL
                          refine kVWE (As := [.int (iI (v323))]) E cw_L_93 (c_X5_append G l x fb fl11 σ hs t11 l11 hI hT11 hfx hgx (v323) (by unfold okI; omega)) hX11.1 ⟨_, _, rfl⟩ ⟨hX11, hz11⟩ hL hl.1 rfl rfl (Nat.le_of_ble_eq_true rfl) ⟨Nat.le_of_ble_eq_true rfl, Nat.le_of_ble_eq_true rfl⟩ ⟨Nat.le_of_ble_eq_true rfl, Nat.le_of_ble_eq_true rfl⟩ dL_types_323 (fun H15 locs hL hw_ => ?_)
                          have hy15 : 32 ≤ ((v323) : Int) ∧ ((v323) : Int) ≤ 126 := by omega
                          have hl15 : l11 < 80 := by omega
                          rw [ap_ok hy15 hl15] at hw_ ⊢
                          obtain ⟨⟨fl15, hE15, hX15⟩, hR15⟩ := hw_
                          have hT15 := ap_tx hT11 hy15 hl15
                          have hs15 : scn (va_up t11 l11 (v323)) (l11 + 1) = scn t11 l11 := ap_scn (by omega)
                          have hX15 : XAt G x fb fl15 σ hs (va_up t11 l11 (v323)) (l11 + 1) H15 := hX15
                          generalize va_up t11 l11 (v323) = t15 at hX15 hT15 hs15
                          obtain ⟨l15, hll15⟩ : ∃ q, q = l11 + 1 := ⟨_, rfl⟩
                          rw [← hll15] at hX15 hT15 hs15
                          have hz15 := FrR.size hR15 hz11
                          have hR15 := hR11.trans hR15
                          have hE15 := hE11.trans hE15
                          refine r_if_le (tgt := 374) E dL_types_326 (by decide) (by omega) (fun c326 => absurd c326 (by omega)) (fun c326 => ?_)
                          refine lv_aload_n E.1 E.2.1 dL_types_329 rfl (lv_at hl 6 rfl) ?_
                          refine lv_iload E.1 E.2.1 dL_types_330 (lv_at hl 3 rfl) ?_
                          refine r_const E dL_types_332 ?_
                          refine lv_ishr E.1 E.2.1 dL_types_333 ?_
                          refine r_bipush E dL_types_334 (by decide) ?_
                          obtain ⟨w17, hw17⟩ : ∃ z : Int, lowI (((((v) >>> ((iI (1 + (2 * (k : Int)))) &&& 31))) >>> ((iI (4)) &&& 31))) (12) = z := ⟨_, rfl⟩
                          have hw17b : 0 ≤ w17 ∧ w17 < (12) := by rw [← hw17]; exact low_b _ (by omega)
                          have hw17c := c_L_low G l (((((v) >>> ((iI (1 + (2 * (k : Int)))) &&& 31))) >>> ((iI (4)) &&& 31))) (12) (by omega)
                          rw [hw17] at hw17c
                          refine kSRE (As := [.int (((((v) >>> ((iI (1 + (2 * (k : Int)))) &&& 31))) >>> ((iI (4)) &&& 31))), .int (iI (12))]) E cw_L_72 hw17c trivial hL hl.1 rfl rfl (Nat.le_of_ble_eq_true rfl) ⟨Nat.le_of_ble_eq_true rfl, Nat.le_of_ble_eq_true rfl⟩ ⟨rfl, rfl⟩ ⟨Nat.le_of_ble_eq_true rfl, Nat.le_of_ble_eq_true rfl⟩ dL_types_336 (fun locs hL => ?_)
                          have J363_17 : ∀ (v363 : Int) (hv363 : v363 = 0 ∨ v363 = 1) (ls : Array Slot) (locs : List Loc) (hl : lv_has ls 8 [(3, .int (iI (1))), (7, .int (iI (v67))), (6, .int (iI (w4))), (5, .int (((v) >>> ((iI (1 + (2 * (k : Int)))) &&& 31)))), (4, .int (iI ((k : Int)))), (2, .int (iI (w1))), (0, .ref (x)), (1, .int (v))]) (hL : Lk G locs), W p l e ({ frames := 3, cells := 0, slots := 0, locals := 63 } : Room) s m args below meth c H15 locs 0 0 (QQ G below args s ({ frames := 3, cells := 0, slots := 0, locals := 63 } : Room) (WE (iI 1) (fun H H1 => ∃ tx1 len1, TxOk tx1 len1 ∧ TQ (lowI v 11) tx1 len1 ∧ XP G x fb fl σ hs tx1 len1 H H1))) (F0 m 363 ls [.int (iI (v363)), .int (iI (w17)), .ref (x)]) := by
                            intro v363 hv363 ls locs hl hL
                            refine r_add E dL_types_363 ?_
                            refine kSWE (As := [.ref (x), .int (iI (w17 + v363))]) E cw_L_99 (c_L_digits G l x fb fl15 σ hs t15 l15 hI hT15 hfx hgx (w17 + v363) (by omega) (by omega)) ⟨hX15, hz15⟩ hL hl.1 rfl rfl (Nat.le_of_ble_eq_true rfl) ⟨Nat.le_of_ble_eq_true rfl, Nat.le_of_ble_eq_true rfl⟩ ⟨Nat.le_of_ble_eq_true rfl, Nat.le_of_ble_eq_true rfl⟩ dL_types_364 (fun H20 locs hL hw_ => ?_)
                            obtain ⟨t18, l18, hT18, ⟨hd18a, hd18b, hd18c, hd18d, hs18⟩, ⟨fl18, hE18, hX18⟩, hR18⟩ := hw_
                            have hz18 := FrR.size hR18 hz15
                            have hR18 := hR15.trans hR18
                            have hE18 := hE15.trans hE18
                            refine r_if_eq (tgt := 374) E dL_types_367 (by decide) (by omega) (fun c367 => absurd c367 (by omega)) (fun c367 => ?_)
                            refine r_const E dL_types_370 ?_
                            refine lv_goto (tgt := 375) E.1 E.2.1 dL_types_371 (by decide) ?_
                            refine lv_istore_n (lv' := [(3, .int (iI (1))), (7, .int (iI (v67))), (6, .int (iI (w4))), (5, .int (((v) >>> ((iI (1 + (2 * (k : Int)))) &&& 31)))), (4, .int (iI ((k : Int)))), (2, .int (iI (w1))), (0, .ref (x)), (1, .int (v))]) E.1 E.2.1 dL_types_375 rfl hl (by decide) rfl (fun ls hl => ?_)
                            refine r_inc (lv' := [(4, .int (iI ((k : Int) + 1))), (3, .int (iI (1))), (7, .int (iI (v67))), (6, .int (iI (w4))), (5, .int (((v) >>> ((iI (1 + (2 * (k : Int)))) &&& 31)))), (2, .int (iI (w1))), (0, .ref (x)), (1, .int (v))]) E dL_types_376 hl (k := 4) rfl (by decide) rfl (fun ls hl => ?_)
                            refine lv_goto (tgt := 23) E.1 E.2.1 dL_types_379 (by decide) ?_
                            refine ihin23 _ ?_ (k + 1) H20 ((k : Int) + 1) fl18 t18 l18 ls locs ?_ ?_ ?_ ?_ ?_ ?_ ?_ ?_ ?_ rfl (lv_sub hl [0, 1, 5, 6, 7] rfl) hL
                            · omega
                            · omega
                            · omega
                            · exact hX18
                            · exact hz18
                            · exact hE18
                            · exact hR18
                            · exact hT18
                            · omega
                            · omega
                          refine lv_iload E.1 E.2.1 dL_types_339 (lv_at hl 2 rfl) ?_
                          refine r_bipush E dL_types_341 (by decide) ?_
                          refine r_icmp_ge (tgt := 362) E dL_types_343 (by decide) (by omega) (by omega) (fun c343 => ?_) (fun c343 => ?_)
                          · refine r_const E dL_types_362 ?_
                            exact J363_17 _ (by omega) ls locs (lv_sub hl [0, 1, 2, 3, 4, 5, 6, 7] rfl) hL
                          · refine lv_iload_n E.1 E.2.1 dL_types_346 rfl (lv_at hl 7 rfl) ?_
                            refine r_bipush E dL_types_347 (by decide) ?_
                            refine lv_ishr E.1 E.2.1 dL_types_349 ?_
                            refine r_bipush E dL_types_350 (by decide) ?_
                            obtain ⟨w19, hw19⟩ : ∃ z : Int, lowI (((v) >>> ((iI (25)) &&& 31))) (9) = z := ⟨_, rfl⟩
                            have hw19b : 0 ≤ w19 ∧ w19 < (9) := by rw [← hw19]; exact low_b _ (by omega)
                            have hw19c := c_L_low G l (((v) >>> ((iI (25)) &&& 31))) (9) (by omega)
                            rw [hw19] at hw19c
                            refine kSRE (As := [.int (((v) >>> ((iI (25)) &&& 31))), .int (iI (9))]) E cw_L_72 hw19c trivial hL hl.1 rfl rfl (Nat.le_of_ble_eq_true rfl) ⟨Nat.le_of_ble_eq_true rfl, Nat.le_of_ble_eq_true rfl⟩ ⟨rfl, rfl⟩ ⟨Nat.le_of_ble_eq_true rfl, Nat.le_of_ble_eq_true rfl⟩ dL_types_352 (fun locs hL => ?_)
                            refine r_if_le (tgt := 362) E dL_types_355 (by decide) (by omega) (fun c355 => ?_) (fun c355 => ?_)
                            · refine r_const E dL_types_362 ?_
                              exact J363_17 _ (by omega) ls locs (lv_sub hl [0, 1, 2, 3, 4, 5, 6, 7] rfl) hL
                            · refine r_const E dL_types_358 ?_
                              refine lv_goto (tgt := 363) E.1 E.2.1 dL_types_359 (by decide) ?_
                              exact J363_17 _ (by omega) ls locs (lv_sub hl [0, 1, 2, 3, 4, 5, 6, 7] rfl) hL
                        refine lv_iload E.1 E.2.1 dL_types_309 (lv_at hl 2 rfl) ?_
                        refine r_bipush E dL_types_311 (by decide) ?_
                        refine r_icmp_ge (tgt := 321) E dL_types_313 (by decide) (by omega) (by omega) (fun c313 => ?_) (fun c313 => ?_)
                        · refine r_bipush E dL_types_321 (by decide) ?_
                          exact J323_13 _ (by omega) ls locs (lv_sub hl [0, 1, 2, 3, 4, 5, 6, 7] rfl) hL
                        · refine r_bipush E dL_types_316 (by decide) ?_
                          refine lv_goto (tgt := 323) E.1 E.2.1 dL_types_318 (by decide) ?_
                          exact J323_13 _ (by omega) ls locs (lv_sub hl [0, 1, 2, 3, 4, 5, 6, 7] rfl) hL
                refine lv_iload E.1 E.2.1 dL_types_192 (lv_at hl 2 rfl) ?_
                refine r_const E dL_types_194 ?_
                refine r_icmp_ge (tgt := 225) E dL_types_195 (by decide) (by omega) (by omega) (fun c195 => ?_) (fun c195 => ?_)
                · refine lv_iload E.1 E.2.1 dL_types_225 (lv_at hl 2 rfl) ?_
                  refine r_bipush E dL_types_227 (by decide) ?_
                  refine r_icmp_le (tgt := 263) E dL_types_229 (by decide) (by omega) (by omega) (fun c229 => ?_) (fun c229 => ?_)
                  · refine lv_iload E.1 E.2.1 dL_types_263 (lv_at hl 3 rfl) ?_
                    refine r_const E dL_types_265 ?_
                    refine lv_ishr E.1 E.2.1 dL_types_266 ?_
                    refine lv_iload E.1 E.2.1 dL_types_267 (lv_at hl 1 rfl) ?_
                    obtain ⟨w12, hw12⟩ : ∃ z : Int, lowI (((((v) >>> ((iI (1 + (2 * (k : Int)))) &&& 31))) >>> ((iI (3)) &&& 31))) (v67) = z := ⟨_, rfl⟩
                    have hw12b : 0 ≤ w12 ∧ w12 < (v67) := by rw [← hw12]; exact low_b _ (by omega)
                    have hw12c := c_L_low G l (((((v) >>> ((iI (1 + (2 * (k : Int)))) &&& 31))) >>> ((iI (3)) &&& 31))) (v67) (by omega)
                    rw [hw12] at hw12c
                    refine kSRE (As := [.int (((((v) >>> ((iI (1 + (2 * (k : Int)))) &&& 31))) >>> ((iI (3)) &&& 31))), .int (iI (v67))]) E cw_L_72 hw12c trivial hL hl.1 rfl rfl (Nat.le_of_ble_eq_true rfl) ⟨Nat.le_of_ble_eq_true rfl, Nat.le_of_ble_eq_true rfl⟩ ⟨rfl, rfl⟩ ⟨Nat.le_of_ble_eq_true rfl, Nat.le_of_ble_eq_true rfl⟩ dL_types_269 (fun locs hL => ?_)
                    exact J272_10 _ (by omega) ls locs (lv_sub hl [0, 1, 2, 3, 4, 5, 6, 7] rfl) hL
                  · refine lv_iload E.1 E.2.1 dL_types_232 (lv_at hl 3 rfl) ?_
                    refine r_const E dL_types_234 ?_
                    refine lv_ishr E.1 E.2.1 dL_types_235 ?_
                    refine lv_iload_n E.1 E.2.1 dL_types_236 rfl (lv_at hl 7 rfl) ?_
                    refine r_bipush E dL_types_237 (by decide) ?_
                    refine lv_ishr E.1 E.2.1 dL_types_239 ?_
                    refine r_bipush E dL_types_240 (by decide) ?_
                    obtain ⟨w12, hw12⟩ : ∃ z : Int, lowI (((v) >>> ((iI (24)) &&& 31))) (9) = z := ⟨_, rfl⟩
                    have hw12b : 0 ≤ w12 ∧ w12 < (9) := by rw [← hw12]; exact low_b _ (by omega)
                    have hw12c := c_L_low G l (((v) >>> ((iI (24)) &&& 31))) (9) (by omega)
                    rw [hw12] at hw12c
                    refine kSRE (As := [.int (((v) >>> ((iI (24)) &&& 31))), .int (iI (9))]) E cw_L_72 hw12c trivial hL hl.1 rfl rfl (Nat.le_of_ble_eq_true rfl) ⟨Nat.le_of_ble_eq_true rfl, Nat.le_of_ble_eq_true rfl⟩ ⟨rfl, rfl⟩ ⟨Nat.le_of_ble_eq_true rfl, Nat.le_of_ble_eq_true rfl⟩ dL_types_242 (fun locs hL => ?_)
                    refine r_if_ne (tgt := 254) E dL_types_245 (by decide) (by omega) (fun c245 => ?_) (fun c245 => ?_)
                    · refine r_sipush E dL_types_254 (by decide) ?_
                      obtain ⟨w13, hw13⟩ : ∃ z : Int, lowI (((((v) >>> ((iI (1 + (2 * (k : Int)))) &&& 31))) >>> ((iI (2)) &&& 31))) (240) = z := ⟨_, rfl⟩
                      have hw13b : 0 ≤ w13 ∧ w13 < (240) := by rw [← hw13]; exact low_b _ (by omega)
                      have hw13c := c_L_low G l (((((v) >>> ((iI (1 + (2 * (k : Int)))) &&& 31))) >>> ((iI (2)) &&& 31))) (240) (by omega)
                      rw [hw13] at hw13c
                      refine kSRE (As := [.int (((((v) >>> ((iI (1 + (2 * (k : Int)))) &&& 31))) >>> ((iI (2)) &&& 31))), .int (iI (240))]) E cw_L_72 hw13c trivial hL hl.1 rfl rfl (Nat.le_of_ble_eq_true rfl) ⟨Nat.le_of_ble_eq_true rfl, Nat.le_of_ble_eq_true rfl⟩ ⟨rfl, rfl⟩ ⟨Nat.le_of_ble_eq_true rfl, Nat.le_of_ble_eq_true rfl⟩ dL_types_257 (fun locs hL => ?_)
                      refine lv_goto (tgt := 272) E.1 E.2.1 dL_types_260 (by decide) ?_
                      exact J272_10 _ (by omega) ls locs (lv_sub hl [0, 1, 2, 3, 4, 5, 6, 7] rfl) hL
                    · refine r_sipush E dL_types_248 (by decide) ?_
                      refine lv_goto (tgt := 257) E.1 E.2.1 dL_types_251 (by decide) ?_
                      obtain ⟨w13, hw13⟩ : ∃ z : Int, lowI (((((v) >>> ((iI (1 + (2 * (k : Int)))) &&& 31))) >>> ((iI (2)) &&& 31))) (250) = z := ⟨_, rfl⟩
                      have hw13b : 0 ≤ w13 ∧ w13 < (250) := by rw [← hw13]; exact low_b _ (by omega)
                      have hw13c := c_L_low G l (((((v) >>> ((iI (1 + (2 * (k : Int)))) &&& 31))) >>> ((iI (2)) &&& 31))) (250) (by omega)
                      rw [hw13] at hw13c
                      refine kSRE (As := [.int (((((v) >>> ((iI (1 + (2 * (k : Int)))) &&& 31))) >>> ((iI (2)) &&& 31))), .int (iI (250))]) E cw_L_72 hw13c trivial hL hl.1 rfl rfl (Nat.le_of_ble_eq_true rfl) ⟨Nat.le_of_ble_eq_true rfl, Nat.le_of_ble_eq_true rfl⟩ ⟨rfl, rfl⟩ ⟨Nat.le_of_ble_eq_true rfl, Nat.le_of_ble_eq_true rfl⟩ dL_types_257 (fun locs hL => ?_)
                      refine lv_goto (tgt := 272) E.1 E.2.1 dL_types_260 (by decide) ?_
                      exact J272_10 _ (by omega) ls locs (lv_sub hl [0, 1, 2, 3, 4, 5, 6, 7] rfl) hL
                · refine lv_iload E.1 E.2.1 dL_types_198 (lv_at hl 3 rfl) ?_
                  refine r_const E dL_types_200 ?_
                  refine lv_ishr E.1 E.2.1 dL_types_201 ?_
                  refine lv_iload_n E.1 E.2.1 dL_types_202 rfl (lv_at hl 7 rfl) ?_
                  refine r_bipush E dL_types_203 (by decide) ?_
                  refine lv_ishr E.1 E.2.1 dL_types_205 ?_
                  refine r_bipush E dL_types_206 (by decide) ?_
                  obtain ⟨w12, hw12⟩ : ∃ z : Int, lowI (((v) >>> ((iI (23)) &&& 31))) (9) = z := ⟨_, rfl⟩
                  have hw12b : 0 ≤ w12 ∧ w12 < (9) := by rw [← hw12]; exact low_b _ (by omega)
                  have hw12c := c_L_low G l (((v) >>> ((iI (23)) &&& 31))) (9) (by omega)
                  rw [hw12] at hw12c
                  refine kSRE (As := [.int (((v) >>> ((iI (23)) &&& 31))), .int (iI (9))]) E cw_L_72 hw12c trivial hL hl.1 rfl rfl (Nat.le_of_ble_eq_true rfl) ⟨Nat.le_of_ble_eq_true rfl, Nat.le_of_ble_eq_true rfl⟩ ⟨rfl, rfl⟩ ⟨Nat.le_of_ble_eq_true rfl, Nat.le_of_ble_eq_true rfl⟩ dL_types_208 (fun locs hL => ?_)
                  refine r_if_ne (tgt := 218) E dL_types_211 (by decide) (by omega) (fun c211 => ?_) (fun c211 => ?_)
                  · refine r_const E dL_types_218 ?_
                    obtain ⟨w13, hw13⟩ : ∃ z : Int, lowI (((((v) >>> ((iI (1 + (2 * (k : Int)))) &&& 31))) >>> ((iI (3)) &&& 31))) (2) = z := ⟨_, rfl⟩
                    have hw13b : 0 ≤ w13 ∧ w13 < (2) := by rw [← hw13]; exact low_b _ (by omega)
                    have hw13c := c_L_low G l (((((v) >>> ((iI (1 + (2 * (k : Int)))) &&& 31))) >>> ((iI (3)) &&& 31))) (2) (by omega)
                    rw [hw13] at hw13c
                    refine kSRE (As := [.int (((((v) >>> ((iI (1 + (2 * (k : Int)))) &&& 31))) >>> ((iI (3)) &&& 31))), .int (iI (2))]) E cw_L_72 hw13c trivial hL hl.1 rfl rfl (Nat.le_of_ble_eq_true rfl) ⟨Nat.le_of_ble_eq_true rfl, Nat.le_of_ble_eq_true rfl⟩ ⟨rfl, rfl⟩ ⟨Nat.le_of_ble_eq_true rfl, Nat.le_of_ble_eq_true rfl⟩ dL_types_219 (fun locs hL => ?_)
                    refine lv_goto (tgt := 272) E.1 E.2.1 dL_types_222 (by decide) ?_
                    exact J272_10 _ (by omega) ls locs (lv_sub hl [0, 1, 2, 3, 4, 5, 6, 7] rfl) hL
                  · refine r_const E dL_types_214 ?_
                    refine lv_goto (tgt := 219) E.1 E.2.1 dL_types_215 (by decide) ?_
                    obtain ⟨w13, hw13⟩ : ∃ z : Int, lowI (((((v) >>> ((iI (1 + (2 * (k : Int)))) &&& 31))) >>> ((iI (3)) &&& 31))) (3) = z := ⟨_, rfl⟩
                    have hw13b : 0 ≤ w13 ∧ w13 < (3) := by rw [← hw13]; exact low_b _ (by omega)
                    have hw13c := c_L_low G l (((((v) >>> ((iI (1 + (2 * (k : Int)))) &&& 31))) >>> ((iI (3)) &&& 31))) (3) (by omega)
                    rw [hw13] at hw13c
                    refine kSRE (As := [.int (((((v) >>> ((iI (1 + (2 * (k : Int)))) &&& 31))) >>> ((iI (3)) &&& 31))), .int (iI (3))]) E cw_L_72 hw13c trivial hL hl.1 rfl rfl (Nat.le_of_ble_eq_true rfl) ⟨Nat.le_of_ble_eq_true rfl, Nat.le_of_ble_eq_true rfl⟩ ⟨rfl, rfl⟩ ⟨Nat.le_of_ble_eq_true rfl, Nat.le_of_ble_eq_true rfl⟩ dL_types_219 (fun locs hL => ?_)
                    refine lv_goto (tgt := 272) E.1 E.2.1 dL_types_222 (by decide) ?_
                    exact J272_10 _ (by omega) ls locs (lv_sub hl [0, 1, 2, 3, 4, 5, 6, 7] rfl) hL
              · refine lv_iload E.1 E.2.1 dL_types_184 (lv_at hl 2 rfl) ?_
                refine r_bipush E dL_types_186 (by decide) ?_
                refine r_icmp_lt (tgt := 278) E dL_types_188 (by decide) (by omega) (by omega) (fun c188 => ?_) (fun c188 => ?_)
                · refine r_const E dL_types_278 ?_
                  refine lv_goto (tgt := 283) E.1 E.2.1 dL_types_279 (by decide) ?_
                  refine lv_istore_n (lv' := [(3, .int (iI (1))), (7, .int (iI (v67))), (6, .int (iI (w4))), (5, .int (((v) >>> ((iI (1 + (2 * (k : Int)))) &&& 31)))), (4, .int (iI ((k : Int)))), (2, .int (iI (w1))), (0, .ref (x)), (1, .int (v))]) E.1 E.2.1 dL_types_283 rfl hl (by decide) rfl (fun ls hl => ?_)
                  refine lv_iload_n E.1 E.2.1 dL_types_284 rfl (lv_at hl 0 rfl) ?_
                  refine r_if_eq (tgt := 374) E dL_types_285 (by decide) (by omega) (fun c285 => absurd c285 (by omega)) (fun c285 => ?_)
                  refine lv_iload E.1 E.2.1 dL_types_288 (lv_at hl 2 rfl) ?_
                  refine r_const E dL_types_290 ?_
                  refine r_icmp_lt (tgt := 370) E dL_types_291 (by decide) (by omega) (by omega) (fun c291 => ?_) (fun c291 => ?_)
                  · refine r_const E dL_types_370 ?_
                    refine lv_goto (tgt := 375) E.1 E.2.1 dL_types_371 (by decide) ?_
                    refine lv_istore_n (lv' := [(3, .int (iI (1))), (7, .int (iI (v67))), (6, .int (iI (w4))), (5, .int (((v) >>> ((iI (1 + (2 * (k : Int)))) &&& 31)))), (4, .int (iI ((k : Int)))), (2, .int (iI (w1))), (0, .ref (x)), (1, .int (v))]) E.1 E.2.1 dL_types_375 rfl hl (by decide) rfl (fun ls hl => ?_)
                    refine r_inc (lv' := [(4, .int (iI ((k : Int) + 1))), (3, .int (iI (1))), (7, .int (iI (v67))), (6, .int (iI (w4))), (5, .int (((v) >>> ((iI (1 + (2 * (k : Int)))) &&& 31)))), (2, .int (iI (w1))), (0, .ref (x)), (1, .int (v))]) E dL_types_376 hl (k := 4) rfl (by decide) rfl (fun ls hl => ?_)
                    refine lv_goto (tgt := 23) E.1 E.2.1 dL_types_379 (by decide) ?_
                    refine ihin23 _ ?_ (k + 1) H9 ((k : Int) + 1) fl9 t9 l9 ls locs ?_ ?_ ?_ ?_ ?_ ?_ ?_ ?_ ?_ rfl (lv_sub hl [0, 1, 5, 6, 7] rfl) hL
                    · omega
                    · omega
                    · omega
                    · exact hX9
                    · exact hz9
                    · exact hE9
                    · exact hR9
                    · exact hT9
                    · omega
                    · omega
                  · refine lv_iload E.1 E.2.1 dL_types_294 (lv_at hl 2 rfl) ?_
                    refine r_bipush E dL_types_296 (by decide) ?_
                    refine r_icmp_eq (tgt := 370) E dL_types_298 (by decide) (by omega) (by omega) (fun c298 => ?_) (fun c298 => ?_)
                    · refine r_const E dL_types_370 ?_
                      refine lv_goto (tgt := 375) E.1 E.2.1 dL_types_371 (by decide) ?_
                      refine lv_istore_n (lv' := [(3, .int (iI (1))), (7, .int (iI (v67))), (6, .int (iI (w4))), (5, .int (((v) >>> ((iI (1 + (2 * (k : Int)))) &&& 31)))), (4, .int (iI ((k : Int)))), (2, .int (iI (w1))), (0, .ref (x)), (1, .int (v))]) E.1 E.2.1 dL_types_375 rfl hl (by decide) rfl (fun ls hl => ?_)
                      refine r_inc (lv' := [(4, .int (iI ((k : Int) + 1))), (3, .int (iI (1))), (7, .int (iI (v67))), (6, .int (iI (w4))), (5, .int (((v) >>> ((iI (1 + (2 * (k : Int)))) &&& 31)))), (2, .int (iI (w1))), (0, .ref (x)), (1, .int (v))]) E dL_types_376 hl (k := 4) rfl (by decide) rfl (fun ls hl => ?_)
                      refine lv_goto (tgt := 23) E.1 E.2.1 dL_types_379 (by decide) ?_
                      refine ihin23 _ ?_ (k + 1) H9 ((k : Int) + 1) fl9 t9 l9 ls locs ?_ ?_ ?_ ?_ ?_ ?_ ?_ ?_ ?_ rfl (lv_sub hl [0, 1, 5, 6, 7] rfl) hL
                      · omega
                      · omega
                      · omega
                      · exact hX9
                      · exact hz9
                      · exact hE9
                      · exact hR9
                      · exact hT9
                      · omega
                      · omega
                    · refine lv_iload E.1 E.2.1 dL_types_301 (lv_at hl 2 rfl) ?_
                      refine r_bipush E dL_types_303 (by decide) ?_
                      refine r_icmp_gt (tgt := 370) E dL_types_305 (by decide) (by omega) (by omega) (fun c305 => ?_) (fun c305 => ?_)
                      · refine r_const E dL_types_370 ?_
                        refine lv_goto (tgt := 375) E.1 E.2.1 dL_types_371 (by decide) ?_
                        refine lv_istore_n (lv' := [(3, .int (iI (1))), (7, .int (iI (v67))), (6, .int (iI (w4))), (5, .int (((v) >>> ((iI (1 + (2 * (k : Int)))) &&& 31)))), (4, .int (iI ((k : Int)))), (2, .int (iI (w1))), (0, .ref (x)), (1, .int (v))]) E.1 E.2.1 dL_types_375 rfl hl (by decide) rfl (fun ls hl => ?_)
                        refine r_inc (lv' := [(4, .int (iI ((k : Int) + 1))), (3, .int (iI (1))), (7, .int (iI (v67))), (6, .int (iI (w4))), (5, .int (((v) >>> ((iI (1 + (2 * (k : Int)))) &&& 31)))), (2, .int (iI (w1))), (0, .ref (x)), (1, .int (v))]) E dL_types_376 hl (k := 4) rfl (by decide) rfl (fun ls hl => ?_)
                        refine lv_goto (tgt := 23) E.1 E.2.1 dL_types_379 (by decide) ?_
                        refine ihin23 _ ?_ (k + 1) H9 ((k : Int) + 1) fl9 t9 l9 ls locs ?_ ?_ ?_ ?_ ?_ ?_ ?_ ?_ ?_ rfl (lv_sub hl [0, 1, 5, 6, 7] rfl) hL
                        · omega
                        · omega
                        · omega
                        · exact hX9
                        · exact hz9
                        · exact hE9
                        · exact hR9
                        · exact hT9
                        · omega
                        · omega
                      · refine lv_aload_n E.1 E.2.1 dL_types_308 rfl (lv_at hl 6 rfl) ?_
                        have J323_10 : ∀ (v323 : Int) (hv323 : v323 = 61 ∨ v323 = 46) (ls : Array Slot) (locs : List Loc) (hl : lv_has ls 8 [(3, .int (iI (1))), (7, .int (iI (v67))), (6, .int (iI (w4))), (5, .int (((v) >>> ((iI (1 + (2 * (k : Int)))) &&& 31)))), (4, .int (iI ((k : Int)))), (2, .int (iI (w1))), (0, .ref (x)), (1, .int (v))]) (hL : Lk G locs), W p l e ({ frames := 3, cells := 0, slots := 0, locals := 63 } : Room) s m args below meth c H9 locs 0 0 (QQ G below args s ({ frames := 3, cells := 0, slots := 0, locals := 63 } : Room) (WE (iI 1) (fun H H1 => ∃ tx1 len1, TxOk tx1 len1 ∧ TQ (lowI v 11) tx1 len1 ∧ XP G x fb fl σ hs tx1 len1 H H1))) (F0 m 323 ls [.int (iI (v323)), .ref (x)]) := by
                          intro v323 hv323 ls locs hl hL
                          refine kVWE (As := [.int (iI (v323))]) E cw_L_93 (c_X5_append G l x fb fl9 σ hs t9 l9 hI hT9 hfx hgx (v323) (by unfold okI; omega)) hX9.1 ⟨_, _, rfl⟩ ⟨hX9, hz9⟩ hL hl.1 rfl rfl (Nat.le_of_ble_eq_true rfl) ⟨Nat.le_of_ble_eq_true rfl, Nat.le_of_ble_eq_true rfl⟩ ⟨Nat.le_of_ble_eq_true rfl, Nat.le_of_ble_eq_true rfl⟩ dL_types_323 (fun H12 locs hL hw_ => ?_)
                          have hy12 : 32 ≤ ((v323) : Int) ∧ ((v323) : Int) ≤ 126 := by omega
                          have hl12 : l9 < 80 := by omega
                          rw [ap_ok hy12 hl12] at hw_ ⊢
                          obtain ⟨⟨fl12, hE12, hX12⟩, hR12⟩ := hw_
                          have hT12 := ap_tx hT9 hy12 hl12
                          have hs12 : scn (va_up t9 l9 (v323)) (l9 + 1) = scn t9 l9 := ap_scn (by omega)
                          have hX12 : XAt G x fb fl12 σ hs (va_up t9 l9 (v323)) (l9 + 1) H12 := hX12
                          generalize va_up t9 l9 (v323) = t12 at hX12 hT12 hs12
                          obtain ⟨l12, hll12⟩ : ∃ q, q = l9 + 1 := ⟨_, rfl⟩
                          rw [← hll12] at hX12 hT12 hs12
                          have hz12 := FrR.size hR12 hz9
                          have hR12 := hR9.trans hR12
                          have hE12 := hE9.trans hE12
                          refine r_if_le (tgt := 374) E dL_types_326 (by decide) (by omega) (fun c326 => absurd c326 (by omega)) (fun c326 => ?_)
                          refine lv_aload_n E.1 E.2.1 dL_types_329 rfl (lv_at hl 6 rfl) ?_
                          refine lv_iload E.1 E.2.1 dL_types_330 (lv_at hl 3 rfl) ?_
                          refine r_const E dL_types_332 ?_
                          refine lv_ishr E.1 E.2.1 dL_types_333 ?_
                          refine r_bipush E dL_types_334 (by decide) ?_
                          obtain ⟨w14, hw14⟩ : ∃ z : Int, lowI (((((v) >>> ((iI (1 + (2 * (k : Int)))) &&& 31))) >>> ((iI (4)) &&& 31))) (12) = z := ⟨_, rfl⟩
                          have hw14b : 0 ≤ w14 ∧ w14 < (12) := by rw [← hw14]; exact low_b _ (by omega)
                          have hw14c := c_L_low G l (((((v) >>> ((iI (1 + (2 * (k : Int)))) &&& 31))) >>> ((iI (4)) &&& 31))) (12) (by omega)
                          rw [hw14] at hw14c
                          refine kSRE (As := [.int (((((v) >>> ((iI (1 + (2 * (k : Int)))) &&& 31))) >>> ((iI (4)) &&& 31))), .int (iI (12))]) E cw_L_72 hw14c trivial hL hl.1 rfl rfl (Nat.le_of_ble_eq_true rfl) ⟨Nat.le_of_ble_eq_true rfl, Nat.le_of_ble_eq_true rfl⟩ ⟨rfl, rfl⟩ ⟨Nat.le_of_ble_eq_true rfl, Nat.le_of_ble_eq_true rfl⟩ dL_types_336 (fun locs hL => ?_)
                          have J363_14 : ∀ (v363 : Int) (hv363 : v363 = 0 ∨ v363 = 1) (ls : Array Slot) (locs : List Loc) (hl : lv_has ls 8 [(3, .int (iI (1))), (7, .int (iI (v67))), (6, .int (iI (w4))), (5, .int (((v) >>> ((iI (1 + (2 * (k : Int)))) &&& 31)))), (4, .int (iI ((k : Int)))), (2, .int (iI (w1))), (0, .ref (x)), (1, .int (v))]) (hL : Lk G locs), W p l e ({ frames := 3, cells := 0, slots := 0, locals := 63 } : Room) s m args below meth c H12 locs 0 0 (QQ G below args s ({ frames := 3, cells := 0, slots := 0, locals := 63 } : Room) (WE (iI 1) (fun H H1 => ∃ tx1 len1, TxOk tx1 len1 ∧ TQ (lowI v 11) tx1 len1 ∧ XP G x fb fl σ hs tx1 len1 H H1))) (F0 m 363 ls [.int (iI (v363)), .int (iI (w14)), .ref (x)]) := by
                            intro v363 hv363 ls locs hl hL
                            refine r_add E dL_types_363 ?_
                            refine kSWE (As := [.ref (x), .int (iI (w14 + v363))]) E cw_L_99 (c_L_digits G l x fb fl12 σ hs t12 l12 hI hT12 hfx hgx (w14 + v363) (by omega) (by omega)) ⟨hX12, hz12⟩ hL hl.1 rfl rfl (Nat.le_of_ble_eq_true rfl) ⟨Nat.le_of_ble_eq_true rfl, Nat.le_of_ble_eq_true rfl⟩ ⟨Nat.le_of_ble_eq_true rfl, Nat.le_of_ble_eq_true rfl⟩ dL_types_364 (fun H17 locs hL hw_ => ?_)
                            obtain ⟨t15, l15, hT15, ⟨hd15a, hd15b, hd15c, hd15d, hs15⟩, ⟨fl15, hE15, hX15⟩, hR15⟩ := hw_
                            have hz15 := FrR.size hR15 hz12
                            have hR15 := hR12.trans hR15
                            have hE15 := hE12.trans hE15
                            refine r_if_eq (tgt := 374) E dL_types_367 (by decide) (by omega) (fun c367 => absurd c367 (by omega)) (fun c367 => ?_)
                            refine r_const E dL_types_370 ?_
                            refine lv_goto (tgt := 375) E.1 E.2.1 dL_types_371 (by decide) ?_
                            refine lv_istore_n (lv' := [(3, .int (iI (1))), (7, .int (iI (v67))), (6, .int (iI (w4))), (5, .int (((v) >>> ((iI (1 + (2 * (k : Int)))) &&& 31)))), (4, .int (iI ((k : Int)))), (2, .int (iI (w1))), (0, .ref (x)), (1, .int (v))]) E.1 E.2.1 dL_types_375 rfl hl (by decide) rfl (fun ls hl => ?_)
                            refine r_inc (lv' := [(4, .int (iI ((k : Int) + 1))), (3, .int (iI (1))), (7, .int (iI (v67))), (6, .int (iI (w4))), (5, .int (((v) >>> ((iI (1 + (2 * (k : Int)))) &&& 31)))), (2, .int (iI (w1))), (0, .ref (x)), (1, .int (v))]) E dL_types_376 hl (k := 4) rfl (by decide) rfl (fun ls hl => ?_)
                            refine lv_goto (tgt := 23) E.1 E.2.1 dL_types_379 (by decide) ?_
                            refine ihin23 _ ?_ (k + 1) H17 ((k : Int) + 1) fl15 t15 l15 ls locs ?_ ?_ ?_ ?_ ?_ ?_ ?_ ?_ ?_ rfl (lv_sub hl [0, 1, 5, 6, 7] rfl) hL
                            · omega
                            · omega
                            · omega
                            · exact hX15
                            · exact hz15
                            · exact hE15
                            · exact hR15
                            · exact hT15
                            · omega
                            · omega
                          refine lv_iload E.1 E.2.1 dL_types_339 (lv_at hl 2 rfl) ?_
                          refine r_bipush E dL_types_341 (by decide) ?_
                          refine r_icmp_ge (tgt := 362) E dL_types_343 (by decide) (by omega) (by omega) (fun c343 => ?_) (fun c343 => ?_)
                          · refine r_const E dL_types_362 ?_
                            exact J363_14 _ (by omega) ls locs (lv_sub hl [0, 1, 2, 3, 4, 5, 6, 7] rfl) hL
                          · refine lv_iload_n E.1 E.2.1 dL_types_346 rfl (lv_at hl 7 rfl) ?_
                            refine r_bipush E dL_types_347 (by decide) ?_
                            refine lv_ishr E.1 E.2.1 dL_types_349 ?_
                            refine r_bipush E dL_types_350 (by decide) ?_
                            obtain ⟨w16, hw16⟩ : ∃ z : Int, lowI (((v) >>> ((iI (25)) &&& 31))) (9) = z := ⟨_, rfl⟩
                            have hw16b : 0 ≤ w16 ∧ w16 < (9) := by rw [← hw16]; exact low_b _ (by omega)
                            have hw16c := c_L_low G l (((v) >>> ((iI (25)) &&& 31))) (9) (by omega)
                            rw [hw16] at hw16c
                            refine kSRE (As := [.int (((v) >>> ((iI (25)) &&& 31))), .int (iI (9))]) E cw_L_72 hw16c trivial hL hl.1 rfl rfl (Nat.le_of_ble_eq_true rfl) ⟨Nat.le_of_ble_eq_true rfl, Nat.le_of_ble_eq_true rfl⟩ ⟨rfl, rfl⟩ ⟨Nat.le_of_ble_eq_true rfl, Nat.le_of_ble_eq_true rfl⟩ dL_types_352 (fun locs hL => ?_)
                            refine r_if_le (tgt := 362) E dL_types_355 (by decide) (by omega) (fun c355 => ?_) (fun c355 => ?_)
                            · refine r_const E dL_types_362 ?_
                              exact J363_14 _ (by omega) ls locs (lv_sub hl [0, 1, 2, 3, 4, 5, 6, 7] rfl) hL
                            · refine r_const E dL_types_358 ?_
                              refine lv_goto (tgt := 363) E.1 E.2.1 dL_types_359 (by decide) ?_
                              exact J363_14 _ (by omega) ls locs (lv_sub hl [0, 1, 2, 3, 4, 5, 6, 7] rfl) hL
                        refine lv_iload E.1 E.2.1 dL_types_309 (lv_at hl 2 rfl) ?_
                        refine r_bipush E dL_types_311 (by decide) ?_
                        refine r_icmp_ge (tgt := 321) E dL_types_313 (by decide) (by omega) (by omega) (fun c313 => ?_) (fun c313 => ?_)
                        · refine r_bipush E dL_types_321 (by decide) ?_
                          exact J323_10 _ (by omega) ls locs (lv_sub hl [0, 1, 2, 3, 4, 5, 6, 7] rfl) hL
                        · refine r_bipush E dL_types_316 (by decide) ?_
                          refine lv_goto (tgt := 323) E.1 E.2.1 dL_types_318 (by decide) ?_
                          exact J323_10 _ (by omega) ls locs (lv_sub hl [0, 1, 2, 3, 4, 5, 6, 7] rfl) hL
                · refine lv_aload_n E.1 E.2.1 dL_types_191 rfl (lv_at hl 6 rfl) ?_
                  have J272_10 : ∀ (v272 : Int) (hv272 : 0 ≤ v272 ∧ ((v272 ≤ 2 ∧ w4 < 3) ∨ (v272 ≤ 249 ∧ 13 < w4) ∨ v272 ≤ 21)) (ls : Array Slot) (locs : List Loc) (hl : lv_has ls 8 [(3, .int (iI (1))), (7, .int (iI (v67))), (6, .int (iI (w4))), (5, .int (((v) >>> ((iI (1 + (2 * (k : Int)))) &&& 31)))), (4, .int (iI ((k : Int)))), (2, .int (iI (w1))), (0, .ref (x)), (1, .int (v))]) (hL : Lk G locs), W p l e ({ frames := 3, cells := 0, slots := 0, locals := 63 } : Room) s m args below meth c H9 locs 0 0 (QQ G below args s ({ frames := 3, cells := 0, slots := 0, locals := 63 } : Room) (WE (iI 1) (fun H H1 => ∃ tx1 len1, TxOk tx1 len1 ∧ TQ (lowI v 11) tx1 len1 ∧ XP G x fb fl σ hs tx1 len1 H H1))) (F0 m 272 ls [.int (iI (v272)), .ref (x)]) := by
                    intro v272 hv272 ls locs hl hL
                    refine kSWE (As := [.ref (x), .int (iI (v272))]) E cw_L_99 (c_L_digits G l x fb fl9 σ hs t9 l9 hI hT9 hfx hgx (v272) (by omega) (by omega)) ⟨hX9, hz9⟩ hL hl.1 rfl rfl (Nat.le_of_ble_eq_true rfl) ⟨Nat.le_of_ble_eq_true rfl, Nat.le_of_ble_eq_true rfl⟩ ⟨Nat.le_of_ble_eq_true rfl, Nat.le_of_ble_eq_true rfl⟩ dL_types_272 (fun H13 locs hL hw_ => ?_)
                    obtain ⟨t11, l11, hT11, ⟨hd11a, hd11b, hd11c, hd11d, hs11⟩, ⟨fl11, hE11, hX11⟩, hR11⟩ := hw_
                    have hz11 := FrR.size hR11 hz9
                    have hR11 := hR9.trans hR11
                    have hE11 := hE9.trans hE11
                    refine r_if_eq (tgt := 282) E dL_types_275 (by decide) (by omega) (fun c275 => absurd c275 (by omega)) (fun c275 => ?_)
                    refine r_const E dL_types_278 ?_
                    refine lv_goto (tgt := 283) E.1 E.2.1 dL_types_279 (by decide) ?_
                    refine lv_istore_n (lv' := [(3, .int (iI (1))), (7, .int (iI (v67))), (6, .int (iI (w4))), (5, .int (((v) >>> ((iI (1 + (2 * (k : Int)))) &&& 31)))), (4, .int (iI ((k : Int)))), (2, .int (iI (w1))), (0, .ref (x)), (1, .int (v))]) E.1 E.2.1 dL_types_283 rfl hl (by decide) rfl (fun ls hl => ?_)
                    refine lv_iload_n E.1 E.2.1 dL_types_284 rfl (lv_at hl 0 rfl) ?_
                    refine r_if_eq (tgt := 374) E dL_types_285 (by decide) (by omega) (fun c285 => absurd c285 (by omega)) (fun c285 => ?_)
                    refine lv_iload E.1 E.2.1 dL_types_288 (lv_at hl 2 rfl) ?_
                    refine r_const E dL_types_290 ?_
                    refine r_icmp_lt (tgt := 370) E dL_types_291 (by decide) (by omega) (by omega) (fun c291 => ?_) (fun c291 => ?_)
                    · refine r_const E dL_types_370 ?_
                      refine lv_goto (tgt := 375) E.1 E.2.1 dL_types_371 (by decide) ?_
                      refine lv_istore_n (lv' := [(3, .int (iI (1))), (7, .int (iI (v67))), (6, .int (iI (w4))), (5, .int (((v) >>> ((iI (1 + (2 * (k : Int)))) &&& 31)))), (4, .int (iI ((k : Int)))), (2, .int (iI (w1))), (0, .ref (x)), (1, .int (v))]) E.1 E.2.1 dL_types_375 rfl hl (by decide) rfl (fun ls hl => ?_)
                      refine r_inc (lv' := [(4, .int (iI ((k : Int) + 1))), (3, .int (iI (1))), (7, .int (iI (v67))), (6, .int (iI (w4))), (5, .int (((v) >>> ((iI (1 + (2 * (k : Int)))) &&& 31)))), (2, .int (iI (w1))), (0, .ref (x)), (1, .int (v))]) E dL_types_376 hl (k := 4) rfl (by decide) rfl (fun ls hl => ?_)
                      refine lv_goto (tgt := 23) E.1 E.2.1 dL_types_379 (by decide) ?_
                      refine ihin23 _ ?_ (k + 1) H13 ((k : Int) + 1) fl11 t11 l11 ls locs ?_ ?_ ?_ ?_ ?_ ?_ ?_ ?_ ?_ rfl (lv_sub hl [0, 1, 5, 6, 7] rfl) hL
                      · omega
                      · omega
                      · omega
                      · exact hX11
                      · exact hz11
                      · exact hE11
                      · exact hR11
                      · exact hT11
                      · omega
                      · omega
                    · refine lv_iload E.1 E.2.1 dL_types_294 (lv_at hl 2 rfl) ?_
                      refine r_bipush E dL_types_296 (by decide) ?_
                      refine r_icmp_eq (tgt := 370) E dL_types_298 (by decide) (by omega) (by omega) (fun c298 => ?_) (fun c298 => ?_)
                      · refine r_const E dL_types_370 ?_
                        refine lv_goto (tgt := 375) E.1 E.2.1 dL_types_371 (by decide) ?_
                        refine lv_istore_n (lv' := [(3, .int (iI (1))), (7, .int (iI (v67))), (6, .int (iI (w4))), (5, .int (((v) >>> ((iI (1 + (2 * (k : Int)))) &&& 31)))), (4, .int (iI ((k : Int)))), (2, .int (iI (w1))), (0, .ref (x)), (1, .int (v))]) E.1 E.2.1 dL_types_375 rfl hl (by decide) rfl (fun ls hl => ?_)
                        refine r_inc (lv' := [(4, .int (iI ((k : Int) + 1))), (3, .int (iI (1))), (7, .int (iI (v67))), (6, .int (iI (w4))), (5, .int (((v) >>> ((iI (1 + (2 * (k : Int)))) &&& 31)))), (2, .int (iI (w1))), (0, .ref (x)), (1, .int (v))]) E dL_types_376 hl (k := 4) rfl (by decide) rfl (fun ls hl => ?_)
                        refine lv_goto (tgt := 23) E.1 E.2.1 dL_types_379 (by decide) ?_
                        refine ihin23 _ ?_ (k + 1) H13 ((k : Int) + 1) fl11 t11 l11 ls locs ?_ ?_ ?_ ?_ ?_ ?_ ?_ ?_ ?_ rfl (lv_sub hl [0, 1, 5, 6, 7] rfl) hL
                        · omega
                        · omega
                        · omega
                        · exact hX11
                        · exact hz11
                        · exact hE11
                        · exact hR11
                        · exact hT11
                        · omega
                        · omega
                      · refine lv_iload E.1 E.2.1 dL_types_301 (lv_at hl 2 rfl) ?_
                        refine r_bipush E dL_types_303 (by decide) ?_
                        refine r_icmp_gt (tgt := 370) E dL_types_305 (by decide) (by omega) (by omega) (fun c305 => ?_) (fun c305 => ?_)
                        · refine r_const E dL_types_370 ?_
                          refine lv_goto (tgt := 375) E.1 E.2.1 dL_types_371 (by decide) ?_
                          refine lv_istore_n (lv' := [(3, .int (iI (1))), (7, .int (iI (v67))), (6, .int (iI (w4))), (5, .int (((v) >>> ((iI (1 + (2 * (k : Int)))) &&& 31)))), (4, .int (iI ((k : Int)))), (2, .int (iI (w1))), (0, .ref (x)), (1, .int (v))]) E.1 E.2.1 dL_types_375 rfl hl (by decide) rfl (fun ls hl => ?_)
                          refine r_inc (lv' := [(4, .int (iI ((k : Int) + 1))), (3, .int (iI (1))), (7, .int (iI (v67))), (6, .int (iI (w4))), (5, .int (((v) >>> ((iI (1 + (2 * (k : Int)))) &&& 31)))), (2, .int (iI (w1))), (0, .ref (x)), (1, .int (v))]) E dL_types_376 hl (k := 4) rfl (by decide) rfl (fun ls hl => ?_)
                          refine lv_goto (tgt := 23) E.1 E.2.1 dL_types_379 (by decide) ?_
                          refine ihin23 _ ?_ (k + 1) H13 ((k : Int) + 1) fl11 t11 l11 ls locs ?_ ?_ ?_ ?_ ?_ ?_ ?_ ?_ ?_ rfl (lv_sub hl [0, 1, 5, 6, 7] rfl) hL
                          · omega
                          · omega
                          · omega
                          · exact hX11
                          · exact hz11
                          · exact hE11
                          · exact hR11
                          · exact hT11
                          · omega
                          · omega
                        · refine lv_aload_n E.1 E.2.1 dL_types_308 rfl (lv_at hl 6 rfl) ?_
                          have J323_13 : ∀ (v323 : Int) (hv323 : v323 = 61 ∨ v323 = 46) (ls : Array Slot) (locs : List Loc) (hl : lv_has ls 8 [(3, .int (iI (1))), (7, .int (iI (v67))), (6, .int (iI (w4))), (5, .int (((v) >>> ((iI (1 + (2 * (k : Int)))) &&& 31)))), (4, .int (iI ((k : Int)))), (2, .int (iI (w1))), (0, .ref (x)), (1, .int (v))]) (hL : Lk G locs), W p l e ({ frames := 3, cells := 0, slots := 0, locals := 63 } : Room) s m args below meth c H13 locs 0 0 (QQ G below args s ({ frames := 3, cells := 0, slots := 0, locals := 63 } : Room) (WE (iI 1) (fun H H1 => ∃ tx1 len1, TxOk tx1 len1 ∧ TQ (lowI v 11) tx1 len1 ∧ XP G x fb fl σ hs tx1 len1 H H1))) (F0 m 323 ls [.int (iI (v323)), .ref (x)]) := by
                            intro v323 hv323 ls locs hl hL
                            refine kVWE (As := [.int (iI (v323))]) E cw_L_93 (c_X5_append G l x fb fl11 σ hs t11 l11 hI hT11 hfx hgx (v323) (by unfold okI; omega)) hX11.1 ⟨_, _, rfl⟩ ⟨hX11, hz11⟩ hL hl.1 rfl rfl (Nat.le_of_ble_eq_true rfl) ⟨Nat.le_of_ble_eq_true rfl, Nat.le_of_ble_eq_true rfl⟩ ⟨Nat.le_of_ble_eq_true rfl, Nat.le_of_ble_eq_true rfl⟩ dL_types_323 (fun H15 locs hL hw_ => ?_)
                            have hy15 : 32 ≤ ((v323) : Int) ∧ ((v323) : Int) ≤ 126 := by omega
                            have hl15 : l11 < 80 := by omega
                            rw [ap_ok hy15 hl15] at hw_ ⊢
                            obtain ⟨⟨fl15, hE15, hX15⟩, hR15⟩ := hw_
                            have hT15 := ap_tx hT11 hy15 hl15
                            have hs15 : scn (va_up t11 l11 (v323)) (l11 + 1) = scn t11 l11 := ap_scn (by omega)
                            have hX15 : XAt G x fb fl15 σ hs (va_up t11 l11 (v323)) (l11 + 1) H15 := hX15
                            generalize va_up t11 l11 (v323) = t15 at hX15 hT15 hs15
                            obtain ⟨l15, hll15⟩ : ∃ q, q = l11 + 1 := ⟨_, rfl⟩
                            rw [← hll15] at hX15 hT15 hs15
                            have hz15 := FrR.size hR15 hz11
                            have hR15 := hR11.trans hR15
                            have hE15 := hE11.trans hE15
                            refine r_if_le (tgt := 374) E dL_types_326 (by decide) (by omega) (fun c326 => absurd c326 (by omega)) (fun c326 => ?_)
                            refine lv_aload_n E.1 E.2.1 dL_types_329 rfl (lv_at hl 6 rfl) ?_
                            refine lv_iload E.1 E.2.1 dL_types_330 (lv_at hl 3 rfl) ?_
                            refine r_const E dL_types_332 ?_
                            refine lv_ishr E.1 E.2.1 dL_types_333 ?_
                            refine r_bipush E dL_types_334 (by decide) ?_
                            obtain ⟨w17, hw17⟩ : ∃ z : Int, lowI (((((v) >>> ((iI (1 + (2 * (k : Int)))) &&& 31))) >>> ((iI (4)) &&& 31))) (12) = z := ⟨_, rfl⟩
                            have hw17b : 0 ≤ w17 ∧ w17 < (12) := by rw [← hw17]; exact low_b _ (by omega)
                            have hw17c := c_L_low G l (((((v) >>> ((iI (1 + (2 * (k : Int)))) &&& 31))) >>> ((iI (4)) &&& 31))) (12) (by omega)
                            rw [hw17] at hw17c
                            refine kSRE (As := [.int (((((v) >>> ((iI (1 + (2 * (k : Int)))) &&& 31))) >>> ((iI (4)) &&& 31))), .int (iI (12))]) E cw_L_72 hw17c trivial hL hl.1 rfl rfl (Nat.le_of_ble_eq_true rfl) ⟨Nat.le_of_ble_eq_true rfl, Nat.le_of_ble_eq_true rfl⟩ ⟨rfl, rfl⟩ ⟨Nat.le_of_ble_eq_true rfl, Nat.le_of_ble_eq_true rfl⟩ dL_types_336 (fun locs hL => ?_)
                            have J363_17 : ∀ (v363 : Int) (hv363 : v363 = 0 ∨ v363 = 1) (ls : Array Slot) (locs : List Loc) (hl : lv_has ls 8 [(3, .int (iI (1))), (7, .int (iI (v67))), (6, .int (iI (w4))), (5, .int (((v) >>> ((iI (1 + (2 * (k : Int)))) &&& 31)))), (4, .int (iI ((k : Int)))), (2, .int (iI (w1))), (0, .ref (x)), (1, .int (v))]) (hL : Lk G locs), W p l e ({ frames := 3, cells := 0, slots := 0, locals := 63 } : Room) s m args below meth c H15 locs 0 0 (QQ G below args s ({ frames := 3, cells := 0, slots := 0, locals := 63 } : Room) (WE (iI 1) (fun H H1 => ∃ tx1 len1, TxOk tx1 len1 ∧ TQ (lowI v 11) tx1 len1 ∧ XP G x fb fl σ hs tx1 len1 H H1))) (F0 m 363 ls [.int (iI (v363)), .int (iI (w17)), .ref (x)]) := by
                              intro v363 hv363 ls locs hl hL
                              refine r_add E dL_types_363 ?_
                              refine kSWE (As := [.ref (x), .int (iI (w17 + v363))]) E cw_L_99 (c_L_digits G l x fb fl15 σ hs t15 l15 hI hT15 hfx hgx (w17 + v363) (by omega) (by omega)) ⟨hX15, hz15⟩ hL hl.1 rfl rfl (Nat.le_of_ble_eq_true rfl) ⟨Nat.le_of_ble_eq_true rfl, Nat.le_of_ble_eq_true rfl⟩ ⟨Nat.le_of_ble_eq_true rfl, Nat.le_of_ble_eq_true rfl⟩ dL_types_364 (fun H20 locs hL hw_ => ?_)
                              obtain ⟨t18, l18, hT18, ⟨hd18a, hd18b, hd18c, hd18d, hs18⟩, ⟨fl18, hE18, hX18⟩, hR18⟩ := hw_
                              have hz18 := FrR.size hR18 hz15
                              have hR18 := hR15.trans hR18
                              have hE18 := hE15.trans hE18
                              refine r_if_eq (tgt := 374) E dL_types_367 (by decide) (by omega) (fun c367 => absurd c367 (by omega)) (fun c367 => ?_)
                              refine r_const E dL_types_370 ?_
                              refine lv_goto (tgt := 375) E.1 E.2.1 dL_types_371 (by decide) ?_
                              refine lv_istore_n (lv' := [(3, .int (iI (1))), (7, .int (iI (v67))), (6, .int (iI (w4))), (5, .int (((v) >>> ((iI (1 + (2 * (k : Int)))) &&& 31)))), (4, .int (iI ((k : Int)))), (2, .int (iI (w1))), (0, .ref (x)), (1, .int (v))]) E.1 E.2.1 dL_types_375 rfl hl (by decide) rfl (fun ls hl => ?_)
                              refine r_inc (lv' := [(4, .int (iI ((k : Int) + 1))), (3, .int (iI (1))), (7, .int (iI (v67))), (6, .int (iI (w4))), (5, .int (((v) >>> ((iI (1 + (2 * (k : Int)))) &&& 31)))), (2, .int (iI (w1))), (0, .ref (x)), (1, .int (v))]) E dL_types_376 hl (k := 4) rfl (by decide) rfl (fun ls hl => ?_)
                              refine lv_goto (tgt := 23) E.1 E.2.1 dL_types_379 (by decide) ?_
                              refine ihin23 _ ?_ (k + 1) H20 ((k : Int) + 1) fl18 t18 l18 ls locs ?_ ?_ ?_ ?_ ?_ ?_ ?_ ?_ ?_ rfl (lv_sub hl [0, 1, 5, 6, 7] rfl) hL
                              · omega
                              · omega
                              · omega
                              · exact hX18
                              · exact hz18
                              · exact hE18
                              · exact hR18
                              · exact hT18
                              · omega
                              · omega
                            refine lv_iload E.1 E.2.1 dL_types_339 (lv_at hl 2 rfl) ?_
                            refine r_bipush E dL_types_341 (by decide) ?_
                            refine r_icmp_ge (tgt := 362) E dL_types_343 (by decide) (by omega) (by omega) (fun c343 => ?_) (fun c343 => ?_)
                            · refine r_const E dL_types_362 ?_
                              exact J363_17 _ (by omega) ls locs (lv_sub hl [0, 1, 2, 3, 4, 5, 6, 7] rfl) hL
                            · refine lv_iload_n E.1 E.2.1 dL_types_346 rfl (lv_at hl 7 rfl) ?_
                              refine r_bipush E dL_types_347 (by decide) ?_
                              refine lv_ishr E.1 E.2.1 dL_types_349 ?_
                              refine r_bipush E dL_types_350 (by decide) ?_
                              obtain ⟨w19, hw19⟩ : ∃ z : Int, lowI (((v) >>> ((iI (25)) &&& 31))) (9) = z := ⟨_, rfl⟩
                              have hw19b : 0 ≤ w19 ∧ w19 < (9) := by rw [← hw19]; exact low_b _ (by omega)
                              have hw19c := c_L_low G l (((v) >>> ((iI (25)) &&& 31))) (9) (by omega)
                              rw [hw19] at hw19c
                              refine kSRE (As := [.int (((v) >>> ((iI (25)) &&& 31))), .int (iI (9))]) E cw_L_72 hw19c trivial hL hl.1 rfl rfl (Nat.le_of_ble_eq_true rfl) ⟨Nat.le_of_ble_eq_true rfl, Nat.le_of_ble_eq_true rfl⟩ ⟨rfl, rfl⟩ ⟨Nat.le_of_ble_eq_true rfl, Nat.le_of_ble_eq_true rfl⟩ dL_types_352 (fun locs hL => ?_)
                              refine r_if_le (tgt := 362) E dL_types_355 (by decide) (by omega) (fun c355 => ?_) (fun c355 => ?_)
                              · refine r_const E dL_types_362 ?_
                                exact J363_17 _ (by omega) ls locs (lv_sub hl [0, 1, 2, 3, 4, 5, 6, 7] rfl) hL
                              · refine r_const E dL_types_358 ?_
                                refine lv_goto (tgt := 363) E.1 E.2.1 dL_types_359 (by decide) ?_
                                exact J363_17 _ (by omega) ls locs (lv_sub hl [0, 1, 2, 3, 4, 5, 6, 7] rfl) hL
                          refine lv_iload E.1 E.2.1 dL_types_309 (lv_at hl 2 rfl) ?_
                          refine r_bipush E dL_types_311 (by decide) ?_
                          refine r_icmp_ge (tgt := 321) E dL_types_313 (by decide) (by omega) (by omega) (fun c313 => ?_) (fun c313 => ?_)
                          · refine r_bipush E dL_types_321 (by decide) ?_
                            exact J323_13 _ (by omega) ls locs (lv_sub hl [0, 1, 2, 3, 4, 5, 6, 7] rfl) hL
                          · refine r_bipush E dL_types_316 (by decide) ?_
                            refine lv_goto (tgt := 323) E.1 E.2.1 dL_types_318 (by decide) ?_
                            exact J323_13 _ (by omega) ls locs (lv_sub hl [0, 1, 2, 3, 4, 5, 6, 7] rfl) hL
                  refine lv_iload E.1 E.2.1 dL_types_192 (lv_at hl 2 rfl) ?_
                  refine r_const E dL_types_194 ?_
                  refine r_icmp_ge (tgt := 225) E dL_types_195 (by decide) (by omega) (by omega) (fun c195 => ?_) (fun c195 => ?_)
                  · refine lv_iload E.1 E.2.1 dL_types_225 (lv_at hl 2 rfl) ?_
                    refine r_bipush E dL_types_227 (by decide) ?_
                    refine r_icmp_le (tgt := 263) E dL_types_229 (by decide) (by omega) (by omega) (fun c229 => ?_) (fun c229 => ?_)
                    · refine lv_iload E.1 E.2.1 dL_types_263 (lv_at hl 3 rfl) ?_
                      refine r_const E dL_types_265 ?_
                      refine lv_ishr E.1 E.2.1 dL_types_266 ?_
                      refine lv_iload E.1 E.2.1 dL_types_267 (lv_at hl 1 rfl) ?_
                      obtain ⟨w12, hw12⟩ : ∃ z : Int, lowI (((((v) >>> ((iI (1 + (2 * (k : Int)))) &&& 31))) >>> ((iI (3)) &&& 31))) (v67) = z := ⟨_, rfl⟩
                      have hw12b : 0 ≤ w12 ∧ w12 < (v67) := by rw [← hw12]; exact low_b _ (by omega)
                      have hw12c := c_L_low G l (((((v) >>> ((iI (1 + (2 * (k : Int)))) &&& 31))) >>> ((iI (3)) &&& 31))) (v67) (by omega)
                      rw [hw12] at hw12c
                      refine kSRE (As := [.int (((((v) >>> ((iI (1 + (2 * (k : Int)))) &&& 31))) >>> ((iI (3)) &&& 31))), .int (iI (v67))]) E cw_L_72 hw12c trivial hL hl.1 rfl rfl (Nat.le_of_ble_eq_true rfl) ⟨Nat.le_of_ble_eq_true rfl, Nat.le_of_ble_eq_true rfl⟩ ⟨rfl, rfl⟩ ⟨Nat.le_of_ble_eq_true rfl, Nat.le_of_ble_eq_true rfl⟩ dL_types_269 (fun locs hL => ?_)
                      exact J272_10 _ (by omega) ls locs (lv_sub hl [0, 1, 2, 3, 4, 5, 6, 7] rfl) hL
                    · refine lv_iload E.1 E.2.1 dL_types_232 (lv_at hl 3 rfl) ?_
                      refine r_const E dL_types_234 ?_
                      refine lv_ishr E.1 E.2.1 dL_types_235 ?_
                      refine lv_iload_n E.1 E.2.1 dL_types_236 rfl (lv_at hl 7 rfl) ?_
                      refine r_bipush E dL_types_237 (by decide) ?_
                      refine lv_ishr E.1 E.2.1 dL_types_239 ?_
                      refine r_bipush E dL_types_240 (by decide) ?_
                      obtain ⟨w12, hw12⟩ : ∃ z : Int, lowI (((v) >>> ((iI (24)) &&& 31))) (9) = z := ⟨_, rfl⟩
                      have hw12b : 0 ≤ w12 ∧ w12 < (9) := by rw [← hw12]; exact low_b _ (by omega)
                      have hw12c := c_L_low G l (((v) >>> ((iI (24)) &&& 31))) (9) (by omega)
                      rw [hw12] at hw12c
                      refine kSRE (As := [.int (((v) >>> ((iI (24)) &&& 31))), .int (iI (9))]) E cw_L_72 hw12c trivial hL hl.1 rfl rfl (Nat.le_of_ble_eq_true rfl) ⟨Nat.le_of_ble_eq_true rfl, Nat.le_of_ble_eq_true rfl⟩ ⟨rfl, rfl⟩ ⟨Nat.le_of_ble_eq_true rfl, Nat.le_of_ble_eq_true rfl⟩ dL_types_242 (fun locs hL => ?_)
                      refine r_if_ne (tgt := 254) E dL_types_245 (by decide) (by omega) (fun c245 => ?_) (fun c245 => ?_)
                      · refine r_sipush E dL_types_254 (by decide) ?_
                        obtain ⟨w13, hw13⟩ : ∃ z : Int, lowI (((((v) >>> ((iI (1 + (2 * (k : Int)))) &&& 31))) >>> ((iI (2)) &&& 31))) (240) = z := ⟨_, rfl⟩
                        have hw13b : 0 ≤ w13 ∧ w13 < (240) := by rw [← hw13]; exact low_b _ (by omega)
                        have hw13c := c_L_low G l (((((v) >>> ((iI (1 + (2 * (k : Int)))) &&& 31))) >>> ((iI (2)) &&& 31))) (240) (by omega)
                        rw [hw13] at hw13c
                        refine kSRE (As := [.int (((((v) >>> ((iI (1 + (2 * (k : Int)))) &&& 31))) >>> ((iI (2)) &&& 31))), .int (iI (240))]) E cw_L_72 hw13c trivial hL hl.1 rfl rfl (Nat.le_of_ble_eq_true rfl) ⟨Nat.le_of_ble_eq_true rfl, Nat.le_of_ble_eq_true rfl⟩ ⟨rfl, rfl⟩ ⟨Nat.le_of_ble_eq_true rfl, Nat.le_of_ble_eq_true rfl⟩ dL_types_257 (fun locs hL => ?_)
                        refine lv_goto (tgt := 272) E.1 E.2.1 dL_types_260 (by decide) ?_
                        exact J272_10 _ (by omega) ls locs (lv_sub hl [0, 1, 2, 3, 4, 5, 6, 7] rfl) hL
                      · refine r_sipush E dL_types_248 (by decide) ?_
                        refine lv_goto (tgt := 257) E.1 E.2.1 dL_types_251 (by decide) ?_
                        obtain ⟨w13, hw13⟩ : ∃ z : Int, lowI (((((v) >>> ((iI (1 + (2 * (k : Int)))) &&& 31))) >>> ((iI (2)) &&& 31))) (250) = z := ⟨_, rfl⟩
                        have hw13b : 0 ≤ w13 ∧ w13 < (250) := by rw [← hw13]; exact low_b _ (by omega)
                        have hw13c := c_L_low G l (((((v) >>> ((iI (1 + (2 * (k : Int)))) &&& 31))) >>> ((iI (2)) &&& 31))) (250) (by omega)
                        rw [hw13] at hw13c
                        refine kSRE (As := [.int (((((v) >>> ((iI (1 + (2 * (k : Int)))) &&& 31))) >>> ((iI (2)) &&& 31))), .int (iI (250))]) E cw_L_72 hw13c trivial hL hl.1 rfl rfl (Nat.le_of_ble_eq_true rfl) ⟨Nat.le_of_ble_eq_true rfl, Nat.le_of_ble_eq_true rfl⟩ ⟨rfl, rfl⟩ ⟨Nat.le_of_ble_eq_true rfl, Nat.le_of_ble_eq_true rfl⟩ dL_types_257 (fun locs hL => ?_)
                        refine lv_goto (tgt := 272) E.1 E.2.1 dL_types_260 (by decide) ?_
                        exact J272_10 _ (by omega) ls locs (lv_sub hl [0, 1, 2, 3, 4, 5, 6, 7] rfl) hL
                  · refine lv_iload E.1 E.2.1 dL_types_198 (lv_at hl 3 rfl) ?_
                    refine r_const E dL_types_200 ?_
                    refine lv_ishr E.1 E.2.1 dL_types_201 ?_
                    refine lv_iload_n E.1 E.2.1 dL_types_202 rfl (lv_at hl 7 rfl) ?_
                    refine r_bipush E dL_types_203 (by decide) ?_
                    refine lv_ishr E.1 E.2.1 dL_types_205 ?_
                    refine r_bipush E dL_types_206 (by decide) ?_
                    obtain ⟨w12, hw12⟩ : ∃ z : Int, lowI (((v) >>> ((iI (23)) &&& 31))) (9) = z := ⟨_, rfl⟩
                    have hw12b : 0 ≤ w12 ∧ w12 < (9) := by rw [← hw12]; exact low_b _ (by omega)
                    have hw12c := c_L_low G l (((v) >>> ((iI (23)) &&& 31))) (9) (by omega)
                    rw [hw12] at hw12c
                    refine kSRE (As := [.int (((v) >>> ((iI (23)) &&& 31))), .int (iI (9))]) E cw_L_72 hw12c trivial hL hl.1 rfl rfl (Nat.le_of_ble_eq_true rfl) ⟨Nat.le_of_ble_eq_true rfl, Nat.le_of_ble_eq_true rfl⟩ ⟨rfl, rfl⟩ ⟨Nat.le_of_ble_eq_true rfl, Nat.le_of_ble_eq_true rfl⟩ dL_types_208 (fun locs hL => ?_)
                    refine r_if_ne (tgt := 218) E dL_types_211 (by decide) (by omega) (fun c211 => ?_) (fun c211 => ?_)
                    · refine r_const E dL_types_218 ?_
                      obtain ⟨w13, hw13⟩ : ∃ z : Int, lowI (((((v) >>> ((iI (1 + (2 * (k : Int)))) &&& 31))) >>> ((iI (3)) &&& 31))) (2) = z := ⟨_, rfl⟩
                      have hw13b : 0 ≤ w13 ∧ w13 < (2) := by rw [← hw13]; exact low_b _ (by omega)
                      have hw13c := c_L_low G l (((((v) >>> ((iI (1 + (2 * (k : Int)))) &&& 31))) >>> ((iI (3)) &&& 31))) (2) (by omega)
                      rw [hw13] at hw13c
                      refine kSRE (As := [.int (((((v) >>> ((iI (1 + (2 * (k : Int)))) &&& 31))) >>> ((iI (3)) &&& 31))), .int (iI (2))]) E cw_L_72 hw13c trivial hL hl.1 rfl rfl (Nat.le_of_ble_eq_true rfl) ⟨Nat.le_of_ble_eq_true rfl, Nat.le_of_ble_eq_true rfl⟩ ⟨rfl, rfl⟩ ⟨Nat.le_of_ble_eq_true rfl, Nat.le_of_ble_eq_true rfl⟩ dL_types_219 (fun locs hL => ?_)
                      refine lv_goto (tgt := 272) E.1 E.2.1 dL_types_222 (by decide) ?_
                      exact J272_10 _ (by omega) ls locs (lv_sub hl [0, 1, 2, 3, 4, 5, 6, 7] rfl) hL
                    · refine r_const E dL_types_214 ?_
                      refine lv_goto (tgt := 219) E.1 E.2.1 dL_types_215 (by decide) ?_
                      obtain ⟨w13, hw13⟩ : ∃ z : Int, lowI (((((v) >>> ((iI (1 + (2 * (k : Int)))) &&& 31))) >>> ((iI (3)) &&& 31))) (3) = z := ⟨_, rfl⟩
                      have hw13b : 0 ≤ w13 ∧ w13 < (3) := by rw [← hw13]; exact low_b _ (by omega)
                      have hw13c := c_L_low G l (((((v) >>> ((iI (1 + (2 * (k : Int)))) &&& 31))) >>> ((iI (3)) &&& 31))) (3) (by omega)
                      rw [hw13] at hw13c
                      refine kSRE (As := [.int (((((v) >>> ((iI (1 + (2 * (k : Int)))) &&& 31))) >>> ((iI (3)) &&& 31))), .int (iI (3))]) E cw_L_72 hw13c trivial hL hl.1 rfl rfl (Nat.le_of_ble_eq_true rfl) ⟨Nat.le_of_ble_eq_true rfl, Nat.le_of_ble_eq_true rfl⟩ ⟨rfl, rfl⟩ ⟨Nat.le_of_ble_eq_true rfl, Nat.le_of_ble_eq_true rfl⟩ dL_types_219 (fun locs hL => ?_)
                      refine lv_goto (tgt := 272) E.1 E.2.1 dL_types_222 (by decide) ?_
                      exact J272_10 _ (by omega) ls locs (lv_sub hl [0, 1, 2, 3, 4, 5, 6, 7] rfl) hL
            refine lv_iload E.1 E.2.1 dL_types_88 (lv_at hl 1 rfl) ?_
            refine r_const E dL_types_90 ?_
            refine r_icmp_ge (tgt := 99) E dL_types_91 (by decide) (by omega) (by omega) (fun c91 => ?_) (fun c91 => ?_)
            · refine lv_iload E.1 E.2.1 dL_types_99 (lv_at hl 1 rfl) ?_
              refine r_bipush E dL_types_101 (by decide) ?_
              refine r_icmp_ge (tgt := 111) E dL_types_103 (by decide) (by omega) (by omega) (fun c103 => ?_) (fun c103 => ?_)
              · refine lv_iload E.1 E.2.1 dL_types_111 (lv_at hl 1 rfl) ?_
                refine r_bipush E dL_types_113 (by decide) ?_
                refine r_icmp_ne (tgt := 123) E dL_types_115 (by decide) (by omega) (by omega) (fun c115 => ?_) (fun c115 => ?_)
                · refine lv_iload E.1 E.2.1 dL_types_123 (lv_at hl 1 rfl) ?_
                  refine r_bipush E dL_types_125 (by decide) ?_
                  refine r_icmp_ge (tgt := 135) E dL_types_127 (by decide) (by omega) (by omega) (fun c127 => ?_) (fun c127 => ?_)
                  · refine lv_iload E.1 E.2.1 dL_types_135 (lv_at hl 1 rfl) ?_
                    refine r_bipush E dL_types_137 (by decide) ?_
                    refine r_icmp_ge (tgt := 147) E dL_types_139 (by decide) (by omega) (by omega) (fun c139 => ?_) (fun c139 => ?_)
                    · refine lv_iload E.1 E.2.1 dL_types_147 (lv_at hl 1 rfl) ?_
                      refine r_bipush E dL_types_149 (by decide) ?_
                      refine r_icmp_ne (tgt := 159) E dL_types_151 (by decide) (by omega) (by omega) (fun c151 => ?_) (fun c151 => ?_)
                      · refine r_bipush E dL_types_159 (by decide) ?_
                        exact J161_7 _ (by omega) ls locs (lv_sub hl [0, 1, 2, 3, 4, 5, 6, 7] rfl) hL
                      · refine r_bipush E dL_types_154 (by decide) ?_
                        refine lv_goto (tgt := 161) E.1 E.2.1 dL_types_156 (by decide) ?_
                        exact J161_7 _ (by omega) ls locs (lv_sub hl [0, 1, 2, 3, 4, 5, 6, 7] rfl) hL
                    · refine r_bipush E dL_types_142 (by decide) ?_
                      refine lv_goto (tgt := 161) E.1 E.2.1 dL_types_144 (by decide) ?_
                      exact J161_7 _ (by omega) ls locs (lv_sub hl [0, 1, 2, 3, 4, 5, 6, 7] rfl) hL
                  · refine r_bipush E dL_types_130 (by decide) ?_
                    refine lv_goto (tgt := 161) E.1 E.2.1 dL_types_132 (by decide) ?_
                    exact J161_7 _ (by omega) ls locs (lv_sub hl [0, 1, 2, 3, 4, 5, 6, 7] rfl) hL
                · refine r_bipush E dL_types_118 (by decide) ?_
                  refine lv_goto (tgt := 161) E.1 E.2.1 dL_types_120 (by decide) ?_
                  exact J161_7 _ (by omega) ls locs (lv_sub hl [0, 1, 2, 3, 4, 5, 6, 7] rfl) hL
              · refine r_bipush E dL_types_106 (by decide) ?_
                refine lv_goto (tgt := 161) E.1 E.2.1 dL_types_108 (by decide) ?_
                exact J161_7 _ (by omega) ls locs (lv_sub hl [0, 1, 2, 3, 4, 5, 6, 7] rfl) hL
            · refine r_bipush E dL_types_94 (by decide) ?_
              refine lv_goto (tgt := 161) E.1 E.2.1 dL_types_96 (by decide) ?_
              exact J161_7 _ (by omega) ls locs (lv_sub hl [0, 1, 2, 3, 4, 5, 6, 7] rfl) hL
        refine lv_iload_n E.1 E.2.1 dL_types_48 rfl (lv_at hl 6 rfl) ?_
        refine r_bipush E dL_types_49 (by decide) ?_
        refine lv_ishr E.1 E.2.1 dL_types_51 ?_
        refine r_bipush E dL_types_52 (by decide) ?_
        obtain ⟨w6, hw6⟩ : ∃ z : Int, lowI (((v) >>> ((iI (22)) &&& 31))) (9) = z := ⟨_, rfl⟩
        have hw6b : 0 ≤ w6 ∧ w6 < (9) := by rw [← hw6]; exact low_b _ (by omega)
        have hw6c := c_L_low G l (((v) >>> ((iI (22)) &&& 31))) (9) (by omega)
        rw [hw6] at hw6c
        refine kSRE (As := [.int (((v) >>> ((iI (22)) &&& 31))), .int (iI (9))]) E cw_L_72 hw6c trivial hL hl.1 rfl rfl (Nat.le_of_ble_eq_true rfl) ⟨Nat.le_of_ble_eq_true rfl, Nat.le_of_ble_eq_true rfl⟩ ⟨rfl, rfl⟩ ⟨Nat.le_of_ble_eq_true rfl, Nat.le_of_ble_eq_true rfl⟩ dL_types_54 (fun locs hL => ?_)
        refine r_if_ne (tgt := 65) E dL_types_57 (by decide) (by omega) (fun c57 => ?_) (fun c57 => ?_)
        · refine r_bipush E dL_types_65 (by decide) ?_
          exact J67_4 _ (by omega) ls locs (lv_sub hl [0, 1, 2, 3, 4, 5, 6] rfl) hL
        · refine r_bipush E dL_types_60 (by decide) ?_
          refine lv_goto (tgt := 67) E.1 E.2.1 dL_types_62 (by decide) ?_
          exact J67_4 _ (by omega) ls locs (lv_sub hl [0, 1, 2, 3, 4, 5, 6] rfl) hL
  refine LP23 _ 0 H3 0 fl1 t1 l1 ls locs ?_ ?_ ?_ ?_ ?_ ?_ ?_ ?_ ?_ rfl (lv_sub hl [0, 1, 2, 3, 4] rfl) hL
  · omega
  · rfl
  · exact hX1
  · exact hz1
  · exact hE1
  · exact hR1
  · exact hT1
  · omega
  · exact Or.inl ⟨rfl, hll1, by rw [hll1]; rfl⟩
