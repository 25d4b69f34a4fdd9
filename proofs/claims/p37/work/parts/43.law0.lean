set_option maxHeartbeats 4000000 in
set_option maxRecDepth 100000 in
theorem c_L_low (G : GG) (l : Launch) (v : Int32) (n : Int) (hn : 0 < n ∧ n < 2147483648) : Ct G l yL_low cL_low 2 (some .int) ({ frames := 0, cells := 0, slots := 0, locals := 0 } : Room) [.int (v), .int (iI (n))] (fun H => True) (RE (iI (lowI v n))) := by
  refine Ct.of (by decide +kernel) (Nat.le_of_ble_eq_true rfl) ?_
  intro p e s m args below meth c ls E hnm hP hl
  have hv := lowM_b v
  have hl : lv_has ls 2 [(0, .int (v)), (1, .int (iI (n)))] := hl
  have hL : Lk G [] := Lk.nil
  generalize ([] : List Loc) = locs at hL ⊢
  refine lv_iload_n E.1 E.2.1 dL_low_0 rfl (lv_at hl 0 rfl) ?_
  refine r_ldc E lc_L_8 dL_low_1 ?_
  refine lv_iand E.1 E.2.1 dL_low_3 ?_
  rw [low_and v]
  refine lv_iload_n E.1 E.2.1 dL_low_4 rfl (lv_at hl 1 rfl) ?_
  refine r_rem E dL_low_5 (by omega) (by omega) (by omega) (by omega) ?_
  refine e_iret (rm := ({ frames := 0, cells := 0, slots := 0, locals := 0 } : Room)) (v := iI ((lowM v) % (n))) E hL dL_low_6 ?_
  exact ⟨rfl, rfl⟩

set_option maxHeartbeats 4000000 in
set_option maxRecDepth 100000 in
theorem c_L_lot (G : GG) (l : Launch) (b L k : Nat) (xs : Nat → Int32) (hb : b < G.2.2) (hL2 : L ≤ 260) (hk : k ≤ 1000) : CtLot G l yL_lot cL_lot 2 (some .int) ({ frames := 0, cells := 0, slots := 0, locals := 0 } : Room) [.ref b, .int (iI (k : Int))] b L xs := by
  refine CtLot.of (by decide +kernel) (Nat.le_of_ble_eq_true rfl) ?_
  intro p e s m args below meth c ls E hX hl
  obtain ⟨scr, hx1, -⟩ := id hX
  have hbl : b < s.heap.size := by rcases Nat.lt_or_ge b s.heap.size with h | h; exact h; rw [Array.getElem?_eq_none h] at hx1; cases hx1
  have hL : Lk G [] := Lk.nil
  have hS : va_S (fun q => G.2.2 ≤ q) s.heap s.heap [] := ⟨Nat.le_refl _, fun q _ _ => rfl, hL⟩
  have hl : lv_has ls 2 [(0, .ref b), (1, .int (iI (k : Int)))] := hl
  refine lv_iload_n E.1 E.2.1 dL_lot_0 rfl (lv_at hl 1 rfl) ?_
  refine lv_aload_n E.1 E.2.1 dL_lot_1 rfl (lv_at hl 0 rfl) ?_
  refine va_slen (A := fun q => G.2.2 ≤ q) (H0 := s.heap) E.1 E.2.1 hX hbl (Nat.not_le.mpr hb) hS dL_lot_2 ?_
  show W p l e _ s m args below meth c s.heap [] 0 0 _ (F0 m 3 ls [.int (iI (L : Int)), .int (iI (k : Int))])
  refine r_icmp_ge (tgt := 12) E dL_lot_3 (by decide) (by omega) (by omega) (fun c3 => ?_) (fun c3 => ?_)
  · refine r_ldc E lc_L_7 dL_lot_12 ?_
    refine lv_iload_n E.1 E.2.1 dL_lot_14 rfl (lv_at hl 1 rfl) ?_
    refine r_sipush E dL_lot_15 (by decide) ?_
    refine r_add E dL_lot_18 ?_
    refine lv_imul E.1 E.2.1 dL_lot_19 ?_
    refine r_sipush E dL_lot_20 (by decide) ?_
    refine lv_iadd E.1 E.2.1 dL_lot_23 ?_
    exact e_lotret (rm := ({ frames := 0, cells := 0, slots := 0, locals := 0 } : Room)) E hL dL_lot_24
  · refine lv_aload_n E.1 E.2.1 dL_lot_6 rfl (lv_at hl 0 rfl) ?_
    refine lv_iload_n E.1 E.2.1 dL_lot_7 rfl (lv_at hl 1 rfl) ?_
    refine va_sld (A := fun q => G.2.2 ≤ q) (H0 := s.heap) E.1 E.2.1 hX hbl (Nat.not_le.mpr hb) hS (iI_in (i := k) rfl (by omega) (by omega)) dL_lot_8 ?_
    refine lv_goto (tgt := 24) E.1 E.2.1 dL_lot_9 (by decide) ?_
    exact e_lotret (rm := ({ frames := 0, cells := 0, slots := 0, locals := 0 } : Room)) E hL dL_lot_24

set_option maxHeartbeats 4000000 in
set_option maxRecDepth 100000 in
theorem c_L_whole (G : GG) (l : Launch) (x fb : Nat) (fl : Nat → Option Fil) (σ : St) (hs : List St) (tx : Nat → Int) (len : Nat) (hI : Inv σ) (hT : TxOk tx len) (hfx : x + 179 ≤ fb) (hgx : G.2.2 ≤ x) (a c0 : Nat) (hac : a + c0 ≤ 240) : Ct G l yL_whole cL_whole 5 (some .boolean) ({ frames := 2, cells := 0, slots := 0, locals := 41 } : Room) [.ref (x), .int (iI ((a : Int))), .int (iI ((c0 : Int)))] (fun H => XAt G x fb fl σ hs tx len H) (RE (b2i (wholeB (dm σ) a c0))) := by
  refine Ct.of (by decide +kernel) (Nat.le_of_ble_eq_true rfl) ?_
  intro p e s m args below meth c ls E hnm hP hl
  have hl : lv_has ls 5 [(0, .ref (x)), (1, .int (iI ((a : Int)))), (2, .int (iI ((c0 : Int))))] := hl
  have hL : Lk G [] := Lk.nil
  generalize ([] : List Loc) = locs at hL ⊢
  refine r_const E dL_whole_0 ?_
  refine lv_istore_n (lv' := [(3, .int (iI (1))), (0, .ref (x)), (1, .int (iI ((a : Int)))), (2, .int (iI ((c0 : Int))))]) E.1 E.2.1 dL_whole_1 rfl hl (by decide) rfl (fun ls hl => ?_)
  refine lv_iload_n E.1 E.2.1 dL_whole_2 rfl (lv_at hl 2 rfl) ?_
  refine lv_istore (lv' := [(4, .int (iI ((a : Int)))), (3, .int (iI (1))), (0, .ref (x)), (1, .int (iI ((a : Int)))), (2, .int (iI ((c0 : Int))))]) E.1 E.2.1 dL_whole_3 hl (by decide) rfl (fun ls hl => ?_)
  have LP5 : ∀ (kin5 : Nat) (k : Nat) (u v : Int) (ls : Array Slot) (locs : List Loc) (hk : k ≤ c0) (hu : u = (a : Int) + (k : Int)) (hv : v = if wholeB (dm σ) a k then 1 else 0) (hkin5 : c0 - k = kin5) (hl : lv_has ls 5 [(4, .int (iI (u))), (3, .int (iI (v))), (0, .ref (x)), (1, .int (iI ((a : Int)))), (2, .int (iI ((c0 : Int))))]) (hL : Lk G locs), W p l e ({ frames := 2, cells := 0, slots := 0, locals := 41 } : Room) s m args below meth c s.heap locs 0 0 (QQ G below args s ({ frames := 2, cells := 0, slots := 0, locals := 41 } : Room) (RE (b2i (wholeB (dm σ) a c0)))) (F0 m 5 ls []) := by
    intro kin5
    induction kin5 using Nat.strongRecOn with
    | ind kin5 ihin5 =>
      intro k u v ls locs hk hu hv hkin5 hl hL
      refine lv_iload E.1 E.2.1 dL_whole_5 (lv_at hl 0 rfl) ?_
      refine lv_iload_n E.1 E.2.1 dL_whole_7 rfl (lv_at hl 3 rfl) ?_
      refine lv_iload_n E.1 E.2.1 dL_whole_8 rfl (lv_at hl 4 rfl) ?_
      refine r_add E dL_whole_9 ?_
      refine r_icmp_ge (tgt := 38) E dL_whole_10 (by decide) (by omega) (by omega) (fun c10 => ?_) (fun c10 => ?_)
      · refine lv_iload_n E.1 E.2.1 dL_whole_38 rfl (lv_at hl 1 rfl) ?_
        have hk9 : k = c0 := by omega
        subst hk9
        rw [hv, ← b2i_iI]
        refine e_zret (rm := ({ frames := 2, cells := 0, slots := 0, locals := 41 } : Room)) (v := b2i (wholeB (dm σ) a k)) E hL (b2i_nar _) dL_whole_39 ?_
        exact ⟨rfl, rfl⟩
      · rcases hw9 : wholeB (dm σ) a k with _ | _
        · have hv1 : v = 0 := by rw [hv, hw9]; rfl
          refine lv_iload_n E.1 E.2.1 dL_whole_13 rfl (lv_at hl 1 rfl) ?_
          refine r_if_eq (tgt := 30) E dL_whole_14 (by decide) (by omega) (fun c14 => ?_) (fun c14 => absurd c14 (by omega))
          refine r_const E dL_whole_30 ?_
          refine lv_istore_n (lv' := [(3, .int (iI (0))), (4, .int (iI (u))), (0, .ref (x)), (1, .int (iI ((a : Int)))), (2, .int (iI ((c0 : Int))))]) E.1 E.2.1 dL_whole_31 rfl hl (by decide) rfl (fun ls hl => ?_)
          refine r_inc (lv' := [(4, .int (iI (u + 1))), (3, .int (iI (0))), (0, .ref (x)), (1, .int (iI ((a : Int)))), (2, .int (iI ((c0 : Int))))]) E dL_whole_32 hl (k := 1) rfl (by decide) rfl (fun ls hl => ?_)
          refine lv_goto (tgt := 5) E.1 E.2.1 dL_whole_35 (by decide) ?_
          refine ihin5 _ ?_ (k + 1) (u + 1) 0 ls locs ?_ ?_ ?_ rfl (lv_sub hl [0, 1, 2, 3, 4] rfl) hL
          · omega
          · omega
          · omega
          · rw [wholeB]
            skip
            rw [hw9]
            rfl
        · have hv1 : v = 1 := by rw [hv, hw9]; rfl
          refine lv_iload_n E.1 E.2.1 dL_whole_13 rfl (lv_at hl 1 rfl) ?_
          refine r_if_eq (tgt := 30) E dL_whole_14 (by decide) (by omega) (fun c14 => absurd c14 (by omega)) (fun c14 => ?_)
          refine lv_aload_n E.1 E.2.1 dL_whole_17 rfl (lv_at hl 2 rfl) ?_
          refine lv_iload E.1 E.2.1 dL_whole_18 (lv_at hl 0 rfl) ?_
          obtain ⟨q, hq⟩ : ∃ q : Nat, u = (q : Int) := ⟨u.toNat, by omega⟩
          subst hq
          have hqa : q = a + k := by omega
          refine kVRE (As := [.int (iI ((q : Int)))]) E cw_L_23 (c_X5_damaged G l x fb fl σ hs tx len hI hT hfx hgx ((q : Int)) (by unfold okI; omega)) hP.1 ⟨_, _, rfl⟩ hP hL hl.1 rfl rfl (Nat.le_of_ble_eq_true rfl) ⟨Nat.le_of_ble_eq_true rfl, Nat.le_of_ble_eq_true rfl⟩ ⟨rfl, rfl⟩ ⟨Nat.le_of_ble_eq_true rfl, Nat.le_of_ble_eq_true rfl⟩ dL_whole_20 (fun locs hL => ?_)
          rw [spDam_v (by omega)]
          rcases hd9 : dm σ q with _ | _
          · rw [show (if false = true then (1 : Int) else 0) = 0 from rfl]
            refine r_if_ne (tgt := 30) E dL_whole_23 (by decide) (by omega) (fun c23 => absurd c23 (by omega)) (fun c23 => ?_)
            refine r_const E dL_whole_26 ?_
            refine lv_goto (tgt := 31) E.1 E.2.1 dL_whole_27 (by decide) ?_
            refine lv_istore_n (lv' := [(3, .int (iI (1))), (4, .int (iI ((q : Int)))), (0, .ref (x)), (1, .int (iI ((a : Int)))), (2, .int (iI ((c0 : Int))))]) E.1 E.2.1 dL_whole_31 rfl hl (by decide) rfl (fun ls hl => ?_)
            refine r_inc (lv' := [(4, .int (iI ((q : Int) + 1))), (3, .int (iI (1))), (0, .ref (x)), (1, .int (iI ((a : Int)))), (2, .int (iI ((c0 : Int))))]) E dL_whole_32 hl (k := 1) rfl (by decide) rfl (fun ls hl => ?_)
            refine lv_goto (tgt := 5) E.1 E.2.1 dL_whole_35 (by decide) ?_
            refine ihin5 _ ?_ (k + 1) ((q : Int) + 1) 1 ls locs ?_ ?_ ?_ rfl (lv_sub hl [0, 1, 2, 3, 4] rfl) hL
            · omega
            · omega
            · omega
            · rw [wholeB]
              skip
              rw [hw9, ← hqa, hd9]
              rfl
          · rw [show (if true = true then (1 : Int) else 0) = 1 from rfl]
            refine r_if_ne (tgt := 30) E dL_whole_23 (by decide) (by omega) (fun c23 => ?_) (fun c23 => absurd c23 (by omega))
            refine r_const E dL_whole_30 ?_
            refine lv_istore_n (lv' := [(3, .int (iI (0))), (4, .int (iI ((q : Int)))), (0, .ref (x)), (1, .int (iI ((a : Int)))), (2, .int (iI ((c0 : Int))))]) E.1 E.2.1 dL_whole_31 rfl hl (by decide) rfl (fun ls hl => ?_)
            refine r_inc (lv' := [(4, .int (iI ((q : Int) + 1))), (3, .int (iI (0))), (0, .ref (x)), (1, .int (iI ((a : Int)))), (2, .int (iI ((c0 : Int))))]) E dL_whole_32 hl (k := 1) rfl (by decide) rfl (fun ls hl => ?_)
            refine lv_goto (tgt := 5) E.1 E.2.1 dL_whole_35 (by decide) ?_
            refine ihin5 _ ?_ (k + 1) ((q : Int) + 1) 0 ls locs ?_ ?_ ?_ rfl (lv_sub hl [0, 1, 2, 3, 4] rfl) hL
            · omega
            · omega
            · omega
            · rw [wholeB]
              skip
              rw [hw9, ← hqa, hd9]
              rfl
  refine LP5 _ 0 ((a : Int)) 1 ls locs ?_ ?_ ?_ rfl (lv_sub hl [0, 1, 2, 3, 4] rfl) hL
  · omega
  · omega
  · rfl

set_option maxHeartbeats 4000000 in
set_option maxRecDepth 100000 in
theorem c_L_open (G : GG) (l : Launch) (x fb : Nat) (fl : Nat → Option Fil) (σ : St) (hs : List St) (tx : Nat → Int) (len : Nat) (hI : Inv σ) (hT : TxOk tx len) (hfx : x + 179 ≤ fb) (hgx : G.2.2 ≤ x) : Ct G l yL_open cL_open 2 (some .int) ({ frames := 4, cells := 0, slots := 0, locals := 94 } : Room) [.ref (x)] (fun H => XAt G x fb fl σ hs tx len H) (RE (iI (oI (opn σ)))) := by
  refine Ct.of (by decide +kernel) (Nat.le_of_ble_eq_true rfl) ?_
  intro p e s m args below meth c ls E hnm hP hl
  have i1 := hI.mn12
  have i2 := hI.nx240
  have hl : lv_has ls 2 [(0, .ref (x))] := hl
  have hL : Lk G [] := Lk.nil
  generalize ([] : List Loc) = locs at hL ⊢
  refine lv_aload_n E.1 E.2.1 dL_open_0 rfl (lv_at hl 0 rfl) ?_
  refine kVRE (As := []) E cw_L_26 (c_X5_sessions G l x fb fl σ hs tx len hI hT hfx hgx  ) hP.1 ⟨_, _, rfl⟩ hP hL hl.1 rfl rfl (Nat.le_of_ble_eq_true rfl) ⟨Nat.le_of_ble_eq_true rfl, Nat.le_of_ble_eq_true rfl⟩ ⟨rfl, rfl⟩ ⟨Nat.le_of_ble_eq_true rfl, Nat.le_of_ble_eq_true rfl⟩ dL_open_1 (fun locs hL => ?_)
  refine r_const E dL_open_4 ?_
  refine r_sub E dL_open_5 ?_
  refine lv_istore_n (lv' := [(1, .int (iI ((mn σ : Int) - 1))), (0, .ref (x))]) E.1 E.2.1 dL_open_6 rfl hl (by decide) rfl (fun ls hl => ?_)
  rcases hop : opn σ with _ | n
  · rcases opn_none hop with ho0 | ho1
    · refine lv_iload_n E.1 E.2.1 dL_open_7 rfl (lv_at hl 0 rfl) ?_
      refine r_if_lt (tgt := 24) E dL_open_8 (by decide) (by omega) (fun c8 => ?_) (fun c8 => absurd c8 (by omega))
      refine r_bipush E dL_open_24 (by decide) ?_
      refine e_iret (rm := ({ frames := 4, cells := 0, slots := 0, locals := 94 } : Room)) (v := iI ((-6))) E hL dL_open_26 ?_
      exact ⟨by rw [show oI none = (-6 : Int) from rfl], rfl⟩
    · obtain ⟨n, hn⟩ : ∃ n : Nat, n + 1 = mn σ := ⟨mn σ - 1, by omega⟩
      have e0 : ¬ se σ n 0 = 0 := by have h9 := ho1.2; rwa [show mn σ - 1 = n by omega] at h9
      have hr9 := hI.row (n := n) (by omega)
      refine lv_iload_n E.1 E.2.1 dL_open_7 rfl (lv_at hl 0 rfl) ?_
      refine r_if_lt (tgt := 24) E dL_open_8 (by decide) (by omega) (fun c8 => absurd c8 (by omega)) (fun c8 => ?_)
      refine lv_aload_n E.1 E.2.1 dL_open_11 rfl (lv_at hl 1 rfl) ?_
      refine lv_iload_n E.1 E.2.1 dL_open_12 rfl (lv_at hl 0 rfl) ?_
      refine r_const E dL_open_13 ?_
      rw [show ((mn σ : Int) - 1 : Int) = (n : Int) by omega]
      refine kVRE (As := [.int (iI ((n : Int))), .int (iI (0))]) E cw_L_29 (c_X5_session G l x fb fl σ hs tx len hI hT hfx hgx ((n : Int)) (0) (by unfold okI; omega) (by unfold okI; omega)) hP.1 ⟨_, _, rfl⟩ hP hL hl.1 rfl rfl (Nat.le_of_ble_eq_true rfl) ⟨Nat.le_of_ble_eq_true rfl, Nat.le_of_ble_eq_true rfl⟩ ⟨rfl, rfl⟩ ⟨Nat.le_of_ble_eq_true rfl, Nat.le_of_ble_eq_true rfl⟩ dL_open_14 (fun locs hL => ?_)
      rw [spSes0 (by omega)]
      refine r_if_ne (tgt := 24) E dL_open_17 (by decide) (by omega) (fun c17 => ?_) (fun c17 => absurd c17 (by omega))
      refine r_bipush E dL_open_24 (by decide) ?_
      refine e_iret (rm := ({ frames := 4, cells := 0, slots := 0, locals := 94 } : Room)) (v := iI ((-6))) E hL dL_open_26 ?_
      exact ⟨by rw [show oI none = (-6 : Int) from rfl], rfl⟩
  · have hn := opn_some hop
    refine lv_iload_n E.1 E.2.1 dL_open_7 rfl (lv_at hl 0 rfl) ?_
    refine r_if_lt (tgt := 24) E dL_open_8 (by decide) (by omega) (fun c8 => absurd c8 (by omega)) (fun c8 => ?_)
    refine lv_aload_n E.1 E.2.1 dL_open_11 rfl (lv_at hl 1 rfl) ?_
    refine lv_iload_n E.1 E.2.1 dL_open_12 rfl (lv_at hl 0 rfl) ?_
    refine r_const E dL_open_13 ?_
    rw [show ((mn σ : Int) - 1 : Int) = (n : Int) by omega]
    refine kVRE (As := [.int (iI ((n : Int))), .int (iI (0))]) E cw_L_29 (c_X5_session G l x fb fl σ hs tx len hI hT hfx hgx ((n : Int)) (0) (by unfold okI; omega) (by unfold okI; omega)) hP.1 ⟨_, _, rfl⟩ hP hL hl.1 rfl rfl (Nat.le_of_ble_eq_true rfl) ⟨Nat.le_of_ble_eq_true rfl, Nat.le_of_ble_eq_true rfl⟩ ⟨rfl, rfl⟩ ⟨Nat.le_of_ble_eq_true rfl, Nat.le_of_ble_eq_true rfl⟩ dL_open_14 (fun locs hL => ?_)
    rw [spSes0 (by omega)]
    refine r_if_ne (tgt := 24) E dL_open_17 (by decide) (by omega) (fun c17 => absurd c17 (by omega)) (fun c17 => ?_)
    refine lv_iload_n E.1 E.2.1 dL_open_20 rfl (lv_at hl 0 rfl) ?_
    refine lv_goto (tgt := 26) E.1 E.2.1 dL_open_21 (by decide) ?_
    refine e_iret (rm := ({ frames := 4, cells := 0, slots := 0, locals := 94 } : Room)) (v := iI ((mn σ : Int) - 1)) E hL dL_open_26 ?_
    exact ⟨by rw [show oI (some n) = (n : Int) from rfl]; exact congrArg (fun z : Int => some (Value.int (iI z))) (by omega), rfl⟩

set_option maxHeartbeats 4000000 in
set_option maxRecDepth 100000 in
theorem c_L_look (G : GG) (l : Launch) (x fb : Nat) (fl : Nat → Option Fil) (σ : St) (hs : List St) (tx : Nat → Int) (len : Nat) (hI : Inv σ) (hT : TxOk tx len) (hfx : x + 179 ≤ fb) (hgx : G.2.2 ≤ x) : Ct G l yL_look cL_look 5 (some .long) ({ frames := 4, cells := 0, slots := 0, locals := 94 } : Room) [.ref (x)] (fun H => XAt G x fb fl σ hs tx len H) (RJ (lookV σ)) := by
  refine Ct.of (by decide +kernel) (Nat.le_of_ble_eq_true rfl) ?_
  intro p e s m args below meth c ls E hnm hP hl
  have i1 := hI.mn12
  have i2 := hI.nx240
  have hl : lv_has ls 5 [(0, .ref (x))] := hl
  have hL : Lk G [] := Lk.nil
  generalize ([] : List Loc) = locs at hL ⊢
  refine r_ldc2 E lc_L_9 dL_look_0 ?_
  refine lv_lstore_n (lv' := [(1, .long (431)), (0, .ref (x))]) E.1 E.2.1 dL_look_3 rfl hl (by decide) rfl (fun ls hl => ?_)
  refine r_ldc2 E lc_L_11 dL_look_4 ?_
  refine r_ldc2 E lc_L_11 dL_look_7 ?_
  refine r_ldc2 E lc_L_11 dL_look_10 ?_
  refine lv_lload_n E.1 E.2.1 dL_look_13 rfl (lv_at hl 0 rfl) ?_
  refine lv_lmul E.1 E.2.1 dL_look_14 ?_
  refine lv_aload_n E.1 E.2.1 dL_look_15 rfl (lv_at hl 1 rfl) ?_
  refine kVRE (As := []) E cw_L_13 (c_X5_next G l x fb fl σ hs tx len hI hT hfx hgx  ) hP.1 ⟨_, _, rfl⟩ hP hL hl.1 rfl rfl (Nat.le_of_ble_eq_true rfl) ⟨Nat.le_of_ble_eq_true rfl, Nat.le_of_ble_eq_true rfl⟩ ⟨rfl, rfl⟩ ⟨Nat.le_of_ble_eq_true rfl, Nat.le_of_ble_eq_true rfl⟩ dL_look_16 (fun locs hL => ?_)
  refine r_i2l E dL_look_19 ?_
  refine lv_ladd E.1 E.2.1 dL_look_20 ?_
  refine lv_lmul E.1 E.2.1 dL_look_21 ?_
  refine lv_aload_n E.1 E.2.1 dL_look_22 rfl (lv_at hl 1 rfl) ?_
  refine r_const E dL_look_23 ?_
  refine kVRE (As := [.int (iI (0))]) E cw_L_19 (c_X5_setting G l x fb fl σ hs tx len hI hT hfx hgx (0) (by unfold okI; omega)) hP.1 ⟨_, _, rfl⟩ hP hL hl.1 rfl rfl (Nat.le_of_ble_eq_true rfl) ⟨Nat.le_of_ble_eq_true rfl, Nat.le_of_ble_eq_true rfl⟩ ⟨rfl, rfl⟩ ⟨Nat.le_of_ble_eq_true rfl, Nat.le_of_ble_eq_true rfl⟩ dL_look_24 (fun locs hL => ?_)
  refine r_i2l E dL_look_27 ?_
  refine lv_ladd E.1 E.2.1 dL_look_28 ?_
  refine lv_lmul E.1 E.2.1 dL_look_29 ?_
  refine lv_aload_n E.1 E.2.1 dL_look_30 rfl (lv_at hl 1 rfl) ?_
  refine r_const E dL_look_31 ?_
  refine kVRE (As := [.int (iI (1))]) E cw_L_19 (c_X5_setting G l x fb fl σ hs tx len hI hT hfx hgx (1) (by unfold okI; omega)) hP.1 ⟨_, _, rfl⟩ hP hL hl.1 rfl rfl (Nat.le_of_ble_eq_true rfl) ⟨Nat.le_of_ble_eq_true rfl, Nat.le_of_ble_eq_true rfl⟩ ⟨rfl, rfl⟩ ⟨Nat.le_of_ble_eq_true rfl, Nat.le_of_ble_eq_true rfl⟩ dL_look_32 (fun locs hL => ?_)
  refine r_i2l E dL_look_35 ?_
  refine lv_ladd E.1 E.2.1 dL_look_36 ?_
  refine lv_lstore_n (lv' := [(1, .long (((31) * (((31) * (((31) * (431)) + (i64 ((nx σ : Int))))) + (i64 (spSetting σ (0))))) + (i64 (spSetting σ (1))))), (0, .ref (x))]) E.1 E.2.1 dL_look_37 rfl hl (by decide) rfl (fun ls hl => ?_)
  refine r_const E dL_look_38 ?_
  refine lv_istore_n (lv' := [(3, .int (iI (0))), (1, .long (((31) * (((31) * (((31) * (431)) + (i64 ((nx σ : Int))))) + (i64 (spSetting σ (0))))) + (i64 (spSetting σ (1))))), (0, .ref (x))]) E.1 E.2.1 dL_look_39 rfl hl (by decide) rfl (fun ls hl => ?_)
  have LP40 : ∀ (kin40 : Nat) (k : Nat) (v : Int64) (u : Int) (ls : Array Slot) (locs : List Loc) (hk : k ≤ 240) (hu : u = (k : Int)) (hv : v = lkD σ (lk0 σ) k) (hkin40 : 240 - k = kin40) (hl : lv_has ls 5 [(1, .long (v)), (3, .int (iI (u))), (0, .ref (x))]) (hL : Lk G locs), W p l e ({ frames := 4, cells := 0, slots := 0, locals := 94 } : Room) s m args below meth c s.heap locs 0 0 (QQ G below args s ({ frames := 4, cells := 0, slots := 0, locals := 94 } : Room) (RJ (lookV σ))) (F0 m 40 ls []) := by
    intro kin40
    induction kin40 using Nat.strongRecOn with
    | ind kin40 ihin40 =>
      intro k v u ls locs hk hu hv hkin40 hl hL
      refine lv_iload_n E.1 E.2.1 dL_look_40 rfl (lv_at hl 1 rfl) ?_
      refine r_sipush E dL_look_41 (by decide) ?_
      refine r_icmp_ge (tgt := 66) E dL_look_44 (by decide) (by omega) (by omega) (fun c44 => ?_) (fun c44 => ?_)
      · refine r_const E dL_look_66 ?_
        refine lv_istore_n (lv' := [(3, .int (iI (0))), (1, .long (v)), (0, .ref (x))]) E.1 E.2.1 dL_look_67 rfl hl (by decide) rfl (fun ls hl => ?_)
        have LP68 : ∀ (kin68 : Nat) (n : Nat) (v : Int64) (u : Int) (ls : Array Slot) (locs : List Loc) (hn : n ≤ mn σ) (hu : u = (n : Int)) (hv : v = lkN σ (lkD σ (lk0 σ) 240) n) (hkin68 : mn σ - n = kin68) (hl : lv_has ls 5 [(1, .long (v)), (3, .int (iI (u))), (0, .ref (x))]) (hL : Lk G locs), W p l e ({ frames := 4, cells := 0, slots := 0, locals := 94 } : Room) s m args below meth c s.heap locs 0 0 (QQ G below args s ({ frames := 4, cells := 0, slots := 0, locals := 94 } : Room) (RJ (lookV σ))) (F0 m 68 ls []) := by
          intro kin68
          induction kin68 using Nat.strongRecOn with
          | ind kin68 ihin68 =>
            intro n v u ls locs hn hu hv hkin68 hl hL
            refine lv_iload_n E.1 E.2.1 dL_look_68 rfl (lv_at hl 1 rfl) ?_
            refine lv_aload_n E.1 E.2.1 dL_look_69 rfl (lv_at hl 2 rfl) ?_
            refine kVRE (As := []) E cw_L_26 (c_X5_sessions G l x fb fl σ hs tx len hI hT hfx hgx  ) hP.1 ⟨_, _, rfl⟩ hP hL hl.1 rfl rfl (Nat.le_of_ble_eq_true rfl) ⟨Nat.le_of_ble_eq_true rfl, Nat.le_of_ble_eq_true rfl⟩ ⟨rfl, rfl⟩ ⟨Nat.le_of_ble_eq_true rfl, Nat.le_of_ble_eq_true rfl⟩ dL_look_70 (fun locs hL => ?_)
            refine r_icmp_ge (tgt := 159) E dL_look_73 (by decide) (by omega) (by omega) (fun c73 => ?_) (fun c73 => ?_)
            · refine r_const E dL_look_159 ?_
              refine lv_istore_n (lv' := [(3, .int (iI (0))), (1, .long (v)), (0, .ref (x))]) E.1 E.2.1 dL_look_160 rfl hl (by decide) rfl (fun ls hl => ?_)
              have LP161 : ∀ (kin161 : Nat) (k : Nat) (v : Int64) (u : Int) (ls : Array Slot) (locs : List Loc) (hk : k ≤ 20) (hu : u = (k : Int)) (hv : v = lkV σ (lkN σ (lkD σ (lk0 σ) 240) (mn σ)) k) (hkin161 : 20 - k = kin161) (hl : lv_has ls 5 [(1, .long (v)), (3, .int (iI (u))), (0, .ref (x))]) (hL : Lk G locs), W p l e ({ frames := 4, cells := 0, slots := 0, locals := 94 } : Room) s m args below meth c s.heap locs 0 0 (QQ G below args s ({ frames := 4, cells := 0, slots := 0, locals := 94 } : Room) (RJ (lookV σ))) (F0 m 161 ls []) := by
                intro kin161
                induction kin161 using Nat.strongRecOn with
                | ind kin161 ihin161 =>
                  intro k v u ls locs hk hu hv hkin161 hl hL
                  refine lv_iload_n E.1 E.2.1 dL_look_161 rfl (lv_at hl 1 rfl) ?_
                  refine r_bipush E dL_look_162 (by decide) ?_
                  refine r_icmp_ge (tgt := 186) E dL_look_164 (by decide) (by omega) (by omega) (fun c164 => ?_) (fun c164 => ?_)
                  · refine lv_lload_n E.1 E.2.1 dL_look_186 rfl (lv_at hl 0 rfl) ?_
                    refine e_lret (rm := ({ frames := 4, cells := 0, slots := 0, locals := 94 } : Room)) E hL dL_look_187 ⟨?_, rfl⟩
                    rw [hv, show k = 20 by omega]
                    rfl
                  · subst hu
                    refine r_ldc2 E lc_L_11 dL_look_167 ?_
                    refine lv_lload_n E.1 E.2.1 dL_look_170 rfl (lv_at hl 0 rfl) ?_
                    refine lv_lmul E.1 E.2.1 dL_look_171 ?_
                    refine lv_aload_n E.1 E.2.1 dL_look_172 rfl (lv_at hl 2 rfl) ?_
                    refine lv_iload_n E.1 E.2.1 dL_look_173 rfl (lv_at hl 1 rfl) ?_
                    refine kVRE (As := [.int (iI ((k : Int)))]) E cw_L_37 (c_X5_versions G l x fb fl σ hs tx len hI hT hfx hgx ((k : Int)) (by unfold okI; omega)) hP.1 ⟨_, _, rfl⟩ hP hL hl.1 rfl rfl (Nat.le_of_ble_eq_true rfl) ⟨Nat.le_of_ble_eq_true rfl, Nat.le_of_ble_eq_true rfl⟩ ⟨rfl, rfl⟩ ⟨Nat.le_of_ble_eq_true rfl, Nat.le_of_ble_eq_true rfl⟩ dL_look_174 (fun locs hL => ?_)
                    refine r_i2l E dL_look_177 ?_
                    refine lv_ladd E.1 E.2.1 dL_look_178 ?_
                    refine lv_lstore_n (lv' := [(1, .long (((31) * (v)) + (i64 (spVersions σ ((k : Int)))))), (3, .int (iI ((k : Int)))), (0, .ref (x))]) E.1 E.2.1 dL_look_179 rfl hl (by decide) rfl (fun ls hl => ?_)
                    refine r_inc (lv' := [(3, .int (iI ((k : Int) + 1))), (1, .long (((31) * (v)) + (i64 (spVersions σ ((k : Int)))))), (0, .ref (x))]) E dL_look_180 hl (k := 1) rfl (by decide) rfl (fun ls hl => ?_)
                    refine lv_goto (tgt := 161) E.1 E.2.1 dL_look_183 (by decide) ?_
                    refine ihin161 _ ?_ (k + 1) (((31) * (v)) + (i64 (spVersions σ ((k : Int))))) ((k : Int) + 1) ls locs ?_ ?_ ?_ rfl (lv_sub hl [1, 0, 2] rfl) hL
                    · omega
                    · omega
                    · omega
                    · rw [hv]; rfl
              refine LP161 _ 0 v 0 ls locs ?_ ?_ ?_ rfl (lv_sub hl [1, 0, 2] rfl) hL
              · omega
              · rfl
              · rw [hv, show n = mn σ by omega]; rfl
            · subst hu
              refine r_const E dL_look_76 ?_
              refine lv_istore (lv' := [(4, .int (iI (0))), (1, .long (v)), (3, .int (iI ((n : Int)))), (0, .ref (x))]) E.1 E.2.1 dL_look_77 hl (by decide) rfl (fun ls hl => ?_)
              have LP79 : ∀ (kin79 : Nat) (k : Nat) (v1 : Int64) (u1 : Int) (ls : Array Slot) (locs : List Loc) (hk : k ≤ 8) (hu1 : u1 = (k : Int)) (hv1 : v1 = lkS σ n (lkN σ (lkD σ (lk0 σ) 240) n) k) (hkin79 : 8 - k = kin79) (hl : lv_has ls 5 [(1, .long (v1)), (4, .int (iI (u1))), (3, .int (iI ((n : Int)))), (0, .ref (x))]) (hL : Lk G locs), W p l e ({ frames := 4, cells := 0, slots := 0, locals := 94 } : Room) s m args below meth c s.heap locs 0 0 (QQ G below args s ({ frames := 4, cells := 0, slots := 0, locals := 94 } : Room) (RJ (lookV σ))) (F0 m 79 ls []) := by
                intro kin79
                induction kin79 using Nat.strongRecOn with
                | ind kin79 ihin79 =>
                  intro k v1 u1 ls locs hk hu1 hv1 hkin79 hl hL
                  refine lv_iload E.1 E.2.1 dL_look_79 (lv_at hl 1 rfl) ?_
                  refine r_bipush E dL_look_81 (by decide) ?_
                  refine r_icmp_ge (tgt := 107) E dL_look_83 (by decide) (by omega) (by omega) (fun c83 => ?_) (fun c83 => ?_)
                  · refine r_const E dL_look_107 ?_
                    refine lv_istore (lv' := [(4, .int (iI (0))), (1, .long (v1)), (3, .int (iI ((n : Int)))), (0, .ref (x))]) E.1 E.2.1 dL_look_108 hl (by decide) rfl (fun ls hl => ?_)
                    have LP110 : ∀ (kin110 : Nat) (k : Nat) (v1 : Int64) (u1 : Int) (ls : Array Slot) (locs : List Loc) (hk : k ≤ 20) (hu1 : u1 = (k : Int)) (hv1 : v1 = lkE σ n (lkS σ n (lkN σ (lkD σ (lk0 σ) 240) n) 8) k) (hkin110 : 20 - k = kin110) (hl : lv_has ls 5 [(1, .long (v1)), (4, .int (iI (u1))), (3, .int (iI ((n : Int)))), (0, .ref (x))]) (hL : Lk G locs), W p l e ({ frames := 4, cells := 0, slots := 0, locals := 94 } : Room) s m args below meth c s.heap locs 0 0 (QQ G below args s ({ frames := 4, cells := 0, slots := 0, locals := 94 } : Room) (RJ (lookV σ))) (F0 m 110 ls []) := by
                      intro kin110
                      induction kin110 using Nat.strongRecOn with
                      | ind kin110 ihin110 =>
                        intro k v1 u1 ls locs hk hu1 hv1 hkin110 hl hL
                        refine lv_iload E.1 E.2.1 dL_look_110 (lv_at hl 1 rfl) ?_
                        refine r_bipush E dL_look_112 (by decide) ?_
                        refine r_icmp_ge (tgt := 153) E dL_look_114 (by decide) (by omega) (by omega) (fun c114 => ?_) (fun c114 => ?_)
                        · refine r_inc (lv' := [(3, .int (iI ((n : Int) + 1))), (1, .long (v1)), (4, .int (iI (u1))), (0, .ref (x))]) E dL_look_153 hl (k := 2) rfl (by decide) rfl (fun ls hl => ?_)
                          refine lv_goto (tgt := 68) E.1 E.2.1 dL_look_156 (by decide) ?_
                          refine ihin68 _ ?_ (n + 1) v1 ((n : Int) + 1) ls locs ?_ ?_ ?_ rfl (lv_sub hl [1, 0, 3] rfl) hL
                          · omega
                          · omega
                          · omega
                          · rw [hv1, show k = 20 by omega]; rfl
                        · subst hu1
                          refine r_ldc2 E lc_L_11 dL_look_117 ?_
                          refine r_ldc2 E lc_L_11 dL_look_120 ?_
                          refine lv_lload_n E.1 E.2.1 dL_look_123 rfl (lv_at hl 0 rfl) ?_
                          refine lv_lmul E.1 E.2.1 dL_look_124 ?_
                          refine lv_aload_n E.1 E.2.1 dL_look_125 rfl (lv_at hl 3 rfl) ?_
                          refine lv_iload_n E.1 E.2.1 dL_look_126 rfl (lv_at hl 2 rfl) ?_
                          refine lv_iload E.1 E.2.1 dL_look_127 (lv_at hl 1 rfl) ?_
                          refine r_const E dL_look_129 ?_
                          refine kVRE (As := [.int (iI ((n : Int))), .int (iI ((k : Int))), .int (iI (0))]) E cw_L_33 (c_X5_entry G l x fb fl σ hs tx len hI hT hfx hgx ((n : Int)) ((k : Int)) (0) (by unfold okI; omega) (by unfold okI; omega) (by unfold okI; omega)) hP.1 ⟨_, _, rfl⟩ hP hL hl.1 rfl rfl (Nat.le_of_ble_eq_true rfl) ⟨Nat.le_of_ble_eq_true rfl, Nat.le_of_ble_eq_true rfl⟩ ⟨rfl, rfl⟩ ⟨Nat.le_of_ble_eq_true rfl, Nat.le_of_ble_eq_true rfl⟩ dL_look_130 (fun locs hL => ?_)
                          refine r_i2l E dL_look_133 ?_
                          refine lv_ladd E.1 E.2.1 dL_look_134 ?_
                          refine lv_lmul E.1 E.2.1 dL_look_135 ?_
                          refine lv_aload_n E.1 E.2.1 dL_look_136 rfl (lv_at hl 3 rfl) ?_
                          refine lv_iload_n E.1 E.2.1 dL_look_137 rfl (lv_at hl 2 rfl) ?_
                          refine lv_iload E.1 E.2.1 dL_look_138 (lv_at hl 1 rfl) ?_
                          refine r_const E dL_look_140 ?_
                          refine kVRE (As := [.int (iI ((n : Int))), .int (iI ((k : Int))), .int (iI (1))]) E cw_L_33 (c_X5_entry G l x fb fl σ hs tx len hI hT hfx hgx ((n : Int)) ((k : Int)) (1) (by unfold okI; omega) (by unfold okI; omega) (by unfold okI; omega)) hP.1 ⟨_, _, rfl⟩ hP hL hl.1 rfl rfl (Nat.le_of_ble_eq_true rfl) ⟨Nat.le_of_ble_eq_true rfl, Nat.le_of_ble_eq_true rfl⟩ ⟨rfl, rfl⟩ ⟨Nat.le_of_ble_eq_true rfl, Nat.le_of_ble_eq_true rfl⟩ dL_look_141 (fun locs hL => ?_)
                          refine r_i2l E dL_look_144 ?_
                          refine lv_ladd E.1 E.2.1 dL_look_145 ?_
                          refine lv_lstore_n (lv' := [(1, .long (((31) * (((31) * (v1)) + (i64 (spEntry σ ((n : Int)) ((k : Int)) (0))))) + (i64 (spEntry σ ((n : Int)) ((k : Int)) (1))))), (4, .int (iI ((k : Int)))), (3, .int (iI ((n : Int)))), (0, .ref (x))]) E.1 E.2.1 dL_look_146 rfl hl (by decide) rfl (fun ls hl => ?_)
                          refine r_inc (lv' := [(4, .int (iI ((k : Int) + 1))), (1, .long (((31) * (((31) * (v1)) + (i64 (spEntry σ ((n : Int)) ((k : Int)) (0))))) + (i64 (spEntry σ ((n : Int)) ((k : Int)) (1))))), (3, .int (iI ((n : Int)))), (0, .ref (x))]) E dL_look_147 hl (k := 1) rfl (by decide) rfl (fun ls hl => ?_)
                          refine lv_goto (tgt := 110) E.1 E.2.1 dL_look_150 (by decide) ?_
                          refine ihin110 _ ?_ (k + 1) (((31) * (((31) * (v1)) + (i64 (spEntry σ ((n : Int)) ((k : Int)) (0))))) + (i64 (spEntry σ ((n : Int)) ((k : Int)) (1)))) ((k : Int) + 1) ls locs ?_ ?_ ?_ rfl (lv_sub hl [1, 0, 2, 3] rfl) hL
                          · omega
                          · omega
                          · omega
                          · rw [hv1]; rfl
                    refine LP110 _ 0 v1 0 ls locs ?_ ?_ ?_ rfl (lv_sub hl [1, 0, 2, 3] rfl) hL
                    · omega
                    · rfl
                    · rw [hv1, show k = 8 by omega]; rfl
                  · subst hu1
                    refine r_ldc2 E lc_L_11 dL_look_86 ?_
                    refine lv_lload_n E.1 E.2.1 dL_look_89 rfl (lv_at hl 0 rfl) ?_
                    refine lv_lmul E.1 E.2.1 dL_look_90 ?_
                    refine lv_aload_n E.1 E.2.1 dL_look_91 rfl (lv_at hl 3 rfl) ?_
                    refine lv_iload_n E.1 E.2.1 dL_look_92 rfl (lv_at hl 2 rfl) ?_
                    refine lv_iload E.1 E.2.1 dL_look_93 (lv_at hl 1 rfl) ?_
                    refine kVRE (As := [.int (iI ((n : Int))), .int (iI ((k : Int)))]) E cw_L_29 (c_X5_session G l x fb fl σ hs tx len hI hT hfx hgx ((n : Int)) ((k : Int)) (by unfold okI; omega) (by unfold okI; omega)) hP.1 ⟨_, _, rfl⟩ hP hL hl.1 rfl rfl (Nat.le_of_ble_eq_true rfl) ⟨Nat.le_of_ble_eq_true rfl, Nat.le_of_ble_eq_true rfl⟩ ⟨rfl, rfl⟩ ⟨Nat.le_of_ble_eq_true rfl, Nat.le_of_ble_eq_true rfl⟩ dL_look_95 (fun locs hL => ?_)
                    refine r_i2l E dL_look_98 ?_
                    refine lv_ladd E.1 E.2.1 dL_look_99 ?_
                    refine lv_lstore_n (lv' := [(1, .long (((31) * (v1)) + (i64 (spSession σ ((n : Int)) ((k : Int)))))), (4, .int (iI ((k : Int)))), (3, .int (iI ((n : Int)))), (0, .ref (x))]) E.1 E.2.1 dL_look_100 rfl hl (by decide) rfl (fun ls hl => ?_)
                    refine r_inc (lv' := [(4, .int (iI ((k : Int) + 1))), (1, .long (((31) * (v1)) + (i64 (spSession σ ((n : Int)) ((k : Int)))))), (3, .int (iI ((n : Int)))), (0, .ref (x))]) E dL_look_101 hl (k := 1) rfl (by decide) rfl (fun ls hl => ?_)
                    refine lv_goto (tgt := 79) E.1 E.2.1 dL_look_104 (by decide) ?_
                    refine ihin79 _ ?_ (k + 1) (((31) * (v1)) + (i64 (spSession σ ((n : Int)) ((k : Int))))) ((k : Int) + 1) ls locs ?_ ?_ ?_ rfl (lv_sub hl [1, 0, 2, 3] rfl) hL
                    · omega
                    · omega
                    · omega
                    · rw [hv1]; rfl
              refine LP79 _ 0 v 0 ls locs ?_ ?_ ?_ rfl (lv_sub hl [1, 0, 2, 3] rfl) hL
              · omega
              · rfl
              · rw [hv]; rfl
        refine LP68 _ 0 v 0 ls locs ?_ ?_ ?_ rfl (lv_sub hl [1, 0, 2] rfl) hL
        · omega
        · rfl
        · rw [hv, show k = 240 by omega]; rfl
      · subst hu
        refine r_ldc2 E lc_L_11 dL_look_47 ?_
        refine lv_lload_n E.1 E.2.1 dL_look_50 rfl (lv_at hl 0 rfl) ?_
        refine lv_lmul E.1 E.2.1 dL_look_51 ?_
        refine lv_aload_n E.1 E.2.1 dL_look_52 rfl (lv_at hl 2 rfl) ?_
        refine lv_iload_n E.1 E.2.1 dL_look_53 rfl (lv_at hl 1 rfl) ?_
        refine kVRE (As := [.int (iI ((k : Int)))]) E cw_L_23 (c_X5_damaged G l x fb fl σ hs tx len hI hT hfx hgx ((k : Int)) (by unfold okI; omega)) hP.1 ⟨_, _, rfl⟩ hP hL hl.1 rfl rfl (Nat.le_of_ble_eq_true rfl) ⟨Nat.le_of_ble_eq_true rfl, Nat.le_of_ble_eq_true rfl⟩ ⟨rfl, rfl⟩ ⟨Nat.le_of_ble_eq_true rfl, Nat.le_of_ble_eq_true rfl⟩ dL_look_54 (fun locs hL => ?_)
        refine r_i2l E dL_look_57 ?_
        refine lv_ladd E.1 E.2.1 dL_look_58 ?_
        refine lv_lstore_n (lv' := [(1, .long (((31) * (v)) + (i64 (spDamaged σ ((k : Int)))))), (3, .int (iI ((k : Int)))), (0, .ref (x))]) E.1 E.2.1 dL_look_59 rfl hl (by decide) rfl (fun ls hl => ?_)
        refine r_inc (lv' := [(3, .int (iI ((k : Int) + 1))), (1, .long (((31) * (v)) + (i64 (spDamaged σ ((k : Int)))))), (0, .ref (x))]) E dL_look_60 hl (k := 1) rfl (by decide) rfl (fun ls hl => ?_)
        refine lv_goto (tgt := 40) E.1 E.2.1 dL_look_63 (by decide) ?_
        refine ihin40 _ ?_ (k + 1) (((31) * (v)) + (i64 (spDamaged σ ((k : Int))))) ((k : Int) + 1) ls locs ?_ ?_ ?_ rfl (lv_sub hl [1, 0, 2] rfl) hL
        · omega
        · omega
        · omega
        · rw [hv]; rfl
  refine LP40 _ 0 (((31) * (((31) * (((31) * (431)) + (i64 ((nx σ : Int))))) + (i64 (spSetting σ (0))))) + (i64 (spSetting σ (1)))) 0 ls locs ?_ ?_ ?_ rfl (lv_sub hl [1, 0, 2] rfl) hL
  · omega
  · rfl
  · rfl
