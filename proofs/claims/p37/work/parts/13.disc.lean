set_option maxHeartbeats 4000000 in
set_option maxRecDepth 100000 in
theorem c_X1_sessionAt (G : GG) (l : Launch) (b : Nat) (fl : Nat → Option Fil) (σ : St) (hI : Inv σ) (x : Int) (hx : okI x) : Ct G l yX1_sessionAt cX1_sessionAt 2 (some (.object "WriteOnceDisc$Session")) ({ frames := 0, cells := 0, slots := 0, locals := 0 } : Room) [.ref (b), .int (iI (x))] (fun H => DiscAt G b fl σ H) (QE (if 0 ≤ x ∧ x < mn σ then some (b + 5 + 2 * x.toNat) else none)) := by
  refine Ct.of (by decide +kernel) (Nat.le_of_ble_eq_true rfl) ?_
  intro p e s m args below meth c ls E hnm hP hl
  have i1 := hI.mn12
  have i2 := hI.nx240
  obtain ⟨hx1, hx2⟩ := hx
  have hl : lv_has ls 2 [(0, .ref (b)), (1, .int (iI (x)))] := hl
  have hL : Lk G [] := Lk.nil
  generalize ([] : List Loc) = locs at hL ⊢
  refine lv_iload_n E.1 E.2.1 dX1_sessionAt_0 rfl (lv_at hl 1 rfl) ?_
  refine r_if_lt (tgt := 27) E dX1_sessionAt_1 (by decide) (by omega) (fun c1 => ?_) (fun c1 => ?_)
  · refine lv_null E.1 E.2.1 dX1_sessionAt_27 ?_
    refine e_aret (rm := ({ frames := 0, cells := 0, slots := 0, locals := 0 } : Room)) (r := none) E hL dX1_sessionAt_28 ?_
    exact ⟨by rw [if_neg (by omega)], rfl⟩
  · refine lv_iload_n E.1 E.2.1 dX1_sessionAt_4 rfl (lv_at hl 1 rfl) ?_
    refine lv_aload_n E.1 E.2.1 dX1_sessionAt_5 rfl (lv_at hl 0 rfl) ?_
    refine m_get E hP.1 fw_X1_29 rfl dX1_sessionAt_6 ?_
    refine r_icmp_ge (tgt := 27) E dX1_sessionAt_9 (by decide) (by omega) (by omega) (fun c9 => ?_) (fun c9 => ?_)
    · refine lv_null E.1 E.2.1 dX1_sessionAt_27 ?_
      refine e_aret (rm := ({ frames := 0, cells := 0, slots := 0, locals := 0 } : Room)) (r := none) E hL dX1_sessionAt_28 ?_
      exact ⟨by rw [if_neg (by omega)], rfl⟩
    · refine lv_iload_n E.1 E.2.1 dX1_sessionAt_12 rfl (lv_at hl 1 rfl) ?_
      refine r_bipush E dX1_sessionAt_13 (by decide) ?_
      refine r_icmp_ge (tgt := 27) E dX1_sessionAt_15 (by decide) (by omega) (by omega) (fun c15 => absurd c15 (by omega)) (fun c15 => ?_)
      refine lv_aload_n E.1 E.2.1 dX1_sessionAt_18 rfl (lv_at hl 0 rfl) ?_
      refine m_get E hP.1 fw_X1_11 rfl dX1_sessionAt_19 ?_
      refine lv_iload_n E.1 E.2.1 dX1_sessionAt_22 rfl (lv_at hl 1 rfl) ?_
      refine r_aald E hP.2.1 rfl ((x).toNat) (by omega) (by omega) (by decide) dX1_sessionAt_23 ?_
      refine lv_goto (tgt := 28) E.1 E.2.1 dX1_sessionAt_24 (by decide) ?_
      refine e_aret (rm := ({ frames := 0, cells := 0, slots := 0, locals := 0 } : Room)) (r := some (b + 5 + 2 * ((x).toNat))) E hL dX1_sessionAt_28 ?_
      exact ⟨by rw [if_pos (by omega)], rfl⟩

theorem c_sessionAt_s (G : GG) (l : Launch) (b : Nat) (fl : Nat → Option Fil) (σ : St) (hI : Inv σ) (n : Nat) (hn : n < mn σ) : Ct G l yX1_sessionAt cX1_sessionAt 2 (some (.object "WriteOnceDisc$Session")) ({ frames := 0, cells := 0, slots := 0, locals := 0 } : Room) [.ref b, .int (iI n)] (fun H => DiscAt G b fl σ H) (QE (some (b + 5 + 2 * n))) := by
  have h := c_X1_sessionAt G l b fl σ hI n (by unfold okI; have := hI.mn12; omega)
  rw [if_pos (by omega), Int.toNat_natCast] at h
  exact h
theorem c_sessionAt_n (G : GG) (l : Launch) (b : Nat) (fl : Nat → Option Fil) (σ : St) (hI : Inv σ) (x : Int) (hx : okI x) (h : x < 0 ∨ mn σ ≤ x) : Ct G l yX1_sessionAt cX1_sessionAt 2 (some (.object "WriteOnceDisc$Session")) ({ frames := 0, cells := 0, slots := 0, locals := 0 } : Room) [.ref b, .int (iI x)] (fun H => DiscAt G b fl σ H) (QE none) := by
  have h := c_X1_sessionAt G l b fl σ hI x hx
  rw [if_neg (by omega)] at h
  exact h

theorem c_fileOf_in (G : GG) (l : Launch) (a n : Nat) (w : Nat → Int32) (t : Nat → Option Nat) (hn : n < 20) : Ct G l yX3_fileOf cX3_fileOf 2 (some (.object "WriteOnceDisc$StoredFile")) ({ frames := 1, cells := 0, slots := 0, locals := 20 } : Room) [.ref a, .int (iI n)] (fun H => SesR G a w t H) (QE (t n)) := by
  have h := c_X3_fileOf G l a n w t (by unfold okI; omega)
  rw [if_pos (by omega), Int.toNat_natCast] at h
  exact h

set_option maxHeartbeats 4000000 in
set_option maxRecDepth 100000 in
theorem c_X1_openSession (G : GG) (l : Launch) (b : Nat) (fl : Nat → Option Fil) (σ : St) (hI : Inv σ) : Ct G l yX1_openSession cX1_openSession 2 (some (.object "WriteOnceDisc$Session")) ({ frames := 1, cells := 0, slots := 0, locals := 21 } : Room) [.ref (b)] (fun H => DiscAt G b fl σ H) (QE ((opn σ).map (fun n => b + 5 + 2 * n))) := by
  refine Ct.of (by decide +kernel) (Nat.le_of_ble_eq_true rfl) ?_
  intro p e s m args below meth c ls E hnm hP hl
  have i1 := hI.mn12
  have i2 := hI.nx240
  have hl : lv_has ls 2 [(0, .ref (b))] := hl
  have hL : Lk G [] := Lk.nil
  generalize ([] : List Loc) = locs at hL ⊢
  refine lv_aload_n E.1 E.2.1 dX1_openSession_0 rfl (lv_at hl 0 rfl) ?_
  refine lv_aload_n E.1 E.2.1 dX1_openSession_1 rfl (lv_at hl 0 rfl) ?_
  refine m_get E hP.1 fw_X1_29 rfl dX1_openSession_2 ?_
  refine r_const E dX1_openSession_5 ?_
  refine r_sub E dX1_openSession_6 ?_
  rcases Nat.eq_zero_or_pos (mn σ) with h0 | h0
  · refine kVQE (As := [.int (iI ((mn σ : Int) - 1))]) E cw_X1_54 (c_sessionAt_n G l b fl σ hI ((mn σ : Int) - 1) (by unfold okI; omega) (by omega)) hP.1 ⟨_, _, rfl⟩ hP hL hl.1 rfl rfl (Nat.le_of_ble_eq_true rfl) ⟨Nat.le_of_ble_eq_true rfl, Nat.le_of_ble_eq_true rfl⟩ ⟨rfl, rfl⟩ ⟨Nat.le_of_ble_eq_true rfl, Nat.le_of_ble_eq_true rfl⟩ dX1_openSession_7 (fun locs hL => ?_)
    refine lv_astore_nN (lv' := [(1, .null), (0, .ref (b))]) E.1 E.2.1 dX1_openSession_10 rfl hl (by decide) rfl (fun ls hl => ?_)
    refine lv_aload_nN E.1 E.2.1 dX1_openSession_11 rfl (lv_at hl 0 rfl) ?_
    refine lv_ifnullN (tgt := 26) E.1 E.2.1 dX1_openSession_12 (by decide) ?_
    refine lv_null E.1 E.2.1 dX1_openSession_26 ?_
    refine e_aret (rm := ({ frames := 1, cells := 0, slots := 0, locals := 21 } : Room)) (r := none) E hL dX1_openSession_27 ?_
    exact ⟨by first | (rw [opn_0 h0]; rfl) | (rw [opn_no hn (by omega)]; rfl), rfl⟩
  · obtain ⟨n, hn⟩ : ∃ n, n + 1 = mn σ := ⟨mn σ - 1, by omega⟩
    rw [show (((mn σ : Int) - 1 : Int)) = (n : Int) by omega]
    obtain ⟨t_, ho_, hr_, ht_⟩ := hP.live (n := n) (by omega) (by omega)
    refine kVQE (As := [.int (iI ((n : Int)))]) E cw_X1_54 (c_sessionAt_s G l b fl σ hI n (by omega)) hP.1 ⟨_, _, rfl⟩ hP hL hl.1 rfl rfl (Nat.le_of_ble_eq_true rfl) ⟨Nat.le_of_ble_eq_true rfl, Nat.le_of_ble_eq_true rfl⟩ ⟨rfl, rfl⟩ ⟨Nat.le_of_ble_eq_true rfl, Nat.le_of_ble_eq_true rfl⟩ dX1_openSession_7 (fun locs hL => ?_)
    refine lv_astore_n (lv' := [(1, .ref (b + 5 + 2 * n)), (0, .ref (b))]) E.1 E.2.1 dX1_openSession_10 rfl hl (by decide) rfl (fun ls hl => ?_)
    refine lv_aload_n E.1 E.2.1 dX1_openSession_11 rfl (lv_at hl 0 rfl) ?_
    refine lv_ifnull E.1 E.2.1 dX1_openSession_12 ?_
    refine lv_aload_n E.1 E.2.1 dX1_openSession_15 rfl (lv_at hl 0 rfl) ?_
    refine m_get E ho_ fw_X1_108 rfl dX1_openSession_16 ?_
    refine r_if_ne (tgt := 26) E dX1_openSession_19 (by decide) (by have := hI.row (n := n) (by omega); omega) (fun c19 => ?_) (fun c19 => ?_)
    · refine lv_null E.1 E.2.1 dX1_openSession_26 ?_
      refine e_aret (rm := ({ frames := 1, cells := 0, slots := 0, locals := 21 } : Room)) (r := none) E hL dX1_openSession_27 ?_
      exact ⟨by first | (rw [opn_0 h0]; rfl) | (rw [opn_no hn (by omega)]; rfl), rfl⟩
    · refine lv_aload_n E.1 E.2.1 dX1_openSession_22 rfl (lv_at hl 0 rfl) ?_
      refine lv_goto (tgt := 27) E.1 E.2.1 dX1_openSession_23 (by decide) ?_
      refine e_aret (rm := ({ frames := 1, cells := 0, slots := 0, locals := 21 } : Room)) (r := some (b + 5 + 2 * n)) E hL dX1_openSession_27 ?_
      exact ⟨by rw [opn_of hn (by omega)]; rfl, rfl⟩

set_option maxHeartbeats 4000000 in
set_option maxRecDepth 100000 in
theorem c_X1_areWholeIf (G : GG) (l : Launch) (b : Nat) (fl : Nat → Option Fil) (σ : St) (x cn : Nat) (h : Int) (hh : okI h) (hx : x + cn ≤ 240) : Ct G l yX1_areWholeIf cX1_areWholeIf 6 (some .boolean) ({ frames := 1, cells := 0, slots := 0, locals := 24 } : Room) [.ref (b), .int (iI ((x : Int))), .int (iI ((cn : Int))), .int (iI (h))] (fun H => DiscAt G b fl σ H) (RE (b2i (wholeB (dmH σ h) x cn))) := by
  refine Ct.of (by decide +kernel) (Nat.le_of_ble_eq_true rfl) ?_
  intro p e s m args below meth c ls E hnm hP hl
  obtain ⟨hh1, hh2⟩ := hh
  have hl : lv_has ls 6 [(0, .ref (b)), (1, .int (iI ((x : Int)))), (2, .int (iI ((cn : Int)))), (3, .int (iI (h)))] := hl
  have hL : Lk G [] := Lk.nil
  generalize ([] : List Loc) = locs at hL ⊢
  refine lv_iload_n E.1 E.2.1 dX1_areWholeIf_0 rfl (lv_at hl 1 rfl) ?_
  refine lv_iload_n E.1 E.2.1 dX1_areWholeIf_1 rfl (lv_at hl 2 rfl) ?_
  refine r_add E dX1_areWholeIf_2 ?_
  refine r_sipush E dX1_areWholeIf_3 (by decide) ?_
  refine r_min E ml_X1_128 hl.1 (Nat.le_of_ble_eq_true rfl) (Nat.le_of_ble_eq_true rfl) (Nat.le_of_ble_eq_true rfl) (Nat.le_of_ble_eq_true rfl) (by omega) (by omega) dX1_areWholeIf_6 (fun z1 hz1 => ?_)
  refine lv_istore (lv' := [(4, .int (iI (z1))), (0, .ref (b)), (1, .int (iI ((x : Int)))), (2, .int (iI ((cn : Int)))), (3, .int (iI (h)))]) E.1 E.2.1 dX1_areWholeIf_9 hl (by decide) rfl (fun ls hl => ?_)
  refine lv_iload_n E.1 E.2.1 dX1_areWholeIf_11 rfl (lv_at hl 2 rfl) ?_
  refine r_const E dX1_areWholeIf_12 ?_
  refine r_max E ml_X1_134 hl.1 (Nat.le_of_ble_eq_true rfl) (Nat.le_of_ble_eq_true rfl) (Nat.le_of_ble_eq_true rfl) (Nat.le_of_ble_eq_true rfl) (by omega) (by omega) dX1_areWholeIf_13 (fun z2 hz2 => ?_)
  refine lv_istore (lv' := [(5, .int (iI (z2))), (4, .int (iI (z1))), (0, .ref (b)), (1, .int (iI ((x : Int)))), (2, .int (iI ((cn : Int)))), (3, .int (iI (h)))]) E.1 E.2.1 dX1_areWholeIf_16 hl (by decide) rfl (fun ls hl => ?_)
  have LP18 : ∀ (kin18 : Nat) (y : Nat) (u : Int) (ls : Array Slot) (locs : List Loc) (hy : x ≤ y ∧ y ≤ x + cn) (hw : ∀ k, x ≤ k → k < y → dmH σ h k = false) (hu : u = (y : Int)) (hkin18 : x + cn - y = kin18) (hl : lv_has ls 6 [(5, .int (iI (u))), (4, .int (iI (z1))), (0, .ref (b)), (1, .int (iI ((x : Int)))), (2, .int (iI ((cn : Int)))), (3, .int (iI (h)))]) (hL : Lk G locs), W p l e ({ frames := 1, cells := 0, slots := 0, locals := 24 } : Room) s m args below meth c s.heap locs 0 0 (QQ G below args s ({ frames := 1, cells := 0, slots := 0, locals := 24 } : Room) (RE (b2i (wholeB (dmH σ h) x cn)))) (F0 m 18 ls []) := by
    intro kin18
    induction kin18 using Nat.strongRecOn with
    | ind kin18 ihin18 =>
      intro y u ls locs hy hw hu hkin18 hl hL
      refine lv_iload E.1 E.2.1 dX1_areWholeIf_18 (lv_at hl 0 rfl) ?_
      refine lv_iload E.1 E.2.1 dX1_areWholeIf_20 (lv_at hl 1 rfl) ?_
      refine r_icmp_ge (tgt := 49) E dX1_areWholeIf_22 (by decide) (by omega) (by omega) (fun c22 => ?_) (fun c22 => ?_)
      · refine r_const E dX1_areWholeIf_49 ?_
        refine e_zret (rm := ({ frames := 1, cells := 0, slots := 0, locals := 24 } : Room)) (v := iI (1)) E hL rfl dX1_areWholeIf_50 ?_
        exact RE_t (wholeB_iff.mpr (fun k h1 h2 => hw k h1 (by omega)))
      · refine lv_iload E.1 E.2.1 dX1_areWholeIf_25 (lv_at hl 0 rfl) ?_
        refine lv_iload_n E.1 E.2.1 dX1_areWholeIf_27 rfl (lv_at hl 5 rfl) ?_
        refine r_icmp_eq (tgt := 41) E dX1_areWholeIf_28 (by decide) (by omega) (by omega) (fun c28 => ?_) (fun c28 => ?_)
        · refine r_const E dX1_areWholeIf_41 ?_
          refine e_zret (rm := ({ frames := 1, cells := 0, slots := 0, locals := 24 } : Room)) (v := iI (0)) E hL rfl dX1_areWholeIf_42 ?_
          first | exact RE_f (wholeB_f (k := y) (by omega) (by omega) (dmH_h (by omega))) | exact RE_f (wholeB_f (k := y) (by omega) (by omega) (dmH_d c38))
        · refine lv_aload_n E.1 E.2.1 dX1_areWholeIf_31 rfl (lv_at hl 2 rfl) ?_
          refine m_get E hP.1 fw_X1_17 rfl dX1_areWholeIf_32 ?_
          refine lv_iload E.1 E.2.1 dX1_areWholeIf_35 (lv_at hl 0 rfl) ?_
          refine r_zald E hP.2.2.1 (y) hu (by omega) (by decide) dX1_areWholeIf_37 ?_
          refine r_bif_eq (tgt := 43) E dX1_areWholeIf_38 (by decide)  (fun c38 => ?_) (fun c38 => ?_)
          · refine r_inc (lv' := [(5, .int (iI (u + 1))), (4, .int (iI (z1))), (0, .ref (b)), (1, .int (iI ((x : Int)))), (2, .int (iI ((cn : Int)))), (3, .int (iI (h)))]) E dX1_areWholeIf_43 hl (k := 0) rfl (by decide) rfl (fun ls hl => ?_)
            refine lv_goto (tgt := 18) E.1 E.2.1 dX1_areWholeIf_46 (by decide) ?_
            refine ihin18 _ ?_ (y + 1) (u + 1) ls locs ?_ ?_ ?_ rfl (lv_sub hl [0, 1, 2, 3, 4, 5] rfl) hL
            · omega
            · omega
            · intro k h1 h2
              by_cases he : k = y
              · subst he; exact dmH_n c38 (by omega)
              · exact hw k h1 (by omega)
            · omega
          · refine r_const E dX1_areWholeIf_41 ?_
            refine e_zret (rm := ({ frames := 1, cells := 0, slots := 0, locals := 24 } : Room)) (v := iI (0)) E hL rfl dX1_areWholeIf_42 ?_
            first | exact RE_f (wholeB_f (k := y) (by omega) (by omega) (dmH_h (by omega))) | exact RE_f (wholeB_f (k := y) (by omega) (by omega) (dmH_d c38))
  refine LP18 _ x z2 ls locs ?_ ?_ ?_ rfl (lv_sub hl [0, 1, 2, 3, 4, 5] rfl) hL
  · omega
  · exact fun k h1 h2 => absurd h1 (by omega)
  · omega

set_option maxHeartbeats 4000000 in
set_option maxRecDepth 100000 in
theorem c_X1_isReadableIf (G : GG) (l : Launch) (b : Nat) (fl : Nat → Option Fil) (σ : St) (hI : Inv σ) (n : Nat) (h : Int) (hh : okI h) (hn : n < mn σ) : Ct G l yX1_isReadableIf cX1_isReadableIf 3 (some .boolean) ({ frames := 2, cells := 0, slots := 0, locals := 49 } : Room) [.ref (b), .ref (b + 5 + 2 * n), .int (iI (h))] (fun H => DiscAt G b fl σ H) (RE (b2i (readB σ (dmH σ h) n))) := by
  refine Ct.of (by decide +kernel) (Nat.le_of_ble_eq_true rfl) ?_
  intro p e s m args below meth c ls E hnm hP hl
  have i1 := hI.mn12
  have i2 := hI.nx240
  obtain ⟨hh1, hh2⟩ := hh
  have hrow := hI.row hn
  obtain ⟨t_, ho_, hr_, ht_⟩ := hP.live (n := n) (by omega) (by omega)
  have hl : lv_has ls 3 [(0, .ref (b)), (1, .ref (b + 5 + 2 * n)), (2, .int (iI (h)))] := hl
  have hL : Lk G [] := Lk.nil
  generalize ([] : List Loc) = locs at hL ⊢
  refine lv_aload_n E.1 E.2.1 dX1_isReadableIf_0 rfl (lv_at hl 1 rfl) ?_
  refine m_get E ho_ fw_X1_108 rfl dX1_isReadableIf_1 ?_
  refine r_const E dX1_isReadableIf_4 ?_
  refine r_icmp_ne (tgt := 28) E dX1_isReadableIf_5 (by decide) (by omega) (by omega) (fun c5 => ?_) (fun c5 => ?_)
  · refine r_const E dX1_isReadableIf_28 ?_
    refine e_zret (rm := ({ frames := 2, cells := 0, slots := 0, locals := 49 } : Room)) (v := iI (0)) E hL rfl dX1_isReadableIf_29 ?_
    first | exact RE_f (by unfold readB; rw [decide_eq_false (by omega)]; rfl) | exact RE_f (by unfold readB; rw [c21, Bool.and_false])
  · refine lv_aload_n E.1 E.2.1 dX1_isReadableIf_8 rfl (lv_at hl 0 rfl) ?_
    refine lv_aload_n E.1 E.2.1 dX1_isReadableIf_9 rfl (lv_at hl 1 rfl) ?_
    refine m_get E ho_ fw_X1_111 rfl dX1_isReadableIf_10 ?_
    refine lv_aload_n E.1 E.2.1 dX1_isReadableIf_13 rfl (lv_at hl 1 rfl) ?_
    refine m_get E ho_ fw_X1_112 rfl dX1_isReadableIf_14 ?_
    refine lv_iload_n E.1 E.2.1 dX1_isReadableIf_17 rfl (lv_at hl 2 rfl) ?_
    refine kVRE (As := [.int (iI ((se σ n 1 : Int))), .int (iI ((se σ n 3 : Int))), .int (iI (h))]) E cw_X1_115 (c_X1_areWholeIf G l b fl σ (se σ n 1) (se σ n 3) (h) (by unfold okI; omega) (by omega)) hP.1 ⟨_, _, rfl⟩ hP hL hl.1 rfl rfl (Nat.le_of_ble_eq_true rfl) ⟨Nat.le_of_ble_eq_true rfl, Nat.le_of_ble_eq_true rfl⟩ ⟨rfl, rfl⟩ ⟨Nat.le_of_ble_eq_true rfl, Nat.le_of_ble_eq_true rfl⟩ dX1_isReadableIf_18 (fun locs hL => ?_)
    refine r_bif_eq (tgt := 28) E dX1_isReadableIf_21 (by decide)  (fun c21 => ?_) (fun c21 => ?_)
    · refine r_const E dX1_isReadableIf_28 ?_
      refine e_zret (rm := ({ frames := 2, cells := 0, slots := 0, locals := 49 } : Room)) (v := iI (0)) E hL rfl dX1_isReadableIf_29 ?_
      first | exact RE_f (by unfold readB; rw [decide_eq_false (by omega)]; rfl) | exact RE_f (by unfold readB; rw [c21, Bool.and_false])
    · refine r_const E dX1_isReadableIf_24 ?_
      refine lv_goto (tgt := 29) E.1 E.2.1 dX1_isReadableIf_25 (by decide) ?_
      refine e_zret (rm := ({ frames := 2, cells := 0, slots := 0, locals := 49 } : Room)) (v := iI (1)) E hL rfl dX1_isReadableIf_29 ?_
      exact RE_t (by unfold readB; rw [decide_eq_true (by omega), c21]; rfl)

set_option maxHeartbeats 4000000 in
set_option maxRecDepth 100000 in
theorem c_X1_validNumberIf (G : GG) (l : Launch) (b : Nat) (fl : Nat → Option Fil) (σ : St) (hI : Inv σ) (h : Int) (hh : okI h) : Ct G l yX1_validNumberIf cX1_validNumberIf 4 (some .int) ({ frames := 3, cells := 0, slots := 0, locals := 71 } : Room) [.ref (b), .int (iI (h))] (fun H => DiscAt G b fl σ H) (RE (iI (oI (validD σ (dmH σ h))))) := by
  refine Ct.of (by decide +kernel) (Nat.le_of_ble_eq_true rfl) ?_
  intro p e s m args below meth c ls E hnm hP hl
  have i1 := hI.mn12
  have i2 := hI.nx240
  obtain ⟨hh1, hh2⟩ := hh
  have hl : lv_has ls 4 [(0, .ref (b)), (1, .int (iI (h)))] := hl
  have hL : Lk G [] := Lk.nil
  generalize ([] : List Loc) = locs at hL ⊢
  refine lv_aload_n E.1 E.2.1 dX1_validNumberIf_0 rfl (lv_at hl 0 rfl) ?_
  refine m_get E hP.1 fw_X1_29 rfl dX1_validNumberIf_1 ?_
  refine r_const E dX1_validNumberIf_4 ?_
  refine r_sub E dX1_validNumberIf_5 ?_
  refine lv_istore_n (lv' := [(2, .int (iI ((mn σ : Int) - 1))), (0, .ref (b)), (1, .int (iI (h)))]) E.1 E.2.1 dX1_validNumberIf_6 rfl hl (by decide) rfl (fun ls hl => ?_)
  have LP7 : ∀ (kin7 : Nat) (j : Nat) (z : Int) (ls : Array Slot) (locs : List Loc) (hj : j ≤ mn σ) (hz : z = (j : Int) - 1) (he : validD σ (dmH σ h) = lastB (readB σ (dmH σ h)) j) (hkin7 : j = kin7) (hl : lv_has ls 4 [(2, .int (iI (z))), (0, .ref (b)), (1, .int (iI (h)))]) (hL : Lk G locs), W p l e ({ frames := 3, cells := 0, slots := 0, locals := 71 } : Room) s m args below meth c s.heap locs 0 0 (QQ G below args s ({ frames := 3, cells := 0, slots := 0, locals := 71 } : Room) (RE (iI (oI (validD σ (dmH σ h)))))) (F0 m 7 ls []) := by
    intro kin7
    induction kin7 using Nat.strongRecOn with
    | ind kin7 ihin7 =>
      intro j z ls locs hj hz he hkin7 hl hL
      refine lv_iload_n E.1 E.2.1 dX1_validNumberIf_7 rfl (lv_at hl 0 rfl) ?_
      refine r_if_lt (tgt := 38) E dX1_validNumberIf_8 (by decide) (by omega) (fun c8 => ?_) (fun c8 => ?_)
      · refine r_bipush E dX1_validNumberIf_38 (by decide) ?_
        refine e_iret (rm := ({ frames := 3, cells := 0, slots := 0, locals := 71 } : Room)) (v := iI ((-6))) E hL dX1_validNumberIf_40 ?_
        exact RE_i (by rw [he, show j = 0 by omega]; rfl)
      · obtain ⟨n, hn⟩ : ∃ n : Nat, z = (n : Int) := ⟨z.toNat, by omega⟩
        subst hn
        refine lv_aload_n E.1 E.2.1 dX1_validNumberIf_11 rfl (lv_at hl 1 rfl) ?_
        refine lv_iload_n E.1 E.2.1 dX1_validNumberIf_12 rfl (lv_at hl 0 rfl) ?_
        refine kVQE (As := [.int (iI ((n : Int)))]) E cw_X1_54 (c_sessionAt_s G l b fl σ hI n (by omega)) hP.1 ⟨_, _, rfl⟩ hP hL hl.1 rfl rfl (Nat.le_of_ble_eq_true rfl) ⟨Nat.le_of_ble_eq_true rfl, Nat.le_of_ble_eq_true rfl⟩ ⟨rfl, rfl⟩ ⟨Nat.le_of_ble_eq_true rfl, Nat.le_of_ble_eq_true rfl⟩ dX1_validNumberIf_13 (fun locs hL => ?_)
        refine lv_astore_n (lv' := [(3, .ref (b + 5 + 2 * n)), (2, .int (iI ((n : Int)))), (0, .ref (b)), (1, .int (iI (h)))]) E.1 E.2.1 dX1_validNumberIf_16 rfl hl (by decide) rfl (fun ls hl => ?_)
        refine lv_aload_n E.1 E.2.1 dX1_validNumberIf_17 rfl (lv_at hl 0 rfl) ?_
        refine lv_ifnull E.1 E.2.1 dX1_validNumberIf_18 ?_
        refine lv_aload_n E.1 E.2.1 dX1_validNumberIf_21 rfl (lv_at hl 2 rfl) ?_
        refine lv_aload_n E.1 E.2.1 dX1_validNumberIf_22 rfl (lv_at hl 0 rfl) ?_
        refine lv_iload_n E.1 E.2.1 dX1_validNumberIf_23 rfl (lv_at hl 3 rfl) ?_
        refine kVRE (As := [.ref (b + 5 + 2 * n), .int (iI (h))]) E cw_X1_100 (c_X1_isReadableIf G l b fl σ hI (n) (h) (by unfold okI; omega) (by omega)) hP.1 ⟨_, _, rfl⟩ hP hL hl.1 rfl rfl (Nat.le_of_ble_eq_true rfl) ⟨Nat.le_of_ble_eq_true rfl, Nat.le_of_ble_eq_true rfl⟩ ⟨rfl, rfl⟩ ⟨Nat.le_of_ble_eq_true rfl, Nat.le_of_ble_eq_true rfl⟩ dX1_validNumberIf_24 (fun locs hL => ?_)
        refine r_bif_eq (tgt := 32) E dX1_validNumberIf_27 (by decide)  (fun c27 => ?_) (fun c27 => ?_)
        · refine r_inc (lv' := [(2, .int (iI ((n : Int) + (-1)))), (3, .ref (b + 5 + 2 * n)), (0, .ref (b)), (1, .int (iI (h)))]) E dX1_validNumberIf_32 hl (k := 1) rfl (by decide) rfl (fun ls hl => ?_)
          refine lv_goto (tgt := 7) E.1 E.2.1 dX1_validNumberIf_35 (by decide) ?_
          refine ihin7 _ ?_ n ((n : Int) + (-1)) ls locs ?_ ?_ ?_ rfl (lv_sub hl [0, 2, 3] rfl) hL
          · omega
          · omega
          · omega
          · rw [he, show j = n + 1 by omega, lastB, if_neg (by rw [c27]; decide)]
        · refine lv_iload_n E.1 E.2.1 dX1_validNumberIf_30 rfl (lv_at hl 1 rfl) ?_
          refine e_iret (rm := ({ frames := 3, cells := 0, slots := 0, locals := 71 } : Room)) (v := iI ((n : Int))) E hL dX1_validNumberIf_31 ?_
          exact RE_i (by rw [he, show j = n + 1 by omega, lastB, if_pos c27]; rfl)
  refine LP7 _ (mn σ) ((mn σ : Int) - 1) ls locs ?_ ?_ ?_ rfl (lv_sub hl [0, 1, 2] rfl) hL
  · omega
  · rfl
  · rfl

set_option maxHeartbeats 4000000 in
set_option maxRecDepth 100000 in
theorem c_X1_isIntactIf (G : GG) (l : Launch) (b fb : Nat) (fl : Nat → Option Fil) (σ : St) (a : Nat) (f : Fil) (h : Int) (hh : okI h) (hf : fl a = some f) (hx : f.1 + f.2.1 ≤ 240) : Ct G l yX1_isIntactIf cX1_isIntactIf 3 (some .boolean) ({ frames := 2, cells := 0, slots := 0, locals := 49 } : Room) [.ref (b), .ref (a), .int (iI (h))] (fun H => DiscAt G b fl σ H ∧ FlAt G fb fl H) (RE (b2i (wholeB (dmH σ h) f.1 f.2.1))) := by
  refine Ct.of (by decide +kernel) (Nat.le_of_ble_eq_true rfl) ?_
  intro p e s m args below meth c ls E hnm hP hl
  obtain ⟨hP, hFl⟩ := hP
  obtain ⟨hh1, hh2⟩ := hh
  have hl : lv_has ls 3 [(0, .ref (b)), (1, .ref (a)), (2, .int (iI (h)))] := hl
  have hL : Lk G [] := Lk.nil
  generalize ([] : List Loc) = locs at hL ⊢
  refine lv_aload_n E.1 E.2.1 dX1_isIntactIf_0 rfl (lv_at hl 0 rfl) ?_
  refine lv_aload_n E.1 E.2.1 dX1_isIntactIf_1 rfl (lv_at hl 1 rfl) ?_
  refine m_get E (hFl.2 a f hf).2 fw_X1_90 rfl dX1_isIntactIf_2 ?_
  refine lv_aload_n E.1 E.2.1 dX1_isIntactIf_5 rfl (lv_at hl 1 rfl) ?_
  refine m_get E (hFl.2 a f hf).2 fw_X1_143 rfl dX1_isIntactIf_6 ?_
  refine lv_iload_n E.1 E.2.1 dX1_isIntactIf_9 rfl (lv_at hl 2 rfl) ?_
  refine kVRE (As := [.int (iI ((f.1 : Int))), .int (iI ((f.2.1 : Int))), .int (iI (h))]) E cw_X1_115 (c_X1_areWholeIf G l b fl σ (f.1) (f.2.1) (h) (by unfold okI; omega) (by omega)) hP.1 ⟨_, _, rfl⟩ hP hL hl.1 rfl rfl (Nat.le_of_ble_eq_true rfl) ⟨Nat.le_of_ble_eq_true rfl, Nat.le_of_ble_eq_true rfl⟩ ⟨rfl, rfl⟩ ⟨Nat.le_of_ble_eq_true rfl, Nat.le_of_ble_eq_true rfl⟩ dX1_isIntactIf_10 (fun locs hL => ?_)
  refine e_zret (rm := ({ frames := 2, cells := 0, slots := 0, locals := 49 } : Room)) (v := b2i (wholeB (dmH σ (h)) (f.1) (f.2.1))) E hL (b2i_nar _) dX1_isIntactIf_13 ?_
  exact RE_b rfl

set_option maxHeartbeats 4000000 in
set_option maxRecDepth 100000 in
theorem c_X1_useOf (G : GG) (l : Launch) (b : Nat) (fl : Nat → Option Fil) (σ : St) (hI : Inv σ) (x : Int) (hx : 0 ≤ x ∧ x < 240) : Ct G l yX1_useOf cX1_useOf 4 (some .int) ({ frames := 1, cells := 0, slots := 0, locals := 21 } : Room) [.ref (b), .int (iI (x))] (fun H => DiscAt G b fl σ H) (RE (iI (useN σ x.toNat))) := by
  refine Ct.of (by decide +kernel) (Nat.le_of_ble_eq_true rfl) ?_
  intro p e s m args below meth c ls E hnm hP hl
  have i1 := hI.mn12
  have i2 := hI.nx240
  obtain ⟨hx1, hx2⟩ := hx
  have hl : lv_has ls 4 [(0, .ref (b)), (1, .int (iI (x)))] := hl
  have hL : Lk G [] := Lk.nil
  generalize ([] : List Loc) = locs at hL ⊢
  refine r_const E dX1_useOf_0 ?_
  refine lv_istore_n (lv' := [(2, .int (iI (0))), (0, .ref (b)), (1, .int (iI (x)))]) E.1 E.2.1 dX1_useOf_1 rfl hl (by decide) rfl (fun ls hl => ?_)
  have LP2 : ∀ (kin2 : Nat) (j : Nat) (z : Int) (ls : Array Slot) (locs : List Loc) (hj : j ≤ mn σ) (hz : z = (j : Int)) (he : ∀ k, k < j → ¬ (se σ k 1 ≤ x.toNat ∧ x.toNat < se σ k 1 + se σ k 2)) (hkin2 : mn σ - j = kin2) (hl : lv_has ls 4 [(2, .int (iI (z))), (0, .ref (b)), (1, .int (iI (x)))]) (hL : Lk G locs), W p l e ({ frames := 1, cells := 0, slots := 0, locals := 21 } : Room) s m args below meth c s.heap locs 0 0 (QQ G below args s ({ frames := 1, cells := 0, slots := 0, locals := 21 } : Room) (RE (iI (useN σ x.toNat)))) (F0 m 2 ls []) := by
    intro kin2
    induction kin2 using Nat.strongRecOn with
    | ind kin2 ihin2 =>
      intro j z ls locs hj hz he hkin2 hl hL
      refine lv_iload_n E.1 E.2.1 dX1_useOf_2 rfl (lv_at hl 0 rfl) ?_
      refine lv_aload_n E.1 E.2.1 dX1_useOf_3 rfl (lv_at hl 1 rfl) ?_
      refine m_get E hP.1 fw_X1_29 rfl dX1_useOf_4 ?_
      refine r_icmp_ge (tgt := 40) E dX1_useOf_7 (by decide) (by omega) (by omega) (fun c7 => ?_) (fun c7 => ?_)
      · refine r_const E dX1_useOf_40 ?_
        refine e_iret (rm := ({ frames := 1, cells := 0, slots := 0, locals := 21 } : Room)) (v := iI (0)) E hL dX1_useOf_41 ?_
        exact RE_i (by unfold useN; rw [sesAt_no (fun n hn => he n (by omega))])
      · subst hz
        obtain ⟨t_, ho_, hr_, ht_⟩ := hP.live (n := j) (by omega) (by omega)
        refine lv_aload_n E.1 E.2.1 dX1_useOf_10 rfl (lv_at hl 1 rfl) ?_
        refine lv_iload_n E.1 E.2.1 dX1_useOf_11 rfl (lv_at hl 0 rfl) ?_
        refine kVQE (As := [.int (iI ((j : Int)))]) E cw_X1_54 (c_sessionAt_s G l b fl σ hI j (by omega)) hP.1 ⟨_, _, rfl⟩ hP hL hl.1 rfl rfl (Nat.le_of_ble_eq_true rfl) ⟨Nat.le_of_ble_eq_true rfl, Nat.le_of_ble_eq_true rfl⟩ ⟨rfl, rfl⟩ ⟨Nat.le_of_ble_eq_true rfl, Nat.le_of_ble_eq_true rfl⟩ dX1_useOf_12 (fun locs hL => ?_)
        refine lv_astore_n (lv' := [(3, .ref (b + 5 + 2 * j)), (2, .int (iI ((j : Int)))), (0, .ref (b)), (1, .int (iI (x)))]) E.1 E.2.1 dX1_useOf_15 rfl hl (by decide) rfl (fun ls hl => ?_)
        refine lv_aload_n E.1 E.2.1 dX1_useOf_16 rfl (lv_at hl 0 rfl) ?_
        refine lv_ifnull E.1 E.2.1 dX1_useOf_17 ?_
        refine lv_aload_n E.1 E.2.1 dX1_useOf_20 rfl (lv_at hl 0 rfl) ?_
        refine lv_iload_n E.1 E.2.1 dX1_useOf_21 rfl (lv_at hl 3 rfl) ?_
        refine kVRE (As := [.int (iI (x))]) E cw_X1_137 (c_X3_hasTaken G l (b + 5 + 2 * j) (x) (se σ j) (hI.rowb (by omega)) (by omega)) ho_ ⟨_, _, rfl⟩ ho_ hL hl.1 rfl rfl (Nat.le_of_ble_eq_true rfl) ⟨Nat.le_of_ble_eq_true rfl, Nat.le_of_ble_eq_true rfl⟩ ⟨rfl, rfl⟩ ⟨Nat.le_of_ble_eq_true rfl, Nat.le_of_ble_eq_true rfl⟩ dX1_useOf_22 (fun locs hL => ?_)
        refine r_bif_eq (tgt := 34) E dX1_useOf_25 (by decide)  (fun c25 => ?_) (fun c25 => ?_)
        · have c25 := of_decide_eq_false c25
          refine r_inc (lv' := [(2, .int (iI ((j : Int) + 1))), (3, .ref (b + 5 + 2 * j)), (0, .ref (b)), (1, .int (iI (x)))]) E dX1_useOf_34 hl (k := 1) rfl (by decide) rfl (fun ls hl => ?_)
          refine lv_goto (tgt := 2) E.1 E.2.1 dX1_useOf_37 (by decide) ?_
          refine ihin2 _ ?_ (j + 1) ((j : Int) + 1) ls locs ?_ ?_ ?_ rfl (lv_sub hl [0, 2, 3] rfl) hL
          · omega
          · omega
          · omega
          · intro k hk
            by_cases hk2 : k = j
            · subst hk2; omega
            · exact he k (by omega)
        · have c25 := of_decide_eq_true c25
          refine lv_aload_n E.1 E.2.1 dX1_useOf_28 rfl (lv_at hl 0 rfl) ?_
          refine lv_iload_n E.1 E.2.1 dX1_useOf_29 rfl (lv_at hl 3 rfl) ?_
          refine kVRE (As := [.int (iI (x))]) E cw_X1_140 (c_X3_useOf G l (b + 5 + 2 * j) (x) (se σ j) (hI.rowb (by omega)) (by omega)) ho_ ⟨_, _, rfl⟩ ho_ hL hl.1 rfl rfl (Nat.le_of_ble_eq_true rfl) ⟨Nat.le_of_ble_eq_true rfl, Nat.le_of_ble_eq_true rfl⟩ ⟨rfl, rfl⟩ ⟨Nat.le_of_ble_eq_true rfl, Nat.le_of_ble_eq_true rfl⟩ dX1_useOf_30 (fun locs hL => ?_)
          refine e_iret (rm := ({ frames := 1, cells := 0, slots := 0, locals := 21 } : Room)) (v := iI (if x < (se σ j 1 : Nat) + (se σ j 3 : Nat) then 1 else if se σ j 0 = 1 ∧ ((se σ j 1 : Nat) : Int) + (se σ j 2 : Nat) - (se σ j 4 : Nat) ≤ x then 2 else 3)) E hL dX1_useOf_33 ?_
          refine RE_i ?_
          unfold useN
          rw [sesAt_of hI (n := j) (by omega) (by omega) (by omega)]
          have hr4 := hI.row (n := j) (by omega)
          simp only []
          split <;> split <;> (try split) <;> (try split) <;> omega
  refine LP2 _ 0 0 ls locs ?_ ?_ ?_ rfl (lv_sub hl [0, 1, 2] rfl) hL
  · omega
  · rfl
  · intro k hk; omega
