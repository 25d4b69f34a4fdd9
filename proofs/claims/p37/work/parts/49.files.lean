theorem spEntT0 {σ : St} {n k a b c : Nat} (hn : n < mn σ) (hk : k < 20) (he : en σ n k = some (a, b, c)) : spEntry σ n k 0 = (a : Int) := spEnt0 hn hk he
theorem spEntT1 {σ : St} {n k a b c : Nat} (hn : n < mn σ) (hk : k < 20) (he : en σ n k = some (a, b, c)) : spEntry σ n k 1 = (b : Int) := spEnt1 hn hk he
theorem spEntT2 {σ : St} {n k a b c : Nat} (hn : n < mn σ) (hk : k < 20) (he : en σ n k = some (a, b, c)) : spEntry σ n k 2 = (c : Int) := spEnt2 hn hk he

set_option maxHeartbeats 4000000 in
set_option maxRecDepth 100000 in
theorem c_L_files (G : GG) (l : Launch) (x fb : Nat) (fl : Nat → Option Fil) (σ : St) (hs : List St) (tx : Nat → Int) (len : Nat) (hS : VS σ) (hH : VH hs) (hT : TxOk tx len) (hfx : x + 179 ≤ fb) (hgx : G.2.2 ≤ x) (how : Int) (hw0 : 0 ≤ how ∧ how ≤ 2) (v : Int32) : Ct G l yL_files cL_files 14 (some .boolean) ({ frames := 5, cells := 1, slots := 3, locals := 118 } : Room) [.ref (x), .int (iI (how)), .int (v)] (fun H => XAt G x fb fl σ hs tx len H ∧ fb ≤ H.size) (WE (iI 1) (fun H H1 => ∃ τ hs1 tx1 len1, VS τ ∧ VH hs1 ∧ TxOk tx1 len1 ∧ AC σ hs τ hs1 ∧ XP G x fb fl τ hs1 tx1 len1 H H1)) := by
  refine Ct.of (by decide +kernel) (Nat.le_of_ble_eq_true rfl) ?_
  intro p e s m args below meth c ls E hnm hP hl
  have hI := hS.1
  have i1 := hI.mn12
  have i2 := hI.nx240
  have i3 := hI.s0b
  have i4 := hI.s1b
  have hl : lv_has ls 14 [(0, .ref (x)), (1, .int (iI (how))), (2, .int (v))] := hl
  have hL : Lk G [] := Lk.nil
  generalize ([] : List Loc) = locs at hL ⊢
  refine lv_aload_n E.1 E.2.1 dL_files_0 rfl (lv_at hl 0 rfl) ?_
  refine kSRE (As := [.ref (x)]) E cw_L_68 (c_L_open G l x fb fl σ hs tx len hI hT hfx hgx) hP.1 hL hl.1 rfl rfl (Nat.le_of_ble_eq_true rfl) ⟨Nat.le_of_ble_eq_true rfl, Nat.le_of_ble_eq_true rfl⟩ ⟨rfl, rfl⟩ ⟨Nat.le_of_ble_eq_true rfl, Nat.le_of_ble_eq_true rfl⟩ dL_files_1 (fun locs hL => ?_)
  rcases hop : opn σ with _ | n
  · rw [show oI none = -6 from rfl]
    refine lv_istore_n (lv' := [(3, .int (iI ((-6)))), (0, .ref (x)), (1, .int (iI (how))), (2, .int (v))]) E.1 E.2.1 dL_files_4 rfl hl (by decide) rfl (fun ls hl => ?_)
    refine lv_iload_n E.1 E.2.1 dL_files_5 rfl (lv_at hl 3 rfl) ?_
    have J24_0 : ∀ (v24 : Int) (hv24 : v24 = 21 ∨ v24 = 6) (ls : Array Slot) (locs : List Loc) (hl : lv_has ls 14 [(3, .int (iI ((-6)))), (0, .ref (x)), (1, .int (iI (how))), (2, .int (v))]) (hL : Lk G locs), W p l e ({ frames := 5, cells := 1, slots := 3, locals := 118 } : Room) s m args below meth c s.heap locs 0 0 (QQ G below args s ({ frames := 5, cells := 1, slots := 3, locals := 118 } : Room) (WE (iI 1) (fun H H1 => ∃ τ hs1 tx1 len1, VS τ ∧ VH hs1 ∧ TxOk tx1 len1 ∧ AC σ hs τ hs1 ∧ XP G x fb fl τ hs1 tx1 len1 H H1))) (F0 m 24 ls [.int (iI (v24)), .int (v)]) := by
      intro v24 hv24 ls locs hl hL
      obtain ⟨w2, hw2⟩ : ∃ z : Int, lowI (v) (v24) = z := ⟨_, rfl⟩
      have hw2b : 0 ≤ w2 ∧ w2 < (v24) := by rw [← hw2]; exact low_b _ (by omega)
      have hw2c := c_L_low G l (v) (v24) (by omega)
      rw [hw2] at hw2c
      refine kSRE (As := [.int (v), .int (iI (v24))]) E cw_L_72 hw2c trivial hL hl.1 rfl rfl (Nat.le_of_ble_eq_true rfl) ⟨Nat.le_of_ble_eq_true rfl, Nat.le_of_ble_eq_true rfl⟩ ⟨rfl, rfl⟩ ⟨Nat.le_of_ble_eq_true rfl, Nat.le_of_ble_eq_true rfl⟩ dL_files_24 (fun locs hL => ?_)
      refine lv_istore (lv' := [(4, .int (iI (w2))), (3, .int (iI ((-6)))), (0, .ref (x)), (1, .int (iI (how))), (2, .int (v))]) E.1 E.2.1 dL_files_27 hl (by decide) rfl (fun ls hl => ?_)
      have hk20 : w2 ≤ 20 := by omega
      obtain ⟨k, hke⟩ : ∃ k : Nat, w2 = (k : Int) := ⟨w2.toNat, by omega⟩
      subst hke
      rcases (show (k : Int) = 20 ∨ k < 20 by omega) with hno | hno
      · refine lv_iload E.1 E.2.1 dL_files_29 (lv_at hl 0 rfl) ?_
        refine r_bipush E dL_files_31 (by decide) ?_
        refine r_icmp_ne (tgt := 40) E dL_files_33 (by decide) (by omega) (by omega) (fun c33 => absurd c33 (by omega)) (fun c33 => ?_)
        refine r_const E dL_files_36 ?_
        refine lv_goto (tgt := 41) E.1 E.2.1 dL_files_37 (by decide) ?_
        refine lv_istore (lv' := [(5, .int (iI (1))), (4, .int (iI ((k : Int)))), (3, .int (iI ((-6)))), (0, .ref (x)), (1, .int (iI (how))), (2, .int (v))]) E.1 E.2.1 dL_files_41 hl (by decide) rfl (fun ls hl => ?_)
        refine lv_aload_n E.1 E.2.1 dL_files_43 rfl (lv_at hl 3 rfl) ?_
        refine kVRE (As := []) E cw_L_13 (c_X5_next G l x fb fl σ hs tx len hI hT hfx hgx  ) hP.1.1 ⟨_, _, rfl⟩ hP.1 hL hl.1 rfl rfl (Nat.le_of_ble_eq_true rfl) ⟨Nat.le_of_ble_eq_true rfl, Nat.le_of_ble_eq_true rfl⟩ ⟨rfl, rfl⟩ ⟨Nat.le_of_ble_eq_true rfl, Nat.le_of_ble_eq_true rfl⟩ dL_files_44 (fun locs hL => ?_)
        refine lv_istore (lv' := [(6, .int (iI ((nx σ : Int)))), (5, .int (iI (1))), (4, .int (iI ((k : Int)))), (3, .int (iI ((-6)))), (0, .ref (x)), (1, .int (iI (how))), (2, .int (v))]) E.1 E.2.1 dL_files_47 hl (by decide) rfl (fun ls hl => ?_)
        refine lv_iload_n E.1 E.2.1 dL_files_49 rfl (lv_at hl 3 rfl) ?_
        refine r_if_lt (tgt := 75) E dL_files_50 (by decide) (by omega) (fun c50 => ?_) (fun c50 => absurd c50 (by omega))
        refine r_const E dL_files_75 ?_
        refine lv_istore (lv' := [(7, .int (iI (0))), (6, .int (iI ((nx σ : Int)))), (5, .int (iI (1))), (4, .int (iI ((k : Int)))), (3, .int (iI ((-6)))), (0, .ref (x)), (1, .int (iI (how))), (2, .int (v))]) E.1 E.2.1 dL_files_76 hl (by decide) rfl (fun ls hl => ?_)
        refine lv_iload_n E.1 E.2.1 dL_files_78 rfl (lv_at hl 4 rfl) ?_
        refine r_if_ge (tgt := 86) E dL_files_79 (by decide) (by omega) (fun c79 => absurd c79 (by omega)) (fun c79 => ?_)
        refine r_const E dL_files_82 ?_
        refine lv_goto (tgt := 92) E.1 E.2.1 dL_files_83 (by decide) ?_
        refine lv_istore (lv' := [(8, .int (iI (0))), (7, .int (iI (0))), (6, .int (iI ((nx σ : Int)))), (5, .int (iI (1))), (4, .int (iI ((k : Int)))), (3, .int (iI ((-6)))), (0, .ref (x)), (1, .int (iI (how))), (2, .int (v))]) E.1 E.2.1 dL_files_92 hl (by decide) rfl (fun ls hl => ?_)
        refine lv_iload_n E.1 E.2.1 dL_files_94 rfl (lv_at hl 7 rfl) ?_
        refine r_if_ne (tgt := 352) E dL_files_95 (by decide) (by omega) (fun c95 => ?_) (fun c95 => ?_)
        · refine lv_iload_n E.1 E.2.1 dL_files_352 rfl (lv_at hl 7 rfl) ?_
          refine r_const E dL_files_353 ?_
          refine r_icmp_ne (tgt := 426) E dL_files_354 (by decide) (by omega) (by omega) (fun c354 => ?_) (fun c354 => ?_)
          · refine lv_iload_n E.1 E.2.1 dL_files_426 rfl (lv_at hl 8 rfl) ?_
            refine r_const E dL_files_427 ?_
            refine lv_ishr E.1 E.2.1 dL_files_428 ?_
            refine lv_aload_n E.1 E.2.1 dL_files_429 rfl (lv_at hl 6 rfl) ?_
            refine kVRE (As := []) E cw_L_26 (c_X5_sessions G l x fb fl σ hs tx len hI hT hfx hgx  ) hP.1.1 ⟨_, _, rfl⟩ hP.1 hL hl.1 rfl rfl (Nat.le_of_ble_eq_true rfl) ⟨Nat.le_of_ble_eq_true rfl, Nat.le_of_ble_eq_true rfl⟩ ⟨rfl, rfl⟩ ⟨Nat.le_of_ble_eq_true rfl, Nat.le_of_ble_eq_true rfl⟩ dL_files_430 (fun locs hL => ?_)
            refine r_const E dL_files_433 ?_
            refine r_add E dL_files_434 ?_
            obtain ⟨w3, hw3⟩ : ∃ z : Int, lowI (((v) >>> ((iI (4)) &&& 31))) ((mn σ : Int) + 1) = z := ⟨_, rfl⟩
            have hw3b : 0 ≤ w3 ∧ w3 < ((mn σ : Int) + 1) := by rw [← hw3]; exact low_b _ (by omega)
            have hw3c := c_L_low G l (((v) >>> ((iI (4)) &&& 31))) ((mn σ : Int) + 1) (by omega)
            rw [hw3] at hw3c
            refine kSRE (As := [.int (((v) >>> ((iI (4)) &&& 31))), .int (iI ((mn σ : Int) + 1))]) E cw_L_72 hw3c trivial hL hl.1 rfl rfl (Nat.le_of_ble_eq_true rfl) ⟨Nat.le_of_ble_eq_true rfl, Nat.le_of_ble_eq_true rfl⟩ ⟨rfl, rfl⟩ ⟨Nat.le_of_ble_eq_true rfl, Nat.le_of_ble_eq_true rfl⟩ dL_files_435 (fun locs hL => ?_)
            refine lv_istore (lv' := [(9, .int (iI (w3))), (8, .int (iI (0))), (7, .int (iI (0))), (6, .int (iI ((nx σ : Int)))), (5, .int (iI (1))), (4, .int (iI ((k : Int)))), (3, .int (iI ((-6)))), (0, .ref (x)), (1, .int (iI (how))), (2, .int (v))]) E.1 E.2.1 dL_files_438 hl (by decide) rfl (fun ls hl => ?_)
            obtain ⟨m9, hm9e⟩ : ∃ k : Nat, w3 = (k : Int) := ⟨w3.toNat, by omega⟩
            subst hm9e
            have hsp : (spKeep σ (k : Int) (m9 : Int)) = (-1, σ) := kp_e1 (by omega)
            refine lv_iload_n E.1 E.2.1 dL_files_440 rfl (lv_at hl 6 rfl) ?_
            refine r_if_lt (tgt := 488) E dL_files_441 (by decide) (by omega) (fun c441 => ?_) (fun c441 => absurd c441 (by omega))
            refine r_const E dL_files_488 ?_
            refine lv_istore (lv' := [(10, .int (iI (0))), (9, .int (iI ((m9 : Int)))), (8, .int (iI (0))), (7, .int (iI (0))), (6, .int (iI ((nx σ : Int)))), (5, .int (iI (1))), (4, .int (iI ((k : Int)))), (3, .int (iI ((-6)))), (0, .ref (x)), (1, .int (iI (how))), (2, .int (v))]) E.1 E.2.1 dL_files_489 hl (by decide) rfl (fun ls hl => ?_)
            refine lv_aload_n E.1 E.2.1 dL_files_491 rfl (lv_at hl 8 rfl) ?_
            refine lv_iload E.1 E.2.1 dL_files_492 (lv_at hl 6 rfl) ?_
            refine lv_iload E.1 E.2.1 dL_files_494 (lv_at hl 1 rfl) ?_
            refine kVWE (As := [.int (iI ((k : Int))), .int (iI ((m9 : Int)))]) E cw_L_125 (c_X5_keep G l x fb fl σ hs tx len hI hT hfx hgx ((k : Int)) ((m9 : Int)) (by unfold okI; omega) (by unfold okI; omega)) hP.1.1 ⟨_, _, rfl⟩ ⟨hP.1, hP.2⟩ hL hl.1 rfl rfl (Nat.le_of_ble_eq_true rfl) ⟨Nat.le_of_ble_eq_true rfl, Nat.le_of_ble_eq_true rfl⟩ ⟨Nat.le_of_ble_eq_true rfl, Nat.le_of_ble_eq_true rfl⟩ dL_files_496 (fun H4 locs hL hw_ => ?_)
            obtain ⟨⟨fl1, hE1, hX1⟩, hR1⟩ := hw_
            have hV1 : VS (spKeep σ ((k : Int)) ((m9 : Int))).2 := hS.keep ((k : Int)) ((m9 : Int))
            have hC1 : AC σ hs (spKeep σ ((k : Int)) ((m9 : Int))).2 (hsA σ hs (spKeep σ ((k : Int)) ((m9 : Int))).1) := ac_of (spKeep_b hI ((k : Int)) ((m9 : Int))).2.2
            have hD1 : VH (hsA σ hs (spKeep σ ((k : Int)) ((m9 : Int))).1) := VH.hs1 hS hH
            generalize hsA σ hs (spKeep σ ((k : Int)) ((m9 : Int))).1 = hs1 at hX1 hC1 hD1
            have hte : (spKeep σ (k : Int) (m9 : Int)).2 = σ := by rw [hsp]
            have hr1 : (spKeep σ ((k : Int)) ((m9 : Int))).1 = (-1) := by rw [hsp]
            rw [hr1]
            generalize (spKeep σ ((k : Int)) ((m9 : Int))).2 = τ at hX1 hV1 hC1 hte
            have hI1 := hV1.1
            have hz1 := FrR.size hR1 hP.2
            refine lv_istore (lv' := [(11, .int (iI ((-1)))), (10, .int (iI (0))), (9, .int (iI ((m9 : Int)))), (8, .int (iI (0))), (7, .int (iI (0))), (6, .int (iI ((nx σ : Int)))), (5, .int (iI (1))), (4, .int (iI ((k : Int)))), (3, .int (iI ((-6)))), (0, .ref (x)), (1, .int (iI (how))), (2, .int (v))]) E.1 E.2.1 dL_files_499 hl (by decide) rfl (fun ls hl => ?_)
            have hnx1 : nx τ = nx σ := by rw [hte]
            have hmn1 : mn τ = mn σ := by rw [hte]
            refine lv_iload E.1 E.2.1 dL_files_501 (lv_at hl 0 rfl) ?_
            refine lv_iload E.1 E.2.1 dL_files_503 (lv_at hl 6 rfl) ?_
            refine r_if_ne (tgt := 517) E dL_files_505 (by decide) (by omega) (fun c505 => ?_) (fun c505 => absurd c505 (by omega))
            refine r_const E dL_files_517 ?_
            refine lv_goto (tgt := 540) E.1 E.2.1 dL_files_518 (by decide) ?_
            refine r_icmp_ne (tgt := 607) E dL_files_540 (by decide) (by omega) (by omega) (fun c540 => absurd c540 (by omega)) (fun c540 => ?_)
            refine lv_iload E.1 E.2.1 dL_files_543 (lv_at hl 0 rfl) ?_
            refine r_if_lt (tgt := 603) E dL_files_545 (by decide) (by omega) (fun c545 => ?_) (fun c545 => absurd c545 (by omega))
            refine r_const E dL_files_603 ?_
            refine lv_goto (tgt := 608) E.1 E.2.1 dL_files_604 (by decide) ?_
            refine W.widen (k := 1) (n := 3) (Nat.le_of_ble_eq_true rfl) (Nat.le_of_ble_eq_true rfl) ?_
            refine e_zret (rm := ({ frames := 5, cells := 1, slots := 3, locals := 118 } : Room)) (v := iI (1)) E hL rfl dL_files_608 ?_
            exact ⟨rfl, _, _, _, _, hV1, hD1, hT, hC1, ⟨_, hE1, hX1⟩, hR1⟩
          · have hsp : (spRemove σ (k : Int)) = (-1, σ) := rm_e1 (by omega)
            refine lv_aload_n E.1 E.2.1 dL_files_357 rfl (lv_at hl 6 rfl) ?_
            refine lv_iload E.1 E.2.1 dL_files_358 (lv_at hl 4 rfl) ?_
            refine kVWE (As := [.int (iI ((k : Int)))]) E cw_L_122 (c_X5_remove G l x fb fl σ hs tx len hI hT hfx hgx ((k : Int)) (by unfold okI; omega)) hP.1.1 ⟨_, _, rfl⟩ ⟨hP.1, hP.2⟩ hL hl.1 rfl rfl (Nat.le_of_ble_eq_true rfl) ⟨Nat.le_of_ble_eq_true rfl, Nat.le_of_ble_eq_true rfl⟩ ⟨Nat.le_of_ble_eq_true rfl, Nat.le_of_ble_eq_true rfl⟩ dL_files_360 (fun H3 locs hL hw_ => ?_)
            obtain ⟨⟨fl1, hE1, hX1⟩, hR1⟩ := hw_
            have hV1 : VS (spRemove σ ((k : Int))).2 := hS.remove ((k : Int))
            have hC1 : AC σ hs (spRemove σ ((k : Int))).2 (hsA σ hs (spRemove σ ((k : Int))).1) := ac_of (spRemove_b ((k : Int))).2.2
            have hD1 : VH (hsA σ hs (spRemove σ ((k : Int))).1) := VH.hs1 hS hH
            generalize hsA σ hs (spRemove σ ((k : Int))).1 = hs1 at hX1 hC1 hD1
            have hte : (spRemove σ (k : Int)).2 = σ := by rw [hsp]
            have hr1 : (spRemove σ ((k : Int))).1 = (-1) := by rw [hsp]
            rw [hr1]
            generalize (spRemove σ ((k : Int))).2 = τ at hX1 hV1 hC1 hte
            have hI1 := hV1.1
            have hz1 := FrR.size hR1 hP.2
            refine lv_istore (lv' := [(9, .int (iI ((-1)))), (8, .int (iI (0))), (7, .int (iI (0))), (6, .int (iI ((nx σ : Int)))), (5, .int (iI (1))), (4, .int (iI ((k : Int)))), (3, .int (iI ((-6)))), (0, .ref (x)), (1, .int (iI (how))), (2, .int (v))]) E.1 E.2.1 dL_files_363 hl (by decide) rfl (fun ls hl => ?_)
            have hnx1 : nx τ = nx σ := by rw [hte]
            have hmn1 : mn τ = mn σ := by rw [hte]
            refine lv_iload E.1 E.2.1 dL_files_365 (lv_at hl 0 rfl) ?_
            refine lv_iload E.1 E.2.1 dL_files_367 (lv_at hl 4 rfl) ?_
            refine r_if_eq (tgt := 376) E dL_files_369 (by decide) (by omega) (fun c369 => absurd c369 (by omega)) (fun c369 => ?_)
            refine r_const E dL_files_372 ?_
            refine lv_goto (tgt := 390) E.1 E.2.1 dL_files_373 (by decide) ?_
            refine r_icmp_ne (tgt := 424) E dL_files_390 (by decide) (by omega) (by omega) (fun c390 => absurd c390 (by omega)) (fun c390 => ?_)
            refine lv_iload E.1 E.2.1 dL_files_393 (lv_at hl 0 rfl) ?_
            refine r_if_lt (tgt := 420) E dL_files_395 (by decide) (by omega) (fun c395 => ?_) (fun c395 => absurd c395 (by omega))
            refine r_const E dL_files_420 ?_
            refine lv_goto (tgt := 425) E.1 E.2.1 dL_files_421 (by decide) ?_
            refine W.widen (k := 1) (n := 3) (Nat.le_of_ble_eq_true rfl) (Nat.le_of_ble_eq_true rfl) ?_
            refine e_zret (rm := ({ frames := 5, cells := 1, slots := 3, locals := 118 } : Room)) (v := iI (1)) E hL rfl dL_files_425 ?_
            exact ⟨rfl, _, _, _, _, hV1, hD1, hT, hC1, ⟨_, hE1, hX1⟩, hR1⟩
        · refine lv_iload_n E.1 E.2.1 dL_files_98 rfl (lv_at hl 8 rfl) ?_
          refine r_const E dL_files_99 ?_
          refine lv_ishr E.1 E.2.1 dL_files_100 ?_
          have J119_2 : ∀ (v119 : Int) (hv119 : v119 = 42 ∨ v119 = 12) (ls : Array Slot) (locs : List Loc) (hl : lv_has ls 14 [(8, .int (iI (0))), (7, .int (iI (0))), (6, .int (iI ((nx σ : Int)))), (5, .int (iI (1))), (4, .int (iI ((k : Int)))), (3, .int (iI ((-6)))), (0, .ref (x)), (1, .int (iI (how))), (2, .int (v))]) (hL : Lk G locs), W p l e ({ frames := 5, cells := 1, slots := 3, locals := 118 } : Room) s m args below meth c s.heap locs 0 0 (QQ G below args s ({ frames := 5, cells := 1, slots := 3, locals := 118 } : Room) (WE (iI 1) (fun H H1 => ∃ τ hs1 tx1 len1, VS τ ∧ VH hs1 ∧ TxOk tx1 len1 ∧ AC σ hs τ hs1 ∧ XP G x fb fl τ hs1 tx1 len1 H H1))) (F0 m 119 ls [.int (iI (v119)), .int (((v) >>> ((iI (4)) &&& 31)))]) := by
            intro v119 hv119 ls locs hl hL
            obtain ⟨w4, hw4⟩ : ∃ z : Int, lowI (((v) >>> ((iI (4)) &&& 31))) (v119) = z := ⟨_, rfl⟩
            have hw4b : 0 ≤ w4 ∧ w4 < (v119) := by rw [← hw4]; exact low_b _ (by omega)
            have hw4c := c_L_low G l (((v) >>> ((iI (4)) &&& 31))) (v119) (by omega)
            rw [hw4] at hw4c
            refine kSRE (As := [.int (((v) >>> ((iI (4)) &&& 31))), .int (iI (v119))]) E cw_L_72 hw4c trivial hL hl.1 rfl rfl (Nat.le_of_ble_eq_true rfl) ⟨Nat.le_of_ble_eq_true rfl, Nat.le_of_ble_eq_true rfl⟩ ⟨rfl, rfl⟩ ⟨Nat.le_of_ble_eq_true rfl, Nat.le_of_ble_eq_true rfl⟩ dL_files_119 (fun locs hL => ?_)
            refine lv_istore (lv' := [(9, .int (iI (w4))), (8, .int (iI (0))), (7, .int (iI (0))), (6, .int (iI ((nx σ : Int)))), (5, .int (iI (1))), (4, .int (iI ((k : Int)))), (3, .int (iI ((-6)))), (0, .ref (x)), (1, .int (iI (how))), (2, .int (v))]) E.1 E.2.1 dL_files_122 hl (by decide) rfl (fun ls hl => ?_)
            have J141_4 : ∀ (v141 : Int) (hv141 : (v141 = 1 ∧ (w4 = 0 ∨ w4 = 41)) ∨ (v141 = 0 ∧ 1 ≤ w4 ∧ w4 ≤ 40)) (ls : Array Slot) (locs : List Loc) (hl : lv_has ls 14 [(9, .int (iI (w4))), (8, .int (iI (0))), (7, .int (iI (0))), (6, .int (iI ((nx σ : Int)))), (5, .int (iI (1))), (4, .int (iI ((k : Int)))), (3, .int (iI ((-6)))), (0, .ref (x)), (1, .int (iI (how))), (2, .int (v))]) (hL : Lk G locs), W p l e ({ frames := 5, cells := 1, slots := 3, locals := 118 } : Room) s m args below meth c s.heap locs 0 0 (QQ G below args s ({ frames := 5, cells := 1, slots := 3, locals := 118 } : Room) (WE (iI 1) (fun H H1 => ∃ τ hs1 tx1 len1, VS τ ∧ VH hs1 ∧ TxOk tx1 len1 ∧ AC σ hs τ hs1 ∧ XP G x fb fl τ hs1 tx1 len1 H H1))) (F0 m 141 ls [.int (iI (v141))]) := by
              intro v141 hv141 ls locs hl hL
              refine lv_istore (lv' := [(10, .int (iI (v141))), (9, .int (iI (w4))), (8, .int (iI (0))), (7, .int (iI (0))), (6, .int (iI ((nx σ : Int)))), (5, .int (iI (1))), (4, .int (iI ((k : Int)))), (3, .int (iI ((-6)))), (0, .ref (x)), (1, .int (iI (how))), (2, .int (v))]) E.1 E.2.1 dL_files_141 hl (by decide) rfl (fun ls hl => ?_)
              refine lv_iload E.1 E.2.1 dL_files_143 (lv_at hl 5 rfl) ?_
              refine r_if_eq (tgt := 152) E dL_files_145 (by decide) (by omega) (fun c145 => absurd c145 (by omega)) (fun c145 => ?_)
              refine r_const E dL_files_148 ?_
              refine lv_goto (tgt := 158) E.1 E.2.1 dL_files_149 (by decide) ?_
              refine lv_istore (lv' := [(11, .int (iI (0))), (10, .int (iI (v141))), (9, .int (iI (w4))), (8, .int (iI (0))), (7, .int (iI (0))), (6, .int (iI ((nx σ : Int)))), (5, .int (iI (1))), (4, .int (iI ((k : Int)))), (3, .int (iI ((-6)))), (0, .ref (x)), (1, .int (iI (how))), (2, .int (v))]) E.1 E.2.1 dL_files_158 hl (by decide) rfl (fun ls hl => ?_)
              have J187_5 : ∀ (v187 : Int) (hv187 : (v187 = 1 ∧ False) ∨ (v187 = 0 ∧ True)) (ls : Array Slot) (locs : List Loc) (hl : lv_has ls 14 [(11, .int (iI (0))), (10, .int (iI (v141))), (9, .int (iI (w4))), (8, .int (iI (0))), (7, .int (iI (0))), (6, .int (iI ((nx σ : Int)))), (5, .int (iI (1))), (4, .int (iI ((k : Int)))), (3, .int (iI ((-6)))), (0, .ref (x)), (1, .int (iI (how))), (2, .int (v))]) (hL : Lk G locs), W p l e ({ frames := 5, cells := 1, slots := 3, locals := 118 } : Room) s m args below meth c s.heap locs 0 0 (QQ G below args s ({ frames := 5, cells := 1, slots := 3, locals := 118 } : Room) (WE (iI 1) (fun H H1 => ∃ τ hs1 tx1 len1, VS τ ∧ VH hs1 ∧ TxOk tx1 len1 ∧ AC σ hs τ hs1 ∧ XP G x fb fl τ hs1 tx1 len1 H H1))) (F0 m 187 ls [.int (iI (v187))]) := by
                intro v187 hv187 ls locs hl hL
                refine lv_istore (lv' := [(12, .int (iI (v187))), (11, .int (iI (0))), (10, .int (iI (v141))), (9, .int (iI (w4))), (8, .int (iI (0))), (7, .int (iI (0))), (6, .int (iI ((nx σ : Int)))), (5, .int (iI (1))), (4, .int (iI ((k : Int)))), (3, .int (iI ((-6)))), (0, .ref (x)), (1, .int (iI (how))), (2, .int (v))]) E.1 E.2.1 dL_files_187 hl (by decide) rfl (fun ls hl => ?_)
                obtain ⟨z, hze⟩ : ∃ k : Nat, w4 = (k : Int) := ⟨w4.toNat, by omega⟩
                subst hze
                have hsp : (spWrite σ (k : Int) (z : Int)) = (-1, σ) := wr_e1 (by omega)
                refine lv_aload_n E.1 E.2.1 dL_files_189 rfl (lv_at hl 10 rfl) ?_
                refine lv_iload E.1 E.2.1 dL_files_190 (lv_at hl 8 rfl) ?_
                refine lv_iload E.1 E.2.1 dL_files_192 (lv_at hl 3 rfl) ?_
                refine kVWE (As := [.int (iI ((k : Int))), .int (iI ((z : Int)))]) E cw_L_119 (c_X5_write G l x fb fl σ hs tx len hI hT hfx hgx ((k : Int)) ((z : Int)) (by unfold okI; omega) (by unfold okI; omega)) hP.1.1 ⟨_, _, rfl⟩ ⟨hP.1, hP.2⟩ hL hl.1 rfl rfl (Nat.le_of_ble_eq_true rfl) ⟨Nat.le_of_ble_eq_true rfl, Nat.le_of_ble_eq_true rfl⟩ ⟨Nat.le_of_ble_eq_true rfl, Nat.le_of_ble_eq_true rfl⟩ dL_files_194 (fun H7 locs hL hw_ => ?_)
                obtain ⟨⟨fl1, hE1, hX1⟩, hR1⟩ := hw_
                have hV1 : VS (spWrite σ ((k : Int)) ((z : Int))).2 := hS.write ((k : Int)) ((z : Int))
                have hC1 : AC σ hs (spWrite σ ((k : Int)) ((z : Int))).2 (hsA σ hs (spWrite σ ((k : Int)) ((z : Int))).1) := ac_of (spWrite_b hI ((k : Int)) ((z : Int))).2.2
                have hD1 : VH (hsA σ hs (spWrite σ ((k : Int)) ((z : Int))).1) := VH.hs1 hS hH
                generalize hsA σ hs (spWrite σ ((k : Int)) ((z : Int))).1 = hs1 at hX1 hC1 hD1
                have hte : (spWrite σ (k : Int) (z : Int)).2 = σ := by rw [hsp]
                have hr1 : (spWrite σ ((k : Int)) ((z : Int))).1 = (-1) := by rw [hsp]
                rw [hr1]
                generalize (spWrite σ ((k : Int)) ((z : Int))).2 = τ at hX1 hV1 hC1 hte
                have hI1 := hV1.1
                have hz1 := FrR.size hR1 hP.2
                refine lv_istore (lv' := [(13, .int (iI ((-1)))), (12, .int (iI (v187))), (11, .int (iI (0))), (10, .int (iI (v141))), (9, .int (iI ((z : Int)))), (8, .int (iI (0))), (7, .int (iI (0))), (6, .int (iI ((nx σ : Int)))), (5, .int (iI (1))), (4, .int (iI ((k : Int)))), (3, .int (iI ((-6)))), (0, .ref (x)), (1, .int (iI (how))), (2, .int (v))]) E.1 E.2.1 dL_files_197 hl (by decide) rfl (fun ls hl => ?_)
                have hnx1 : nx τ = nx σ := by rw [hte]
                have hmn1 : mn τ = mn σ := by rw [hte]
                refine lv_iload E.1 E.2.1 dL_files_199 (lv_at hl 0 rfl) ?_
                refine lv_iload E.1 E.2.1 dL_files_201 (lv_at hl 8 rfl) ?_
                refine r_if_eq (tgt := 210) E dL_files_203 (by decide) (by omega) (fun c203 => absurd c203 (by omega)) (fun c203 => ?_)
                refine r_const E dL_files_206 ?_
                refine lv_goto (tgt := 241) E.1 E.2.1 dL_files_207 (by decide) ?_
                refine r_icmp_ne (tgt := 350) E dL_files_241 (by decide) (by omega) (by omega) (fun c241 => absurd c241 (by omega)) (fun c241 => ?_)
                refine lv_iload E.1 E.2.1 dL_files_244 (lv_at hl 0 rfl) ?_
                refine r_if_ge (tgt := 261) E dL_files_246 (by decide) (by omega) (fun c246 => absurd c246 (by omega)) (fun c246 => ?_)
                refine lv_aload_n E.1 E.2.1 dL_files_249 rfl (lv_at hl 11 rfl) ?_
                refine kVRE (As := []) E cw_L_13 (c_X5_next G l x fb fl1 τ hs1 tx len hI1 hT hfx hgx  ) hX1.1 ⟨_, _, rfl⟩ hX1 hL hl.1 rfl rfl (Nat.le_of_ble_eq_true rfl) ⟨Nat.le_of_ble_eq_true rfl, Nat.le_of_ble_eq_true rfl⟩ ⟨rfl, rfl⟩ ⟨Nat.le_of_ble_eq_true rfl, Nat.le_of_ble_eq_true rfl⟩ dL_files_250 (fun locs hL => ?_)
                refine lv_iload E.1 E.2.1 dL_files_253 (lv_at hl 7 rfl) ?_
                refine r_icmp_ne (tgt := 350) E dL_files_255 (by decide) (by omega) (by omega) (fun c255 => absurd c255 (by omega)) (fun c255 => ?_)
                refine lv_goto (tgt := 346) E.1 E.2.1 dL_files_258 (by decide) ?_
                refine r_const E dL_files_346 ?_
                refine lv_goto (tgt := 351) E.1 E.2.1 dL_files_347 (by decide) ?_
                refine W.widen (k := 1) (n := 3) (Nat.le_of_ble_eq_true rfl) (Nat.le_of_ble_eq_true rfl) ?_
                refine e_zret (rm := ({ frames := 5, cells := 1, slots := 3, locals := 118 } : Room)) (v := iI (1)) E hL rfl dL_files_351 ?_
                exact ⟨rfl, _, _, _, _, hV1, hD1, hT, hC1, ⟨_, hE1, hX1⟩, hR1⟩
              refine lv_iload_n E.1 E.2.1 dL_files_160 rfl (lv_at hl 8 rfl) ?_
              refine r_if_lt (tgt := 186) E dL_files_161 (by decide) (by omega) (fun c161 => ?_) (fun c161 => absurd c161 (by omega))
              refine r_const E dL_files_186 ?_
              exact J187_5 _ (Or.inr ⟨rfl, trivial⟩) ls locs (lv_sub hl [0, 1, 2, 3, 4, 5, 6, 7, 8, 9, 10, 11] rfl) hL
            refine lv_iload E.1 E.2.1 dL_files_124 (lv_at hl 0 rfl) ?_
            refine r_if_eq (tgt := 136) E dL_files_126 (by decide) (by omega) (fun c126 => ?_) (fun c126 => ?_)
            · refine r_const E dL_files_136 ?_
              refine lv_goto (tgt := 141) E.1 E.2.1 dL_files_137 (by decide) ?_
              exact J141_4 _ (by omega) ls locs (lv_sub hl [0, 1, 2, 3, 4, 5, 6, 7, 8, 9] rfl) hL
            · refine lv_iload E.1 E.2.1 dL_files_129 (lv_at hl 0 rfl) ?_
              refine r_bipush E dL_files_131 (by decide) ?_
              refine r_icmp_ne (tgt := 140) E dL_files_133 (by decide) (by omega) (by omega) (fun c133 => ?_) (fun c133 => ?_)
              · refine r_const E dL_files_140 ?_
                exact J141_4 _ (by omega) ls locs (lv_sub hl [0, 1, 2, 3, 4, 5, 6, 7, 8, 9] rfl) hL
              · refine r_const E dL_files_136 ?_
                refine lv_goto (tgt := 141) E.1 E.2.1 dL_files_137 (by decide) ?_
                exact J141_4 _ (by omega) ls locs (lv_sub hl [0, 1, 2, 3, 4, 5, 6, 7, 8, 9] rfl) hL
          refine lv_iload_n E.1 E.2.1 dL_files_101 rfl (lv_at hl 8 rfl) ?_
          refine r_bipush E dL_files_102 (by decide) ?_
          refine lv_ishr E.1 E.2.1 dL_files_104 ?_
          refine r_const E dL_files_105 ?_
          obtain ⟨w4, hw4⟩ : ∃ z : Int, lowI (((v) >>> ((iI (16)) &&& 31))) (3) = z := ⟨_, rfl⟩
          have hw4b : 0 ≤ w4 ∧ w4 < (3) := by rw [← hw4]; exact low_b _ (by omega)
          have hw4c := c_L_low G l (((v) >>> ((iI (16)) &&& 31))) (3) (by omega)
          rw [hw4] at hw4c
          refine kSRE (As := [.int (((v) >>> ((iI (16)) &&& 31))), .int (iI (3))]) E cw_L_72 hw4c trivial hL hl.1 rfl rfl (Nat.le_of_ble_eq_true rfl) ⟨Nat.le_of_ble_eq_true rfl, Nat.le_of_ble_eq_true rfl⟩ ⟨rfl, rfl⟩ ⟨Nat.le_of_ble_eq_true rfl, Nat.le_of_ble_eq_true rfl⟩ dL_files_106 (fun locs hL => ?_)
          refine r_if_ne (tgt := 117) E dL_files_109 (by decide) (by omega) (fun c109 => ?_) (fun c109 => ?_)
          · refine r_bipush E dL_files_117 (by decide) ?_
            exact J119_2 _ (by omega) ls locs (lv_sub hl [0, 1, 2, 3, 4, 5, 6, 7, 8] rfl) hL
          · refine r_bipush E dL_files_112 (by decide) ?_
            refine lv_goto (tgt := 119) E.1 E.2.1 dL_files_114 (by decide) ?_
            exact J119_2 _ (by omega) ls locs (lv_sub hl [0, 1, 2, 3, 4, 5, 6, 7, 8] rfl) hL
      · have hvr := vr_row hS hno
        refine lv_iload E.1 E.2.1 dL_files_29 (lv_at hl 0 rfl) ?_
        refine r_bipush E dL_files_31 (by decide) ?_
        refine r_icmp_ne (tgt := 40) E dL_files_33 (by decide) (by omega) (by omega) (fun c33 => ?_) (fun c33 => absurd c33 (by omega))
        refine r_const E dL_files_40 ?_
        refine lv_istore (lv' := [(5, .int (iI (0))), (4, .int (iI ((k : Int)))), (3, .int (iI ((-6)))), (0, .ref (x)), (1, .int (iI (how))), (2, .int (v))]) E.1 E.2.1 dL_files_41 hl (by decide) rfl (fun ls hl => ?_)
        refine lv_aload_n E.1 E.2.1 dL_files_43 rfl (lv_at hl 3 rfl) ?_
        refine kVRE (As := []) E cw_L_13 (c_X5_next G l x fb fl σ hs tx len hI hT hfx hgx  ) hP.1.1 ⟨_, _, rfl⟩ hP.1 hL hl.1 rfl rfl (Nat.le_of_ble_eq_true rfl) ⟨Nat.le_of_ble_eq_true rfl, Nat.le_of_ble_eq_true rfl⟩ ⟨rfl, rfl⟩ ⟨Nat.le_of_ble_eq_true rfl, Nat.le_of_ble_eq_true rfl⟩ dL_files_44 (fun locs hL => ?_)
        refine lv_istore (lv' := [(6, .int (iI ((nx σ : Int)))), (5, .int (iI (0))), (4, .int (iI ((k : Int)))), (3, .int (iI ((-6)))), (0, .ref (x)), (1, .int (iI (how))), (2, .int (v))]) E.1 E.2.1 dL_files_47 hl (by decide) rfl (fun ls hl => ?_)
        refine lv_iload_n E.1 E.2.1 dL_files_49 rfl (lv_at hl 3 rfl) ?_
        refine r_if_lt (tgt := 75) E dL_files_50 (by decide) (by omega) (fun c50 => ?_) (fun c50 => absurd c50 (by omega))
        refine r_const E dL_files_75 ?_
        refine lv_istore (lv' := [(7, .int (iI (0))), (6, .int (iI ((nx σ : Int)))), (5, .int (iI (0))), (4, .int (iI ((k : Int)))), (3, .int (iI ((-6)))), (0, .ref (x)), (1, .int (iI (how))), (2, .int (v))]) E.1 E.2.1 dL_files_76 hl (by decide) rfl (fun ls hl => ?_)
        refine lv_iload_n E.1 E.2.1 dL_files_78 rfl (lv_at hl 4 rfl) ?_
        refine r_if_ge (tgt := 86) E dL_files_79 (by decide) (by omega) (fun c79 => absurd c79 (by omega)) (fun c79 => ?_)
        refine r_const E dL_files_82 ?_
        refine lv_goto (tgt := 92) E.1 E.2.1 dL_files_83 (by decide) ?_
        refine lv_istore (lv' := [(8, .int (iI (0))), (7, .int (iI (0))), (6, .int (iI ((nx σ : Int)))), (5, .int (iI (0))), (4, .int (iI ((k : Int)))), (3, .int (iI ((-6)))), (0, .ref (x)), (1, .int (iI (how))), (2, .int (v))]) E.1 E.2.1 dL_files_92 hl (by decide) rfl (fun ls hl => ?_)
        refine lv_iload_n E.1 E.2.1 dL_files_94 rfl (lv_at hl 7 rfl) ?_
        refine r_if_ne (tgt := 352) E dL_files_95 (by decide) (by omega) (fun c95 => ?_) (fun c95 => ?_)
        · refine lv_iload_n E.1 E.2.1 dL_files_352 rfl (lv_at hl 7 rfl) ?_
          refine r_const E dL_files_353 ?_
          refine r_icmp_ne (tgt := 426) E dL_files_354 (by decide) (by omega) (by omega) (fun c354 => ?_) (fun c354 => ?_)
          · refine lv_iload_n E.1 E.2.1 dL_files_426 rfl (lv_at hl 8 rfl) ?_
            refine r_const E dL_files_427 ?_
            refine lv_ishr E.1 E.2.1 dL_files_428 ?_
            refine lv_aload_n E.1 E.2.1 dL_files_429 rfl (lv_at hl 6 rfl) ?_
            refine kVRE (As := []) E cw_L_26 (c_X5_sessions G l x fb fl σ hs tx len hI hT hfx hgx  ) hP.1.1 ⟨_, _, rfl⟩ hP.1 hL hl.1 rfl rfl (Nat.le_of_ble_eq_true rfl) ⟨Nat.le_of_ble_eq_true rfl, Nat.le_of_ble_eq_true rfl⟩ ⟨rfl, rfl⟩ ⟨Nat.le_of_ble_eq_true rfl, Nat.le_of_ble_eq_true rfl⟩ dL_files_430 (fun locs hL => ?_)
            refine r_const E dL_files_433 ?_
            refine r_add E dL_files_434 ?_
            obtain ⟨w3, hw3⟩ : ∃ z : Int, lowI (((v) >>> ((iI (4)) &&& 31))) ((mn σ : Int) + 1) = z := ⟨_, rfl⟩
            have hw3b : 0 ≤ w3 ∧ w3 < ((mn σ : Int) + 1) := by rw [← hw3]; exact low_b _ (by omega)
            have hw3c := c_L_low G l (((v) >>> ((iI (4)) &&& 31))) ((mn σ : Int) + 1) (by omega)
            rw [hw3] at hw3c
            refine kSRE (As := [.int (((v) >>> ((iI (4)) &&& 31))), .int (iI ((mn σ : Int) + 1))]) E cw_L_72 hw3c trivial hL hl.1 rfl rfl (Nat.le_of_ble_eq_true rfl) ⟨Nat.le_of_ble_eq_true rfl, Nat.le_of_ble_eq_true rfl⟩ ⟨rfl, rfl⟩ ⟨Nat.le_of_ble_eq_true rfl, Nat.le_of_ble_eq_true rfl⟩ dL_files_435 (fun locs hL => ?_)
            refine lv_istore (lv' := [(9, .int (iI (w3))), (8, .int (iI (0))), (7, .int (iI (0))), (6, .int (iI ((nx σ : Int)))), (5, .int (iI (0))), (4, .int (iI ((k : Int)))), (3, .int (iI ((-6)))), (0, .ref (x)), (1, .int (iI (how))), (2, .int (v))]) E.1 E.2.1 dL_files_438 hl (by decide) rfl (fun ls hl => ?_)
            obtain ⟨m9, hm9e⟩ : ∃ k : Nat, w3 = (k : Int) := ⟨w3.toNat, by omega⟩
            subst hm9e
            rcases (show m9 = mn σ ∨ m9 < mn σ by omega) with hm9 | hm9
            · have hsp : (spKeep σ (k : Int) (m9 : Int)) = (-1, σ) := kp_e1 (by omega)
              refine lv_iload_n E.1 E.2.1 dL_files_440 rfl (lv_at hl 6 rfl) ?_
              refine r_if_lt (tgt := 488) E dL_files_441 (by decide) (by omega) (fun c441 => ?_) (fun c441 => absurd c441 (by omega))
              refine r_const E dL_files_488 ?_
              refine lv_istore (lv' := [(10, .int (iI (0))), (9, .int (iI ((m9 : Int)))), (8, .int (iI (0))), (7, .int (iI (0))), (6, .int (iI ((nx σ : Int)))), (5, .int (iI (0))), (4, .int (iI ((k : Int)))), (3, .int (iI ((-6)))), (0, .ref (x)), (1, .int (iI (how))), (2, .int (v))]) E.1 E.2.1 dL_files_489 hl (by decide) rfl (fun ls hl => ?_)
              refine lv_aload_n E.1 E.2.1 dL_files_491 rfl (lv_at hl 8 rfl) ?_
              refine lv_iload E.1 E.2.1 dL_files_492 (lv_at hl 6 rfl) ?_
              refine lv_iload E.1 E.2.1 dL_files_494 (lv_at hl 1 rfl) ?_
              refine kVWE (As := [.int (iI ((k : Int))), .int (iI ((m9 : Int)))]) E cw_L_125 (c_X5_keep G l x fb fl σ hs tx len hI hT hfx hgx ((k : Int)) ((m9 : Int)) (by unfold okI; omega) (by unfold okI; omega)) hP.1.1 ⟨_, _, rfl⟩ ⟨hP.1, hP.2⟩ hL hl.1 rfl rfl (Nat.le_of_ble_eq_true rfl) ⟨Nat.le_of_ble_eq_true rfl, Nat.le_of_ble_eq_true rfl⟩ ⟨Nat.le_of_ble_eq_true rfl, Nat.le_of_ble_eq_true rfl⟩ dL_files_496 (fun H4 locs hL hw_ => ?_)
              obtain ⟨⟨fl1, hE1, hX1⟩, hR1⟩ := hw_
              have hV1 : VS (spKeep σ ((k : Int)) ((m9 : Int))).2 := hS.keep ((k : Int)) ((m9 : Int))
              have hC1 : AC σ hs (spKeep σ ((k : Int)) ((m9 : Int))).2 (hsA σ hs (spKeep σ ((k : Int)) ((m9 : Int))).1) := ac_of (spKeep_b hI ((k : Int)) ((m9 : Int))).2.2
              have hD1 : VH (hsA σ hs (spKeep σ ((k : Int)) ((m9 : Int))).1) := VH.hs1 hS hH
              generalize hsA σ hs (spKeep σ ((k : Int)) ((m9 : Int))).1 = hs1 at hX1 hC1 hD1
              have hte : (spKeep σ (k : Int) (m9 : Int)).2 = σ := by rw [hsp]
              have hr1 : (spKeep σ ((k : Int)) ((m9 : Int))).1 = (-1) := by rw [hsp]
              rw [hr1]
              generalize (spKeep σ ((k : Int)) ((m9 : Int))).2 = τ at hX1 hV1 hC1 hte
              have hI1 := hV1.1
              have hz1 := FrR.size hR1 hP.2
              refine lv_istore (lv' := [(11, .int (iI ((-1)))), (10, .int (iI (0))), (9, .int (iI ((m9 : Int)))), (8, .int (iI (0))), (7, .int (iI (0))), (6, .int (iI ((nx σ : Int)))), (5, .int (iI (0))), (4, .int (iI ((k : Int)))), (3, .int (iI ((-6)))), (0, .ref (x)), (1, .int (iI (how))), (2, .int (v))]) E.1 E.2.1 dL_files_499 hl (by decide) rfl (fun ls hl => ?_)
              have hnx1 : nx τ = nx σ := by rw [hte]
              have hmn1 : mn τ = mn σ := by rw [hte]
              refine lv_iload E.1 E.2.1 dL_files_501 (lv_at hl 0 rfl) ?_
              refine lv_iload E.1 E.2.1 dL_files_503 (lv_at hl 6 rfl) ?_
              refine r_if_ne (tgt := 517) E dL_files_505 (by decide) (by omega) (fun c505 => absurd c505 (by omega)) (fun c505 => ?_)
              refine lv_iload E.1 E.2.1 dL_files_508 (lv_at hl 2 rfl) ?_
              refine lv_aload_n E.1 E.2.1 dL_files_510 rfl (lv_at hl 9 rfl) ?_
              refine kVRE (As := []) E cw_L_26 (c_X5_sessions G l x fb fl1 τ hs1 tx len hI1 hT hfx hgx  ) hX1.1 ⟨_, _, rfl⟩ hX1 hL hl.1 rfl rfl (Nat.le_of_ble_eq_true rfl) ⟨Nat.le_of_ble_eq_true rfl, Nat.le_of_ble_eq_true rfl⟩ ⟨rfl, rfl⟩ ⟨Nat.le_of_ble_eq_true rfl, Nat.le_of_ble_eq_true rfl⟩ dL_files_511 (fun locs hL => ?_)
              refine r_icmp_ne (tgt := 521) E dL_files_514 (by decide) (by omega) (by omega) (fun c514 => absurd c514 (by omega)) (fun c514 => ?_)
              refine r_const E dL_files_517 ?_
              refine lv_goto (tgt := 540) E.1 E.2.1 dL_files_518 (by decide) ?_
              refine r_icmp_ne (tgt := 607) E dL_files_540 (by decide) (by omega) (by omega) (fun c540 => absurd c540 (by omega)) (fun c540 => ?_)
              refine lv_iload E.1 E.2.1 dL_files_543 (lv_at hl 0 rfl) ?_
              refine r_if_lt (tgt := 603) E dL_files_545 (by decide) (by omega) (fun c545 => ?_) (fun c545 => absurd c545 (by omega))
              refine r_const E dL_files_603 ?_
              refine lv_goto (tgt := 608) E.1 E.2.1 dL_files_604 (by decide) ?_
              refine W.widen (k := 1) (n := 3) (Nat.le_of_ble_eq_true rfl) (Nat.le_of_ble_eq_true rfl) ?_
              refine e_zret (rm := ({ frames := 5, cells := 1, slots := 3, locals := 118 } : Room)) (v := iI (1)) E hL rfl dL_files_608 ?_
              exact ⟨rfl, _, _, _, _, hV1, hD1, hT, hC1, ⟨_, hE1, hX1⟩, hR1⟩
            · have hsp : (spKeep σ (k : Int) (m9 : Int)) = (-5, σ) := kp_e2 (by omega) (by omega) hop
              refine lv_iload_n E.1 E.2.1 dL_files_440 rfl (lv_at hl 6 rfl) ?_
              refine r_if_lt (tgt := 488) E dL_files_441 (by decide) (by omega) (fun c441 => ?_) (fun c441 => absurd c441 (by omega))
              refine r_const E dL_files_488 ?_
              refine lv_istore (lv' := [(10, .int (iI (0))), (9, .int (iI ((m9 : Int)))), (8, .int (iI (0))), (7, .int (iI (0))), (6, .int (iI ((nx σ : Int)))), (5, .int (iI (0))), (4, .int (iI ((k : Int)))), (3, .int (iI ((-6)))), (0, .ref (x)), (1, .int (iI (how))), (2, .int (v))]) E.1 E.2.1 dL_files_489 hl (by decide) rfl (fun ls hl => ?_)
              refine lv_aload_n E.1 E.2.1 dL_files_491 rfl (lv_at hl 8 rfl) ?_
              refine lv_iload E.1 E.2.1 dL_files_492 (lv_at hl 6 rfl) ?_
              refine lv_iload E.1 E.2.1 dL_files_494 (lv_at hl 1 rfl) ?_
              refine kVWE (As := [.int (iI ((k : Int))), .int (iI ((m9 : Int)))]) E cw_L_125 (c_X5_keep G l x fb fl σ hs tx len hI hT hfx hgx ((k : Int)) ((m9 : Int)) (by unfold okI; omega) (by unfold okI; omega)) hP.1.1 ⟨_, _, rfl⟩ ⟨hP.1, hP.2⟩ hL hl.1 rfl rfl (Nat.le_of_ble_eq_true rfl) ⟨Nat.le_of_ble_eq_true rfl, Nat.le_of_ble_eq_true rfl⟩ ⟨Nat.le_of_ble_eq_true rfl, Nat.le_of_ble_eq_true rfl⟩ dL_files_496 (fun H4 locs hL hw_ => ?_)
              obtain ⟨⟨fl1, hE1, hX1⟩, hR1⟩ := hw_
              have hV1 : VS (spKeep σ ((k : Int)) ((m9 : Int))).2 := hS.keep ((k : Int)) ((m9 : Int))
              have hC1 : AC σ hs (spKeep σ ((k : Int)) ((m9 : Int))).2 (hsA σ hs (spKeep σ ((k : Int)) ((m9 : Int))).1) := ac_of (spKeep_b hI ((k : Int)) ((m9 : Int))).2.2
              have hD1 : VH (hsA σ hs (spKeep σ ((k : Int)) ((m9 : Int))).1) := VH.hs1 hS hH
              generalize hsA σ hs (spKeep σ ((k : Int)) ((m9 : Int))).1 = hs1 at hX1 hC1 hD1
              have hte : (spKeep σ (k : Int) (m9 : Int)).2 = σ := by rw [hsp]
              have hr1 : (spKeep σ ((k : Int)) ((m9 : Int))).1 = (-5) := by rw [hsp]
              rw [hr1]
              generalize (spKeep σ ((k : Int)) ((m9 : Int))).2 = τ at hX1 hV1 hC1 hte
              have hI1 := hV1.1
              have hz1 := FrR.size hR1 hP.2
              refine lv_istore (lv' := [(11, .int (iI ((-5)))), (10, .int (iI (0))), (9, .int (iI ((m9 : Int)))), (8, .int (iI (0))), (7, .int (iI (0))), (6, .int (iI ((nx σ : Int)))), (5, .int (iI (0))), (4, .int (iI ((k : Int)))), (3, .int (iI ((-6)))), (0, .ref (x)), (1, .int (iI (how))), (2, .int (v))]) E.1 E.2.1 dL_files_499 hl (by decide) rfl (fun ls hl => ?_)
              have hnx1 : nx τ = nx σ := by rw [hte]
              have hmn1 : mn τ = mn σ := by rw [hte]
              refine lv_iload E.1 E.2.1 dL_files_501 (lv_at hl 0 rfl) ?_
              refine lv_iload E.1 E.2.1 dL_files_503 (lv_at hl 6 rfl) ?_
              refine r_if_ne (tgt := 517) E dL_files_505 (by decide) (by omega) (fun c505 => absurd c505 (by omega)) (fun c505 => ?_)
              refine lv_iload E.1 E.2.1 dL_files_508 (lv_at hl 2 rfl) ?_
              refine lv_aload_n E.1 E.2.1 dL_files_510 rfl (lv_at hl 9 rfl) ?_
              refine kVRE (As := []) E cw_L_26 (c_X5_sessions G l x fb fl1 τ hs1 tx len hI1 hT hfx hgx  ) hX1.1 ⟨_, _, rfl⟩ hX1 hL hl.1 rfl rfl (Nat.le_of_ble_eq_true rfl) ⟨Nat.le_of_ble_eq_true rfl, Nat.le_of_ble_eq_true rfl⟩ ⟨rfl, rfl⟩ ⟨Nat.le_of_ble_eq_true rfl, Nat.le_of_ble_eq_true rfl⟩ dL_files_511 (fun locs hL => ?_)
              refine r_icmp_ne (tgt := 521) E dL_files_514 (by decide) (by omega) (by omega) (fun c514 => ?_) (fun c514 => absurd c514 (by omega))
              refine lv_iload E.1 E.2.1 dL_files_521 (lv_at hl 1 rfl) ?_
              refine r_if_ne (tgt := 531) E dL_files_523 (by decide) (by omega) (fun c523 => absurd c523 (by omega)) (fun c523 => ?_)
              refine r_bipush E dL_files_526 (by decide) ?_
              refine lv_goto (tgt := 540) E.1 E.2.1 dL_files_528 (by decide) ?_
              refine r_icmp_ne (tgt := 607) E dL_files_540 (by decide) (by omega) (by omega) (fun c540 => absurd c540 (by omega)) (fun c540 => ?_)
              refine lv_iload E.1 E.2.1 dL_files_543 (lv_at hl 0 rfl) ?_
              refine r_if_lt (tgt := 603) E dL_files_545 (by decide) (by omega) (fun c545 => ?_) (fun c545 => absurd c545 (by omega))
              refine r_const E dL_files_603 ?_
              refine lv_goto (tgt := 608) E.1 E.2.1 dL_files_604 (by decide) ?_
              refine W.widen (k := 1) (n := 3) (Nat.le_of_ble_eq_true rfl) (Nat.le_of_ble_eq_true rfl) ?_
              refine e_zret (rm := ({ frames := 5, cells := 1, slots := 3, locals := 118 } : Room)) (v := iI (1)) E hL rfl dL_files_608 ?_
              exact ⟨rfl, _, _, _, _, hV1, hD1, hT, hC1, ⟨_, hE1, hX1⟩, hR1⟩
          · have hsp : (spRemove σ (k : Int)) = (-5, σ) := rm_e2 (by omega) hop
            refine lv_aload_n E.1 E.2.1 dL_files_357 rfl (lv_at hl 6 rfl) ?_
            refine lv_iload E.1 E.2.1 dL_files_358 (lv_at hl 4 rfl) ?_
            refine kVWE (As := [.int (iI ((k : Int)))]) E cw_L_122 (c_X5_remove G l x fb fl σ hs tx len hI hT hfx hgx ((k : Int)) (by unfold okI; omega)) hP.1.1 ⟨_, _, rfl⟩ ⟨hP.1, hP.2⟩ hL hl.1 rfl rfl (Nat.le_of_ble_eq_true rfl) ⟨Nat.le_of_ble_eq_true rfl, Nat.le_of_ble_eq_true rfl⟩ ⟨Nat.le_of_ble_eq_true rfl, Nat.le_of_ble_eq_true rfl⟩ dL_files_360 (fun H3 locs hL hw_ => ?_)
            obtain ⟨⟨fl1, hE1, hX1⟩, hR1⟩ := hw_
            have hV1 : VS (spRemove σ ((k : Int))).2 := hS.remove ((k : Int))
            have hC1 : AC σ hs (spRemove σ ((k : Int))).2 (hsA σ hs (spRemove σ ((k : Int))).1) := ac_of (spRemove_b ((k : Int))).2.2
            have hD1 : VH (hsA σ hs (spRemove σ ((k : Int))).1) := VH.hs1 hS hH
            generalize hsA σ hs (spRemove σ ((k : Int))).1 = hs1 at hX1 hC1 hD1
            have hte : (spRemove σ (k : Int)).2 = σ := by rw [hsp]
            have hr1 : (spRemove σ ((k : Int))).1 = (-5) := by rw [hsp]
            rw [hr1]
            generalize (spRemove σ ((k : Int))).2 = τ at hX1 hV1 hC1 hte
            have hI1 := hV1.1
            have hz1 := FrR.size hR1 hP.2
            refine lv_istore (lv' := [(9, .int (iI ((-5)))), (8, .int (iI (0))), (7, .int (iI (0))), (6, .int (iI ((nx σ : Int)))), (5, .int (iI (0))), (4, .int (iI ((k : Int)))), (3, .int (iI ((-6)))), (0, .ref (x)), (1, .int (iI (how))), (2, .int (v))]) E.1 E.2.1 dL_files_363 hl (by decide) rfl (fun ls hl => ?_)
            have hnx1 : nx τ = nx σ := by rw [hte]
            have hmn1 : mn τ = mn σ := by rw [hte]
            refine lv_iload E.1 E.2.1 dL_files_365 (lv_at hl 0 rfl) ?_
            refine lv_iload E.1 E.2.1 dL_files_367 (lv_at hl 4 rfl) ?_
            refine r_if_eq (tgt := 376) E dL_files_369 (by decide) (by omega) (fun c369 => ?_) (fun c369 => absurd c369 (by omega))
            refine lv_iload E.1 E.2.1 dL_files_376 (lv_at hl 2 rfl) ?_
            refine r_if_ne (tgt := 386) E dL_files_378 (by decide) (by omega) (fun c378 => absurd c378 (by omega)) (fun c378 => ?_)
            refine r_bipush E dL_files_381 (by decide) ?_
            refine lv_goto (tgt := 390) E.1 E.2.1 dL_files_383 (by decide) ?_
            refine r_icmp_ne (tgt := 424) E dL_files_390 (by decide) (by omega) (by omega) (fun c390 => absurd c390 (by omega)) (fun c390 => ?_)
            refine lv_iload E.1 E.2.1 dL_files_393 (lv_at hl 0 rfl) ?_
            refine r_if_lt (tgt := 420) E dL_files_395 (by decide) (by omega) (fun c395 => ?_) (fun c395 => absurd c395 (by omega))
            refine r_const E dL_files_420 ?_
            refine lv_goto (tgt := 425) E.1 E.2.1 dL_files_421 (by decide) ?_
            refine W.widen (k := 1) (n := 3) (Nat.le_of_ble_eq_true rfl) (Nat.le_of_ble_eq_true rfl) ?_
            refine e_zret (rm := ({ frames := 5, cells := 1, slots := 3, locals := 118 } : Room)) (v := iI (1)) E hL rfl dL_files_425 ?_
            exact ⟨rfl, _, _, _, _, hV1, hD1, hT, hC1, ⟨_, hE1, hX1⟩, hR1⟩
        · refine lv_iload_n E.1 E.2.1 dL_files_98 rfl (lv_at hl 8 rfl) ?_
          refine r_const E dL_files_99 ?_
          refine lv_ishr E.1 E.2.1 dL_files_100 ?_
          have J119_2 : ∀ (v119 : Int) (hv119 : v119 = 42 ∨ v119 = 12) (ls : Array Slot) (locs : List Loc) (hl : lv_has ls 14 [(8, .int (iI (0))), (7, .int (iI (0))), (6, .int (iI ((nx σ : Int)))), (5, .int (iI (0))), (4, .int (iI ((k : Int)))), (3, .int (iI ((-6)))), (0, .ref (x)), (1, .int (iI (how))), (2, .int (v))]) (hL : Lk G locs), W p l e ({ frames := 5, cells := 1, slots := 3, locals := 118 } : Room) s m args below meth c s.heap locs 0 0 (QQ G below args s ({ frames := 5, cells := 1, slots := 3, locals := 118 } : Room) (WE (iI 1) (fun H H1 => ∃ τ hs1 tx1 len1, VS τ ∧ VH hs1 ∧ TxOk tx1 len1 ∧ AC σ hs τ hs1 ∧ XP G x fb fl τ hs1 tx1 len1 H H1))) (F0 m 119 ls [.int (iI (v119)), .int (((v) >>> ((iI (4)) &&& 31)))]) := by
            intro v119 hv119 ls locs hl hL
            obtain ⟨w4, hw4⟩ : ∃ z : Int, lowI (((v) >>> ((iI (4)) &&& 31))) (v119) = z := ⟨_, rfl⟩
            have hw4b : 0 ≤ w4 ∧ w4 < (v119) := by rw [← hw4]; exact low_b _ (by omega)
            have hw4c := c_L_low G l (((v) >>> ((iI (4)) &&& 31))) (v119) (by omega)
            rw [hw4] at hw4c
            refine kSRE (As := [.int (((v) >>> ((iI (4)) &&& 31))), .int (iI (v119))]) E cw_L_72 hw4c trivial hL hl.1 rfl rfl (Nat.le_of_ble_eq_true rfl) ⟨Nat.le_of_ble_eq_true rfl, Nat.le_of_ble_eq_true rfl⟩ ⟨rfl, rfl⟩ ⟨Nat.le_of_ble_eq_true rfl, Nat.le_of_ble_eq_true rfl⟩ dL_files_119 (fun locs hL => ?_)
            refine lv_istore (lv' := [(9, .int (iI (w4))), (8, .int (iI (0))), (7, .int (iI (0))), (6, .int (iI ((nx σ : Int)))), (5, .int (iI (0))), (4, .int (iI ((k : Int)))), (3, .int (iI ((-6)))), (0, .ref (x)), (1, .int (iI (how))), (2, .int (v))]) E.1 E.2.1 dL_files_122 hl (by decide) rfl (fun ls hl => ?_)
            have J141_4 : ∀ (v141 : Int) (hv141 : (v141 = 1 ∧ (w4 = 0 ∨ w4 = 41)) ∨ (v141 = 0 ∧ 1 ≤ w4 ∧ w4 ≤ 40)) (ls : Array Slot) (locs : List Loc) (hl : lv_has ls 14 [(9, .int (iI (w4))), (8, .int (iI (0))), (7, .int (iI (0))), (6, .int (iI ((nx σ : Int)))), (5, .int (iI (0))), (4, .int (iI ((k : Int)))), (3, .int (iI ((-6)))), (0, .ref (x)), (1, .int (iI (how))), (2, .int (v))]) (hL : Lk G locs), W p l e ({ frames := 5, cells := 1, slots := 3, locals := 118 } : Room) s m args below meth c s.heap locs 0 0 (QQ G below args s ({ frames := 5, cells := 1, slots := 3, locals := 118 } : Room) (WE (iI 1) (fun H H1 => ∃ τ hs1 tx1 len1, VS τ ∧ VH hs1 ∧ TxOk tx1 len1 ∧ AC σ hs τ hs1 ∧ XP G x fb fl τ hs1 tx1 len1 H H1))) (F0 m 141 ls [.int (iI (v141))]) := by
              intro v141 hv141 ls locs hl hL
              refine lv_istore (lv' := [(10, .int (iI (v141))), (9, .int (iI (w4))), (8, .int (iI (0))), (7, .int (iI (0))), (6, .int (iI ((nx σ : Int)))), (5, .int (iI (0))), (4, .int (iI ((k : Int)))), (3, .int (iI ((-6)))), (0, .ref (x)), (1, .int (iI (how))), (2, .int (v))]) E.1 E.2.1 dL_files_141 hl (by decide) rfl (fun ls hl => ?_)
              refine lv_iload E.1 E.2.1 dL_files_143 (lv_at hl 5 rfl) ?_
              refine r_if_eq (tgt := 152) E dL_files_145 (by decide) (by omega) (fun c145 => ?_) (fun c145 => absurd c145 (by omega))
              refine lv_aload_n E.1 E.2.1 dL_files_152 rfl (lv_at hl 8 rfl) ?_
              refine lv_iload E.1 E.2.1 dL_files_153 (lv_at hl 6 rfl) ?_
              refine kVRE (As := [.int (iI ((k : Int)))]) E cw_L_37 (c_X5_versions G l x fb fl σ hs tx len hI hT hfx hgx ((k : Int)) (by unfold okI; omega)) hP.1.1 ⟨_, _, rfl⟩ hP.1 hL hl.1 rfl rfl (Nat.le_of_ble_eq_true rfl) ⟨Nat.le_of_ble_eq_true rfl, Nat.le_of_ble_eq_true rfl⟩ ⟨rfl, rfl⟩ ⟨Nat.le_of_ble_eq_true rfl, Nat.le_of_ble_eq_true rfl⟩ dL_files_155 (fun locs hL => ?_)
              rw [spVer_v hno]
              refine lv_istore (lv' := [(11, .int (iI ((vr σ k : Int)))), (10, .int (iI (v141))), (9, .int (iI (w4))), (8, .int (iI (0))), (7, .int (iI (0))), (6, .int (iI ((nx σ : Int)))), (5, .int (iI (0))), (4, .int (iI ((k : Int)))), (3, .int (iI ((-6)))), (0, .ref (x)), (1, .int (iI (how))), (2, .int (v))]) E.1 E.2.1 dL_files_158 hl (by decide) rfl (fun ls hl => ?_)
              have J187_5 : ∀ (v187 : Int) (hv187 : (v187 = 1 ∧ False) ∨ (v187 = 0 ∧ True)) (ls : Array Slot) (locs : List Loc) (hl : lv_has ls 14 [(11, .int (iI ((vr σ k : Int)))), (10, .int (iI (v141))), (9, .int (iI (w4))), (8, .int (iI (0))), (7, .int (iI (0))), (6, .int (iI ((nx σ : Int)))), (5, .int (iI (0))), (4, .int (iI ((k : Int)))), (3, .int (iI ((-6)))), (0, .ref (x)), (1, .int (iI (how))), (2, .int (v))]) (hL : Lk G locs), W p l e ({ frames := 5, cells := 1, slots := 3, locals := 118 } : Room) s m args below meth c s.heap locs 0 0 (QQ G below args s ({ frames := 5, cells := 1, slots := 3, locals := 118 } : Room) (WE (iI 1) (fun H H1 => ∃ τ hs1 tx1 len1, VS τ ∧ VH hs1 ∧ TxOk tx1 len1 ∧ AC σ hs τ hs1 ∧ XP G x fb fl τ hs1 tx1 len1 H H1))) (F0 m 187 ls [.int (iI (v187))]) := by
                intro v187 hv187 ls locs hl hL
                refine lv_istore (lv' := [(12, .int (iI (v187))), (11, .int (iI ((vr σ k : Int)))), (10, .int (iI (v141))), (9, .int (iI (w4))), (8, .int (iI (0))), (7, .int (iI (0))), (6, .int (iI ((nx σ : Int)))), (5, .int (iI (0))), (4, .int (iI ((k : Int)))), (3, .int (iI ((-6)))), (0, .ref (x)), (1, .int (iI (how))), (2, .int (v))]) E.1 E.2.1 dL_files_187 hl (by decide) rfl (fun ls hl => ?_)
                obtain ⟨z, hze⟩ : ∃ k : Nat, w4 = (k : Int) := ⟨w4.toNat, by omega⟩
                subst hze
                rcases hv141 with ⟨hq1, hq2⟩ | ⟨hq1, hq2⟩
                · have hsp : (spWrite σ (k : Int) (z : Int)) = (-2, σ) := wr_e2 (by omega) (by omega)
                  refine lv_aload_n E.1 E.2.1 dL_files_189 rfl (lv_at hl 10 rfl) ?_
                  refine lv_iload E.1 E.2.1 dL_files_190 (lv_at hl 8 rfl) ?_
                  refine lv_iload E.1 E.2.1 dL_files_192 (lv_at hl 3 rfl) ?_
                  refine kVWE (As := [.int (iI ((k : Int))), .int (iI ((z : Int)))]) E cw_L_119 (c_X5_write G l x fb fl σ hs tx len hI hT hfx hgx ((k : Int)) ((z : Int)) (by unfold okI; omega) (by unfold okI; omega)) hP.1.1 ⟨_, _, rfl⟩ ⟨hP.1, hP.2⟩ hL hl.1 rfl rfl (Nat.le_of_ble_eq_true rfl) ⟨Nat.le_of_ble_eq_true rfl, Nat.le_of_ble_eq_true rfl⟩ ⟨Nat.le_of_ble_eq_true rfl, Nat.le_of_ble_eq_true rfl⟩ dL_files_194 (fun H7 locs hL hw_ => ?_)
                  obtain ⟨⟨fl1, hE1, hX1⟩, hR1⟩ := hw_
                  have hV1 : VS (spWrite σ ((k : Int)) ((z : Int))).2 := hS.write ((k : Int)) ((z : Int))
                  have hC1 : AC σ hs (spWrite σ ((k : Int)) ((z : Int))).2 (hsA σ hs (spWrite σ ((k : Int)) ((z : Int))).1) := ac_of (spWrite_b hI ((k : Int)) ((z : Int))).2.2
                  have hD1 : VH (hsA σ hs (spWrite σ ((k : Int)) ((z : Int))).1) := VH.hs1 hS hH
                  generalize hsA σ hs (spWrite σ ((k : Int)) ((z : Int))).1 = hs1 at hX1 hC1 hD1
                  have hte : (spWrite σ (k : Int) (z : Int)).2 = σ := by rw [hsp]
                  have hr1 : (spWrite σ ((k : Int)) ((z : Int))).1 = (-2) := by rw [hsp]
                  rw [hr1]
                  generalize (spWrite σ ((k : Int)) ((z : Int))).2 = τ at hX1 hV1 hC1 hte
                  have hI1 := hV1.1
                  have hz1 := FrR.size hR1 hP.2
                  refine lv_istore (lv' := [(13, .int (iI ((-2)))), (12, .int (iI (v187))), (11, .int (iI ((vr σ k : Int)))), (10, .int (iI (v141))), (9, .int (iI ((z : Int)))), (8, .int (iI (0))), (7, .int (iI (0))), (6, .int (iI ((nx σ : Int)))), (5, .int (iI (0))), (4, .int (iI ((k : Int)))), (3, .int (iI ((-6)))), (0, .ref (x)), (1, .int (iI (how))), (2, .int (v))]) E.1 E.2.1 dL_files_197 hl (by decide) rfl (fun ls hl => ?_)
                  have hnx1 : nx τ = nx σ := by rw [hte]
                  have hmn1 : mn τ = mn σ := by rw [hte]
                  refine lv_iload E.1 E.2.1 dL_files_199 (lv_at hl 0 rfl) ?_
                  refine lv_iload E.1 E.2.1 dL_files_201 (lv_at hl 8 rfl) ?_
                  refine r_if_eq (tgt := 210) E dL_files_203 (by decide) (by omega) (fun c203 => ?_) (fun c203 => absurd c203 (by omega))
                  refine lv_iload E.1 E.2.1 dL_files_210 (lv_at hl 3 rfl) ?_
                  refine r_if_eq (tgt := 220) E dL_files_212 (by decide) (by omega) (fun c212 => absurd c212 (by omega)) (fun c212 => ?_)
                  refine r_bipush E dL_files_215 (by decide) ?_
                  refine lv_goto (tgt := 241) E.1 E.2.1 dL_files_217 (by decide) ?_
                  refine r_icmp_ne (tgt := 350) E dL_files_241 (by decide) (by omega) (by omega) (fun c241 => absurd c241 (by omega)) (fun c241 => ?_)
                  refine lv_iload E.1 E.2.1 dL_files_244 (lv_at hl 0 rfl) ?_
                  refine r_if_ge (tgt := 261) E dL_files_246 (by decide) (by omega) (fun c246 => absurd c246 (by omega)) (fun c246 => ?_)
                  refine lv_aload_n E.1 E.2.1 dL_files_249 rfl (lv_at hl 11 rfl) ?_
                  refine kVRE (As := []) E cw_L_13 (c_X5_next G l x fb fl1 τ hs1 tx len hI1 hT hfx hgx  ) hX1.1 ⟨_, _, rfl⟩ hX1 hL hl.1 rfl rfl (Nat.le_of_ble_eq_true rfl) ⟨Nat.le_of_ble_eq_true rfl, Nat.le_of_ble_eq_true rfl⟩ ⟨rfl, rfl⟩ ⟨Nat.le_of_ble_eq_true rfl, Nat.le_of_ble_eq_true rfl⟩ dL_files_250 (fun locs hL => ?_)
                  refine lv_iload E.1 E.2.1 dL_files_253 (lv_at hl 7 rfl) ?_
                  refine r_icmp_ne (tgt := 350) E dL_files_255 (by decide) (by omega) (by omega) (fun c255 => absurd c255 (by omega)) (fun c255 => ?_)
                  refine lv_goto (tgt := 346) E.1 E.2.1 dL_files_258 (by decide) ?_
                  refine r_const E dL_files_346 ?_
                  refine lv_goto (tgt := 351) E.1 E.2.1 dL_files_347 (by decide) ?_
                  refine W.widen (k := 1) (n := 3) (Nat.le_of_ble_eq_true rfl) (Nat.le_of_ble_eq_true rfl) ?_
                  refine e_zret (rm := ({ frames := 5, cells := 1, slots := 3, locals := 118 } : Room)) (v := iI (1)) E hL rfl dL_files_351 ?_
                  exact ⟨rfl, _, _, _, _, hV1, hD1, hT, hC1, ⟨_, hE1, hX1⟩, hR1⟩
                · have hsp : (spWrite σ (k : Int) (z : Int)) = (-5, σ) := wr_e3 (by omega) (by omega) hop
                  refine lv_aload_n E.1 E.2.1 dL_files_189 rfl (lv_at hl 10 rfl) ?_
                  refine lv_iload E.1 E.2.1 dL_files_190 (lv_at hl 8 rfl) ?_
                  refine lv_iload E.1 E.2.1 dL_files_192 (lv_at hl 3 rfl) ?_
                  refine kVWE (As := [.int (iI ((k : Int))), .int (iI ((z : Int)))]) E cw_L_119 (c_X5_write G l x fb fl σ hs tx len hI hT hfx hgx ((k : Int)) ((z : Int)) (by unfold okI; omega) (by unfold okI; omega)) hP.1.1 ⟨_, _, rfl⟩ ⟨hP.1, hP.2⟩ hL hl.1 rfl rfl (Nat.le_of_ble_eq_true rfl) ⟨Nat.le_of_ble_eq_true rfl, Nat.le_of_ble_eq_true rfl⟩ ⟨Nat.le_of_ble_eq_true rfl, Nat.le_of_ble_eq_true rfl⟩ dL_files_194 (fun H7 locs hL hw_ => ?_)
                  obtain ⟨⟨fl1, hE1, hX1⟩, hR1⟩ := hw_
                  have hV1 : VS (spWrite σ ((k : Int)) ((z : Int))).2 := hS.write ((k : Int)) ((z : Int))
                  have hC1 : AC σ hs (spWrite σ ((k : Int)) ((z : Int))).2 (hsA σ hs (spWrite σ ((k : Int)) ((z : Int))).1) := ac_of (spWrite_b hI ((k : Int)) ((z : Int))).2.2
                  have hD1 : VH (hsA σ hs (spWrite σ ((k : Int)) ((z : Int))).1) := VH.hs1 hS hH
                  generalize hsA σ hs (spWrite σ ((k : Int)) ((z : Int))).1 = hs1 at hX1 hC1 hD1
                  have hte : (spWrite σ (k : Int) (z : Int)).2 = σ := by rw [hsp]
                  have hr1 : (spWrite σ ((k : Int)) ((z : Int))).1 = (-5) := by rw [hsp]
                  rw [hr1]
                  generalize (spWrite σ ((k : Int)) ((z : Int))).2 = τ at hX1 hV1 hC1 hte
                  have hI1 := hV1.1
                  have hz1 := FrR.size hR1 hP.2
                  refine lv_istore (lv' := [(13, .int (iI ((-5)))), (12, .int (iI (v187))), (11, .int (iI ((vr σ k : Int)))), (10, .int (iI (v141))), (9, .int (iI ((z : Int)))), (8, .int (iI (0))), (7, .int (iI (0))), (6, .int (iI ((nx σ : Int)))), (5, .int (iI (0))), (4, .int (iI ((k : Int)))), (3, .int (iI ((-6)))), (0, .ref (x)), (1, .int (iI (how))), (2, .int (v))]) E.1 E.2.1 dL_files_197 hl (by decide) rfl (fun ls hl => ?_)
                  have hnx1 : nx τ = nx σ := by rw [hte]
                  have hmn1 : mn τ = mn σ := by rw [hte]
                  refine lv_iload E.1 E.2.1 dL_files_199 (lv_at hl 0 rfl) ?_
                  refine lv_iload E.1 E.2.1 dL_files_201 (lv_at hl 8 rfl) ?_
                  refine r_if_eq (tgt := 210) E dL_files_203 (by decide) (by omega) (fun c203 => ?_) (fun c203 => absurd c203 (by omega))
                  refine lv_iload E.1 E.2.1 dL_files_210 (lv_at hl 3 rfl) ?_
                  refine r_if_eq (tgt := 220) E dL_files_212 (by decide) (by omega) (fun c212 => ?_) (fun c212 => absurd c212 (by omega))
                  refine lv_iload_n E.1 E.2.1 dL_files_220 rfl (lv_at hl 10 rfl) ?_
                  refine r_if_ge (tgt := 229) E dL_files_221 (by decide) (by omega) (fun c221 => absurd c221 (by omega)) (fun c221 => ?_)
                  refine r_bipush E dL_files_224 (by decide) ?_
                  refine lv_goto (tgt := 241) E.1 E.2.1 dL_files_226 (by decide) ?_
                  refine r_icmp_ne (tgt := 350) E dL_files_241 (by decide) (by omega) (by omega) (fun c241 => absurd c241 (by omega)) (fun c241 => ?_)
                  refine lv_iload E.1 E.2.1 dL_files_244 (lv_at hl 0 rfl) ?_
                  refine r_if_ge (tgt := 261) E dL_files_246 (by decide) (by omega) (fun c246 => absurd c246 (by omega)) (fun c246 => ?_)
                  refine lv_aload_n E.1 E.2.1 dL_files_249 rfl (lv_at hl 11 rfl) ?_
                  refine kVRE (As := []) E cw_L_13 (c_X5_next G l x fb fl1 τ hs1 tx len hI1 hT hfx hgx  ) hX1.1 ⟨_, _, rfl⟩ hX1 hL hl.1 rfl rfl (Nat.le_of_ble_eq_true rfl) ⟨Nat.le_of_ble_eq_true rfl, Nat.le_of_ble_eq_true rfl⟩ ⟨rfl, rfl⟩ ⟨Nat.le_of_ble_eq_true rfl, Nat.le_of_ble_eq_true rfl⟩ dL_files_250 (fun locs hL => ?_)
                  refine lv_iload E.1 E.2.1 dL_files_253 (lv_at hl 7 rfl) ?_
                  refine r_icmp_ne (tgt := 350) E dL_files_255 (by decide) (by omega) (by omega) (fun c255 => absurd c255 (by omega)) (fun c255 => ?_)
                  refine lv_goto (tgt := 346) E.1 E.2.1 dL_files_258 (by decide) ?_
                  refine r_const E dL_files_346 ?_
                  refine lv_goto (tgt := 351) E.1 E.2.1 dL_files_347 (by decide) ?_
                  refine W.widen (k := 1) (n := 3) (Nat.le_of_ble_eq_true rfl) (Nat.le_of_ble_eq_true rfl) ?_
                  refine e_zret (rm := ({ frames := 5, cells := 1, slots := 3, locals := 118 } : Room)) (v := iI (1)) E hL rfl dL_files_351 ?_
                  exact ⟨rfl, _, _, _, _, hV1, hD1, hT, hC1, ⟨_, hE1, hX1⟩, hR1⟩
              refine lv_iload_n E.1 E.2.1 dL_files_160 rfl (lv_at hl 8 rfl) ?_
              refine r_if_lt (tgt := 186) E dL_files_161 (by decide) (by omega) (fun c161 => ?_) (fun c161 => absurd c161 (by omega))
              refine r_const E dL_files_186 ?_
              exact J187_5 _ (Or.inr ⟨rfl, trivial⟩) ls locs (lv_sub hl [0, 1, 2, 3, 4, 5, 6, 7, 8, 9, 10, 11] rfl) hL
            refine lv_iload E.1 E.2.1 dL_files_124 (lv_at hl 0 rfl) ?_
            refine r_if_eq (tgt := 136) E dL_files_126 (by decide) (by omega) (fun c126 => ?_) (fun c126 => ?_)
            · refine r_const E dL_files_136 ?_
              refine lv_goto (tgt := 141) E.1 E.2.1 dL_files_137 (by decide) ?_
              exact J141_4 _ (by omega) ls locs (lv_sub hl [0, 1, 2, 3, 4, 5, 6, 7, 8, 9] rfl) hL
            · refine lv_iload E.1 E.2.1 dL_files_129 (lv_at hl 0 rfl) ?_
              refine r_bipush E dL_files_131 (by decide) ?_
              refine r_icmp_ne (tgt := 140) E dL_files_133 (by decide) (by omega) (by omega) (fun c133 => ?_) (fun c133 => ?_)
              · refine r_const E dL_files_140 ?_
                exact J141_4 _ (by omega) ls locs (lv_sub hl [0, 1, 2, 3, 4, 5, 6, 7, 8, 9] rfl) hL
              · refine r_const E dL_files_136 ?_
                refine lv_goto (tgt := 141) E.1 E.2.1 dL_files_137 (by decide) ?_
                exact J141_4 _ (by omega) ls locs (lv_sub hl [0, 1, 2, 3, 4, 5, 6, 7, 8, 9] rfl) hL
          refine lv_iload_n E.1 E.2.1 dL_files_101 rfl (lv_at hl 8 rfl) ?_
          refine r_bipush E dL_files_102 (by decide) ?_
          refine lv_ishr E.1 E.2.1 dL_files_104 ?_
          refine r_const E dL_files_105 ?_
          obtain ⟨w4, hw4⟩ : ∃ z : Int, lowI (((v) >>> ((iI (16)) &&& 31))) (3) = z := ⟨_, rfl⟩
          have hw4b : 0 ≤ w4 ∧ w4 < (3) := by rw [← hw4]; exact low_b _ (by omega)
          have hw4c := c_L_low G l (((v) >>> ((iI (16)) &&& 31))) (3) (by omega)
          rw [hw4] at hw4c
          refine kSRE (As := [.int (((v) >>> ((iI (16)) &&& 31))), .int (iI (3))]) E cw_L_72 hw4c trivial hL hl.1 rfl rfl (Nat.le_of_ble_eq_true rfl) ⟨Nat.le_of_ble_eq_true rfl, Nat.le_of_ble_eq_true rfl⟩ ⟨rfl, rfl⟩ ⟨Nat.le_of_ble_eq_true rfl, Nat.le_of_ble_eq_true rfl⟩ dL_files_106 (fun locs hL => ?_)
          refine r_if_ne (tgt := 117) E dL_files_109 (by decide) (by omega) (fun c109 => ?_) (fun c109 => ?_)
          · refine r_bipush E dL_files_117 (by decide) ?_
            exact J119_2 _ (by omega) ls locs (lv_sub hl [0, 1, 2, 3, 4, 5, 6, 7, 8] rfl) hL
          · refine r_bipush E dL_files_112 (by decide) ?_
            refine lv_goto (tgt := 119) E.1 E.2.1 dL_files_114 (by decide) ?_
            exact J119_2 _ (by omega) ls locs (lv_sub hl [0, 1, 2, 3, 4, 5, 6, 7, 8] rfl) hL
    refine lv_iload_n E.1 E.2.1 dL_files_6 rfl (lv_at hl 3 rfl) ?_
    refine r_bipush E dL_files_7 (by decide) ?_
    refine lv_ishr E.1 E.2.1 dL_files_9 ?_
    refine r_const E dL_files_10 ?_
    obtain ⟨w2, hw2⟩ : ∃ z : Int, lowI (((v) >>> ((iI (15)) &&& 31))) (5) = z := ⟨_, rfl⟩
    have hw2b : 0 ≤ w2 ∧ w2 < (5) := by rw [← hw2]; exact low_b _ (by omega)
    have hw2c := c_L_low G l (((v) >>> ((iI (15)) &&& 31))) (5) (by omega)
    rw [hw2] at hw2c
    refine kSRE (As := [.int (((v) >>> ((iI (15)) &&& 31))), .int (iI (5))]) E cw_L_72 hw2c trivial hL hl.1 rfl rfl (Nat.le_of_ble_eq_true rfl) ⟨Nat.le_of_ble_eq_true rfl, Nat.le_of_ble_eq_true rfl⟩ ⟨rfl, rfl⟩ ⟨Nat.le_of_ble_eq_true rfl, Nat.le_of_ble_eq_true rfl⟩ dL_files_11 (fun locs hL => ?_)
    refine r_if_ne (tgt := 22) E dL_files_14 (by decide) (by omega) (fun c14 => ?_) (fun c14 => ?_)
    · refine r_bipush E dL_files_22 (by decide) ?_
      exact J24_0 _ (by omega) ls locs (lv_sub hl [0, 1, 2, 3] rfl) hL
    · refine r_bipush E dL_files_17 (by decide) ?_
      refine lv_goto (tgt := 24) E.1 E.2.1 dL_files_19 (by decide) ?_
      exact J24_0 _ (by omega) ls locs (lv_sub hl [0, 1, 2, 3] rfl) hL
  · rw [show oI (some n) = (n : Int) from rfl]
    have hn := opn_some hop
    have hnm : n < mn σ := by omega
    have hrow := hI.row hnm
    have henl := entN_le σ n
    refine lv_istore_n (lv' := [(3, .int (iI ((n : Int)))), (0, .ref (x)), (1, .int (iI (how))), (2, .int (v))]) E.1 E.2.1 dL_files_4 rfl hl (by decide) rfl (fun ls hl => ?_)
    refine lv_iload_n E.1 E.2.1 dL_files_5 rfl (lv_at hl 3 rfl) ?_
    have J24_0 : ∀ (v24 : Int) (hv24 : v24 = 21 ∨ v24 = 6) (ls : Array Slot) (locs : List Loc) (hl : lv_has ls 14 [(3, .int (iI ((n : Int)))), (0, .ref (x)), (1, .int (iI (how))), (2, .int (v))]) (hL : Lk G locs), W p l e ({ frames := 5, cells := 1, slots := 3, locals := 118 } : Room) s m args below meth c s.heap locs 0 0 (QQ G below args s ({ frames := 5, cells := 1, slots := 3, locals := 118 } : Room) (WE (iI 1) (fun H H1 => ∃ τ hs1 tx1 len1, VS τ ∧ VH hs1 ∧ TxOk tx1 len1 ∧ AC σ hs τ hs1 ∧ XP G x fb fl τ hs1 tx1 len1 H H1))) (F0 m 24 ls [.int (iI (v24)), .int (v)]) := by
      intro v24 hv24 ls locs hl hL
      obtain ⟨w2, hw2⟩ : ∃ z : Int, lowI (v) (v24) = z := ⟨_, rfl⟩
      have hw2b : 0 ≤ w2 ∧ w2 < (v24) := by rw [← hw2]; exact low_b _ (by omega)
      have hw2c := c_L_low G l (v) (v24) (by omega)
      rw [hw2] at hw2c
      refine kSRE (As := [.int (v), .int (iI (v24))]) E cw_L_72 hw2c trivial hL hl.1 rfl rfl (Nat.le_of_ble_eq_true rfl) ⟨Nat.le_of_ble_eq_true rfl, Nat.le_of_ble_eq_true rfl⟩ ⟨rfl, rfl⟩ ⟨Nat.le_of_ble_eq_true rfl, Nat.le_of_ble_eq_true rfl⟩ dL_files_24 (fun locs hL => ?_)
      refine lv_istore (lv' := [(4, .int (iI (w2))), (3, .int (iI ((n : Int)))), (0, .ref (x)), (1, .int (iI (how))), (2, .int (v))]) E.1 E.2.1 dL_files_27 hl (by decide) rfl (fun ls hl => ?_)
      have hk20 : w2 ≤ 20 := by omega
      obtain ⟨k, hke⟩ : ∃ k : Nat, w2 = (k : Int) := ⟨w2.toNat, by omega⟩
      subst hke
      rcases (show (k : Int) = 20 ∨ k < 20 by omega) with hno | hno
      · have h20 := hno
        refine lv_iload E.1 E.2.1 dL_files_29 (lv_at hl 0 rfl) ?_
        refine r_bipush E dL_files_31 (by decide) ?_
        refine r_icmp_ne (tgt := 40) E dL_files_33 (by decide) (by omega) (by omega) (fun c33 => absurd c33 (by omega)) (fun c33 => ?_)
        refine r_const E dL_files_36 ?_
        refine lv_goto (tgt := 41) E.1 E.2.1 dL_files_37 (by decide) ?_
        refine lv_istore (lv' := [(5, .int (iI (1))), (4, .int (iI ((k : Int)))), (3, .int (iI ((n : Int)))), (0, .ref (x)), (1, .int (iI (how))), (2, .int (v))]) E.1 E.2.1 dL_files_41 hl (by decide) rfl (fun ls hl => ?_)
        refine lv_aload_n E.1 E.2.1 dL_files_43 rfl (lv_at hl 3 rfl) ?_
        refine kVRE (As := []) E cw_L_13 (c_X5_next G l x fb fl σ hs tx len hI hT hfx hgx  ) hP.1.1 ⟨_, _, rfl⟩ hP.1 hL hl.1 rfl rfl (Nat.le_of_ble_eq_true rfl) ⟨Nat.le_of_ble_eq_true rfl, Nat.le_of_ble_eq_true rfl⟩ ⟨rfl, rfl⟩ ⟨Nat.le_of_ble_eq_true rfl, Nat.le_of_ble_eq_true rfl⟩ dL_files_44 (fun locs hL => ?_)
        refine lv_istore (lv' := [(6, .int (iI ((nx σ : Int)))), (5, .int (iI (1))), (4, .int (iI ((k : Int)))), (3, .int (iI ((n : Int)))), (0, .ref (x)), (1, .int (iI (how))), (2, .int (v))]) E.1 E.2.1 dL_files_47 hl (by decide) rfl (fun ls hl => ?_)
        refine lv_iload_n E.1 E.2.1 dL_files_49 rfl (lv_at hl 3 rfl) ?_
        refine r_if_lt (tgt := 75) E dL_files_50 (by decide) (by omega) (fun c50 => absurd c50 (by omega)) (fun c50 => ?_)
        refine lv_iload E.1 E.2.1 dL_files_53 (lv_at hl 1 rfl) ?_
        refine r_if_ne (tgt := 75) E dL_files_55 (by decide) (by omega) (fun c55 => ?_) (fun c55 => absurd c55 (by omega))
        refine r_const E dL_files_75 ?_
        refine lv_istore (lv' := [(7, .int (iI (0))), (6, .int (iI ((nx σ : Int)))), (5, .int (iI (1))), (4, .int (iI ((k : Int)))), (3, .int (iI ((n : Int)))), (0, .ref (x)), (1, .int (iI (how))), (2, .int (v))]) E.1 E.2.1 dL_files_76 hl (by decide) rfl (fun ls hl => ?_)
        refine lv_iload_n E.1 E.2.1 dL_files_78 rfl (lv_at hl 4 rfl) ?_
        refine r_if_ge (tgt := 86) E dL_files_79 (by decide) (by omega) (fun c79 => ?_) (fun c79 => absurd c79 (by omega))
        refine lv_aload_n E.1 E.2.1 dL_files_86 rfl (lv_at hl 5 rfl) ?_
        refine lv_iload_n E.1 E.2.1 dL_files_87 rfl (lv_at hl 4 rfl) ?_
        refine r_const E dL_files_88 ?_
        refine kVRE (As := [.int (iI ((n : Int))), .int (iI (5))]) E cw_L_29 (c_X5_session G l x fb fl σ hs tx len hI hT hfx hgx ((n : Int)) (5) (by unfold okI; omega) (by unfold okI; omega)) hP.1.1 ⟨_, _, rfl⟩ hP.1 hL hl.1 rfl rfl (Nat.le_of_ble_eq_true rfl) ⟨Nat.le_of_ble_eq_true rfl, Nat.le_of_ble_eq_true rfl⟩ ⟨rfl, rfl⟩ ⟨Nat.le_of_ble_eq_true rfl, Nat.le_of_ble_eq_true rfl⟩ dL_files_89 (fun locs hL => ?_)
        rw [spSes5 hnm]
        refine lv_istore (lv' := [(8, .int (iI ((entriesN σ n : Int)))), (7, .int (iI (0))), (6, .int (iI ((nx σ : Int)))), (5, .int (iI (1))), (4, .int (iI ((k : Int)))), (3, .int (iI ((n : Int)))), (0, .ref (x)), (1, .int (iI (how))), (2, .int (v))]) E.1 E.2.1 dL_files_92 hl (by decide) rfl (fun ls hl => ?_)
        refine lv_iload_n E.1 E.2.1 dL_files_94 rfl (lv_at hl 7 rfl) ?_
        refine r_if_ne (tgt := 352) E dL_files_95 (by decide) (by omega) (fun c95 => ?_) (fun c95 => ?_)
        · refine lv_iload_n E.1 E.2.1 dL_files_352 rfl (lv_at hl 7 rfl) ?_
          refine r_const E dL_files_353 ?_
          refine r_icmp_ne (tgt := 426) E dL_files_354 (by decide) (by omega) (by omega) (fun c354 => ?_) (fun c354 => ?_)
          · refine lv_iload_n E.1 E.2.1 dL_files_426 rfl (lv_at hl 8 rfl) ?_
            refine r_const E dL_files_427 ?_
            refine lv_ishr E.1 E.2.1 dL_files_428 ?_
            refine lv_aload_n E.1 E.2.1 dL_files_429 rfl (lv_at hl 6 rfl) ?_
            refine kVRE (As := []) E cw_L_26 (c_X5_sessions G l x fb fl σ hs tx len hI hT hfx hgx  ) hP.1.1 ⟨_, _, rfl⟩ hP.1 hL hl.1 rfl rfl (Nat.le_of_ble_eq_true rfl) ⟨Nat.le_of_ble_eq_true rfl, Nat.le_of_ble_eq_true rfl⟩ ⟨rfl, rfl⟩ ⟨Nat.le_of_ble_eq_true rfl, Nat.le_of_ble_eq_true rfl⟩ dL_files_430 (fun locs hL => ?_)
            refine r_const E dL_files_433 ?_
            refine r_add E dL_files_434 ?_
            obtain ⟨w3, hw3⟩ : ∃ z : Int, lowI (((v) >>> ((iI (4)) &&& 31))) ((mn σ : Int) + 1) = z := ⟨_, rfl⟩
            have hw3b : 0 ≤ w3 ∧ w3 < ((mn σ : Int) + 1) := by rw [← hw3]; exact low_b _ (by omega)
            have hw3c := c_L_low G l (((v) >>> ((iI (4)) &&& 31))) ((mn σ : Int) + 1) (by omega)
            rw [hw3] at hw3c
            refine kSRE (As := [.int (((v) >>> ((iI (4)) &&& 31))), .int (iI ((mn σ : Int) + 1))]) E cw_L_72 hw3c trivial hL hl.1 rfl rfl (Nat.le_of_ble_eq_true rfl) ⟨Nat.le_of_ble_eq_true rfl, Nat.le_of_ble_eq_true rfl⟩ ⟨rfl, rfl⟩ ⟨Nat.le_of_ble_eq_true rfl, Nat.le_of_ble_eq_true rfl⟩ dL_files_435 (fun locs hL => ?_)
            refine lv_istore (lv' := [(9, .int (iI (w3))), (8, .int (iI ((entriesN σ n : Int)))), (7, .int (iI (0))), (6, .int (iI ((nx σ : Int)))), (5, .int (iI (1))), (4, .int (iI ((k : Int)))), (3, .int (iI ((n : Int)))), (0, .ref (x)), (1, .int (iI (how))), (2, .int (v))]) E.1 E.2.1 dL_files_438 hl (by decide) rfl (fun ls hl => ?_)
            obtain ⟨m9, hm9e⟩ : ∃ k : Nat, w3 = (k : Int) := ⟨w3.toNat, by omega⟩
            subst hm9e
            have hsp : (spKeep σ (k : Int) (m9 : Int)) = (-1, σ) := kp_e1 (by omega)
            refine lv_iload_n E.1 E.2.1 dL_files_440 rfl (lv_at hl 6 rfl) ?_
            refine r_if_lt (tgt := 488) E dL_files_441 (by decide) (by omega) (fun c441 => absurd c441 (by omega)) (fun c441 => ?_)
            refine lv_iload E.1 E.2.1 dL_files_444 (lv_at hl 0 rfl) ?_
            refine lv_aload_n E.1 E.2.1 dL_files_446 rfl (lv_at hl 7 rfl) ?_
            refine kVRE (As := []) E cw_L_26 (c_X5_sessions G l x fb fl σ hs tx len hI hT hfx hgx  ) hP.1.1 ⟨_, _, rfl⟩ hP.1 hL hl.1 rfl rfl (Nat.le_of_ble_eq_true rfl) ⟨Nat.le_of_ble_eq_true rfl, Nat.le_of_ble_eq_true rfl⟩ ⟨rfl, rfl⟩ ⟨Nat.le_of_ble_eq_true rfl, Nat.le_of_ble_eq_true rfl⟩ dL_files_447 (fun locs hL => ?_)
            refine r_icmp_ge (tgt := 488) E dL_files_450 (by decide) (by omega) (by omega) (fun c450 => ?_) (fun c450 => ?_)
            · refine r_const E dL_files_488 ?_
              refine lv_istore (lv' := [(10, .int (iI (0))), (9, .int (iI ((m9 : Int)))), (8, .int (iI ((entriesN σ n : Int)))), (7, .int (iI (0))), (6, .int (iI ((nx σ : Int)))), (5, .int (iI (1))), (4, .int (iI ((k : Int)))), (3, .int (iI ((n : Int)))), (0, .ref (x)), (1, .int (iI (how))), (2, .int (v))]) E.1 E.2.1 dL_files_489 hl (by decide) rfl (fun ls hl => ?_)
              refine lv_aload_n E.1 E.2.1 dL_files_491 rfl (lv_at hl 8 rfl) ?_
              refine lv_iload E.1 E.2.1 dL_files_492 (lv_at hl 6 rfl) ?_
              refine lv_iload E.1 E.2.1 dL_files_494 (lv_at hl 1 rfl) ?_
              refine kVWE (As := [.int (iI ((k : Int))), .int (iI ((m9 : Int)))]) E cw_L_125 (c_X5_keep G l x fb fl σ hs tx len hI hT hfx hgx ((k : Int)) ((m9 : Int)) (by unfold okI; omega) (by unfold okI; omega)) hP.1.1 ⟨_, _, rfl⟩ ⟨hP.1, hP.2⟩ hL hl.1 rfl rfl (Nat.le_of_ble_eq_true rfl) ⟨Nat.le_of_ble_eq_true rfl, Nat.le_of_ble_eq_true rfl⟩ ⟨Nat.le_of_ble_eq_true rfl, Nat.le_of_ble_eq_true rfl⟩ dL_files_496 (fun H4 locs hL hw_ => ?_)
              obtain ⟨⟨fl1, hE1, hX1⟩, hR1⟩ := hw_
              have hV1 : VS (spKeep σ ((k : Int)) ((m9 : Int))).2 := hS.keep ((k : Int)) ((m9 : Int))
              have hC1 : AC σ hs (spKeep σ ((k : Int)) ((m9 : Int))).2 (hsA σ hs (spKeep σ ((k : Int)) ((m9 : Int))).1) := ac_of (spKeep_b hI ((k : Int)) ((m9 : Int))).2.2
              have hD1 : VH (hsA σ hs (spKeep σ ((k : Int)) ((m9 : Int))).1) := VH.hs1 hS hH
              generalize hsA σ hs (spKeep σ ((k : Int)) ((m9 : Int))).1 = hs1 at hX1 hC1 hD1
              have hte : (spKeep σ (k : Int) (m9 : Int)).2 = σ := by rw [hsp]
              have hr1 : (spKeep σ ((k : Int)) ((m9 : Int))).1 = (-1) := by rw [hsp]
              rw [hr1]
              generalize (spKeep σ ((k : Int)) ((m9 : Int))).2 = τ at hX1 hV1 hC1 hte
              have hI1 := hV1.1
              have hz1 := FrR.size hR1 hP.2
              refine lv_istore (lv' := [(11, .int (iI ((-1)))), (10, .int (iI (0))), (9, .int (iI ((m9 : Int)))), (8, .int (iI ((entriesN σ n : Int)))), (7, .int (iI (0))), (6, .int (iI ((nx σ : Int)))), (5, .int (iI (1))), (4, .int (iI ((k : Int)))), (3, .int (iI ((n : Int)))), (0, .ref (x)), (1, .int (iI (how))), (2, .int (v))]) E.1 E.2.1 dL_files_499 hl (by decide) rfl (fun ls hl => ?_)
              have hnx1 : nx τ = nx σ := by rw [hte]
              have hmn1 : mn τ = mn σ := by rw [hte]
              refine lv_iload E.1 E.2.1 dL_files_501 (lv_at hl 0 rfl) ?_
              refine lv_iload E.1 E.2.1 dL_files_503 (lv_at hl 6 rfl) ?_
              refine r_if_ne (tgt := 517) E dL_files_505 (by decide) (by omega) (fun c505 => ?_) (fun c505 => absurd c505 (by omega))
              refine r_const E dL_files_517 ?_
              refine lv_goto (tgt := 540) E.1 E.2.1 dL_files_518 (by decide) ?_
              refine r_icmp_ne (tgt := 607) E dL_files_540 (by decide) (by omega) (by omega) (fun c540 => absurd c540 (by omega)) (fun c540 => ?_)
              refine lv_iload E.1 E.2.1 dL_files_543 (lv_at hl 0 rfl) ?_
              refine r_if_lt (tgt := 603) E dL_files_545 (by decide) (by omega) (fun c545 => ?_) (fun c545 => absurd c545 (by omega))
              refine r_const E dL_files_603 ?_
              refine lv_goto (tgt := 608) E.1 E.2.1 dL_files_604 (by decide) ?_
              refine W.widen (k := 1) (n := 3) (Nat.le_of_ble_eq_true rfl) (Nat.le_of_ble_eq_true rfl) ?_
              refine e_zret (rm := ({ frames := 5, cells := 1, slots := 3, locals := 118 } : Room)) (v := iI (1)) E hL rfl dL_files_608 ?_
              exact ⟨rfl, _, _, _, _, hV1, hD1, hT, hC1, ⟨_, hE1, hX1⟩, hR1⟩
            · refine lv_iload E.1 E.2.1 dL_files_453 (lv_at hl 4 rfl) ?_
              refine r_if_ne (tgt := 488) E dL_files_455 (by decide) (by omega) (fun c455 => ?_) (fun c455 => absurd c455 (by omega))
              refine r_const E dL_files_488 ?_
              refine lv_istore (lv' := [(10, .int (iI (0))), (9, .int (iI ((m9 : Int)))), (8, .int (iI ((entriesN σ n : Int)))), (7, .int (iI (0))), (6, .int (iI ((nx σ : Int)))), (5, .int (iI (1))), (4, .int (iI ((k : Int)))), (3, .int (iI ((n : Int)))), (0, .ref (x)), (1, .int (iI (how))), (2, .int (v))]) E.1 E.2.1 dL_files_489 hl (by decide) rfl (fun ls hl => ?_)
              refine lv_aload_n E.1 E.2.1 dL_files_491 rfl (lv_at hl 8 rfl) ?_
              refine lv_iload E.1 E.2.1 dL_files_492 (lv_at hl 6 rfl) ?_
              refine lv_iload E.1 E.2.1 dL_files_494 (lv_at hl 1 rfl) ?_
              refine kVWE (As := [.int (iI ((k : Int))), .int (iI ((m9 : Int)))]) E cw_L_125 (c_X5_keep G l x fb fl σ hs tx len hI hT hfx hgx ((k : Int)) ((m9 : Int)) (by unfold okI; omega) (by unfold okI; omega)) hP.1.1 ⟨_, _, rfl⟩ ⟨hP.1, hP.2⟩ hL hl.1 rfl rfl (Nat.le_of_ble_eq_true rfl) ⟨Nat.le_of_ble_eq_true rfl, Nat.le_of_ble_eq_true rfl⟩ ⟨Nat.le_of_ble_eq_true rfl, Nat.le_of_ble_eq_true rfl⟩ dL_files_496 (fun H4 locs hL hw_ => ?_)
              obtain ⟨⟨fl1, hE1, hX1⟩, hR1⟩ := hw_
              have hV1 : VS (spKeep σ ((k : Int)) ((m9 : Int))).2 := hS.keep ((k : Int)) ((m9 : Int))
              have hC1 : AC σ hs (spKeep σ ((k : Int)) ((m9 : Int))).2 (hsA σ hs (spKeep σ ((k : Int)) ((m9 : Int))).1) := ac_of (spKeep_b hI ((k : Int)) ((m9 : Int))).2.2
              have hD1 : VH (hsA σ hs (spKeep σ ((k : Int)) ((m9 : Int))).1) := VH.hs1 hS hH
              generalize hsA σ hs (spKeep σ ((k : Int)) ((m9 : Int))).1 = hs1 at hX1 hC1 hD1
              have hte : (spKeep σ (k : Int) (m9 : Int)).2 = σ := by rw [hsp]
              have hr1 : (spKeep σ ((k : Int)) ((m9 : Int))).1 = (-1) := by rw [hsp]
              rw [hr1]
              generalize (spKeep σ ((k : Int)) ((m9 : Int))).2 = τ at hX1 hV1 hC1 hte
              have hI1 := hV1.1
              have hz1 := FrR.size hR1 hP.2
              refine lv_istore (lv' := [(11, .int (iI ((-1)))), (10, .int (iI (0))), (9, .int (iI ((m9 : Int)))), (8, .int (iI ((entriesN σ n : Int)))), (7, .int (iI (0))), (6, .int (iI ((nx σ : Int)))), (5, .int (iI (1))), (4, .int (iI ((k : Int)))), (3, .int (iI ((n : Int)))), (0, .ref (x)), (1, .int (iI (how))), (2, .int (v))]) E.1 E.2.1 dL_files_499 hl (by decide) rfl (fun ls hl => ?_)
              have hnx1 : nx τ = nx σ := by rw [hte]
              have hmn1 : mn τ = mn σ := by rw [hte]
              refine lv_iload E.1 E.2.1 dL_files_501 (lv_at hl 0 rfl) ?_
              refine lv_iload E.1 E.2.1 dL_files_503 (lv_at hl 6 rfl) ?_
              refine r_if_ne (tgt := 517) E dL_files_505 (by decide) (by omega) (fun c505 => ?_) (fun c505 => absurd c505 (by omega))
              refine r_const E dL_files_517 ?_
              refine lv_goto (tgt := 540) E.1 E.2.1 dL_files_518 (by decide) ?_
              refine r_icmp_ne (tgt := 607) E dL_files_540 (by decide) (by omega) (by omega) (fun c540 => absurd c540 (by omega)) (fun c540 => ?_)
              refine lv_iload E.1 E.2.1 dL_files_543 (lv_at hl 0 rfl) ?_
              refine r_if_lt (tgt := 603) E dL_files_545 (by decide) (by omega) (fun c545 => ?_) (fun c545 => absurd c545 (by omega))
              refine r_const E dL_files_603 ?_
              refine lv_goto (tgt := 608) E.1 E.2.1 dL_files_604 (by decide) ?_
              refine W.widen (k := 1) (n := 3) (Nat.le_of_ble_eq_true rfl) (Nat.le_of_ble_eq_true rfl) ?_
              refine e_zret (rm := ({ frames := 5, cells := 1, slots := 3, locals := 118 } : Room)) (v := iI (1)) E hL rfl dL_files_608 ?_
              exact ⟨rfl, _, _, _, _, hV1, hD1, hT, hC1, ⟨_, hE1, hX1⟩, hR1⟩
          · have hsp : (spRemove σ (k : Int)) = (-1, σ) := rm_e1 (by omega)
            refine lv_aload_n E.1 E.2.1 dL_files_357 rfl (lv_at hl 6 rfl) ?_
            refine lv_iload E.1 E.2.1 dL_files_358 (lv_at hl 4 rfl) ?_
            refine kVWE (As := [.int (iI ((k : Int)))]) E cw_L_122 (c_X5_remove G l x fb fl σ hs tx len hI hT hfx hgx ((k : Int)) (by unfold okI; omega)) hP.1.1 ⟨_, _, rfl⟩ ⟨hP.1, hP.2⟩ hL hl.1 rfl rfl (Nat.le_of_ble_eq_true rfl) ⟨Nat.le_of_ble_eq_true rfl, Nat.le_of_ble_eq_true rfl⟩ ⟨Nat.le_of_ble_eq_true rfl, Nat.le_of_ble_eq_true rfl⟩ dL_files_360 (fun H3 locs hL hw_ => ?_)
            obtain ⟨⟨fl1, hE1, hX1⟩, hR1⟩ := hw_
            have hV1 : VS (spRemove σ ((k : Int))).2 := hS.remove ((k : Int))
            have hC1 : AC σ hs (spRemove σ ((k : Int))).2 (hsA σ hs (spRemove σ ((k : Int))).1) := ac_of (spRemove_b ((k : Int))).2.2
            have hD1 : VH (hsA σ hs (spRemove σ ((k : Int))).1) := VH.hs1 hS hH
            generalize hsA σ hs (spRemove σ ((k : Int))).1 = hs1 at hX1 hC1 hD1
            have hte : (spRemove σ (k : Int)).2 = σ := by rw [hsp]
            have hr1 : (spRemove σ ((k : Int))).1 = (-1) := by rw [hsp]
            rw [hr1]
            generalize (spRemove σ ((k : Int))).2 = τ at hX1 hV1 hC1 hte
            have hI1 := hV1.1
            have hz1 := FrR.size hR1 hP.2
            refine lv_istore (lv' := [(9, .int (iI ((-1)))), (8, .int (iI ((entriesN σ n : Int)))), (7, .int (iI (0))), (6, .int (iI ((nx σ : Int)))), (5, .int (iI (1))), (4, .int (iI ((k : Int)))), (3, .int (iI ((n : Int)))), (0, .ref (x)), (1, .int (iI (how))), (2, .int (v))]) E.1 E.2.1 dL_files_363 hl (by decide) rfl (fun ls hl => ?_)
            have hnx1 : nx τ = nx σ := by rw [hte]
            have hmn1 : mn τ = mn σ := by rw [hte]
            refine lv_iload E.1 E.2.1 dL_files_365 (lv_at hl 0 rfl) ?_
            refine lv_iload E.1 E.2.1 dL_files_367 (lv_at hl 4 rfl) ?_
            refine r_if_eq (tgt := 376) E dL_files_369 (by decide) (by omega) (fun c369 => absurd c369 (by omega)) (fun c369 => ?_)
            refine r_const E dL_files_372 ?_
            refine lv_goto (tgt := 390) E.1 E.2.1 dL_files_373 (by decide) ?_
            refine r_icmp_ne (tgt := 424) E dL_files_390 (by decide) (by omega) (by omega) (fun c390 => absurd c390 (by omega)) (fun c390 => ?_)
            refine lv_iload E.1 E.2.1 dL_files_393 (lv_at hl 0 rfl) ?_
            refine r_if_lt (tgt := 420) E dL_files_395 (by decide) (by omega) (fun c395 => ?_) (fun c395 => absurd c395 (by omega))
            refine r_const E dL_files_420 ?_
            refine lv_goto (tgt := 425) E.1 E.2.1 dL_files_421 (by decide) ?_
            refine W.widen (k := 1) (n := 3) (Nat.le_of_ble_eq_true rfl) (Nat.le_of_ble_eq_true rfl) ?_
            refine e_zret (rm := ({ frames := 5, cells := 1, slots := 3, locals := 118 } : Room)) (v := iI (1)) E hL rfl dL_files_425 ?_
            exact ⟨rfl, _, _, _, _, hV1, hD1, hT, hC1, ⟨_, hE1, hX1⟩, hR1⟩
        · refine lv_iload_n E.1 E.2.1 dL_files_98 rfl (lv_at hl 8 rfl) ?_
          refine r_const E dL_files_99 ?_
          refine lv_ishr E.1 E.2.1 dL_files_100 ?_
          have J119_2 : ∀ (v119 : Int) (hv119 : v119 = 42 ∨ v119 = 12) (ls : Array Slot) (locs : List Loc) (hl : lv_has ls 14 [(8, .int (iI ((entriesN σ n : Int)))), (7, .int (iI (0))), (6, .int (iI ((nx σ : Int)))), (5, .int (iI (1))), (4, .int (iI ((k : Int)))), (3, .int (iI ((n : Int)))), (0, .ref (x)), (1, .int (iI (how))), (2, .int (v))]) (hL : Lk G locs), W p l e ({ frames := 5, cells := 1, slots := 3, locals := 118 } : Room) s m args below meth c s.heap locs 0 0 (QQ G below args s ({ frames := 5, cells := 1, slots := 3, locals := 118 } : Room) (WE (iI 1) (fun H H1 => ∃ τ hs1 tx1 len1, VS τ ∧ VH hs1 ∧ TxOk tx1 len1 ∧ AC σ hs τ hs1 ∧ XP G x fb fl τ hs1 tx1 len1 H H1))) (F0 m 119 ls [.int (iI (v119)), .int (((v) >>> ((iI (4)) &&& 31)))]) := by
            intro v119 hv119 ls locs hl hL
            obtain ⟨w4, hw4⟩ : ∃ z : Int, lowI (((v) >>> ((iI (4)) &&& 31))) (v119) = z := ⟨_, rfl⟩
            have hw4b : 0 ≤ w4 ∧ w4 < (v119) := by rw [← hw4]; exact low_b _ (by omega)
            have hw4c := c_L_low G l (((v) >>> ((iI (4)) &&& 31))) (v119) (by omega)
            rw [hw4] at hw4c
            refine kSRE (As := [.int (((v) >>> ((iI (4)) &&& 31))), .int (iI (v119))]) E cw_L_72 hw4c trivial hL hl.1 rfl rfl (Nat.le_of_ble_eq_true rfl) ⟨Nat.le_of_ble_eq_true rfl, Nat.le_of_ble_eq_true rfl⟩ ⟨rfl, rfl⟩ ⟨Nat.le_of_ble_eq_true rfl, Nat.le_of_ble_eq_true rfl⟩ dL_files_119 (fun locs hL => ?_)
            refine lv_istore (lv' := [(9, .int (iI (w4))), (8, .int (iI ((entriesN σ n : Int)))), (7, .int (iI (0))), (6, .int (iI ((nx σ : Int)))), (5, .int (iI (1))), (4, .int (iI ((k : Int)))), (3, .int (iI ((n : Int)))), (0, .ref (x)), (1, .int (iI (how))), (2, .int (v))]) E.1 E.2.1 dL_files_122 hl (by decide) rfl (fun ls hl => ?_)
            have J141_4 : ∀ (v141 : Int) (hv141 : (v141 = 1 ∧ (w4 = 0 ∨ w4 = 41)) ∨ (v141 = 0 ∧ 1 ≤ w4 ∧ w4 ≤ 40)) (ls : Array Slot) (locs : List Loc) (hl : lv_has ls 14 [(9, .int (iI (w4))), (8, .int (iI ((entriesN σ n : Int)))), (7, .int (iI (0))), (6, .int (iI ((nx σ : Int)))), (5, .int (iI (1))), (4, .int (iI ((k : Int)))), (3, .int (iI ((n : Int)))), (0, .ref (x)), (1, .int (iI (how))), (2, .int (v))]) (hL : Lk G locs), W p l e ({ frames := 5, cells := 1, slots := 3, locals := 118 } : Room) s m args below meth c s.heap locs 0 0 (QQ G below args s ({ frames := 5, cells := 1, slots := 3, locals := 118 } : Room) (WE (iI 1) (fun H H1 => ∃ τ hs1 tx1 len1, VS τ ∧ VH hs1 ∧ TxOk tx1 len1 ∧ AC σ hs τ hs1 ∧ XP G x fb fl τ hs1 tx1 len1 H H1))) (F0 m 141 ls [.int (iI (v141))]) := by
              intro v141 hv141 ls locs hl hL
              refine lv_istore (lv' := [(10, .int (iI (v141))), (9, .int (iI (w4))), (8, .int (iI ((entriesN σ n : Int)))), (7, .int (iI (0))), (6, .int (iI ((nx σ : Int)))), (5, .int (iI (1))), (4, .int (iI ((k : Int)))), (3, .int (iI ((n : Int)))), (0, .ref (x)), (1, .int (iI (how))), (2, .int (v))]) E.1 E.2.1 dL_files_141 hl (by decide) rfl (fun ls hl => ?_)
              refine lv_iload E.1 E.2.1 dL_files_143 (lv_at hl 5 rfl) ?_
              refine r_if_eq (tgt := 152) E dL_files_145 (by decide) (by omega) (fun c145 => absurd c145 (by omega)) (fun c145 => ?_)
              refine r_const E dL_files_148 ?_
              refine lv_goto (tgt := 158) E.1 E.2.1 dL_files_149 (by decide) ?_
              refine lv_istore (lv' := [(11, .int (iI (0))), (10, .int (iI (v141))), (9, .int (iI (w4))), (8, .int (iI ((entriesN σ n : Int)))), (7, .int (iI (0))), (6, .int (iI ((nx σ : Int)))), (5, .int (iI (1))), (4, .int (iI ((k : Int)))), (3, .int (iI ((n : Int)))), (0, .ref (x)), (1, .int (iI (how))), (2, .int (v))]) E.1 E.2.1 dL_files_158 hl (by decide) rfl (fun ls hl => ?_)
              have J187_5 : ∀ (v187 : Int) (hv187 : (v187 = 1 ∧ (nx σ : Int) + w4 + (se σ n 4 : Int) ≤ 240) ∨ (v187 = 0 ∧ 240 < (nx σ : Int) + w4 + (se σ n 4 : Int))) (ls : Array Slot) (locs : List Loc) (hl : lv_has ls 14 [(11, .int (iI (0))), (10, .int (iI (v141))), (9, .int (iI (w4))), (8, .int (iI ((entriesN σ n : Int)))), (7, .int (iI (0))), (6, .int (iI ((nx σ : Int)))), (5, .int (iI (1))), (4, .int (iI ((k : Int)))), (3, .int (iI ((n : Int)))), (0, .ref (x)), (1, .int (iI (how))), (2, .int (v))]) (hL : Lk G locs), W p l e ({ frames := 5, cells := 1, slots := 3, locals := 118 } : Room) s m args below meth c s.heap locs 0 0 (QQ G below args s ({ frames := 5, cells := 1, slots := 3, locals := 118 } : Room) (WE (iI 1) (fun H H1 => ∃ τ hs1 tx1 len1, VS τ ∧ VH hs1 ∧ TxOk tx1 len1 ∧ AC σ hs τ hs1 ∧ XP G x fb fl τ hs1 tx1 len1 H H1))) (F0 m 187 ls [.int (iI (v187))]) := by
                intro v187 hv187 ls locs hl hL
                refine lv_istore (lv' := [(12, .int (iI (v187))), (11, .int (iI (0))), (10, .int (iI (v141))), (9, .int (iI (w4))), (8, .int (iI ((entriesN σ n : Int)))), (7, .int (iI (0))), (6, .int (iI ((nx σ : Int)))), (5, .int (iI (1))), (4, .int (iI ((k : Int)))), (3, .int (iI ((n : Int)))), (0, .ref (x)), (1, .int (iI (how))), (2, .int (v))]) E.1 E.2.1 dL_files_187 hl (by decide) rfl (fun ls hl => ?_)
                obtain ⟨z, hze⟩ : ∃ k : Nat, w4 = (k : Int) := ⟨w4.toNat, by omega⟩
                subst hze
                have hsp : (spWrite σ (k : Int) (z : Int)) = (-1, σ) := wr_e1 (by omega)
                refine lv_aload_n E.1 E.2.1 dL_files_189 rfl (lv_at hl 10 rfl) ?_
                refine lv_iload E.1 E.2.1 dL_files_190 (lv_at hl 8 rfl) ?_
                refine lv_iload E.1 E.2.1 dL_files_192 (lv_at hl 3 rfl) ?_
                refine kVWE (As := [.int (iI ((k : Int))), .int (iI ((z : Int)))]) E cw_L_119 (c_X5_write G l x fb fl σ hs tx len hI hT hfx hgx ((k : Int)) ((z : Int)) (by unfold okI; omega) (by unfold okI; omega)) hP.1.1 ⟨_, _, rfl⟩ ⟨hP.1, hP.2⟩ hL hl.1 rfl rfl (Nat.le_of_ble_eq_true rfl) ⟨Nat.le_of_ble_eq_true rfl, Nat.le_of_ble_eq_true rfl⟩ ⟨Nat.le_of_ble_eq_true rfl, Nat.le_of_ble_eq_true rfl⟩ dL_files_194 (fun H7 locs hL hw_ => ?_)
                obtain ⟨⟨fl1, hE1, hX1⟩, hR1⟩ := hw_
                have hV1 : VS (spWrite σ ((k : Int)) ((z : Int))).2 := hS.write ((k : Int)) ((z : Int))
                have hC1 : AC σ hs (spWrite σ ((k : Int)) ((z : Int))).2 (hsA σ hs (spWrite σ ((k : Int)) ((z : Int))).1) := ac_of (spWrite_b hI ((k : Int)) ((z : Int))).2.2
                have hD1 : VH (hsA σ hs (spWrite σ ((k : Int)) ((z : Int))).1) := VH.hs1 hS hH
                generalize hsA σ hs (spWrite σ ((k : Int)) ((z : Int))).1 = hs1 at hX1 hC1 hD1
                have hte : (spWrite σ (k : Int) (z : Int)).2 = σ := by rw [hsp]
                have hr1 : (spWrite σ ((k : Int)) ((z : Int))).1 = (-1) := by rw [hsp]
                rw [hr1]
                generalize (spWrite σ ((k : Int)) ((z : Int))).2 = τ at hX1 hV1 hC1 hte
                have hI1 := hV1.1
                have hz1 := FrR.size hR1 hP.2
                refine lv_istore (lv' := [(13, .int (iI ((-1)))), (12, .int (iI (v187))), (11, .int (iI (0))), (10, .int (iI (v141))), (9, .int (iI ((z : Int)))), (8, .int (iI ((entriesN σ n : Int)))), (7, .int (iI (0))), (6, .int (iI ((nx σ : Int)))), (5, .int (iI (1))), (4, .int (iI ((k : Int)))), (3, .int (iI ((n : Int)))), (0, .ref (x)), (1, .int (iI (how))), (2, .int (v))]) E.1 E.2.1 dL_files_197 hl (by decide) rfl (fun ls hl => ?_)
                have hnx1 : nx τ = nx σ := by rw [hte]
                have hmn1 : mn τ = mn σ := by rw [hte]
                refine lv_iload E.1 E.2.1 dL_files_199 (lv_at hl 0 rfl) ?_
                refine lv_iload E.1 E.2.1 dL_files_201 (lv_at hl 8 rfl) ?_
                refine r_if_eq (tgt := 210) E dL_files_203 (by decide) (by omega) (fun c203 => absurd c203 (by omega)) (fun c203 => ?_)
                refine r_const E dL_files_206 ?_
                refine lv_goto (tgt := 241) E.1 E.2.1 dL_files_207 (by decide) ?_
                refine r_icmp_ne (tgt := 350) E dL_files_241 (by decide) (by omega) (by omega) (fun c241 => absurd c241 (by omega)) (fun c241 => ?_)
                refine lv_iload E.1 E.2.1 dL_files_244 (lv_at hl 0 rfl) ?_
                refine r_if_ge (tgt := 261) E dL_files_246 (by decide) (by omega) (fun c246 => absurd c246 (by omega)) (fun c246 => ?_)
                refine lv_aload_n E.1 E.2.1 dL_files_249 rfl (lv_at hl 11 rfl) ?_
                refine kVRE (As := []) E cw_L_13 (c_X5_next G l x fb fl1 τ hs1 tx len hI1 hT hfx hgx  ) hX1.1 ⟨_, _, rfl⟩ hX1 hL hl.1 rfl rfl (Nat.le_of_ble_eq_true rfl) ⟨Nat.le_of_ble_eq_true rfl, Nat.le_of_ble_eq_true rfl⟩ ⟨rfl, rfl⟩ ⟨Nat.le_of_ble_eq_true rfl, Nat.le_of_ble_eq_true rfl⟩ dL_files_250 (fun locs hL => ?_)
                refine lv_iload E.1 E.2.1 dL_files_253 (lv_at hl 7 rfl) ?_
                refine r_icmp_ne (tgt := 350) E dL_files_255 (by decide) (by omega) (by omega) (fun c255 => absurd c255 (by omega)) (fun c255 => ?_)
                refine lv_goto (tgt := 346) E.1 E.2.1 dL_files_258 (by decide) ?_
                refine r_const E dL_files_346 ?_
                refine lv_goto (tgt := 351) E.1 E.2.1 dL_files_347 (by decide) ?_
                refine W.widen (k := 1) (n := 3) (Nat.le_of_ble_eq_true rfl) (Nat.le_of_ble_eq_true rfl) ?_
                refine e_zret (rm := ({ frames := 5, cells := 1, slots := 3, locals := 118 } : Room)) (v := iI (1)) E hL rfl dL_files_351 ?_
                exact ⟨rfl, _, _, _, _, hV1, hD1, hT, hC1, ⟨_, hE1, hX1⟩, hR1⟩
              refine lv_iload_n E.1 E.2.1 dL_files_160 rfl (lv_at hl 8 rfl) ?_
              refine r_if_lt (tgt := 186) E dL_files_161 (by decide) (by omega) (fun c161 => absurd c161 (by omega)) (fun c161 => ?_)
              refine lv_iload E.1 E.2.1 dL_files_164 (lv_at hl 5 rfl) ?_
              refine lv_iload E.1 E.2.1 dL_files_166 (lv_at hl 2 rfl) ?_
              refine r_add E dL_files_168 ?_
              refine lv_aload_n E.1 E.2.1 dL_files_169 rfl (lv_at hl 9 rfl) ?_
              refine lv_iload_n E.1 E.2.1 dL_files_170 rfl (lv_at hl 8 rfl) ?_
              refine r_const E dL_files_171 ?_
              refine kVRE (As := [.int (iI ((n : Int))), .int (iI (4))]) E cw_L_29 (c_X5_session G l x fb fl σ hs tx len hI hT hfx hgx ((n : Int)) (4) (by unfold okI; omega) (by unfold okI; omega)) hP.1.1 ⟨_, _, rfl⟩ hP.1 hL hl.1 rfl rfl (Nat.le_of_ble_eq_true rfl) ⟨Nat.le_of_ble_eq_true rfl, Nat.le_of_ble_eq_true rfl⟩ ⟨rfl, rfl⟩ ⟨Nat.le_of_ble_eq_true rfl, Nat.le_of_ble_eq_true rfl⟩ dL_files_172 (fun locs hL => ?_)
              rw [spSes4 hnm]
              refine r_add E dL_files_175 ?_
              refine r_sipush E dL_files_176 (by decide) ?_
              refine r_icmp_gt (tgt := 186) E dL_files_179 (by decide) (by omega) (by omega) (fun c179 => ?_) (fun c179 => ?_)
              · refine r_const E dL_files_186 ?_
                exact J187_5 _ (by omega) ls locs (lv_sub hl [0, 1, 2, 3, 4, 5, 6, 7, 8, 9, 10, 11] rfl) hL
              · refine r_const E dL_files_182 ?_
                refine lv_goto (tgt := 187) E.1 E.2.1 dL_files_183 (by decide) ?_
                exact J187_5 _ (by omega) ls locs (lv_sub hl [0, 1, 2, 3, 4, 5, 6, 7, 8, 9, 10, 11] rfl) hL
            refine lv_iload E.1 E.2.1 dL_files_124 (lv_at hl 0 rfl) ?_
            refine r_if_eq (tgt := 136) E dL_files_126 (by decide) (by omega) (fun c126 => ?_) (fun c126 => ?_)
            · refine r_const E dL_files_136 ?_
              refine lv_goto (tgt := 141) E.1 E.2.1 dL_files_137 (by decide) ?_
              exact J141_4 _ (by omega) ls locs (lv_sub hl [0, 1, 2, 3, 4, 5, 6, 7, 8, 9] rfl) hL
            · refine lv_iload E.1 E.2.1 dL_files_129 (lv_at hl 0 rfl) ?_
              refine r_bipush E dL_files_131 (by decide) ?_
              refine r_icmp_ne (tgt := 140) E dL_files_133 (by decide) (by omega) (by omega) (fun c133 => ?_) (fun c133 => ?_)
              · refine r_const E dL_files_140 ?_
                exact J141_4 _ (by omega) ls locs (lv_sub hl [0, 1, 2, 3, 4, 5, 6, 7, 8, 9] rfl) hL
              · refine r_const E dL_files_136 ?_
                refine lv_goto (tgt := 141) E.1 E.2.1 dL_files_137 (by decide) ?_
                exact J141_4 _ (by omega) ls locs (lv_sub hl [0, 1, 2, 3, 4, 5, 6, 7, 8, 9] rfl) hL
          refine lv_iload_n E.1 E.2.1 dL_files_101 rfl (lv_at hl 8 rfl) ?_
          refine r_bipush E dL_files_102 (by decide) ?_
          refine lv_ishr E.1 E.2.1 dL_files_104 ?_
          refine r_const E dL_files_105 ?_
          obtain ⟨w4, hw4⟩ : ∃ z : Int, lowI (((v) >>> ((iI (16)) &&& 31))) (3) = z := ⟨_, rfl⟩
          have hw4b : 0 ≤ w4 ∧ w4 < (3) := by rw [← hw4]; exact low_b _ (by omega)
          have hw4c := c_L_low G l (((v) >>> ((iI (16)) &&& 31))) (3) (by omega)
          rw [hw4] at hw4c
          refine kSRE (As := [.int (((v) >>> ((iI (16)) &&& 31))), .int (iI (3))]) E cw_L_72 hw4c trivial hL hl.1 rfl rfl (Nat.le_of_ble_eq_true rfl) ⟨Nat.le_of_ble_eq_true rfl, Nat.le_of_ble_eq_true rfl⟩ ⟨rfl, rfl⟩ ⟨Nat.le_of_ble_eq_true rfl, Nat.le_of_ble_eq_true rfl⟩ dL_files_106 (fun locs hL => ?_)
          refine r_if_ne (tgt := 117) E dL_files_109 (by decide) (by omega) (fun c109 => ?_) (fun c109 => ?_)
          · refine r_bipush E dL_files_117 (by decide) ?_
            exact J119_2 _ (by omega) ls locs (lv_sub hl [0, 1, 2, 3, 4, 5, 6, 7, 8] rfl) hL
          · refine r_bipush E dL_files_112 (by decide) ?_
            refine lv_goto (tgt := 119) E.1 E.2.1 dL_files_114 (by decide) ?_
            exact J119_2 _ (by omega) ls locs (lv_sub hl [0, 1, 2, 3, 4, 5, 6, 7, 8] rfl) hL
      · have hvr := vr_row hS hno
        rcases hen : en σ n k with _ | f0
        · refine lv_iload E.1 E.2.1 dL_files_29 (lv_at hl 0 rfl) ?_
          refine r_bipush E dL_files_31 (by decide) ?_
          refine r_icmp_ne (tgt := 40) E dL_files_33 (by decide) (by omega) (by omega) (fun c33 => ?_) (fun c33 => absurd c33 (by omega))
          refine r_const E dL_files_40 ?_
          refine lv_istore (lv' := [(5, .int (iI (0))), (4, .int (iI ((k : Int)))), (3, .int (iI ((n : Int)))), (0, .ref (x)), (1, .int (iI (how))), (2, .int (v))]) E.1 E.2.1 dL_files_41 hl (by decide) rfl (fun ls hl => ?_)
          refine lv_aload_n E.1 E.2.1 dL_files_43 rfl (lv_at hl 3 rfl) ?_
          refine kVRE (As := []) E cw_L_13 (c_X5_next G l x fb fl σ hs tx len hI hT hfx hgx  ) hP.1.1 ⟨_, _, rfl⟩ hP.1 hL hl.1 rfl rfl (Nat.le_of_ble_eq_true rfl) ⟨Nat.le_of_ble_eq_true rfl, Nat.le_of_ble_eq_true rfl⟩ ⟨rfl, rfl⟩ ⟨Nat.le_of_ble_eq_true rfl, Nat.le_of_ble_eq_true rfl⟩ dL_files_44 (fun locs hL => ?_)
          refine lv_istore (lv' := [(6, .int (iI ((nx σ : Int)))), (5, .int (iI (0))), (4, .int (iI ((k : Int)))), (3, .int (iI ((n : Int)))), (0, .ref (x)), (1, .int (iI (how))), (2, .int (v))]) E.1 E.2.1 dL_files_47 hl (by decide) rfl (fun ls hl => ?_)
          refine lv_iload_n E.1 E.2.1 dL_files_49 rfl (lv_at hl 3 rfl) ?_
          refine r_if_lt (tgt := 75) E dL_files_50 (by decide) (by omega) (fun c50 => absurd c50 (by omega)) (fun c50 => ?_)
          refine lv_iload E.1 E.2.1 dL_files_53 (lv_at hl 1 rfl) ?_
          refine r_if_ne (tgt := 75) E dL_files_55 (by decide) (by omega) (fun c55 => absurd c55 (by omega)) (fun c55 => ?_)
          refine lv_aload_n E.1 E.2.1 dL_files_58 rfl (lv_at hl 4 rfl) ?_
          refine lv_iload_n E.1 E.2.1 dL_files_59 rfl (lv_at hl 3 rfl) ?_
          refine lv_iload E.1 E.2.1 dL_files_60 (lv_at hl 2 rfl) ?_
          refine r_const E dL_files_62 ?_
          refine kVRE (As := [.int (iI ((n : Int))), .int (iI ((k : Int))), .int (iI (0))]) E cw_L_33 (c_X5_entry G l x fb fl σ hs tx len hI hT hfx hgx ((n : Int)) ((k : Int)) (0) (by unfold okI; omega) (by unfold okI; omega) (by unfold okI; omega)) hP.1.1 ⟨_, _, rfl⟩ hP.1 hL hl.1 rfl rfl (Nat.le_of_ble_eq_true rfl) ⟨Nat.le_of_ble_eq_true rfl, Nat.le_of_ble_eq_true rfl⟩ ⟨rfl, rfl⟩ ⟨Nat.le_of_ble_eq_true rfl, Nat.le_of_ble_eq_true rfl⟩ dL_files_63 (fun locs hL => ?_)
          rw [spEntN hnm hno hen (w := 0) (by decide)]
          refine r_bipush E dL_files_66 (by decide) ?_
          refine r_icmp_eq (tgt := 75) E dL_files_68 (by decide) (by omega) (by omega) (fun c68 => ?_) (fun c68 => absurd c68 (by omega))
          refine r_const E dL_files_75 ?_
          refine lv_istore (lv' := [(7, .int (iI (0))), (6, .int (iI ((nx σ : Int)))), (5, .int (iI (0))), (4, .int (iI ((k : Int)))), (3, .int (iI ((n : Int)))), (0, .ref (x)), (1, .int (iI (how))), (2, .int (v))]) E.1 E.2.1 dL_files_76 hl (by decide) rfl (fun ls hl => ?_)
          refine lv_iload_n E.1 E.2.1 dL_files_78 rfl (lv_at hl 4 rfl) ?_
          refine r_if_ge (tgt := 86) E dL_files_79 (by decide) (by omega) (fun c79 => ?_) (fun c79 => absurd c79 (by omega))
          refine lv_aload_n E.1 E.2.1 dL_files_86 rfl (lv_at hl 5 rfl) ?_
          refine lv_iload_n E.1 E.2.1 dL_files_87 rfl (lv_at hl 4 rfl) ?_
          refine r_const E dL_files_88 ?_
          refine kVRE (As := [.int (iI ((n : Int))), .int (iI (5))]) E cw_L_29 (c_X5_session G l x fb fl σ hs tx len hI hT hfx hgx ((n : Int)) (5) (by unfold okI; omega) (by unfold okI; omega)) hP.1.1 ⟨_, _, rfl⟩ hP.1 hL hl.1 rfl rfl (Nat.le_of_ble_eq_true rfl) ⟨Nat.le_of_ble_eq_true rfl, Nat.le_of_ble_eq_true rfl⟩ ⟨rfl, rfl⟩ ⟨Nat.le_of_ble_eq_true rfl, Nat.le_of_ble_eq_true rfl⟩ dL_files_89 (fun locs hL => ?_)
          rw [spSes5 hnm]
          refine lv_istore (lv' := [(8, .int (iI ((entriesN σ n : Int)))), (7, .int (iI (0))), (6, .int (iI ((nx σ : Int)))), (5, .int (iI (0))), (4, .int (iI ((k : Int)))), (3, .int (iI ((n : Int)))), (0, .ref (x)), (1, .int (iI (how))), (2, .int (v))]) E.1 E.2.1 dL_files_92 hl (by decide) rfl (fun ls hl => ?_)
          refine lv_iload_n E.1 E.2.1 dL_files_94 rfl (lv_at hl 7 rfl) ?_
          refine r_if_ne (tgt := 352) E dL_files_95 (by decide) (by omega) (fun c95 => ?_) (fun c95 => ?_)
          · refine lv_iload_n E.1 E.2.1 dL_files_352 rfl (lv_at hl 7 rfl) ?_
            refine r_const E dL_files_353 ?_
            refine r_icmp_ne (tgt := 426) E dL_files_354 (by decide) (by omega) (by omega) (fun c354 => ?_) (fun c354 => ?_)
            · refine lv_iload_n E.1 E.2.1 dL_files_426 rfl (lv_at hl 8 rfl) ?_
              refine r_const E dL_files_427 ?_
              refine lv_ishr E.1 E.2.1 dL_files_428 ?_
              refine lv_aload_n E.1 E.2.1 dL_files_429 rfl (lv_at hl 6 rfl) ?_
              refine kVRE (As := []) E cw_L_26 (c_X5_sessions G l x fb fl σ hs tx len hI hT hfx hgx  ) hP.1.1 ⟨_, _, rfl⟩ hP.1 hL hl.1 rfl rfl (Nat.le_of_ble_eq_true rfl) ⟨Nat.le_of_ble_eq_true rfl, Nat.le_of_ble_eq_true rfl⟩ ⟨rfl, rfl⟩ ⟨Nat.le_of_ble_eq_true rfl, Nat.le_of_ble_eq_true rfl⟩ dL_files_430 (fun locs hL => ?_)
              refine r_const E dL_files_433 ?_
              refine r_add E dL_files_434 ?_
              obtain ⟨w3, hw3⟩ : ∃ z : Int, lowI (((v) >>> ((iI (4)) &&& 31))) ((mn σ : Int) + 1) = z := ⟨_, rfl⟩
              have hw3b : 0 ≤ w3 ∧ w3 < ((mn σ : Int) + 1) := by rw [← hw3]; exact low_b _ (by omega)
              have hw3c := c_L_low G l (((v) >>> ((iI (4)) &&& 31))) ((mn σ : Int) + 1) (by omega)
              rw [hw3] at hw3c
              refine kSRE (As := [.int (((v) >>> ((iI (4)) &&& 31))), .int (iI ((mn σ : Int) + 1))]) E cw_L_72 hw3c trivial hL hl.1 rfl rfl (Nat.le_of_ble_eq_true rfl) ⟨Nat.le_of_ble_eq_true rfl, Nat.le_of_ble_eq_true rfl⟩ ⟨rfl, rfl⟩ ⟨Nat.le_of_ble_eq_true rfl, Nat.le_of_ble_eq_true rfl⟩ dL_files_435 (fun locs hL => ?_)
              refine lv_istore (lv' := [(9, .int (iI (w3))), (8, .int (iI ((entriesN σ n : Int)))), (7, .int (iI (0))), (6, .int (iI ((nx σ : Int)))), (5, .int (iI (0))), (4, .int (iI ((k : Int)))), (3, .int (iI ((n : Int)))), (0, .ref (x)), (1, .int (iI (how))), (2, .int (v))]) E.1 E.2.1 dL_files_438 hl (by decide) rfl (fun ls hl => ?_)
              obtain ⟨m9, hm9e⟩ : ∃ k : Nat, w3 = (k : Int) := ⟨w3.toNat, by omega⟩
              subst hm9e
              rcases (show m9 = mn σ ∨ m9 < mn σ by omega) with hm9 | hm9
              · have hsp : (spKeep σ (k : Int) (m9 : Int)) = (-1, σ) := kp_e1 (by omega)
                refine lv_iload_n E.1 E.2.1 dL_files_440 rfl (lv_at hl 6 rfl) ?_
                refine r_if_lt (tgt := 488) E dL_files_441 (by decide) (by omega) (fun c441 => absurd c441 (by omega)) (fun c441 => ?_)
                refine lv_iload E.1 E.2.1 dL_files_444 (lv_at hl 0 rfl) ?_
                refine lv_aload_n E.1 E.2.1 dL_files_446 rfl (lv_at hl 7 rfl) ?_
                refine kVRE (As := []) E cw_L_26 (c_X5_sessions G l x fb fl σ hs tx len hI hT hfx hgx  ) hP.1.1 ⟨_, _, rfl⟩ hP.1 hL hl.1 rfl rfl (Nat.le_of_ble_eq_true rfl) ⟨Nat.le_of_ble_eq_true rfl, Nat.le_of_ble_eq_true rfl⟩ ⟨rfl, rfl⟩ ⟨Nat.le_of_ble_eq_true rfl, Nat.le_of_ble_eq_true rfl⟩ dL_files_447 (fun locs hL => ?_)
                refine r_icmp_ge (tgt := 488) E dL_files_450 (by decide) (by omega) (by omega) (fun c450 => ?_) (fun c450 => absurd c450 (by omega))
                refine r_const E dL_files_488 ?_
                refine lv_istore (lv' := [(10, .int (iI (0))), (9, .int (iI ((m9 : Int)))), (8, .int (iI ((entriesN σ n : Int)))), (7, .int (iI (0))), (6, .int (iI ((nx σ : Int)))), (5, .int (iI (0))), (4, .int (iI ((k : Int)))), (3, .int (iI ((n : Int)))), (0, .ref (x)), (1, .int (iI (how))), (2, .int (v))]) E.1 E.2.1 dL_files_489 hl (by decide) rfl (fun ls hl => ?_)
                refine lv_aload_n E.1 E.2.1 dL_files_491 rfl (lv_at hl 8 rfl) ?_
                refine lv_iload E.1 E.2.1 dL_files_492 (lv_at hl 6 rfl) ?_
                refine lv_iload E.1 E.2.1 dL_files_494 (lv_at hl 1 rfl) ?_
                refine kVWE (As := [.int (iI ((k : Int))), .int (iI ((m9 : Int)))]) E cw_L_125 (c_X5_keep G l x fb fl σ hs tx len hI hT hfx hgx ((k : Int)) ((m9 : Int)) (by unfold okI; omega) (by unfold okI; omega)) hP.1.1 ⟨_, _, rfl⟩ ⟨hP.1, hP.2⟩ hL hl.1 rfl rfl (Nat.le_of_ble_eq_true rfl) ⟨Nat.le_of_ble_eq_true rfl, Nat.le_of_ble_eq_true rfl⟩ ⟨Nat.le_of_ble_eq_true rfl, Nat.le_of_ble_eq_true rfl⟩ dL_files_496 (fun H4 locs hL hw_ => ?_)
                obtain ⟨⟨fl1, hE1, hX1⟩, hR1⟩ := hw_
                have hV1 : VS (spKeep σ ((k : Int)) ((m9 : Int))).2 := hS.keep ((k : Int)) ((m9 : Int))
                have hC1 : AC σ hs (spKeep σ ((k : Int)) ((m9 : Int))).2 (hsA σ hs (spKeep σ ((k : Int)) ((m9 : Int))).1) := ac_of (spKeep_b hI ((k : Int)) ((m9 : Int))).2.2
                have hD1 : VH (hsA σ hs (spKeep σ ((k : Int)) ((m9 : Int))).1) := VH.hs1 hS hH
                generalize hsA σ hs (spKeep σ ((k : Int)) ((m9 : Int))).1 = hs1 at hX1 hC1 hD1
                have hte : (spKeep σ (k : Int) (m9 : Int)).2 = σ := by rw [hsp]
                have hr1 : (spKeep σ ((k : Int)) ((m9 : Int))).1 = (-1) := by rw [hsp]
                rw [hr1]
                generalize (spKeep σ ((k : Int)) ((m9 : Int))).2 = τ at hX1 hV1 hC1 hte
                have hI1 := hV1.1
                have hz1 := FrR.size hR1 hP.2
                refine lv_istore (lv' := [(11, .int (iI ((-1)))), (10, .int (iI (0))), (9, .int (iI ((m9 : Int)))), (8, .int (iI ((entriesN σ n : Int)))), (7, .int (iI (0))), (6, .int (iI ((nx σ : Int)))), (5, .int (iI (0))), (4, .int (iI ((k : Int)))), (3, .int (iI ((n : Int)))), (0, .ref (x)), (1, .int (iI (how))), (2, .int (v))]) E.1 E.2.1 dL_files_499 hl (by decide) rfl (fun ls hl => ?_)
                have hnx1 : nx τ = nx σ := by rw [hte]
                have hmn1 : mn τ = mn σ := by rw [hte]
                refine lv_iload E.1 E.2.1 dL_files_501 (lv_at hl 0 rfl) ?_
                refine lv_iload E.1 E.2.1 dL_files_503 (lv_at hl 6 rfl) ?_
                refine r_if_ne (tgt := 517) E dL_files_505 (by decide) (by omega) (fun c505 => absurd c505 (by omega)) (fun c505 => ?_)
                refine lv_iload E.1 E.2.1 dL_files_508 (lv_at hl 2 rfl) ?_
                refine lv_aload_n E.1 E.2.1 dL_files_510 rfl (lv_at hl 9 rfl) ?_
                refine kVRE (As := []) E cw_L_26 (c_X5_sessions G l x fb fl1 τ hs1 tx len hI1 hT hfx hgx  ) hX1.1 ⟨_, _, rfl⟩ hX1 hL hl.1 rfl rfl (Nat.le_of_ble_eq_true rfl) ⟨Nat.le_of_ble_eq_true rfl, Nat.le_of_ble_eq_true rfl⟩ ⟨rfl, rfl⟩ ⟨Nat.le_of_ble_eq_true rfl, Nat.le_of_ble_eq_true rfl⟩ dL_files_511 (fun locs hL => ?_)
                refine r_icmp_ne (tgt := 521) E dL_files_514 (by decide) (by omega) (by omega) (fun c514 => absurd c514 (by omega)) (fun c514 => ?_)
                refine r_const E dL_files_517 ?_
                refine lv_goto (tgt := 540) E.1 E.2.1 dL_files_518 (by decide) ?_
                refine r_icmp_ne (tgt := 607) E dL_files_540 (by decide) (by omega) (by omega) (fun c540 => absurd c540 (by omega)) (fun c540 => ?_)
                refine lv_iload E.1 E.2.1 dL_files_543 (lv_at hl 0 rfl) ?_
                refine r_if_lt (tgt := 603) E dL_files_545 (by decide) (by omega) (fun c545 => ?_) (fun c545 => absurd c545 (by omega))
                refine r_const E dL_files_603 ?_
                refine lv_goto (tgt := 608) E.1 E.2.1 dL_files_604 (by decide) ?_
                refine W.widen (k := 1) (n := 3) (Nat.le_of_ble_eq_true rfl) (Nat.le_of_ble_eq_true rfl) ?_
                refine e_zret (rm := ({ frames := 5, cells := 1, slots := 3, locals := 118 } : Room)) (v := iI (1)) E hL rfl dL_files_608 ?_
                exact ⟨rfl, _, _, _, _, hV1, hD1, hT, hC1, ⟨_, hE1, hX1⟩, hR1⟩
              · rcases hrd : readB σ (dm σ) m9 with _ | _
                · have hsp : (spKeep σ (k : Int) (m9 : Int)) = (-5, σ) := kp_e3 hno hm9 hop hrd
                  refine lv_iload_n E.1 E.2.1 dL_files_440 rfl (lv_at hl 6 rfl) ?_
                  refine r_if_lt (tgt := 488) E dL_files_441 (by decide) (by omega) (fun c441 => absurd c441 (by omega)) (fun c441 => ?_)
                  refine lv_iload E.1 E.2.1 dL_files_444 (lv_at hl 0 rfl) ?_
                  refine lv_aload_n E.1 E.2.1 dL_files_446 rfl (lv_at hl 7 rfl) ?_
                  refine kVRE (As := []) E cw_L_26 (c_X5_sessions G l x fb fl σ hs tx len hI hT hfx hgx  ) hP.1.1 ⟨_, _, rfl⟩ hP.1 hL hl.1 rfl rfl (Nat.le_of_ble_eq_true rfl) ⟨Nat.le_of_ble_eq_true rfl, Nat.le_of_ble_eq_true rfl⟩ ⟨rfl, rfl⟩ ⟨Nat.le_of_ble_eq_true rfl, Nat.le_of_ble_eq_true rfl⟩ dL_files_447 (fun locs hL => ?_)
                  refine r_icmp_ge (tgt := 488) E dL_files_450 (by decide) (by omega) (by omega) (fun c450 => absurd c450 (by omega)) (fun c450 => ?_)
                  refine lv_iload E.1 E.2.1 dL_files_453 (lv_at hl 4 rfl) ?_
                  refine r_if_ne (tgt := 488) E dL_files_455 (by decide) (by omega) (fun c455 => absurd c455 (by omega)) (fun c455 => ?_)
                  refine lv_aload_n E.1 E.2.1 dL_files_458 rfl (lv_at hl 7 rfl) ?_
                  refine lv_iload E.1 E.2.1 dL_files_459 (lv_at hl 0 rfl) ?_
                  refine r_bipush E dL_files_461 (by decide) ?_
                  refine kVRE (As := [.int (iI ((m9 : Int))), .int (iI (6))]) E cw_L_29 (c_X5_session G l x fb fl σ hs tx len hI hT hfx hgx ((m9 : Int)) (6) (by unfold okI; omega) (by unfold okI; omega)) hP.1.1 ⟨_, _, rfl⟩ hP.1 hL hl.1 rfl rfl (Nat.le_of_ble_eq_true rfl) ⟨Nat.le_of_ble_eq_true rfl, Nat.le_of_ble_eq_true rfl⟩ ⟨rfl, rfl⟩ ⟨Nat.le_of_ble_eq_true rfl, Nat.le_of_ble_eq_true rfl⟩ dL_files_463 (fun locs hL => ?_)
                  rw [spSes6 hm9, hrd, if_neg (by decide)]
                  refine r_const E dL_files_466 ?_
                  refine r_icmp_ne (tgt := 488) E dL_files_467 (by decide) (by omega) (by omega) (fun c467 => ?_) (fun c467 => absurd c467 (by omega))
                  refine r_const E dL_files_488 ?_
                  refine lv_istore (lv' := [(10, .int (iI (0))), (9, .int (iI ((m9 : Int)))), (8, .int (iI ((entriesN σ n : Int)))), (7, .int (iI (0))), (6, .int (iI ((nx σ : Int)))), (5, .int (iI (0))), (4, .int (iI ((k : Int)))), (3, .int (iI ((n : Int)))), (0, .ref (x)), (1, .int (iI (how))), (2, .int (v))]) E.1 E.2.1 dL_files_489 hl (by decide) rfl (fun ls hl => ?_)
                  refine lv_aload_n E.1 E.2.1 dL_files_491 rfl (lv_at hl 8 rfl) ?_
                  refine lv_iload E.1 E.2.1 dL_files_492 (lv_at hl 6 rfl) ?_
                  refine lv_iload E.1 E.2.1 dL_files_494 (lv_at hl 1 rfl) ?_
                  refine kVWE (As := [.int (iI ((k : Int))), .int (iI ((m9 : Int)))]) E cw_L_125 (c_X5_keep G l x fb fl σ hs tx len hI hT hfx hgx ((k : Int)) ((m9 : Int)) (by unfold okI; omega) (by unfold okI; omega)) hP.1.1 ⟨_, _, rfl⟩ ⟨hP.1, hP.2⟩ hL hl.1 rfl rfl (Nat.le_of_ble_eq_true rfl) ⟨Nat.le_of_ble_eq_true rfl, Nat.le_of_ble_eq_true rfl⟩ ⟨Nat.le_of_ble_eq_true rfl, Nat.le_of_ble_eq_true rfl⟩ dL_files_496 (fun H4 locs hL hw_ => ?_)
                  obtain ⟨⟨fl1, hE1, hX1⟩, hR1⟩ := hw_
                  have hV1 : VS (spKeep σ ((k : Int)) ((m9 : Int))).2 := hS.keep ((k : Int)) ((m9 : Int))
                  have hC1 : AC σ hs (spKeep σ ((k : Int)) ((m9 : Int))).2 (hsA σ hs (spKeep σ ((k : Int)) ((m9 : Int))).1) := ac_of (spKeep_b hI ((k : Int)) ((m9 : Int))).2.2
                  have hD1 : VH (hsA σ hs (spKeep σ ((k : Int)) ((m9 : Int))).1) := VH.hs1 hS hH
                  generalize hsA σ hs (spKeep σ ((k : Int)) ((m9 : Int))).1 = hs1 at hX1 hC1 hD1
                  have hte : (spKeep σ (k : Int) (m9 : Int)).2 = σ := by rw [hsp]
                  have hr1 : (spKeep σ ((k : Int)) ((m9 : Int))).1 = (-5) := by rw [hsp]
                  rw [hr1]
                  generalize (spKeep σ ((k : Int)) ((m9 : Int))).2 = τ at hX1 hV1 hC1 hte
                  have hI1 := hV1.1
                  have hz1 := FrR.size hR1 hP.2
                  refine lv_istore (lv' := [(11, .int (iI ((-5)))), (10, .int (iI (0))), (9, .int (iI ((m9 : Int)))), (8, .int (iI ((entriesN σ n : Int)))), (7, .int (iI (0))), (6, .int (iI ((nx σ : Int)))), (5, .int (iI (0))), (4, .int (iI ((k : Int)))), (3, .int (iI ((n : Int)))), (0, .ref (x)), (1, .int (iI (how))), (2, .int (v))]) E.1 E.2.1 dL_files_499 hl (by decide) rfl (fun ls hl => ?_)
                  have hnx1 : nx τ = nx σ := by rw [hte]
                  have hmn1 : mn τ = mn σ := by rw [hte]
                  refine lv_iload E.1 E.2.1 dL_files_501 (lv_at hl 0 rfl) ?_
                  refine lv_iload E.1 E.2.1 dL_files_503 (lv_at hl 6 rfl) ?_
                  refine r_if_ne (tgt := 517) E dL_files_505 (by decide) (by omega) (fun c505 => absurd c505 (by omega)) (fun c505 => ?_)
                  refine lv_iload E.1 E.2.1 dL_files_508 (lv_at hl 2 rfl) ?_
                  refine lv_aload_n E.1 E.2.1 dL_files_510 rfl (lv_at hl 9 rfl) ?_
                  refine kVRE (As := []) E cw_L_26 (c_X5_sessions G l x fb fl1 τ hs1 tx len hI1 hT hfx hgx  ) hX1.1 ⟨_, _, rfl⟩ hX1 hL hl.1 rfl rfl (Nat.le_of_ble_eq_true rfl) ⟨Nat.le_of_ble_eq_true rfl, Nat.le_of_ble_eq_true rfl⟩ ⟨rfl, rfl⟩ ⟨Nat.le_of_ble_eq_true rfl, Nat.le_of_ble_eq_true rfl⟩ dL_files_511 (fun locs hL => ?_)
                  refine r_icmp_ne (tgt := 521) E dL_files_514 (by decide) (by omega) (by omega) (fun c514 => ?_) (fun c514 => absurd c514 (by omega))
                  refine lv_iload E.1 E.2.1 dL_files_521 (lv_at hl 1 rfl) ?_
                  refine r_if_ne (tgt := 531) E dL_files_523 (by decide) (by omega) (fun c523 => absurd c523 (by omega)) (fun c523 => ?_)
                  refine r_bipush E dL_files_526 (by decide) ?_
                  refine lv_goto (tgt := 540) E.1 E.2.1 dL_files_528 (by decide) ?_
                  refine r_icmp_ne (tgt := 607) E dL_files_540 (by decide) (by omega) (by omega) (fun c540 => absurd c540 (by omega)) (fun c540 => ?_)
                  refine lv_iload E.1 E.2.1 dL_files_543 (lv_at hl 0 rfl) ?_
                  refine r_if_lt (tgt := 603) E dL_files_545 (by decide) (by omega) (fun c545 => ?_) (fun c545 => absurd c545 (by omega))
                  refine r_const E dL_files_603 ?_
                  refine lv_goto (tgt := 608) E.1 E.2.1 dL_files_604 (by decide) ?_
                  refine W.widen (k := 1) (n := 3) (Nat.le_of_ble_eq_true rfl) (Nat.le_of_ble_eq_true rfl) ?_
                  refine e_zret (rm := ({ frames := 5, cells := 1, slots := 3, locals := 118 } : Room)) (v := iI (1)) E hL rfl dL_files_608 ?_
                  exact ⟨rfl, _, _, _, _, hV1, hD1, hT, hC1, ⟨_, hE1, hX1⟩, hR1⟩
                · rcases hem : en σ m9 k with _ | f
                  · have hsp : (spKeep σ (k : Int) (m9 : Int)) = (-5, σ) := kp_e4 hno hm9 hop hem
                    refine lv_iload_n E.1 E.2.1 dL_files_440 rfl (lv_at hl 6 rfl) ?_
                    refine r_if_lt (tgt := 488) E dL_files_441 (by decide) (by omega) (fun c441 => absurd c441 (by omega)) (fun c441 => ?_)
                    refine lv_iload E.1 E.2.1 dL_files_444 (lv_at hl 0 rfl) ?_
                    refine lv_aload_n E.1 E.2.1 dL_files_446 rfl (lv_at hl 7 rfl) ?_
                    refine kVRE (As := []) E cw_L_26 (c_X5_sessions G l x fb fl σ hs tx len hI hT hfx hgx  ) hP.1.1 ⟨_, _, rfl⟩ hP.1 hL hl.1 rfl rfl (Nat.le_of_ble_eq_true rfl) ⟨Nat.le_of_ble_eq_true rfl, Nat.le_of_ble_eq_true rfl⟩ ⟨rfl, rfl⟩ ⟨Nat.le_of_ble_eq_true rfl, Nat.le_of_ble_eq_true rfl⟩ dL_files_447 (fun locs hL => ?_)
                    refine r_icmp_ge (tgt := 488) E dL_files_450 (by decide) (by omega) (by omega) (fun c450 => absurd c450 (by omega)) (fun c450 => ?_)
                    refine lv_iload E.1 E.2.1 dL_files_453 (lv_at hl 4 rfl) ?_
                    refine r_if_ne (tgt := 488) E dL_files_455 (by decide) (by omega) (fun c455 => absurd c455 (by omega)) (fun c455 => ?_)
                    refine lv_aload_n E.1 E.2.1 dL_files_458 rfl (lv_at hl 7 rfl) ?_
                    refine lv_iload E.1 E.2.1 dL_files_459 (lv_at hl 0 rfl) ?_
                    refine r_bipush E dL_files_461 (by decide) ?_
                    refine kVRE (As := [.int (iI ((m9 : Int))), .int (iI (6))]) E cw_L_29 (c_X5_session G l x fb fl σ hs tx len hI hT hfx hgx ((m9 : Int)) (6) (by unfold okI; omega) (by unfold okI; omega)) hP.1.1 ⟨_, _, rfl⟩ hP.1 hL hl.1 rfl rfl (Nat.le_of_ble_eq_true rfl) ⟨Nat.le_of_ble_eq_true rfl, Nat.le_of_ble_eq_true rfl⟩ ⟨rfl, rfl⟩ ⟨Nat.le_of_ble_eq_true rfl, Nat.le_of_ble_eq_true rfl⟩ dL_files_463 (fun locs hL => ?_)
                    rw [spSes6 hm9, hrd, if_pos rfl]
                    refine r_const E dL_files_466 ?_
                    refine r_icmp_ne (tgt := 488) E dL_files_467 (by decide) (by omega) (by omega) (fun c467 => absurd c467 (by omega)) (fun c467 => ?_)
                    refine lv_aload_n E.1 E.2.1 dL_files_470 rfl (lv_at hl 7 rfl) ?_
                    refine lv_iload E.1 E.2.1 dL_files_471 (lv_at hl 0 rfl) ?_
                    refine lv_iload E.1 E.2.1 dL_files_473 (lv_at hl 5 rfl) ?_
                    refine r_const E dL_files_475 ?_
                    refine kVRE (As := [.int (iI ((m9 : Int))), .int (iI ((k : Int))), .int (iI (0))]) E cw_L_33 (c_X5_entry G l x fb fl σ hs tx len hI hT hfx hgx ((m9 : Int)) ((k : Int)) (0) (by unfold okI; omega) (by unfold okI; omega) (by unfold okI; omega)) hP.1.1 ⟨_, _, rfl⟩ hP.1 hL hl.1 rfl rfl (Nat.le_of_ble_eq_true rfl) ⟨Nat.le_of_ble_eq_true rfl, Nat.le_of_ble_eq_true rfl⟩ ⟨rfl, rfl⟩ ⟨Nat.le_of_ble_eq_true rfl, Nat.le_of_ble_eq_true rfl⟩ dL_files_476 (fun locs hL => ?_)
                    rw [spEntN hm9 hno hem (w := 0) (by decide)]
                    refine r_bipush E dL_files_479 (by decide) ?_
                    refine r_icmp_eq (tgt := 488) E dL_files_481 (by decide) (by omega) (by omega) (fun c481 => ?_) (fun c481 => absurd c481 (by omega))
                    refine r_const E dL_files_488 ?_
                    refine lv_istore (lv' := [(10, .int (iI (0))), (9, .int (iI ((m9 : Int)))), (8, .int (iI ((entriesN σ n : Int)))), (7, .int (iI (0))), (6, .int (iI ((nx σ : Int)))), (5, .int (iI (0))), (4, .int (iI ((k : Int)))), (3, .int (iI ((n : Int)))), (0, .ref (x)), (1, .int (iI (how))), (2, .int (v))]) E.1 E.2.1 dL_files_489 hl (by decide) rfl (fun ls hl => ?_)
                    refine lv_aload_n E.1 E.2.1 dL_files_491 rfl (lv_at hl 8 rfl) ?_
                    refine lv_iload E.1 E.2.1 dL_files_492 (lv_at hl 6 rfl) ?_
                    refine lv_iload E.1 E.2.1 dL_files_494 (lv_at hl 1 rfl) ?_
                    refine kVWE (As := [.int (iI ((k : Int))), .int (iI ((m9 : Int)))]) E cw_L_125 (c_X5_keep G l x fb fl σ hs tx len hI hT hfx hgx ((k : Int)) ((m9 : Int)) (by unfold okI; omega) (by unfold okI; omega)) hP.1.1 ⟨_, _, rfl⟩ ⟨hP.1, hP.2⟩ hL hl.1 rfl rfl (Nat.le_of_ble_eq_true rfl) ⟨Nat.le_of_ble_eq_true rfl, Nat.le_of_ble_eq_true rfl⟩ ⟨Nat.le_of_ble_eq_true rfl, Nat.le_of_ble_eq_true rfl⟩ dL_files_496 (fun H4 locs hL hw_ => ?_)
                    obtain ⟨⟨fl1, hE1, hX1⟩, hR1⟩ := hw_
                    have hV1 : VS (spKeep σ ((k : Int)) ((m9 : Int))).2 := hS.keep ((k : Int)) ((m9 : Int))
                    have hC1 : AC σ hs (spKeep σ ((k : Int)) ((m9 : Int))).2 (hsA σ hs (spKeep σ ((k : Int)) ((m9 : Int))).1) := ac_of (spKeep_b hI ((k : Int)) ((m9 : Int))).2.2
                    have hD1 : VH (hsA σ hs (spKeep σ ((k : Int)) ((m9 : Int))).1) := VH.hs1 hS hH
                    generalize hsA σ hs (spKeep σ ((k : Int)) ((m9 : Int))).1 = hs1 at hX1 hC1 hD1
                    have hte : (spKeep σ (k : Int) (m9 : Int)).2 = σ := by rw [hsp]
                    have hr1 : (spKeep σ ((k : Int)) ((m9 : Int))).1 = (-5) := by rw [hsp]
                    rw [hr1]
                    generalize (spKeep σ ((k : Int)) ((m9 : Int))).2 = τ at hX1 hV1 hC1 hte
                    have hI1 := hV1.1
                    have hz1 := FrR.size hR1 hP.2
                    refine lv_istore (lv' := [(11, .int (iI ((-5)))), (10, .int (iI (0))), (9, .int (iI ((m9 : Int)))), (8, .int (iI ((entriesN σ n : Int)))), (7, .int (iI (0))), (6, .int (iI ((nx σ : Int)))), (5, .int (iI (0))), (4, .int (iI ((k : Int)))), (3, .int (iI ((n : Int)))), (0, .ref (x)), (1, .int (iI (how))), (2, .int (v))]) E.1 E.2.1 dL_files_499 hl (by decide) rfl (fun ls hl => ?_)
                    have hnx1 : nx τ = nx σ := by rw [hte]
                    have hmn1 : mn τ = mn σ := by rw [hte]
                    refine lv_iload E.1 E.2.1 dL_files_501 (lv_at hl 0 rfl) ?_
                    refine lv_iload E.1 E.2.1 dL_files_503 (lv_at hl 6 rfl) ?_
                    refine r_if_ne (tgt := 517) E dL_files_505 (by decide) (by omega) (fun c505 => absurd c505 (by omega)) (fun c505 => ?_)
                    refine lv_iload E.1 E.2.1 dL_files_508 (lv_at hl 2 rfl) ?_
                    refine lv_aload_n E.1 E.2.1 dL_files_510 rfl (lv_at hl 9 rfl) ?_
                    refine kVRE (As := []) E cw_L_26 (c_X5_sessions G l x fb fl1 τ hs1 tx len hI1 hT hfx hgx  ) hX1.1 ⟨_, _, rfl⟩ hX1 hL hl.1 rfl rfl (Nat.le_of_ble_eq_true rfl) ⟨Nat.le_of_ble_eq_true rfl, Nat.le_of_ble_eq_true rfl⟩ ⟨rfl, rfl⟩ ⟨Nat.le_of_ble_eq_true rfl, Nat.le_of_ble_eq_true rfl⟩ dL_files_511 (fun locs hL => ?_)
                    refine r_icmp_ne (tgt := 521) E dL_files_514 (by decide) (by omega) (by omega) (fun c514 => ?_) (fun c514 => absurd c514 (by omega))
                    refine lv_iload E.1 E.2.1 dL_files_521 (lv_at hl 1 rfl) ?_
                    refine r_if_ne (tgt := 531) E dL_files_523 (by decide) (by omega) (fun c523 => absurd c523 (by omega)) (fun c523 => ?_)
                    refine r_bipush E dL_files_526 (by decide) ?_
                    refine lv_goto (tgt := 540) E.1 E.2.1 dL_files_528 (by decide) ?_
                    refine r_icmp_ne (tgt := 607) E dL_files_540 (by decide) (by omega) (by omega) (fun c540 => absurd c540 (by omega)) (fun c540 => ?_)
                    refine lv_iload E.1 E.2.1 dL_files_543 (lv_at hl 0 rfl) ?_
                    refine r_if_lt (tgt := 603) E dL_files_545 (by decide) (by omega) (fun c545 => ?_) (fun c545 => absurd c545 (by omega))
                    refine r_const E dL_files_603 ?_
                    refine lv_goto (tgt := 608) E.1 E.2.1 dL_files_604 (by decide) ?_
                    refine W.widen (k := 1) (n := 3) (Nat.le_of_ble_eq_true rfl) (Nat.le_of_ble_eq_true rfl) ?_
                    refine e_zret (rm := ({ frames := 5, cells := 1, slots := 3, locals := 118 } : Room)) (v := iI (1)) E hL rfl dL_files_608 ?_
                    exact ⟨rfl, _, _, _, _, hV1, hD1, hT, hC1, ⟨_, hE1, hX1⟩, hR1⟩
                  · have hbf := hI.ent2 hm9 hno hem
                    refine lv_iload_n E.1 E.2.1 dL_files_440 rfl (lv_at hl 6 rfl) ?_
                    refine r_if_lt (tgt := 488) E dL_files_441 (by decide) (by omega) (fun c441 => absurd c441 (by omega)) (fun c441 => ?_)
                    refine lv_iload E.1 E.2.1 dL_files_444 (lv_at hl 0 rfl) ?_
                    refine lv_aload_n E.1 E.2.1 dL_files_446 rfl (lv_at hl 7 rfl) ?_
                    refine kVRE (As := []) E cw_L_26 (c_X5_sessions G l x fb fl σ hs tx len hI hT hfx hgx  ) hP.1.1 ⟨_, _, rfl⟩ hP.1 hL hl.1 rfl rfl (Nat.le_of_ble_eq_true rfl) ⟨Nat.le_of_ble_eq_true rfl, Nat.le_of_ble_eq_true rfl⟩ ⟨rfl, rfl⟩ ⟨Nat.le_of_ble_eq_true rfl, Nat.le_of_ble_eq_true rfl⟩ dL_files_447 (fun locs hL => ?_)
                    refine r_icmp_ge (tgt := 488) E dL_files_450 (by decide) (by omega) (by omega) (fun c450 => absurd c450 (by omega)) (fun c450 => ?_)
                    refine lv_iload E.1 E.2.1 dL_files_453 (lv_at hl 4 rfl) ?_
                    refine r_if_ne (tgt := 488) E dL_files_455 (by decide) (by omega) (fun c455 => absurd c455 (by omega)) (fun c455 => ?_)
                    refine lv_aload_n E.1 E.2.1 dL_files_458 rfl (lv_at hl 7 rfl) ?_
                    refine lv_iload E.1 E.2.1 dL_files_459 (lv_at hl 0 rfl) ?_
                    refine r_bipush E dL_files_461 (by decide) ?_
                    refine kVRE (As := [.int (iI ((m9 : Int))), .int (iI (6))]) E cw_L_29 (c_X5_session G l x fb fl σ hs tx len hI hT hfx hgx ((m9 : Int)) (6) (by unfold okI; omega) (by unfold okI; omega)) hP.1.1 ⟨_, _, rfl⟩ hP.1 hL hl.1 rfl rfl (Nat.le_of_ble_eq_true rfl) ⟨Nat.le_of_ble_eq_true rfl, Nat.le_of_ble_eq_true rfl⟩ ⟨rfl, rfl⟩ ⟨Nat.le_of_ble_eq_true rfl, Nat.le_of_ble_eq_true rfl⟩ dL_files_463 (fun locs hL => ?_)
                    rw [spSes6 hm9, hrd, if_pos rfl]
                    refine r_const E dL_files_466 ?_
                    refine r_icmp_ne (tgt := 488) E dL_files_467 (by decide) (by omega) (by omega) (fun c467 => absurd c467 (by omega)) (fun c467 => ?_)
                    refine lv_aload_n E.1 E.2.1 dL_files_470 rfl (lv_at hl 7 rfl) ?_
                    refine lv_iload E.1 E.2.1 dL_files_471 (lv_at hl 0 rfl) ?_
                    refine lv_iload E.1 E.2.1 dL_files_473 (lv_at hl 5 rfl) ?_
                    refine r_const E dL_files_475 ?_
                    refine kVRE (As := [.int (iI ((m9 : Int))), .int (iI ((k : Int))), .int (iI (0))]) E cw_L_33 (c_X5_entry G l x fb fl σ hs tx len hI hT hfx hgx ((m9 : Int)) ((k : Int)) (0) (by unfold okI; omega) (by unfold okI; omega) (by unfold okI; omega)) hP.1.1 ⟨_, _, rfl⟩ hP.1 hL hl.1 rfl rfl (Nat.le_of_ble_eq_true rfl) ⟨Nat.le_of_ble_eq_true rfl, Nat.le_of_ble_eq_true rfl⟩ ⟨rfl, rfl⟩ ⟨Nat.le_of_ble_eq_true rfl, Nat.le_of_ble_eq_true rfl⟩ dL_files_476 (fun locs hL => ?_)
                    rw [spEnt0 hm9 hno hem]
                    refine r_bipush E dL_files_479 (by decide) ?_
                    refine r_icmp_eq (tgt := 488) E dL_files_481 (by decide) (by omega) (by omega) (fun c481 => absurd c481 (by omega)) (fun c481 => ?_)
                    refine r_const E dL_files_484 ?_
                    refine lv_goto (tgt := 489) E.1 E.2.1 dL_files_485 (by decide) ?_
                    refine lv_istore (lv' := [(10, .int (iI (1))), (9, .int (iI ((m9 : Int)))), (8, .int (iI ((entriesN σ n : Int)))), (7, .int (iI (0))), (6, .int (iI ((nx σ : Int)))), (5, .int (iI (0))), (4, .int (iI ((k : Int)))), (3, .int (iI ((n : Int)))), (0, .ref (x)), (1, .int (iI (how))), (2, .int (v))]) E.1 E.2.1 dL_files_489 hl (by decide) rfl (fun ls hl => ?_)
                    refine lv_aload_n E.1 E.2.1 dL_files_491 rfl (lv_at hl 8 rfl) ?_
                    refine lv_iload E.1 E.2.1 dL_files_492 (lv_at hl 6 rfl) ?_
                    refine lv_iload E.1 E.2.1 dL_files_494 (lv_at hl 1 rfl) ?_
                    refine kVWE (As := [.int (iI ((k : Int))), .int (iI ((m9 : Int)))]) E cw_L_125 (c_X5_keep G l x fb fl σ hs tx len hI hT hfx hgx ((k : Int)) ((m9 : Int)) (by unfold okI; omega) (by unfold okI; omega)) hP.1.1 ⟨_, _, rfl⟩ ⟨hP.1, hP.2⟩ hL hl.1 rfl rfl (Nat.le_of_ble_eq_true rfl) ⟨Nat.le_of_ble_eq_true rfl, Nat.le_of_ble_eq_true rfl⟩ ⟨Nat.le_of_ble_eq_true rfl, Nat.le_of_ble_eq_true rfl⟩ dL_files_496 (fun H4 locs hL hw_ => ?_)
                    obtain ⟨⟨fl1, hE1, hX1⟩, hR1⟩ := hw_
                    have hV1 : VS (spKeep σ ((k : Int)) ((m9 : Int))).2 := hS.keep ((k : Int)) ((m9 : Int))
                    have hC1 : AC σ hs (spKeep σ ((k : Int)) ((m9 : Int))).2 (hsA σ hs (spKeep σ ((k : Int)) ((m9 : Int))).1) := ac_of (spKeep_b hI ((k : Int)) ((m9 : Int))).2.2
                    have hD1 : VH (hsA σ hs (spKeep σ ((k : Int)) ((m9 : Int))).1) := VH.hs1 hS hH
                    generalize hsA σ hs (spKeep σ ((k : Int)) ((m9 : Int))).1 = hs1 at hX1 hC1 hD1
                    have hok := kp_ok hno hm9 hop hrd hem
                    have hm1 := hok.2.1
                    have he1 := hok.2.2.1
                    have he2 := hok.2.2.2.1
                    have hg1 := hok.2.2.2.2
                    have hg1 : entriesN (spKeep σ (k : Int) (m9 : Int)).2 n + 0 = entriesN σ n + 1 := by rw [hen] at hg1; exact hg1
                    have hr1 : (spKeep σ ((k : Int)) ((m9 : Int))).1 = (f.1 : Int) := hok.1
                    rw [hr1]
                    generalize (spKeep σ ((k : Int)) ((m9 : Int))).2 = τ at hX1 hV1 hC1 hm1 he1 he2 hg1
                    have hI1 := hV1.1
                    have hz1 := FrR.size hR1 hP.2
                    refine lv_istore (lv' := [(11, .int (iI ((f.1 : Int)))), (10, .int (iI (1))), (9, .int (iI ((m9 : Int)))), (8, .int (iI ((entriesN σ n : Int)))), (7, .int (iI (0))), (6, .int (iI ((nx σ : Int)))), (5, .int (iI (0))), (4, .int (iI ((k : Int)))), (3, .int (iI ((n : Int)))), (0, .ref (x)), (1, .int (iI (how))), (2, .int (v))]) E.1 E.2.1 dL_files_499 hl (by decide) rfl (fun ls hl => ?_)
                    have hgl := entN_le τ n
                    refine lv_iload E.1 E.2.1 dL_files_501 (lv_at hl 0 rfl) ?_
                    refine lv_iload E.1 E.2.1 dL_files_503 (lv_at hl 6 rfl) ?_
                    refine r_if_ne (tgt := 517) E dL_files_505 (by decide) (by omega) (fun c505 => absurd c505 (by omega)) (fun c505 => ?_)
                    refine lv_iload E.1 E.2.1 dL_files_508 (lv_at hl 2 rfl) ?_
                    refine lv_aload_n E.1 E.2.1 dL_files_510 rfl (lv_at hl 9 rfl) ?_
                    refine kVRE (As := []) E cw_L_26 (c_X5_sessions G l x fb fl1 τ hs1 tx len hI1 hT hfx hgx  ) hX1.1 ⟨_, _, rfl⟩ hX1 hL hl.1 rfl rfl (Nat.le_of_ble_eq_true rfl) ⟨Nat.le_of_ble_eq_true rfl, Nat.le_of_ble_eq_true rfl⟩ ⟨rfl, rfl⟩ ⟨Nat.le_of_ble_eq_true rfl, Nat.le_of_ble_eq_true rfl⟩ dL_files_511 (fun locs hL => ?_)
                    refine r_icmp_ne (tgt := 521) E dL_files_514 (by decide) (by omega) (by omega) (fun c514 => ?_) (fun c514 => absurd c514 (by omega))
                    refine lv_iload E.1 E.2.1 dL_files_521 (lv_at hl 1 rfl) ?_
                    refine r_if_ne (tgt := 531) E dL_files_523 (by decide) (by omega) (fun c523 => ?_) (fun c523 => absurd c523 (by omega))
                    refine lv_aload_n E.1 E.2.1 dL_files_531 rfl (lv_at hl 9 rfl) ?_
                    refine lv_iload E.1 E.2.1 dL_files_532 (lv_at hl 2 rfl) ?_
                    refine lv_iload E.1 E.2.1 dL_files_534 (lv_at hl 7 rfl) ?_
                    refine r_const E dL_files_536 ?_
                    refine kVRE (As := [.int (iI ((m9 : Int))), .int (iI ((k : Int))), .int (iI (0))]) E cw_L_33 (c_X5_entry G l x fb fl1 τ hs1 tx len hI1 hT hfx hgx ((m9 : Int)) ((k : Int)) (0) (by unfold okI; omega) (by unfold okI; omega) (by unfold okI; omega)) hX1.1 ⟨_, _, rfl⟩ hX1 hL hl.1 rfl rfl (Nat.le_of_ble_eq_true rfl) ⟨Nat.le_of_ble_eq_true rfl, Nat.le_of_ble_eq_true rfl⟩ ⟨rfl, rfl⟩ ⟨Nat.le_of_ble_eq_true rfl, Nat.le_of_ble_eq_true rfl⟩ dL_files_537 (fun locs hL => ?_)
                    rw [spEnt0 (by omega) hno he2]
                    refine r_icmp_ne (tgt := 607) E dL_files_540 (by decide) (by omega) (by omega) (fun c540 => absurd c540 (by omega)) (fun c540 => ?_)
                    refine lv_iload E.1 E.2.1 dL_files_543 (lv_at hl 0 rfl) ?_
                    refine r_if_lt (tgt := 603) E dL_files_545 (by decide) (by omega) (fun c545 => absurd c545 (by omega)) (fun c545 => ?_)
                    refine lv_aload_n E.1 E.2.1 dL_files_548 rfl (lv_at hl 9 rfl) ?_
                    refine lv_iload_n E.1 E.2.1 dL_files_549 rfl (lv_at hl 8 rfl) ?_
                    refine lv_iload E.1 E.2.1 dL_files_550 (lv_at hl 7 rfl) ?_
                    refine r_const E dL_files_552 ?_
                    refine kVRE (As := [.int (iI ((n : Int))), .int (iI ((k : Int))), .int (iI (0))]) E cw_L_33 (c_X5_entry G l x fb fl1 τ hs1 tx len hI1 hT hfx hgx ((n : Int)) ((k : Int)) (0) (by unfold okI; omega) (by unfold okI; omega) (by unfold okI; omega)) hX1.1 ⟨_, _, rfl⟩ hX1 hL hl.1 rfl rfl (Nat.le_of_ble_eq_true rfl) ⟨Nat.le_of_ble_eq_true rfl, Nat.le_of_ble_eq_true rfl⟩ ⟨rfl, rfl⟩ ⟨Nat.le_of_ble_eq_true rfl, Nat.le_of_ble_eq_true rfl⟩ dL_files_553 (fun locs hL => ?_)
                    rw [spEnt0 (by omega) hno he1]
                    refine lv_iload E.1 E.2.1 dL_files_556 (lv_at hl 0 rfl) ?_
                    refine r_icmp_ne (tgt := 607) E dL_files_558 (by decide) (by omega) (by omega) (fun c558 => absurd c558 (by omega)) (fun c558 => ?_)
                    refine lv_aload_n E.1 E.2.1 dL_files_561 rfl (lv_at hl 9 rfl) ?_
                    refine lv_iload_n E.1 E.2.1 dL_files_562 rfl (lv_at hl 8 rfl) ?_
                    refine lv_iload E.1 E.2.1 dL_files_563 (lv_at hl 7 rfl) ?_
                    refine r_const E dL_files_565 ?_
                    refine kVRE (As := [.int (iI ((n : Int))), .int (iI ((k : Int))), .int (iI (1))]) E cw_L_33 (c_X5_entry G l x fb fl1 τ hs1 tx len hI1 hT hfx hgx ((n : Int)) ((k : Int)) (1) (by unfold okI; omega) (by unfold okI; omega) (by unfold okI; omega)) hX1.1 ⟨_, _, rfl⟩ hX1 hL hl.1 rfl rfl (Nat.le_of_ble_eq_true rfl) ⟨Nat.le_of_ble_eq_true rfl, Nat.le_of_ble_eq_true rfl⟩ ⟨rfl, rfl⟩ ⟨Nat.le_of_ble_eq_true rfl, Nat.le_of_ble_eq_true rfl⟩ dL_files_566 (fun locs hL => ?_)
                    rw [spEnt1 (by omega) hno he1]
                    refine lv_aload_n E.1 E.2.1 dL_files_569 rfl (lv_at hl 9 rfl) ?_
                    refine lv_iload E.1 E.2.1 dL_files_570 (lv_at hl 2 rfl) ?_
                    refine lv_iload E.1 E.2.1 dL_files_572 (lv_at hl 7 rfl) ?_
                    refine r_const E dL_files_574 ?_
                    refine kVRE (As := [.int (iI ((m9 : Int))), .int (iI ((k : Int))), .int (iI (1))]) E cw_L_33 (c_X5_entry G l x fb fl1 τ hs1 tx len hI1 hT hfx hgx ((m9 : Int)) ((k : Int)) (1) (by unfold okI; omega) (by unfold okI; omega) (by unfold okI; omega)) hX1.1 ⟨_, _, rfl⟩ hX1 hL hl.1 rfl rfl (Nat.le_of_ble_eq_true rfl) ⟨Nat.le_of_ble_eq_true rfl, Nat.le_of_ble_eq_true rfl⟩ ⟨rfl, rfl⟩ ⟨Nat.le_of_ble_eq_true rfl, Nat.le_of_ble_eq_true rfl⟩ dL_files_575 (fun locs hL => ?_)
                    rw [spEnt1 (by omega) hno he2]
                    refine r_icmp_ne (tgt := 607) E dL_files_578 (by decide) (by omega) (by omega) (fun c578 => absurd c578 (by omega)) (fun c578 => ?_)
                    refine lv_aload_n E.1 E.2.1 dL_files_581 rfl (lv_at hl 9 rfl) ?_
                    refine lv_iload_n E.1 E.2.1 dL_files_582 rfl (lv_at hl 8 rfl) ?_
                    refine r_const E dL_files_583 ?_
                    refine kVRE (As := [.int (iI ((n : Int))), .int (iI (5))]) E cw_L_29 (c_X5_session G l x fb fl1 τ hs1 tx len hI1 hT hfx hgx ((n : Int)) (5) (by unfold okI; omega) (by unfold okI; omega)) hX1.1 ⟨_, _, rfl⟩ hX1 hL hl.1 rfl rfl (Nat.le_of_ble_eq_true rfl) ⟨Nat.le_of_ble_eq_true rfl, Nat.le_of_ble_eq_true rfl⟩ ⟨rfl, rfl⟩ ⟨Nat.le_of_ble_eq_true rfl, Nat.le_of_ble_eq_true rfl⟩ dL_files_584 (fun locs hL => ?_)
                    rw [spSes5 (by omega)]
                    refine lv_iload E.1 E.2.1 dL_files_587 (lv_at hl 3 rfl) ?_
                    refine lv_iload E.1 E.2.1 dL_files_589 (lv_at hl 4 rfl) ?_
                    refine r_if_eq (tgt := 598) E dL_files_591 (by decide) (by omega) (fun c591 => ?_) (fun c591 => absurd c591 (by omega))
                    refine r_const E dL_files_598 ?_
                    refine r_add E dL_files_599 ?_
                    refine r_icmp_ne (tgt := 607) E dL_files_600 (by decide) (by omega) (by omega) (fun c600 => absurd c600 (by omega)) (fun c600 => ?_)
                    refine r_const E dL_files_603 ?_
                    refine lv_goto (tgt := 608) E.1 E.2.1 dL_files_604 (by decide) ?_
                    refine W.widen (k := 1) (n := 3) (Nat.le_of_ble_eq_true rfl) (Nat.le_of_ble_eq_true rfl) ?_
                    refine e_zret (rm := ({ frames := 5, cells := 1, slots := 3, locals := 118 } : Room)) (v := iI (1)) E hL rfl dL_files_608 ?_
                    exact ⟨rfl, _, _, _, _, hV1, hD1, hT, hC1, ⟨_, hE1, hX1⟩, hR1⟩
            · have hsp : (spRemove σ (k : Int)) = (-5, σ) := rm_e3 hno hop hen
              refine lv_aload_n E.1 E.2.1 dL_files_357 rfl (lv_at hl 6 rfl) ?_
              refine lv_iload E.1 E.2.1 dL_files_358 (lv_at hl 4 rfl) ?_
              refine kVWE (As := [.int (iI ((k : Int)))]) E cw_L_122 (c_X5_remove G l x fb fl σ hs tx len hI hT hfx hgx ((k : Int)) (by unfold okI; omega)) hP.1.1 ⟨_, _, rfl⟩ ⟨hP.1, hP.2⟩ hL hl.1 rfl rfl (Nat.le_of_ble_eq_true rfl) ⟨Nat.le_of_ble_eq_true rfl, Nat.le_of_ble_eq_true rfl⟩ ⟨Nat.le_of_ble_eq_true rfl, Nat.le_of_ble_eq_true rfl⟩ dL_files_360 (fun H3 locs hL hw_ => ?_)
              obtain ⟨⟨fl1, hE1, hX1⟩, hR1⟩ := hw_
              have hV1 : VS (spRemove σ ((k : Int))).2 := hS.remove ((k : Int))
              have hC1 : AC σ hs (spRemove σ ((k : Int))).2 (hsA σ hs (spRemove σ ((k : Int))).1) := ac_of (spRemove_b ((k : Int))).2.2
              have hD1 : VH (hsA σ hs (spRemove σ ((k : Int))).1) := VH.hs1 hS hH
              generalize hsA σ hs (spRemove σ ((k : Int))).1 = hs1 at hX1 hC1 hD1
              have hte : (spRemove σ (k : Int)).2 = σ := by rw [hsp]
              have hr1 : (spRemove σ ((k : Int))).1 = (-5) := by rw [hsp]
              rw [hr1]
              generalize (spRemove σ ((k : Int))).2 = τ at hX1 hV1 hC1 hte
              have hI1 := hV1.1
              have hz1 := FrR.size hR1 hP.2
              refine lv_istore (lv' := [(9, .int (iI ((-5)))), (8, .int (iI ((entriesN σ n : Int)))), (7, .int (iI (0))), (6, .int (iI ((nx σ : Int)))), (5, .int (iI (0))), (4, .int (iI ((k : Int)))), (3, .int (iI ((n : Int)))), (0, .ref (x)), (1, .int (iI (how))), (2, .int (v))]) E.1 E.2.1 dL_files_363 hl (by decide) rfl (fun ls hl => ?_)
              have hnx1 : nx τ = nx σ := by rw [hte]
              have hmn1 : mn τ = mn σ := by rw [hte]
              refine lv_iload E.1 E.2.1 dL_files_365 (lv_at hl 0 rfl) ?_
              refine lv_iload E.1 E.2.1 dL_files_367 (lv_at hl 4 rfl) ?_
              refine r_if_eq (tgt := 376) E dL_files_369 (by decide) (by omega) (fun c369 => ?_) (fun c369 => absurd c369 (by omega))
              refine lv_iload E.1 E.2.1 dL_files_376 (lv_at hl 2 rfl) ?_
              refine r_if_ne (tgt := 386) E dL_files_378 (by decide) (by omega) (fun c378 => absurd c378 (by omega)) (fun c378 => ?_)
              refine r_bipush E dL_files_381 (by decide) ?_
              refine lv_goto (tgt := 390) E.1 E.2.1 dL_files_383 (by decide) ?_
              refine r_icmp_ne (tgt := 424) E dL_files_390 (by decide) (by omega) (by omega) (fun c390 => absurd c390 (by omega)) (fun c390 => ?_)
              refine lv_iload E.1 E.2.1 dL_files_393 (lv_at hl 0 rfl) ?_
              refine r_if_lt (tgt := 420) E dL_files_395 (by decide) (by omega) (fun c395 => ?_) (fun c395 => absurd c395 (by omega))
              refine r_const E dL_files_420 ?_
              refine lv_goto (tgt := 425) E.1 E.2.1 dL_files_421 (by decide) ?_
              refine W.widen (k := 1) (n := 3) (Nat.le_of_ble_eq_true rfl) (Nat.le_of_ble_eq_true rfl) ?_
              refine e_zret (rm := ({ frames := 5, cells := 1, slots := 3, locals := 118 } : Room)) (v := iI (1)) E hL rfl dL_files_425 ?_
              exact ⟨rfl, _, _, _, _, hV1, hD1, hT, hC1, ⟨_, hE1, hX1⟩, hR1⟩
          · refine lv_iload_n E.1 E.2.1 dL_files_98 rfl (lv_at hl 8 rfl) ?_
            refine r_const E dL_files_99 ?_
            refine lv_ishr E.1 E.2.1 dL_files_100 ?_
            have J119_2 : ∀ (v119 : Int) (hv119 : v119 = 42 ∨ v119 = 12) (ls : Array Slot) (locs : List Loc) (hl : lv_has ls 14 [(8, .int (iI ((entriesN σ n : Int)))), (7, .int (iI (0))), (6, .int (iI ((nx σ : Int)))), (5, .int (iI (0))), (4, .int (iI ((k : Int)))), (3, .int (iI ((n : Int)))), (0, .ref (x)), (1, .int (iI (how))), (2, .int (v))]) (hL : Lk G locs), W p l e ({ frames := 5, cells := 1, slots := 3, locals := 118 } : Room) s m args below meth c s.heap locs 0 0 (QQ G below args s ({ frames := 5, cells := 1, slots := 3, locals := 118 } : Room) (WE (iI 1) (fun H H1 => ∃ τ hs1 tx1 len1, VS τ ∧ VH hs1 ∧ TxOk tx1 len1 ∧ AC σ hs τ hs1 ∧ XP G x fb fl τ hs1 tx1 len1 H H1))) (F0 m 119 ls [.int (iI (v119)), .int (((v) >>> ((iI (4)) &&& 31)))]) := by
              intro v119 hv119 ls locs hl hL
              obtain ⟨w4, hw4⟩ : ∃ z : Int, lowI (((v) >>> ((iI (4)) &&& 31))) (v119) = z := ⟨_, rfl⟩
              have hw4b : 0 ≤ w4 ∧ w4 < (v119) := by rw [← hw4]; exact low_b _ (by omega)
              have hw4c := c_L_low G l (((v) >>> ((iI (4)) &&& 31))) (v119) (by omega)
              rw [hw4] at hw4c
              refine kSRE (As := [.int (((v) >>> ((iI (4)) &&& 31))), .int (iI (v119))]) E cw_L_72 hw4c trivial hL hl.1 rfl rfl (Nat.le_of_ble_eq_true rfl) ⟨Nat.le_of_ble_eq_true rfl, Nat.le_of_ble_eq_true rfl⟩ ⟨rfl, rfl⟩ ⟨Nat.le_of_ble_eq_true rfl, Nat.le_of_ble_eq_true rfl⟩ dL_files_119 (fun locs hL => ?_)
              refine lv_istore (lv' := [(9, .int (iI (w4))), (8, .int (iI ((entriesN σ n : Int)))), (7, .int (iI (0))), (6, .int (iI ((nx σ : Int)))), (5, .int (iI (0))), (4, .int (iI ((k : Int)))), (3, .int (iI ((n : Int)))), (0, .ref (x)), (1, .int (iI (how))), (2, .int (v))]) E.1 E.2.1 dL_files_122 hl (by decide) rfl (fun ls hl => ?_)
              have J141_4 : ∀ (v141 : Int) (hv141 : (v141 = 1 ∧ (w4 = 0 ∨ w4 = 41)) ∨ (v141 = 0 ∧ 1 ≤ w4 ∧ w4 ≤ 40)) (ls : Array Slot) (locs : List Loc) (hl : lv_has ls 14 [(9, .int (iI (w4))), (8, .int (iI ((entriesN σ n : Int)))), (7, .int (iI (0))), (6, .int (iI ((nx σ : Int)))), (5, .int (iI (0))), (4, .int (iI ((k : Int)))), (3, .int (iI ((n : Int)))), (0, .ref (x)), (1, .int (iI (how))), (2, .int (v))]) (hL : Lk G locs), W p l e ({ frames := 5, cells := 1, slots := 3, locals := 118 } : Room) s m args below meth c s.heap locs 0 0 (QQ G below args s ({ frames := 5, cells := 1, slots := 3, locals := 118 } : Room) (WE (iI 1) (fun H H1 => ∃ τ hs1 tx1 len1, VS τ ∧ VH hs1 ∧ TxOk tx1 len1 ∧ AC σ hs τ hs1 ∧ XP G x fb fl τ hs1 tx1 len1 H H1))) (F0 m 141 ls [.int (iI (v141))]) := by
                intro v141 hv141 ls locs hl hL
                refine lv_istore (lv' := [(10, .int (iI (v141))), (9, .int (iI (w4))), (8, .int (iI ((entriesN σ n : Int)))), (7, .int (iI (0))), (6, .int (iI ((nx σ : Int)))), (5, .int (iI (0))), (4, .int (iI ((k : Int)))), (3, .int (iI ((n : Int)))), (0, .ref (x)), (1, .int (iI (how))), (2, .int (v))]) E.1 E.2.1 dL_files_141 hl (by decide) rfl (fun ls hl => ?_)
                refine lv_iload E.1 E.2.1 dL_files_143 (lv_at hl 5 rfl) ?_
                refine r_if_eq (tgt := 152) E dL_files_145 (by decide) (by omega) (fun c145 => ?_) (fun c145 => absurd c145 (by omega))
                refine lv_aload_n E.1 E.2.1 dL_files_152 rfl (lv_at hl 8 rfl) ?_
                refine lv_iload E.1 E.2.1 dL_files_153 (lv_at hl 6 rfl) ?_
                refine kVRE (As := [.int (iI ((k : Int)))]) E cw_L_37 (c_X5_versions G l x fb fl σ hs tx len hI hT hfx hgx ((k : Int)) (by unfold okI; omega)) hP.1.1 ⟨_, _, rfl⟩ hP.1 hL hl.1 rfl rfl (Nat.le_of_ble_eq_true rfl) ⟨Nat.le_of_ble_eq_true rfl, Nat.le_of_ble_eq_true rfl⟩ ⟨rfl, rfl⟩ ⟨Nat.le_of_ble_eq_true rfl, Nat.le_of_ble_eq_true rfl⟩ dL_files_155 (fun locs hL => ?_)
                rw [spVer_v hno]
                refine lv_istore (lv' := [(11, .int (iI ((vr σ k : Int)))), (10, .int (iI (v141))), (9, .int (iI (w4))), (8, .int (iI ((entriesN σ n : Int)))), (7, .int (iI (0))), (6, .int (iI ((nx σ : Int)))), (5, .int (iI (0))), (4, .int (iI ((k : Int)))), (3, .int (iI ((n : Int)))), (0, .ref (x)), (1, .int (iI (how))), (2, .int (v))]) E.1 E.2.1 dL_files_158 hl (by decide) rfl (fun ls hl => ?_)
                have J187_5 : ∀ (v187 : Int) (hv187 : (v187 = 1 ∧ (nx σ : Int) + w4 + (se σ n 4 : Int) ≤ 240) ∨ (v187 = 0 ∧ 240 < (nx σ : Int) + w4 + (se σ n 4 : Int))) (ls : Array Slot) (locs : List Loc) (hl : lv_has ls 14 [(11, .int (iI ((vr σ k : Int)))), (10, .int (iI (v141))), (9, .int (iI (w4))), (8, .int (iI ((entriesN σ n : Int)))), (7, .int (iI (0))), (6, .int (iI ((nx σ : Int)))), (5, .int (iI (0))), (4, .int (iI ((k : Int)))), (3, .int (iI ((n : Int)))), (0, .ref (x)), (1, .int (iI (how))), (2, .int (v))]) (hL : Lk G locs), W p l e ({ frames := 5, cells := 1, slots := 3, locals := 118 } : Room) s m args below meth c s.heap locs 0 0 (QQ G below args s ({ frames := 5, cells := 1, slots := 3, locals := 118 } : Room) (WE (iI 1) (fun H H1 => ∃ τ hs1 tx1 len1, VS τ ∧ VH hs1 ∧ TxOk tx1 len1 ∧ AC σ hs τ hs1 ∧ XP G x fb fl τ hs1 tx1 len1 H H1))) (F0 m 187 ls [.int (iI (v187))]) := by
                  intro v187 hv187 ls locs hl hL
                  refine lv_istore (lv' := [(12, .int (iI (v187))), (11, .int (iI ((vr σ k : Int)))), (10, .int (iI (v141))), (9, .int (iI (w4))), (8, .int (iI ((entriesN σ n : Int)))), (7, .int (iI (0))), (6, .int (iI ((nx σ : Int)))), (5, .int (iI (0))), (4, .int (iI ((k : Int)))), (3, .int (iI ((n : Int)))), (0, .ref (x)), (1, .int (iI (how))), (2, .int (v))]) E.1 E.2.1 dL_files_187 hl (by decide) rfl (fun ls hl => ?_)
                  obtain ⟨z, hze⟩ : ∃ k : Nat, w4 = (k : Int) := ⟨w4.toNat, by omega⟩
                  subst hze
                  rcases hv141 with ⟨hq1, hq2⟩ | ⟨hq1, hq2⟩
                  · have hsp : (spWrite σ (k : Int) (z : Int)) = (-2, σ) := wr_e2 (by omega) (by omega)
                    refine lv_aload_n E.1 E.2.1 dL_files_189 rfl (lv_at hl 10 rfl) ?_
                    refine lv_iload E.1 E.2.1 dL_files_190 (lv_at hl 8 rfl) ?_
                    refine lv_iload E.1 E.2.1 dL_files_192 (lv_at hl 3 rfl) ?_
                    refine kVWE (As := [.int (iI ((k : Int))), .int (iI ((z : Int)))]) E cw_L_119 (c_X5_write G l x fb fl σ hs tx len hI hT hfx hgx ((k : Int)) ((z : Int)) (by unfold okI; omega) (by unfold okI; omega)) hP.1.1 ⟨_, _, rfl⟩ ⟨hP.1, hP.2⟩ hL hl.1 rfl rfl (Nat.le_of_ble_eq_true rfl) ⟨Nat.le_of_ble_eq_true rfl, Nat.le_of_ble_eq_true rfl⟩ ⟨Nat.le_of_ble_eq_true rfl, Nat.le_of_ble_eq_true rfl⟩ dL_files_194 (fun H7 locs hL hw_ => ?_)
                    obtain ⟨⟨fl1, hE1, hX1⟩, hR1⟩ := hw_
                    have hV1 : VS (spWrite σ ((k : Int)) ((z : Int))).2 := hS.write ((k : Int)) ((z : Int))
                    have hC1 : AC σ hs (spWrite σ ((k : Int)) ((z : Int))).2 (hsA σ hs (spWrite σ ((k : Int)) ((z : Int))).1) := ac_of (spWrite_b hI ((k : Int)) ((z : Int))).2.2
                    have hD1 : VH (hsA σ hs (spWrite σ ((k : Int)) ((z : Int))).1) := VH.hs1 hS hH
                    generalize hsA σ hs (spWrite σ ((k : Int)) ((z : Int))).1 = hs1 at hX1 hC1 hD1
                    have hte : (spWrite σ (k : Int) (z : Int)).2 = σ := by rw [hsp]
                    have hr1 : (spWrite σ ((k : Int)) ((z : Int))).1 = (-2) := by rw [hsp]
                    rw [hr1]
                    generalize (spWrite σ ((k : Int)) ((z : Int))).2 = τ at hX1 hV1 hC1 hte
                    have hI1 := hV1.1
                    have hz1 := FrR.size hR1 hP.2
                    refine lv_istore (lv' := [(13, .int (iI ((-2)))), (12, .int (iI (v187))), (11, .int (iI ((vr σ k : Int)))), (10, .int (iI (v141))), (9, .int (iI ((z : Int)))), (8, .int (iI ((entriesN σ n : Int)))), (7, .int (iI (0))), (6, .int (iI ((nx σ : Int)))), (5, .int (iI (0))), (4, .int (iI ((k : Int)))), (3, .int (iI ((n : Int)))), (0, .ref (x)), (1, .int (iI (how))), (2, .int (v))]) E.1 E.2.1 dL_files_197 hl (by decide) rfl (fun ls hl => ?_)
                    have hnx1 : nx τ = nx σ := by rw [hte]
                    have hmn1 : mn τ = mn σ := by rw [hte]
                    refine lv_iload E.1 E.2.1 dL_files_199 (lv_at hl 0 rfl) ?_
                    refine lv_iload E.1 E.2.1 dL_files_201 (lv_at hl 8 rfl) ?_
                    refine r_if_eq (tgt := 210) E dL_files_203 (by decide) (by omega) (fun c203 => ?_) (fun c203 => absurd c203 (by omega))
                    refine lv_iload E.1 E.2.1 dL_files_210 (lv_at hl 3 rfl) ?_
                    refine r_if_eq (tgt := 220) E dL_files_212 (by decide) (by omega) (fun c212 => absurd c212 (by omega)) (fun c212 => ?_)
                    refine r_bipush E dL_files_215 (by decide) ?_
                    refine lv_goto (tgt := 241) E.1 E.2.1 dL_files_217 (by decide) ?_
                    refine r_icmp_ne (tgt := 350) E dL_files_241 (by decide) (by omega) (by omega) (fun c241 => absurd c241 (by omega)) (fun c241 => ?_)
                    refine lv_iload E.1 E.2.1 dL_files_244 (lv_at hl 0 rfl) ?_
                    refine r_if_ge (tgt := 261) E dL_files_246 (by decide) (by omega) (fun c246 => absurd c246 (by omega)) (fun c246 => ?_)
                    refine lv_aload_n E.1 E.2.1 dL_files_249 rfl (lv_at hl 11 rfl) ?_
                    refine kVRE (As := []) E cw_L_13 (c_X5_next G l x fb fl1 τ hs1 tx len hI1 hT hfx hgx  ) hX1.1 ⟨_, _, rfl⟩ hX1 hL hl.1 rfl rfl (Nat.le_of_ble_eq_true rfl) ⟨Nat.le_of_ble_eq_true rfl, Nat.le_of_ble_eq_true rfl⟩ ⟨rfl, rfl⟩ ⟨Nat.le_of_ble_eq_true rfl, Nat.le_of_ble_eq_true rfl⟩ dL_files_250 (fun locs hL => ?_)
                    refine lv_iload E.1 E.2.1 dL_files_253 (lv_at hl 7 rfl) ?_
                    refine r_icmp_ne (tgt := 350) E dL_files_255 (by decide) (by omega) (by omega) (fun c255 => absurd c255 (by omega)) (fun c255 => ?_)
                    refine lv_goto (tgt := 346) E.1 E.2.1 dL_files_258 (by decide) ?_
                    refine r_const E dL_files_346 ?_
                    refine lv_goto (tgt := 351) E.1 E.2.1 dL_files_347 (by decide) ?_
                    refine W.widen (k := 1) (n := 3) (Nat.le_of_ble_eq_true rfl) (Nat.le_of_ble_eq_true rfl) ?_
                    refine e_zret (rm := ({ frames := 5, cells := 1, slots := 3, locals := 118 } : Room)) (v := iI (1)) E hL rfl dL_files_351 ?_
                    exact ⟨rfl, _, _, _, _, hV1, hD1, hT, hC1, ⟨_, hE1, hX1⟩, hR1⟩
                  · rcases hv187 with ⟨hq3, hq4⟩ | ⟨hq3, hq4⟩
                    · refine lv_aload_n E.1 E.2.1 dL_files_189 rfl (lv_at hl 10 rfl) ?_
                      refine lv_iload E.1 E.2.1 dL_files_190 (lv_at hl 8 rfl) ?_
                      refine lv_iload E.1 E.2.1 dL_files_192 (lv_at hl 3 rfl) ?_
                      refine kVWE (As := [.int (iI ((k : Int))), .int (iI ((z : Int)))]) E cw_L_119 (c_X5_write G l x fb fl σ hs tx len hI hT hfx hgx ((k : Int)) ((z : Int)) (by unfold okI; omega) (by unfold okI; omega)) hP.1.1 ⟨_, _, rfl⟩ ⟨hP.1, hP.2⟩ hL hl.1 rfl rfl (Nat.le_of_ble_eq_true rfl) ⟨Nat.le_of_ble_eq_true rfl, Nat.le_of_ble_eq_true rfl⟩ ⟨Nat.le_of_ble_eq_true rfl, Nat.le_of_ble_eq_true rfl⟩ dL_files_194 (fun H7 locs hL hw_ => ?_)
                      obtain ⟨⟨fl1, hE1, hX1⟩, hR1⟩ := hw_
                      have hV1 : VS (spWrite σ ((k : Int)) ((z : Int))).2 := hS.write ((k : Int)) ((z : Int))
                      have hC1 : AC σ hs (spWrite σ ((k : Int)) ((z : Int))).2 (hsA σ hs (spWrite σ ((k : Int)) ((z : Int))).1) := ac_of (spWrite_b hI ((k : Int)) ((z : Int))).2.2
                      have hD1 : VH (hsA σ hs (spWrite σ ((k : Int)) ((z : Int))).1) := VH.hs1 hS hH
                      generalize hsA σ hs (spWrite σ ((k : Int)) ((z : Int))).1 = hs1 at hX1 hC1 hD1
                      have hok := wr_ok (z := z) hno (by omega) hop (by omega)
                      have hm1 := hok.2.2.1
                      have hx1 := hok.2.1
                      have hy1 := hok.2.2.2.1
                      have he1 := hok.2.2.2.2.1
                      have hg1 := hok.2.2.2.2.2
                      have hg1 : entriesN (spWrite σ (k : Int) (z : Int)).2 n + 0 = entriesN σ n + 1 := by rw [hen] at hg1; exact hg1
                      have hr1 : (spWrite σ ((k : Int)) ((z : Int))).1 = (nx σ : Int) := hok.1
                      rw [hr1]
                      generalize (spWrite σ ((k : Int)) ((z : Int))).2 = τ at hX1 hV1 hC1 hm1 hx1 hy1 he1 hg1
                      have hI1 := hV1.1
                      have hz1 := FrR.size hR1 hP.2
                      refine lv_istore (lv' := [(13, .int (iI ((nx σ : Int)))), (12, .int (iI (v187))), (11, .int (iI ((vr σ k : Int)))), (10, .int (iI (v141))), (9, .int (iI ((z : Int)))), (8, .int (iI ((entriesN σ n : Int)))), (7, .int (iI (0))), (6, .int (iI ((nx σ : Int)))), (5, .int (iI (0))), (4, .int (iI ((k : Int)))), (3, .int (iI ((n : Int)))), (0, .ref (x)), (1, .int (iI (how))), (2, .int (v))]) E.1 E.2.1 dL_files_197 hl (by decide) rfl (fun ls hl => ?_)
                      have hgl := entN_le τ n
                      have hvl := vr_row hV1 hno
                      refine lv_iload E.1 E.2.1 dL_files_199 (lv_at hl 0 rfl) ?_
                      refine lv_iload E.1 E.2.1 dL_files_201 (lv_at hl 8 rfl) ?_
                      refine r_if_eq (tgt := 210) E dL_files_203 (by decide) (by omega) (fun c203 => ?_) (fun c203 => absurd c203 (by omega))
                      refine lv_iload E.1 E.2.1 dL_files_210 (lv_at hl 3 rfl) ?_
                      refine r_if_eq (tgt := 220) E dL_files_212 (by decide) (by omega) (fun c212 => ?_) (fun c212 => absurd c212 (by omega))
                      refine lv_iload_n E.1 E.2.1 dL_files_220 rfl (lv_at hl 10 rfl) ?_
                      refine r_if_ge (tgt := 229) E dL_files_221 (by decide) (by omega) (fun c221 => ?_) (fun c221 => absurd c221 (by omega))
                      refine lv_iload E.1 E.2.1 dL_files_229 (lv_at hl 1 rfl) ?_
                      refine r_if_ne (tgt := 239) E dL_files_231 (by decide) (by omega) (fun c231 => ?_) (fun c231 => absurd c231 (by omega))
                      refine lv_iload E.1 E.2.1 dL_files_239 (lv_at hl 7 rfl) ?_
                      refine r_icmp_ne (tgt := 350) E dL_files_241 (by decide) (by omega) (by omega) (fun c241 => absurd c241 (by omega)) (fun c241 => ?_)
                      refine lv_iload E.1 E.2.1 dL_files_244 (lv_at hl 0 rfl) ?_
                      refine r_if_ge (tgt := 261) E dL_files_246 (by decide) (by omega) (fun c246 => ?_) (fun c246 => absurd c246 (by omega))
                      refine lv_aload_n E.1 E.2.1 dL_files_261 rfl (lv_at hl 11 rfl) ?_
                      refine kVRE (As := []) E cw_L_13 (c_X5_next G l x fb fl1 τ hs1 tx len hI1 hT hfx hgx  ) hX1.1 ⟨_, _, rfl⟩ hX1 hL hl.1 rfl rfl (Nat.le_of_ble_eq_true rfl) ⟨Nat.le_of_ble_eq_true rfl, Nat.le_of_ble_eq_true rfl⟩ ⟨rfl, rfl⟩ ⟨Nat.le_of_ble_eq_true rfl, Nat.le_of_ble_eq_true rfl⟩ dL_files_262 (fun locs hL => ?_)
                      refine lv_iload E.1 E.2.1 dL_files_265 (lv_at hl 7 rfl) ?_
                      refine lv_iload E.1 E.2.1 dL_files_267 (lv_at hl 4 rfl) ?_
                      refine r_add E dL_files_269 ?_
                      refine r_icmp_ne (tgt := 350) E dL_files_270 (by decide) (by omega) (by omega) (fun c270 => absurd c270 (by omega)) (fun c270 => ?_)
                      refine lv_aload_n E.1 E.2.1 dL_files_273 rfl (lv_at hl 11 rfl) ?_
                      refine lv_iload E.1 E.2.1 dL_files_274 (lv_at hl 9 rfl) ?_
                      refine kVRE (As := [.int (iI ((k : Int)))]) E cw_L_37 (c_X5_versions G l x fb fl1 τ hs1 tx len hI1 hT hfx hgx ((k : Int)) (by unfold okI; omega)) hX1.1 ⟨_, _, rfl⟩ hX1 hL hl.1 rfl rfl (Nat.le_of_ble_eq_true rfl) ⟨Nat.le_of_ble_eq_true rfl, Nat.le_of_ble_eq_true rfl⟩ ⟨rfl, rfl⟩ ⟨Nat.le_of_ble_eq_true rfl, Nat.le_of_ble_eq_true rfl⟩ dL_files_276 (fun locs hL => ?_)
                      rw [spVer_v hno]
                      refine lv_iload E.1 E.2.1 dL_files_279 (lv_at hl 2 rfl) ?_
                      refine r_const E dL_files_281 ?_
                      refine r_add E dL_files_282 ?_
                      refine r_icmp_ne (tgt := 350) E dL_files_283 (by decide) (by omega) (by omega) (fun c283 => absurd c283 (by omega)) (fun c283 => ?_)
                      refine lv_aload_n E.1 E.2.1 dL_files_286 rfl (lv_at hl 11 rfl) ?_
                      refine lv_iload_n E.1 E.2.1 dL_files_287 rfl (lv_at hl 10 rfl) ?_
                      refine lv_iload E.1 E.2.1 dL_files_288 (lv_at hl 9 rfl) ?_
                      refine r_const E dL_files_290 ?_
                      refine kVRE (As := [.int (iI ((n : Int))), .int (iI ((k : Int))), .int (iI (0))]) E cw_L_33 (c_X5_entry G l x fb fl1 τ hs1 tx len hI1 hT hfx hgx ((n : Int)) ((k : Int)) (0) (by unfold okI; omega) (by unfold okI; omega) (by unfold okI; omega)) hX1.1 ⟨_, _, rfl⟩ hX1 hL hl.1 rfl rfl (Nat.le_of_ble_eq_true rfl) ⟨Nat.le_of_ble_eq_true rfl, Nat.le_of_ble_eq_true rfl⟩ ⟨rfl, rfl⟩ ⟨Nat.le_of_ble_eq_true rfl, Nat.le_of_ble_eq_true rfl⟩ dL_files_291 (fun locs hL => ?_)
                      rw [spEntT0 (by omega) hno he1]
                      refine lv_iload E.1 E.2.1 dL_files_294 (lv_at hl 7 rfl) ?_
                      refine r_icmp_ne (tgt := 350) E dL_files_296 (by decide) (by omega) (by omega) (fun c296 => absurd c296 (by omega)) (fun c296 => ?_)
                      refine lv_aload_n E.1 E.2.1 dL_files_299 rfl (lv_at hl 11 rfl) ?_
                      refine lv_iload_n E.1 E.2.1 dL_files_300 rfl (lv_at hl 10 rfl) ?_
                      refine lv_iload E.1 E.2.1 dL_files_301 (lv_at hl 9 rfl) ?_
                      refine r_const E dL_files_303 ?_
                      refine kVRE (As := [.int (iI ((n : Int))), .int (iI ((k : Int))), .int (iI (1))]) E cw_L_33 (c_X5_entry G l x fb fl1 τ hs1 tx len hI1 hT hfx hgx ((n : Int)) ((k : Int)) (1) (by unfold okI; omega) (by unfold okI; omega) (by unfold okI; omega)) hX1.1 ⟨_, _, rfl⟩ hX1 hL hl.1 rfl rfl (Nat.le_of_ble_eq_true rfl) ⟨Nat.le_of_ble_eq_true rfl, Nat.le_of_ble_eq_true rfl⟩ ⟨rfl, rfl⟩ ⟨Nat.le_of_ble_eq_true rfl, Nat.le_of_ble_eq_true rfl⟩ dL_files_304 (fun locs hL => ?_)
                      rw [spEntT1 (by omega) hno he1]
                      refine lv_iload E.1 E.2.1 dL_files_307 (lv_at hl 4 rfl) ?_
                      refine r_icmp_ne (tgt := 350) E dL_files_309 (by decide) (by omega) (by omega) (fun c309 => absurd c309 (by omega)) (fun c309 => ?_)
                      refine lv_aload_n E.1 E.2.1 dL_files_312 rfl (lv_at hl 11 rfl) ?_
                      refine lv_iload_n E.1 E.2.1 dL_files_313 rfl (lv_at hl 10 rfl) ?_
                      refine lv_iload E.1 E.2.1 dL_files_314 (lv_at hl 9 rfl) ?_
                      refine r_const E dL_files_316 ?_
                      refine kVRE (As := [.int (iI ((n : Int))), .int (iI ((k : Int))), .int (iI (2))]) E cw_L_33 (c_X5_entry G l x fb fl1 τ hs1 tx len hI1 hT hfx hgx ((n : Int)) ((k : Int)) (2) (by unfold okI; omega) (by unfold okI; omega) (by unfold okI; omega)) hX1.1 ⟨_, _, rfl⟩ hX1 hL hl.1 rfl rfl (Nat.le_of_ble_eq_true rfl) ⟨Nat.le_of_ble_eq_true rfl, Nat.le_of_ble_eq_true rfl⟩ ⟨rfl, rfl⟩ ⟨Nat.le_of_ble_eq_true rfl, Nat.le_of_ble_eq_true rfl⟩ dL_files_317 (fun locs hL => ?_)
                      rw [spEntT2 (by omega) hno he1]
                      refine lv_iload_n E.1 E.2.1 dL_files_320 rfl (lv_at hl 10 rfl) ?_
                      refine r_icmp_ne (tgt := 350) E dL_files_321 (by decide) (by omega) (by omega) (fun c321 => absurd c321 (by omega)) (fun c321 => ?_)
                      refine lv_aload_n E.1 E.2.1 dL_files_324 rfl (lv_at hl 11 rfl) ?_
                      refine lv_iload_n E.1 E.2.1 dL_files_325 rfl (lv_at hl 10 rfl) ?_
                      refine r_const E dL_files_326 ?_
                      refine kVRE (As := [.int (iI ((n : Int))), .int (iI (5))]) E cw_L_29 (c_X5_session G l x fb fl1 τ hs1 tx len hI1 hT hfx hgx ((n : Int)) (5) (by unfold okI; omega) (by unfold okI; omega)) hX1.1 ⟨_, _, rfl⟩ hX1 hL hl.1 rfl rfl (Nat.le_of_ble_eq_true rfl) ⟨Nat.le_of_ble_eq_true rfl, Nat.le_of_ble_eq_true rfl⟩ ⟨rfl, rfl⟩ ⟨Nat.le_of_ble_eq_true rfl, Nat.le_of_ble_eq_true rfl⟩ dL_files_327 (fun locs hL => ?_)
                      rw [spSes5 (by omega)]
                      refine lv_iload E.1 E.2.1 dL_files_330 (lv_at hl 5 rfl) ?_
                      refine lv_iload E.1 E.2.1 dL_files_332 (lv_at hl 6 rfl) ?_
                      refine r_if_eq (tgt := 341) E dL_files_334 (by decide) (by omega) (fun c334 => ?_) (fun c334 => absurd c334 (by omega))
                      refine r_const E dL_files_341 ?_
                      refine r_add E dL_files_342 ?_
                      refine r_icmp_ne (tgt := 350) E dL_files_343 (by decide) (by omega) (by omega) (fun c343 => absurd c343 (by omega)) (fun c343 => ?_)
                      refine r_const E dL_files_346 ?_
                      refine lv_goto (tgt := 351) E.1 E.2.1 dL_files_347 (by decide) ?_
                      refine W.widen (k := 1) (n := 3) (Nat.le_of_ble_eq_true rfl) (Nat.le_of_ble_eq_true rfl) ?_
                      refine e_zret (rm := ({ frames := 5, cells := 1, slots := 3, locals := 118 } : Room)) (v := iI (1)) E hL rfl dL_files_351 ?_
                      exact ⟨rfl, _, _, _, _, hV1, hD1, hT, hC1, ⟨_, hE1, hX1⟩, hR1⟩
                    · have hsp : (spWrite σ (k : Int) (z : Int)) = (-4, σ) := wr_e4 (by omega) (by omega) hop (by omega)
                      refine lv_aload_n E.1 E.2.1 dL_files_189 rfl (lv_at hl 10 rfl) ?_
                      refine lv_iload E.1 E.2.1 dL_files_190 (lv_at hl 8 rfl) ?_
                      refine lv_iload E.1 E.2.1 dL_files_192 (lv_at hl 3 rfl) ?_
                      refine kVWE (As := [.int (iI ((k : Int))), .int (iI ((z : Int)))]) E cw_L_119 (c_X5_write G l x fb fl σ hs tx len hI hT hfx hgx ((k : Int)) ((z : Int)) (by unfold okI; omega) (by unfold okI; omega)) hP.1.1 ⟨_, _, rfl⟩ ⟨hP.1, hP.2⟩ hL hl.1 rfl rfl (Nat.le_of_ble_eq_true rfl) ⟨Nat.le_of_ble_eq_true rfl, Nat.le_of_ble_eq_true rfl⟩ ⟨Nat.le_of_ble_eq_true rfl, Nat.le_of_ble_eq_true rfl⟩ dL_files_194 (fun H7 locs hL hw_ => ?_)
                      obtain ⟨⟨fl1, hE1, hX1⟩, hR1⟩ := hw_
                      have hV1 : VS (spWrite σ ((k : Int)) ((z : Int))).2 := hS.write ((k : Int)) ((z : Int))
                      have hC1 : AC σ hs (spWrite σ ((k : Int)) ((z : Int))).2 (hsA σ hs (spWrite σ ((k : Int)) ((z : Int))).1) := ac_of (spWrite_b hI ((k : Int)) ((z : Int))).2.2
                      have hD1 : VH (hsA σ hs (spWrite σ ((k : Int)) ((z : Int))).1) := VH.hs1 hS hH
                      generalize hsA σ hs (spWrite σ ((k : Int)) ((z : Int))).1 = hs1 at hX1 hC1 hD1
                      have hte : (spWrite σ (k : Int) (z : Int)).2 = σ := by rw [hsp]
                      have hr1 : (spWrite σ ((k : Int)) ((z : Int))).1 = (-4) := by rw [hsp]
                      rw [hr1]
                      generalize (spWrite σ ((k : Int)) ((z : Int))).2 = τ at hX1 hV1 hC1 hte
                      have hI1 := hV1.1
                      have hz1 := FrR.size hR1 hP.2
                      refine lv_istore (lv' := [(13, .int (iI ((-4)))), (12, .int (iI (v187))), (11, .int (iI ((vr σ k : Int)))), (10, .int (iI (v141))), (9, .int (iI ((z : Int)))), (8, .int (iI ((entriesN σ n : Int)))), (7, .int (iI (0))), (6, .int (iI ((nx σ : Int)))), (5, .int (iI (0))), (4, .int (iI ((k : Int)))), (3, .int (iI ((n : Int)))), (0, .ref (x)), (1, .int (iI (how))), (2, .int (v))]) E.1 E.2.1 dL_files_197 hl (by decide) rfl (fun ls hl => ?_)
                      have hnx1 : nx τ = nx σ := by rw [hte]
                      have hmn1 : mn τ = mn σ := by rw [hte]
                      refine lv_iload E.1 E.2.1 dL_files_199 (lv_at hl 0 rfl) ?_
                      refine lv_iload E.1 E.2.1 dL_files_201 (lv_at hl 8 rfl) ?_
                      refine r_if_eq (tgt := 210) E dL_files_203 (by decide) (by omega) (fun c203 => ?_) (fun c203 => absurd c203 (by omega))
                      refine lv_iload E.1 E.2.1 dL_files_210 (lv_at hl 3 rfl) ?_
                      refine r_if_eq (tgt := 220) E dL_files_212 (by decide) (by omega) (fun c212 => ?_) (fun c212 => absurd c212 (by omega))
                      refine lv_iload_n E.1 E.2.1 dL_files_220 rfl (lv_at hl 10 rfl) ?_
                      refine r_if_ge (tgt := 229) E dL_files_221 (by decide) (by omega) (fun c221 => ?_) (fun c221 => absurd c221 (by omega))
                      refine lv_iload E.1 E.2.1 dL_files_229 (lv_at hl 1 rfl) ?_
                      refine r_if_ne (tgt := 239) E dL_files_231 (by decide) (by omega) (fun c231 => absurd c231 (by omega)) (fun c231 => ?_)
                      refine r_bipush E dL_files_234 (by decide) ?_
                      refine lv_goto (tgt := 241) E.1 E.2.1 dL_files_236 (by decide) ?_
                      refine r_icmp_ne (tgt := 350) E dL_files_241 (by decide) (by omega) (by omega) (fun c241 => absurd c241 (by omega)) (fun c241 => ?_)
                      refine lv_iload E.1 E.2.1 dL_files_244 (lv_at hl 0 rfl) ?_
                      refine r_if_ge (tgt := 261) E dL_files_246 (by decide) (by omega) (fun c246 => absurd c246 (by omega)) (fun c246 => ?_)
                      refine lv_aload_n E.1 E.2.1 dL_files_249 rfl (lv_at hl 11 rfl) ?_
                      refine kVRE (As := []) E cw_L_13 (c_X5_next G l x fb fl1 τ hs1 tx len hI1 hT hfx hgx  ) hX1.1 ⟨_, _, rfl⟩ hX1 hL hl.1 rfl rfl (Nat.le_of_ble_eq_true rfl) ⟨Nat.le_of_ble_eq_true rfl, Nat.le_of_ble_eq_true rfl⟩ ⟨rfl, rfl⟩ ⟨Nat.le_of_ble_eq_true rfl, Nat.le_of_ble_eq_true rfl⟩ dL_files_250 (fun locs hL => ?_)
                      refine lv_iload E.1 E.2.1 dL_files_253 (lv_at hl 7 rfl) ?_
                      refine r_icmp_ne (tgt := 350) E dL_files_255 (by decide) (by omega) (by omega) (fun c255 => absurd c255 (by omega)) (fun c255 => ?_)
                      refine lv_goto (tgt := 346) E.1 E.2.1 dL_files_258 (by decide) ?_
                      refine r_const E dL_files_346 ?_
                      refine lv_goto (tgt := 351) E.1 E.2.1 dL_files_347 (by decide) ?_
                      refine W.widen (k := 1) (n := 3) (Nat.le_of_ble_eq_true rfl) (Nat.le_of_ble_eq_true rfl) ?_
                      refine e_zret (rm := ({ frames := 5, cells := 1, slots := 3, locals := 118 } : Room)) (v := iI (1)) E hL rfl dL_files_351 ?_
                      exact ⟨rfl, _, _, _, _, hV1, hD1, hT, hC1, ⟨_, hE1, hX1⟩, hR1⟩
                refine lv_iload_n E.1 E.2.1 dL_files_160 rfl (lv_at hl 8 rfl) ?_
                refine r_if_lt (tgt := 186) E dL_files_161 (by decide) (by omega) (fun c161 => absurd c161 (by omega)) (fun c161 => ?_)
                refine lv_iload E.1 E.2.1 dL_files_164 (lv_at hl 5 rfl) ?_
                refine lv_iload E.1 E.2.1 dL_files_166 (lv_at hl 2 rfl) ?_
                refine r_add E dL_files_168 ?_
                refine lv_aload_n E.1 E.2.1 dL_files_169 rfl (lv_at hl 9 rfl) ?_
                refine lv_iload_n E.1 E.2.1 dL_files_170 rfl (lv_at hl 8 rfl) ?_
                refine r_const E dL_files_171 ?_
                refine kVRE (As := [.int (iI ((n : Int))), .int (iI (4))]) E cw_L_29 (c_X5_session G l x fb fl σ hs tx len hI hT hfx hgx ((n : Int)) (4) (by unfold okI; omega) (by unfold okI; omega)) hP.1.1 ⟨_, _, rfl⟩ hP.1 hL hl.1 rfl rfl (Nat.le_of_ble_eq_true rfl) ⟨Nat.le_of_ble_eq_true rfl, Nat.le_of_ble_eq_true rfl⟩ ⟨rfl, rfl⟩ ⟨Nat.le_of_ble_eq_true rfl, Nat.le_of_ble_eq_true rfl⟩ dL_files_172 (fun locs hL => ?_)
                rw [spSes4 hnm]
                refine r_add E dL_files_175 ?_
                refine r_sipush E dL_files_176 (by decide) ?_
                refine r_icmp_gt (tgt := 186) E dL_files_179 (by decide) (by omega) (by omega) (fun c179 => ?_) (fun c179 => ?_)
                · refine r_const E dL_files_186 ?_
                  exact J187_5 _ (by omega) ls locs (lv_sub hl [0, 1, 2, 3, 4, 5, 6, 7, 8, 9, 10, 11] rfl) hL
                · refine r_const E dL_files_182 ?_
                  refine lv_goto (tgt := 187) E.1 E.2.1 dL_files_183 (by decide) ?_
                  exact J187_5 _ (by omega) ls locs (lv_sub hl [0, 1, 2, 3, 4, 5, 6, 7, 8, 9, 10, 11] rfl) hL
              refine lv_iload E.1 E.2.1 dL_files_124 (lv_at hl 0 rfl) ?_
              refine r_if_eq (tgt := 136) E dL_files_126 (by decide) (by omega) (fun c126 => ?_) (fun c126 => ?_)
              · refine r_const E dL_files_136 ?_
                refine lv_goto (tgt := 141) E.1 E.2.1 dL_files_137 (by decide) ?_
                exact J141_4 _ (by omega) ls locs (lv_sub hl [0, 1, 2, 3, 4, 5, 6, 7, 8, 9] rfl) hL
              · refine lv_iload E.1 E.2.1 dL_files_129 (lv_at hl 0 rfl) ?_
                refine r_bipush E dL_files_131 (by decide) ?_
                refine r_icmp_ne (tgt := 140) E dL_files_133 (by decide) (by omega) (by omega) (fun c133 => ?_) (fun c133 => ?_)
                · refine r_const E dL_files_140 ?_
                  exact J141_4 _ (by omega) ls locs (lv_sub hl [0, 1, 2, 3, 4, 5, 6, 7, 8, 9] rfl) hL
                · refine r_const E dL_files_136 ?_
                  refine lv_goto (tgt := 141) E.1 E.2.1 dL_files_137 (by decide) ?_
                  exact J141_4 _ (by omega) ls locs (lv_sub hl [0, 1, 2, 3, 4, 5, 6, 7, 8, 9] rfl) hL
            refine lv_iload_n E.1 E.2.1 dL_files_101 rfl (lv_at hl 8 rfl) ?_
            refine r_bipush E dL_files_102 (by decide) ?_
            refine lv_ishr E.1 E.2.1 dL_files_104 ?_
            refine r_const E dL_files_105 ?_
            obtain ⟨w4, hw4⟩ : ∃ z : Int, lowI (((v) >>> ((iI (16)) &&& 31))) (3) = z := ⟨_, rfl⟩
            have hw4b : 0 ≤ w4 ∧ w4 < (3) := by rw [← hw4]; exact low_b _ (by omega)
            have hw4c := c_L_low G l (((v) >>> ((iI (16)) &&& 31))) (3) (by omega)
            rw [hw4] at hw4c
            refine kSRE (As := [.int (((v) >>> ((iI (16)) &&& 31))), .int (iI (3))]) E cw_L_72 hw4c trivial hL hl.1 rfl rfl (Nat.le_of_ble_eq_true rfl) ⟨Nat.le_of_ble_eq_true rfl, Nat.le_of_ble_eq_true rfl⟩ ⟨rfl, rfl⟩ ⟨Nat.le_of_ble_eq_true rfl, Nat.le_of_ble_eq_true rfl⟩ dL_files_106 (fun locs hL => ?_)
            refine r_if_ne (tgt := 117) E dL_files_109 (by decide) (by omega) (fun c109 => ?_) (fun c109 => ?_)
            · refine r_bipush E dL_files_117 (by decide) ?_
              exact J119_2 _ (by omega) ls locs (lv_sub hl [0, 1, 2, 3, 4, 5, 6, 7, 8] rfl) hL
            · refine r_bipush E dL_files_112 (by decide) ?_
              refine lv_goto (tgt := 119) E.1 E.2.1 dL_files_114 (by decide) ?_
              exact J119_2 _ (by omega) ls locs (lv_sub hl [0, 1, 2, 3, 4, 5, 6, 7, 8] rfl) hL
        · have hb0 := hI.ent2 hnm hno hen
          refine lv_iload E.1 E.2.1 dL_files_29 (lv_at hl 0 rfl) ?_
          refine r_bipush E dL_files_31 (by decide) ?_
          refine r_icmp_ne (tgt := 40) E dL_files_33 (by decide) (by omega) (by omega) (fun c33 => ?_) (fun c33 => absurd c33 (by omega))
          refine r_const E dL_files_40 ?_
          refine lv_istore (lv' := [(5, .int (iI (0))), (4, .int (iI ((k : Int)))), (3, .int (iI ((n : Int)))), (0, .ref (x)), (1, .int (iI (how))), (2, .int (v))]) E.1 E.2.1 dL_files_41 hl (by decide) rfl (fun ls hl => ?_)
          refine lv_aload_n E.1 E.2.1 dL_files_43 rfl (lv_at hl 3 rfl) ?_
          refine kVRE (As := []) E cw_L_13 (c_X5_next G l x fb fl σ hs tx len hI hT hfx hgx  ) hP.1.1 ⟨_, _, rfl⟩ hP.1 hL hl.1 rfl rfl (Nat.le_of_ble_eq_true rfl) ⟨Nat.le_of_ble_eq_true rfl, Nat.le_of_ble_eq_true rfl⟩ ⟨rfl, rfl⟩ ⟨Nat.le_of_ble_eq_true rfl, Nat.le_of_ble_eq_true rfl⟩ dL_files_44 (fun locs hL => ?_)
          refine lv_istore (lv' := [(6, .int (iI ((nx σ : Int)))), (5, .int (iI (0))), (4, .int (iI ((k : Int)))), (3, .int (iI ((n : Int)))), (0, .ref (x)), (1, .int (iI (how))), (2, .int (v))]) E.1 E.2.1 dL_files_47 hl (by decide) rfl (fun ls hl => ?_)
          refine lv_iload_n E.1 E.2.1 dL_files_49 rfl (lv_at hl 3 rfl) ?_
          refine r_if_lt (tgt := 75) E dL_files_50 (by decide) (by omega) (fun c50 => absurd c50 (by omega)) (fun c50 => ?_)
          refine lv_iload E.1 E.2.1 dL_files_53 (lv_at hl 1 rfl) ?_
          refine r_if_ne (tgt := 75) E dL_files_55 (by decide) (by omega) (fun c55 => absurd c55 (by omega)) (fun c55 => ?_)
          refine lv_aload_n E.1 E.2.1 dL_files_58 rfl (lv_at hl 4 rfl) ?_
          refine lv_iload_n E.1 E.2.1 dL_files_59 rfl (lv_at hl 3 rfl) ?_
          refine lv_iload E.1 E.2.1 dL_files_60 (lv_at hl 2 rfl) ?_
          refine r_const E dL_files_62 ?_
          refine kVRE (As := [.int (iI ((n : Int))), .int (iI ((k : Int))), .int (iI (0))]) E cw_L_33 (c_X5_entry G l x fb fl σ hs tx len hI hT hfx hgx ((n : Int)) ((k : Int)) (0) (by unfold okI; omega) (by unfold okI; omega) (by unfold okI; omega)) hP.1.1 ⟨_, _, rfl⟩ hP.1 hL hl.1 rfl rfl (Nat.le_of_ble_eq_true rfl) ⟨Nat.le_of_ble_eq_true rfl, Nat.le_of_ble_eq_true rfl⟩ ⟨rfl, rfl⟩ ⟨Nat.le_of_ble_eq_true rfl, Nat.le_of_ble_eq_true rfl⟩ dL_files_63 (fun locs hL => ?_)
          rw [spEnt0 hnm hno hen]
          refine r_bipush E dL_files_66 (by decide) ?_
          refine r_icmp_eq (tgt := 75) E dL_files_68 (by decide) (by omega) (by omega) (fun c68 => absurd c68 (by omega)) (fun c68 => ?_)
          refine r_const E dL_files_71 ?_
          refine lv_goto (tgt := 76) E.1 E.2.1 dL_files_72 (by decide) ?_
          refine lv_istore (lv' := [(7, .int (iI (1))), (6, .int (iI ((nx σ : Int)))), (5, .int (iI (0))), (4, .int (iI ((k : Int)))), (3, .int (iI ((n : Int)))), (0, .ref (x)), (1, .int (iI (how))), (2, .int (v))]) E.1 E.2.1 dL_files_76 hl (by decide) rfl (fun ls hl => ?_)
          refine lv_iload_n E.1 E.2.1 dL_files_78 rfl (lv_at hl 4 rfl) ?_
          refine r_if_ge (tgt := 86) E dL_files_79 (by decide) (by omega) (fun c79 => ?_) (fun c79 => absurd c79 (by omega))
          refine lv_aload_n E.1 E.2.1 dL_files_86 rfl (lv_at hl 5 rfl) ?_
          refine lv_iload_n E.1 E.2.1 dL_files_87 rfl (lv_at hl 4 rfl) ?_
          refine r_const E dL_files_88 ?_
          refine kVRE (As := [.int (iI ((n : Int))), .int (iI (5))]) E cw_L_29 (c_X5_session G l x fb fl σ hs tx len hI hT hfx hgx ((n : Int)) (5) (by unfold okI; omega) (by unfold okI; omega)) hP.1.1 ⟨_, _, rfl⟩ hP.1 hL hl.1 rfl rfl (Nat.le_of_ble_eq_true rfl) ⟨Nat.le_of_ble_eq_true rfl, Nat.le_of_ble_eq_true rfl⟩ ⟨rfl, rfl⟩ ⟨Nat.le_of_ble_eq_true rfl, Nat.le_of_ble_eq_true rfl⟩ dL_files_89 (fun locs hL => ?_)
          rw [spSes5 hnm]
          refine lv_istore (lv' := [(8, .int (iI ((entriesN σ n : Int)))), (7, .int (iI (1))), (6, .int (iI ((nx σ : Int)))), (5, .int (iI (0))), (4, .int (iI ((k : Int)))), (3, .int (iI ((n : Int)))), (0, .ref (x)), (1, .int (iI (how))), (2, .int (v))]) E.1 E.2.1 dL_files_92 hl (by decide) rfl (fun ls hl => ?_)
          refine lv_iload_n E.1 E.2.1 dL_files_94 rfl (lv_at hl 7 rfl) ?_
          refine r_if_ne (tgt := 352) E dL_files_95 (by decide) (by omega) (fun c95 => ?_) (fun c95 => ?_)
          · refine lv_iload_n E.1 E.2.1 dL_files_352 rfl (lv_at hl 7 rfl) ?_
            refine r_const E dL_files_353 ?_
            refine r_icmp_ne (tgt := 426) E dL_files_354 (by decide) (by omega) (by omega) (fun c354 => ?_) (fun c354 => ?_)
            · refine lv_iload_n E.1 E.2.1 dL_files_426 rfl (lv_at hl 8 rfl) ?_
              refine r_const E dL_files_427 ?_
              refine lv_ishr E.1 E.2.1 dL_files_428 ?_
              refine lv_aload_n E.1 E.2.1 dL_files_429 rfl (lv_at hl 6 rfl) ?_
              refine kVRE (As := []) E cw_L_26 (c_X5_sessions G l x fb fl σ hs tx len hI hT hfx hgx  ) hP.1.1 ⟨_, _, rfl⟩ hP.1 hL hl.1 rfl rfl (Nat.le_of_ble_eq_true rfl) ⟨Nat.le_of_ble_eq_true rfl, Nat.le_of_ble_eq_true rfl⟩ ⟨rfl, rfl⟩ ⟨Nat.le_of_ble_eq_true rfl, Nat.le_of_ble_eq_true rfl⟩ dL_files_430 (fun locs hL => ?_)
              refine r_const E dL_files_433 ?_
              refine r_add E dL_files_434 ?_
              obtain ⟨w3, hw3⟩ : ∃ z : Int, lowI (((v) >>> ((iI (4)) &&& 31))) ((mn σ : Int) + 1) = z := ⟨_, rfl⟩
              have hw3b : 0 ≤ w3 ∧ w3 < ((mn σ : Int) + 1) := by rw [← hw3]; exact low_b _ (by omega)
              have hw3c := c_L_low G l (((v) >>> ((iI (4)) &&& 31))) ((mn σ : Int) + 1) (by omega)
              rw [hw3] at hw3c
              refine kSRE (As := [.int (((v) >>> ((iI (4)) &&& 31))), .int (iI ((mn σ : Int) + 1))]) E cw_L_72 hw3c trivial hL hl.1 rfl rfl (Nat.le_of_ble_eq_true rfl) ⟨Nat.le_of_ble_eq_true rfl, Nat.le_of_ble_eq_true rfl⟩ ⟨rfl, rfl⟩ ⟨Nat.le_of_ble_eq_true rfl, Nat.le_of_ble_eq_true rfl⟩ dL_files_435 (fun locs hL => ?_)
              refine lv_istore (lv' := [(9, .int (iI (w3))), (8, .int (iI ((entriesN σ n : Int)))), (7, .int (iI (1))), (6, .int (iI ((nx σ : Int)))), (5, .int (iI (0))), (4, .int (iI ((k : Int)))), (3, .int (iI ((n : Int)))), (0, .ref (x)), (1, .int (iI (how))), (2, .int (v))]) E.1 E.2.1 dL_files_438 hl (by decide) rfl (fun ls hl => ?_)
              obtain ⟨m9, hm9e⟩ : ∃ k : Nat, w3 = (k : Int) := ⟨w3.toNat, by omega⟩
              subst hm9e
              rcases (show m9 = mn σ ∨ m9 < mn σ by omega) with hm9 | hm9
              · have hsp : (spKeep σ (k : Int) (m9 : Int)) = (-1, σ) := kp_e1 (by omega)
                refine lv_iload_n E.1 E.2.1 dL_files_440 rfl (lv_at hl 6 rfl) ?_
                refine r_if_lt (tgt := 488) E dL_files_441 (by decide) (by omega) (fun c441 => absurd c441 (by omega)) (fun c441 => ?_)
                refine lv_iload E.1 E.2.1 dL_files_444 (lv_at hl 0 rfl) ?_
                refine lv_aload_n E.1 E.2.1 dL_files_446 rfl (lv_at hl 7 rfl) ?_
                refine kVRE (As := []) E cw_L_26 (c_X5_sessions G l x fb fl σ hs tx len hI hT hfx hgx  ) hP.1.1 ⟨_, _, rfl⟩ hP.1 hL hl.1 rfl rfl (Nat.le_of_ble_eq_true rfl) ⟨Nat.le_of_ble_eq_true rfl, Nat.le_of_ble_eq_true rfl⟩ ⟨rfl, rfl⟩ ⟨Nat.le_of_ble_eq_true rfl, Nat.le_of_ble_eq_true rfl⟩ dL_files_447 (fun locs hL => ?_)
                refine r_icmp_ge (tgt := 488) E dL_files_450 (by decide) (by omega) (by omega) (fun c450 => ?_) (fun c450 => absurd c450 (by omega))
                refine r_const E dL_files_488 ?_
                refine lv_istore (lv' := [(10, .int (iI (0))), (9, .int (iI ((m9 : Int)))), (8, .int (iI ((entriesN σ n : Int)))), (7, .int (iI (1))), (6, .int (iI ((nx σ : Int)))), (5, .int (iI (0))), (4, .int (iI ((k : Int)))), (3, .int (iI ((n : Int)))), (0, .ref (x)), (1, .int (iI (how))), (2, .int (v))]) E.1 E.2.1 dL_files_489 hl (by decide) rfl (fun ls hl => ?_)
                refine lv_aload_n E.1 E.2.1 dL_files_491 rfl (lv_at hl 8 rfl) ?_
                refine lv_iload E.1 E.2.1 dL_files_492 (lv_at hl 6 rfl) ?_
                refine lv_iload E.1 E.2.1 dL_files_494 (lv_at hl 1 rfl) ?_
                refine kVWE (As := [.int (iI ((k : Int))), .int (iI ((m9 : Int)))]) E cw_L_125 (c_X5_keep G l x fb fl σ hs tx len hI hT hfx hgx ((k : Int)) ((m9 : Int)) (by unfold okI; omega) (by unfold okI; omega)) hP.1.1 ⟨_, _, rfl⟩ ⟨hP.1, hP.2⟩ hL hl.1 rfl rfl (Nat.le_of_ble_eq_true rfl) ⟨Nat.le_of_ble_eq_true rfl, Nat.le_of_ble_eq_true rfl⟩ ⟨Nat.le_of_ble_eq_true rfl, Nat.le_of_ble_eq_true rfl⟩ dL_files_496 (fun H4 locs hL hw_ => ?_)
                obtain ⟨⟨fl1, hE1, hX1⟩, hR1⟩ := hw_
                have hV1 : VS (spKeep σ ((k : Int)) ((m9 : Int))).2 := hS.keep ((k : Int)) ((m9 : Int))
                have hC1 : AC σ hs (spKeep σ ((k : Int)) ((m9 : Int))).2 (hsA σ hs (spKeep σ ((k : Int)) ((m9 : Int))).1) := ac_of (spKeep_b hI ((k : Int)) ((m9 : Int))).2.2
                have hD1 : VH (hsA σ hs (spKeep σ ((k : Int)) ((m9 : Int))).1) := VH.hs1 hS hH
                generalize hsA σ hs (spKeep σ ((k : Int)) ((m9 : Int))).1 = hs1 at hX1 hC1 hD1
                have hte : (spKeep σ (k : Int) (m9 : Int)).2 = σ := by rw [hsp]
                have hr1 : (spKeep σ ((k : Int)) ((m9 : Int))).1 = (-1) := by rw [hsp]
                rw [hr1]
                generalize (spKeep σ ((k : Int)) ((m9 : Int))).2 = τ at hX1 hV1 hC1 hte
                have hI1 := hV1.1
                have hz1 := FrR.size hR1 hP.2
                refine lv_istore (lv' := [(11, .int (iI ((-1)))), (10, .int (iI (0))), (9, .int (iI ((m9 : Int)))), (8, .int (iI ((entriesN σ n : Int)))), (7, .int (iI (1))), (6, .int (iI ((nx σ : Int)))), (5, .int (iI (0))), (4, .int (iI ((k : Int)))), (3, .int (iI ((n : Int)))), (0, .ref (x)), (1, .int (iI (how))), (2, .int (v))]) E.1 E.2.1 dL_files_499 hl (by decide) rfl (fun ls hl => ?_)
                have hnx1 : nx τ = nx σ := by rw [hte]
                have hmn1 : mn τ = mn σ := by rw [hte]
                refine lv_iload E.1 E.2.1 dL_files_501 (lv_at hl 0 rfl) ?_
                refine lv_iload E.1 E.2.1 dL_files_503 (lv_at hl 6 rfl) ?_
                refine r_if_ne (tgt := 517) E dL_files_505 (by decide) (by omega) (fun c505 => absurd c505 (by omega)) (fun c505 => ?_)
                refine lv_iload E.1 E.2.1 dL_files_508 (lv_at hl 2 rfl) ?_
                refine lv_aload_n E.1 E.2.1 dL_files_510 rfl (lv_at hl 9 rfl) ?_
                refine kVRE (As := []) E cw_L_26 (c_X5_sessions G l x fb fl1 τ hs1 tx len hI1 hT hfx hgx  ) hX1.1 ⟨_, _, rfl⟩ hX1 hL hl.1 rfl rfl (Nat.le_of_ble_eq_true rfl) ⟨Nat.le_of_ble_eq_true rfl, Nat.le_of_ble_eq_true rfl⟩ ⟨rfl, rfl⟩ ⟨Nat.le_of_ble_eq_true rfl, Nat.le_of_ble_eq_true rfl⟩ dL_files_511 (fun locs hL => ?_)
                refine r_icmp_ne (tgt := 521) E dL_files_514 (by decide) (by omega) (by omega) (fun c514 => absurd c514 (by omega)) (fun c514 => ?_)
                refine r_const E dL_files_517 ?_
                refine lv_goto (tgt := 540) E.1 E.2.1 dL_files_518 (by decide) ?_
                refine r_icmp_ne (tgt := 607) E dL_files_540 (by decide) (by omega) (by omega) (fun c540 => absurd c540 (by omega)) (fun c540 => ?_)
                refine lv_iload E.1 E.2.1 dL_files_543 (lv_at hl 0 rfl) ?_
                refine r_if_lt (tgt := 603) E dL_files_545 (by decide) (by omega) (fun c545 => ?_) (fun c545 => absurd c545 (by omega))
                refine r_const E dL_files_603 ?_
                refine lv_goto (tgt := 608) E.1 E.2.1 dL_files_604 (by decide) ?_
                refine W.widen (k := 1) (n := 3) (Nat.le_of_ble_eq_true rfl) (Nat.le_of_ble_eq_true rfl) ?_
                refine e_zret (rm := ({ frames := 5, cells := 1, slots := 3, locals := 118 } : Room)) (v := iI (1)) E hL rfl dL_files_608 ?_
                exact ⟨rfl, _, _, _, _, hV1, hD1, hT, hC1, ⟨_, hE1, hX1⟩, hR1⟩
              · rcases hrd : readB σ (dm σ) m9 with _ | _
                · have hsp : (spKeep σ (k : Int) (m9 : Int)) = (-5, σ) := kp_e3 hno hm9 hop hrd
                  refine lv_iload_n E.1 E.2.1 dL_files_440 rfl (lv_at hl 6 rfl) ?_
                  refine r_if_lt (tgt := 488) E dL_files_441 (by decide) (by omega) (fun c441 => absurd c441 (by omega)) (fun c441 => ?_)
                  refine lv_iload E.1 E.2.1 dL_files_444 (lv_at hl 0 rfl) ?_
                  refine lv_aload_n E.1 E.2.1 dL_files_446 rfl (lv_at hl 7 rfl) ?_
                  refine kVRE (As := []) E cw_L_26 (c_X5_sessions G l x fb fl σ hs tx len hI hT hfx hgx  ) hP.1.1 ⟨_, _, rfl⟩ hP.1 hL hl.1 rfl rfl (Nat.le_of_ble_eq_true rfl) ⟨Nat.le_of_ble_eq_true rfl, Nat.le_of_ble_eq_true rfl⟩ ⟨rfl, rfl⟩ ⟨Nat.le_of_ble_eq_true rfl, Nat.le_of_ble_eq_true rfl⟩ dL_files_447 (fun locs hL => ?_)
                  refine r_icmp_ge (tgt := 488) E dL_files_450 (by decide) (by omega) (by omega) (fun c450 => absurd c450 (by omega)) (fun c450 => ?_)
                  refine lv_iload E.1 E.2.1 dL_files_453 (lv_at hl 4 rfl) ?_
                  refine r_if_ne (tgt := 488) E dL_files_455 (by decide) (by omega) (fun c455 => absurd c455 (by omega)) (fun c455 => ?_)
                  refine lv_aload_n E.1 E.2.1 dL_files_458 rfl (lv_at hl 7 rfl) ?_
                  refine lv_iload E.1 E.2.1 dL_files_459 (lv_at hl 0 rfl) ?_
                  refine r_bipush E dL_files_461 (by decide) ?_
                  refine kVRE (As := [.int (iI ((m9 : Int))), .int (iI (6))]) E cw_L_29 (c_X5_session G l x fb fl σ hs tx len hI hT hfx hgx ((m9 : Int)) (6) (by unfold okI; omega) (by unfold okI; omega)) hP.1.1 ⟨_, _, rfl⟩ hP.1 hL hl.1 rfl rfl (Nat.le_of_ble_eq_true rfl) ⟨Nat.le_of_ble_eq_true rfl, Nat.le_of_ble_eq_true rfl⟩ ⟨rfl, rfl⟩ ⟨Nat.le_of_ble_eq_true rfl, Nat.le_of_ble_eq_true rfl⟩ dL_files_463 (fun locs hL => ?_)
                  rw [spSes6 hm9, hrd, if_neg (by decide)]
                  refine r_const E dL_files_466 ?_
                  refine r_icmp_ne (tgt := 488) E dL_files_467 (by decide) (by omega) (by omega) (fun c467 => ?_) (fun c467 => absurd c467 (by omega))
                  refine r_const E dL_files_488 ?_
                  refine lv_istore (lv' := [(10, .int (iI (0))), (9, .int (iI ((m9 : Int)))), (8, .int (iI ((entriesN σ n : Int)))), (7, .int (iI (1))), (6, .int (iI ((nx σ : Int)))), (5, .int (iI (0))), (4, .int (iI ((k : Int)))), (3, .int (iI ((n : Int)))), (0, .ref (x)), (1, .int (iI (how))), (2, .int (v))]) E.1 E.2.1 dL_files_489 hl (by decide) rfl (fun ls hl => ?_)
                  refine lv_aload_n E.1 E.2.1 dL_files_491 rfl (lv_at hl 8 rfl) ?_
                  refine lv_iload E.1 E.2.1 dL_files_492 (lv_at hl 6 rfl) ?_
                  refine lv_iload E.1 E.2.1 dL_files_494 (lv_at hl 1 rfl) ?_
                  refine kVWE (As := [.int (iI ((k : Int))), .int (iI ((m9 : Int)))]) E cw_L_125 (c_X5_keep G l x fb fl σ hs tx len hI hT hfx hgx ((k : Int)) ((m9 : Int)) (by unfold okI; omega) (by unfold okI; omega)) hP.1.1 ⟨_, _, rfl⟩ ⟨hP.1, hP.2⟩ hL hl.1 rfl rfl (Nat.le_of_ble_eq_true rfl) ⟨Nat.le_of_ble_eq_true rfl, Nat.le_of_ble_eq_true rfl⟩ ⟨Nat.le_of_ble_eq_true rfl, Nat.le_of_ble_eq_true rfl⟩ dL_files_496 (fun H4 locs hL hw_ => ?_)
                  obtain ⟨⟨fl1, hE1, hX1⟩, hR1⟩ := hw_
                  have hV1 : VS (spKeep σ ((k : Int)) ((m9 : Int))).2 := hS.keep ((k : Int)) ((m9 : Int))
                  have hC1 : AC σ hs (spKeep σ ((k : Int)) ((m9 : Int))).2 (hsA σ hs (spKeep σ ((k : Int)) ((m9 : Int))).1) := ac_of (spKeep_b hI ((k : Int)) ((m9 : Int))).2.2
                  have hD1 : VH (hsA σ hs (spKeep σ ((k : Int)) ((m9 : Int))).1) := VH.hs1 hS hH
                  generalize hsA σ hs (spKeep σ ((k : Int)) ((m9 : Int))).1 = hs1 at hX1 hC1 hD1
                  have hte : (spKeep σ (k : Int) (m9 : Int)).2 = σ := by rw [hsp]
                  have hr1 : (spKeep σ ((k : Int)) ((m9 : Int))).1 = (-5) := by rw [hsp]
                  rw [hr1]
                  generalize (spKeep σ ((k : Int)) ((m9 : Int))).2 = τ at hX1 hV1 hC1 hte
                  have hI1 := hV1.1
                  have hz1 := FrR.size hR1 hP.2
                  refine lv_istore (lv' := [(11, .int (iI ((-5)))), (10, .int (iI (0))), (9, .int (iI ((m9 : Int)))), (8, .int (iI ((entriesN σ n : Int)))), (7, .int (iI (1))), (6, .int (iI ((nx σ : Int)))), (5, .int (iI (0))), (4, .int (iI ((k : Int)))), (3, .int (iI ((n : Int)))), (0, .ref (x)), (1, .int (iI (how))), (2, .int (v))]) E.1 E.2.1 dL_files_499 hl (by decide) rfl (fun ls hl => ?_)
                  have hnx1 : nx τ = nx σ := by rw [hte]
                  have hmn1 : mn τ = mn σ := by rw [hte]
                  refine lv_iload E.1 E.2.1 dL_files_501 (lv_at hl 0 rfl) ?_
                  refine lv_iload E.1 E.2.1 dL_files_503 (lv_at hl 6 rfl) ?_
                  refine r_if_ne (tgt := 517) E dL_files_505 (by decide) (by omega) (fun c505 => absurd c505 (by omega)) (fun c505 => ?_)
                  refine lv_iload E.1 E.2.1 dL_files_508 (lv_at hl 2 rfl) ?_
                  refine lv_aload_n E.1 E.2.1 dL_files_510 rfl (lv_at hl 9 rfl) ?_
                  refine kVRE (As := []) E cw_L_26 (c_X5_sessions G l x fb fl1 τ hs1 tx len hI1 hT hfx hgx  ) hX1.1 ⟨_, _, rfl⟩ hX1 hL hl.1 rfl rfl (Nat.le_of_ble_eq_true rfl) ⟨Nat.le_of_ble_eq_true rfl, Nat.le_of_ble_eq_true rfl⟩ ⟨rfl, rfl⟩ ⟨Nat.le_of_ble_eq_true rfl, Nat.le_of_ble_eq_true rfl⟩ dL_files_511 (fun locs hL => ?_)
                  refine r_icmp_ne (tgt := 521) E dL_files_514 (by decide) (by omega) (by omega) (fun c514 => ?_) (fun c514 => absurd c514 (by omega))
                  refine lv_iload E.1 E.2.1 dL_files_521 (lv_at hl 1 rfl) ?_
                  refine r_if_ne (tgt := 531) E dL_files_523 (by decide) (by omega) (fun c523 => absurd c523 (by omega)) (fun c523 => ?_)
                  refine r_bipush E dL_files_526 (by decide) ?_
                  refine lv_goto (tgt := 540) E.1 E.2.1 dL_files_528 (by decide) ?_
                  refine r_icmp_ne (tgt := 607) E dL_files_540 (by decide) (by omega) (by omega) (fun c540 => absurd c540 (by omega)) (fun c540 => ?_)
                  refine lv_iload E.1 E.2.1 dL_files_543 (lv_at hl 0 rfl) ?_
                  refine r_if_lt (tgt := 603) E dL_files_545 (by decide) (by omega) (fun c545 => ?_) (fun c545 => absurd c545 (by omega))
                  refine r_const E dL_files_603 ?_
                  refine lv_goto (tgt := 608) E.1 E.2.1 dL_files_604 (by decide) ?_
                  refine W.widen (k := 1) (n := 3) (Nat.le_of_ble_eq_true rfl) (Nat.le_of_ble_eq_true rfl) ?_
                  refine e_zret (rm := ({ frames := 5, cells := 1, slots := 3, locals := 118 } : Room)) (v := iI (1)) E hL rfl dL_files_608 ?_
                  exact ⟨rfl, _, _, _, _, hV1, hD1, hT, hC1, ⟨_, hE1, hX1⟩, hR1⟩
                · rcases hem : en σ m9 k with _ | f
                  · have hsp : (spKeep σ (k : Int) (m9 : Int)) = (-5, σ) := kp_e4 hno hm9 hop hem
                    refine lv_iload_n E.1 E.2.1 dL_files_440 rfl (lv_at hl 6 rfl) ?_
                    refine r_if_lt (tgt := 488) E dL_files_441 (by decide) (by omega) (fun c441 => absurd c441 (by omega)) (fun c441 => ?_)
                    refine lv_iload E.1 E.2.1 dL_files_444 (lv_at hl 0 rfl) ?_
                    refine lv_aload_n E.1 E.2.1 dL_files_446 rfl (lv_at hl 7 rfl) ?_
                    refine kVRE (As := []) E cw_L_26 (c_X5_sessions G l x fb fl σ hs tx len hI hT hfx hgx  ) hP.1.1 ⟨_, _, rfl⟩ hP.1 hL hl.1 rfl rfl (Nat.le_of_ble_eq_true rfl) ⟨Nat.le_of_ble_eq_true rfl, Nat.le_of_ble_eq_true rfl⟩ ⟨rfl, rfl⟩ ⟨Nat.le_of_ble_eq_true rfl, Nat.le_of_ble_eq_true rfl⟩ dL_files_447 (fun locs hL => ?_)
                    refine r_icmp_ge (tgt := 488) E dL_files_450 (by decide) (by omega) (by omega) (fun c450 => absurd c450 (by omega)) (fun c450 => ?_)
                    refine lv_iload E.1 E.2.1 dL_files_453 (lv_at hl 4 rfl) ?_
                    refine r_if_ne (tgt := 488) E dL_files_455 (by decide) (by omega) (fun c455 => absurd c455 (by omega)) (fun c455 => ?_)
                    refine lv_aload_n E.1 E.2.1 dL_files_458 rfl (lv_at hl 7 rfl) ?_
                    refine lv_iload E.1 E.2.1 dL_files_459 (lv_at hl 0 rfl) ?_
                    refine r_bipush E dL_files_461 (by decide) ?_
                    refine kVRE (As := [.int (iI ((m9 : Int))), .int (iI (6))]) E cw_L_29 (c_X5_session G l x fb fl σ hs tx len hI hT hfx hgx ((m9 : Int)) (6) (by unfold okI; omega) (by unfold okI; omega)) hP.1.1 ⟨_, _, rfl⟩ hP.1 hL hl.1 rfl rfl (Nat.le_of_ble_eq_true rfl) ⟨Nat.le_of_ble_eq_true rfl, Nat.le_of_ble_eq_true rfl⟩ ⟨rfl, rfl⟩ ⟨Nat.le_of_ble_eq_true rfl, Nat.le_of_ble_eq_true rfl⟩ dL_files_463 (fun locs hL => ?_)
                    rw [spSes6 hm9, hrd, if_pos rfl]
                    refine r_const E dL_files_466 ?_
                    refine r_icmp_ne (tgt := 488) E dL_files_467 (by decide) (by omega) (by omega) (fun c467 => absurd c467 (by omega)) (fun c467 => ?_)
                    refine lv_aload_n E.1 E.2.1 dL_files_470 rfl (lv_at hl 7 rfl) ?_
                    refine lv_iload E.1 E.2.1 dL_files_471 (lv_at hl 0 rfl) ?_
                    refine lv_iload E.1 E.2.1 dL_files_473 (lv_at hl 5 rfl) ?_
                    refine r_const E dL_files_475 ?_
                    refine kVRE (As := [.int (iI ((m9 : Int))), .int (iI ((k : Int))), .int (iI (0))]) E cw_L_33 (c_X5_entry G l x fb fl σ hs tx len hI hT hfx hgx ((m9 : Int)) ((k : Int)) (0) (by unfold okI; omega) (by unfold okI; omega) (by unfold okI; omega)) hP.1.1 ⟨_, _, rfl⟩ hP.1 hL hl.1 rfl rfl (Nat.le_of_ble_eq_true rfl) ⟨Nat.le_of_ble_eq_true rfl, Nat.le_of_ble_eq_true rfl⟩ ⟨rfl, rfl⟩ ⟨Nat.le_of_ble_eq_true rfl, Nat.le_of_ble_eq_true rfl⟩ dL_files_476 (fun locs hL => ?_)
                    rw [spEntN hm9 hno hem (w := 0) (by decide)]
                    refine r_bipush E dL_files_479 (by decide) ?_
                    refine r_icmp_eq (tgt := 488) E dL_files_481 (by decide) (by omega) (by omega) (fun c481 => ?_) (fun c481 => absurd c481 (by omega))
                    refine r_const E dL_files_488 ?_
                    refine lv_istore (lv' := [(10, .int (iI (0))), (9, .int (iI ((m9 : Int)))), (8, .int (iI ((entriesN σ n : Int)))), (7, .int (iI (1))), (6, .int (iI ((nx σ : Int)))), (5, .int (iI (0))), (4, .int (iI ((k : Int)))), (3, .int (iI ((n : Int)))), (0, .ref (x)), (1, .int (iI (how))), (2, .int (v))]) E.1 E.2.1 dL_files_489 hl (by decide) rfl (fun ls hl => ?_)
                    refine lv_aload_n E.1 E.2.1 dL_files_491 rfl (lv_at hl 8 rfl) ?_
                    refine lv_iload E.1 E.2.1 dL_files_492 (lv_at hl 6 rfl) ?_
                    refine lv_iload E.1 E.2.1 dL_files_494 (lv_at hl 1 rfl) ?_
                    refine kVWE (As := [.int (iI ((k : Int))), .int (iI ((m9 : Int)))]) E cw_L_125 (c_X5_keep G l x fb fl σ hs tx len hI hT hfx hgx ((k : Int)) ((m9 : Int)) (by unfold okI; omega) (by unfold okI; omega)) hP.1.1 ⟨_, _, rfl⟩ ⟨hP.1, hP.2⟩ hL hl.1 rfl rfl (Nat.le_of_ble_eq_true rfl) ⟨Nat.le_of_ble_eq_true rfl, Nat.le_of_ble_eq_true rfl⟩ ⟨Nat.le_of_ble_eq_true rfl, Nat.le_of_ble_eq_true rfl⟩ dL_files_496 (fun H4 locs hL hw_ => ?_)
                    obtain ⟨⟨fl1, hE1, hX1⟩, hR1⟩ := hw_
                    have hV1 : VS (spKeep σ ((k : Int)) ((m9 : Int))).2 := hS.keep ((k : Int)) ((m9 : Int))
                    have hC1 : AC σ hs (spKeep σ ((k : Int)) ((m9 : Int))).2 (hsA σ hs (spKeep σ ((k : Int)) ((m9 : Int))).1) := ac_of (spKeep_b hI ((k : Int)) ((m9 : Int))).2.2
                    have hD1 : VH (hsA σ hs (spKeep σ ((k : Int)) ((m9 : Int))).1) := VH.hs1 hS hH
                    generalize hsA σ hs (spKeep σ ((k : Int)) ((m9 : Int))).1 = hs1 at hX1 hC1 hD1
                    have hte : (spKeep σ (k : Int) (m9 : Int)).2 = σ := by rw [hsp]
                    have hr1 : (spKeep σ ((k : Int)) ((m9 : Int))).1 = (-5) := by rw [hsp]
                    rw [hr1]
                    generalize (spKeep σ ((k : Int)) ((m9 : Int))).2 = τ at hX1 hV1 hC1 hte
                    have hI1 := hV1.1
                    have hz1 := FrR.size hR1 hP.2
                    refine lv_istore (lv' := [(11, .int (iI ((-5)))), (10, .int (iI (0))), (9, .int (iI ((m9 : Int)))), (8, .int (iI ((entriesN σ n : Int)))), (7, .int (iI (1))), (6, .int (iI ((nx σ : Int)))), (5, .int (iI (0))), (4, .int (iI ((k : Int)))), (3, .int (iI ((n : Int)))), (0, .ref (x)), (1, .int (iI (how))), (2, .int (v))]) E.1 E.2.1 dL_files_499 hl (by decide) rfl (fun ls hl => ?_)
                    have hnx1 : nx τ = nx σ := by rw [hte]
                    have hmn1 : mn τ = mn σ := by rw [hte]
                    refine lv_iload E.1 E.2.1 dL_files_501 (lv_at hl 0 rfl) ?_
                    refine lv_iload E.1 E.2.1 dL_files_503 (lv_at hl 6 rfl) ?_
                    refine r_if_ne (tgt := 517) E dL_files_505 (by decide) (by omega) (fun c505 => absurd c505 (by omega)) (fun c505 => ?_)
                    refine lv_iload E.1 E.2.1 dL_files_508 (lv_at hl 2 rfl) ?_
                    refine lv_aload_n E.1 E.2.1 dL_files_510 rfl (lv_at hl 9 rfl) ?_
                    refine kVRE (As := []) E cw_L_26 (c_X5_sessions G l x fb fl1 τ hs1 tx len hI1 hT hfx hgx  ) hX1.1 ⟨_, _, rfl⟩ hX1 hL hl.1 rfl rfl (Nat.le_of_ble_eq_true rfl) ⟨Nat.le_of_ble_eq_true rfl, Nat.le_of_ble_eq_true rfl⟩ ⟨rfl, rfl⟩ ⟨Nat.le_of_ble_eq_true rfl, Nat.le_of_ble_eq_true rfl⟩ dL_files_511 (fun locs hL => ?_)
                    refine r_icmp_ne (tgt := 521) E dL_files_514 (by decide) (by omega) (by omega) (fun c514 => ?_) (fun c514 => absurd c514 (by omega))
                    refine lv_iload E.1 E.2.1 dL_files_521 (lv_at hl 1 rfl) ?_
                    refine r_if_ne (tgt := 531) E dL_files_523 (by decide) (by omega) (fun c523 => absurd c523 (by omega)) (fun c523 => ?_)
                    refine r_bipush E dL_files_526 (by decide) ?_
                    refine lv_goto (tgt := 540) E.1 E.2.1 dL_files_528 (by decide) ?_
                    refine r_icmp_ne (tgt := 607) E dL_files_540 (by decide) (by omega) (by omega) (fun c540 => absurd c540 (by omega)) (fun c540 => ?_)
                    refine lv_iload E.1 E.2.1 dL_files_543 (lv_at hl 0 rfl) ?_
                    refine r_if_lt (tgt := 603) E dL_files_545 (by decide) (by omega) (fun c545 => ?_) (fun c545 => absurd c545 (by omega))
                    refine r_const E dL_files_603 ?_
                    refine lv_goto (tgt := 608) E.1 E.2.1 dL_files_604 (by decide) ?_
                    refine W.widen (k := 1) (n := 3) (Nat.le_of_ble_eq_true rfl) (Nat.le_of_ble_eq_true rfl) ?_
                    refine e_zret (rm := ({ frames := 5, cells := 1, slots := 3, locals := 118 } : Room)) (v := iI (1)) E hL rfl dL_files_608 ?_
                    exact ⟨rfl, _, _, _, _, hV1, hD1, hT, hC1, ⟨_, hE1, hX1⟩, hR1⟩
                  · have hbf := hI.ent2 hm9 hno hem
                    refine lv_iload_n E.1 E.2.1 dL_files_440 rfl (lv_at hl 6 rfl) ?_
                    refine r_if_lt (tgt := 488) E dL_files_441 (by decide) (by omega) (fun c441 => absurd c441 (by omega)) (fun c441 => ?_)
                    refine lv_iload E.1 E.2.1 dL_files_444 (lv_at hl 0 rfl) ?_
                    refine lv_aload_n E.1 E.2.1 dL_files_446 rfl (lv_at hl 7 rfl) ?_
                    refine kVRE (As := []) E cw_L_26 (c_X5_sessions G l x fb fl σ hs tx len hI hT hfx hgx  ) hP.1.1 ⟨_, _, rfl⟩ hP.1 hL hl.1 rfl rfl (Nat.le_of_ble_eq_true rfl) ⟨Nat.le_of_ble_eq_true rfl, Nat.le_of_ble_eq_true rfl⟩ ⟨rfl, rfl⟩ ⟨Nat.le_of_ble_eq_true rfl, Nat.le_of_ble_eq_true rfl⟩ dL_files_447 (fun locs hL => ?_)
                    refine r_icmp_ge (tgt := 488) E dL_files_450 (by decide) (by omega) (by omega) (fun c450 => absurd c450 (by omega)) (fun c450 => ?_)
                    refine lv_iload E.1 E.2.1 dL_files_453 (lv_at hl 4 rfl) ?_
                    refine r_if_ne (tgt := 488) E dL_files_455 (by decide) (by omega) (fun c455 => absurd c455 (by omega)) (fun c455 => ?_)
                    refine lv_aload_n E.1 E.2.1 dL_files_458 rfl (lv_at hl 7 rfl) ?_
                    refine lv_iload E.1 E.2.1 dL_files_459 (lv_at hl 0 rfl) ?_
                    refine r_bipush E dL_files_461 (by decide) ?_
                    refine kVRE (As := [.int (iI ((m9 : Int))), .int (iI (6))]) E cw_L_29 (c_X5_session G l x fb fl σ hs tx len hI hT hfx hgx ((m9 : Int)) (6) (by unfold okI; omega) (by unfold okI; omega)) hP.1.1 ⟨_, _, rfl⟩ hP.1 hL hl.1 rfl rfl (Nat.le_of_ble_eq_true rfl) ⟨Nat.le_of_ble_eq_true rfl, Nat.le_of_ble_eq_true rfl⟩ ⟨rfl, rfl⟩ ⟨Nat.le_of_ble_eq_true rfl, Nat.le_of_ble_eq_true rfl⟩ dL_files_463 (fun locs hL => ?_)
                    rw [spSes6 hm9, hrd, if_pos rfl]
                    refine r_const E dL_files_466 ?_
                    refine r_icmp_ne (tgt := 488) E dL_files_467 (by decide) (by omega) (by omega) (fun c467 => absurd c467 (by omega)) (fun c467 => ?_)
                    refine lv_aload_n E.1 E.2.1 dL_files_470 rfl (lv_at hl 7 rfl) ?_
                    refine lv_iload E.1 E.2.1 dL_files_471 (lv_at hl 0 rfl) ?_
                    refine lv_iload E.1 E.2.1 dL_files_473 (lv_at hl 5 rfl) ?_
                    refine r_const E dL_files_475 ?_
                    refine kVRE (As := [.int (iI ((m9 : Int))), .int (iI ((k : Int))), .int (iI (0))]) E cw_L_33 (c_X5_entry G l x fb fl σ hs tx len hI hT hfx hgx ((m9 : Int)) ((k : Int)) (0) (by unfold okI; omega) (by unfold okI; omega) (by unfold okI; omega)) hP.1.1 ⟨_, _, rfl⟩ hP.1 hL hl.1 rfl rfl (Nat.le_of_ble_eq_true rfl) ⟨Nat.le_of_ble_eq_true rfl, Nat.le_of_ble_eq_true rfl⟩ ⟨rfl, rfl⟩ ⟨Nat.le_of_ble_eq_true rfl, Nat.le_of_ble_eq_true rfl⟩ dL_files_476 (fun locs hL => ?_)
                    rw [spEnt0 hm9 hno hem]
                    refine r_bipush E dL_files_479 (by decide) ?_
                    refine r_icmp_eq (tgt := 488) E dL_files_481 (by decide) (by omega) (by omega) (fun c481 => absurd c481 (by omega)) (fun c481 => ?_)
                    refine r_const E dL_files_484 ?_
                    refine lv_goto (tgt := 489) E.1 E.2.1 dL_files_485 (by decide) ?_
                    refine lv_istore (lv' := [(10, .int (iI (1))), (9, .int (iI ((m9 : Int)))), (8, .int (iI ((entriesN σ n : Int)))), (7, .int (iI (1))), (6, .int (iI ((nx σ : Int)))), (5, .int (iI (0))), (4, .int (iI ((k : Int)))), (3, .int (iI ((n : Int)))), (0, .ref (x)), (1, .int (iI (how))), (2, .int (v))]) E.1 E.2.1 dL_files_489 hl (by decide) rfl (fun ls hl => ?_)
                    refine lv_aload_n E.1 E.2.1 dL_files_491 rfl (lv_at hl 8 rfl) ?_
                    refine lv_iload E.1 E.2.1 dL_files_492 (lv_at hl 6 rfl) ?_
                    refine lv_iload E.1 E.2.1 dL_files_494 (lv_at hl 1 rfl) ?_
                    refine kVWE (As := [.int (iI ((k : Int))), .int (iI ((m9 : Int)))]) E cw_L_125 (c_X5_keep G l x fb fl σ hs tx len hI hT hfx hgx ((k : Int)) ((m9 : Int)) (by unfold okI; omega) (by unfold okI; omega)) hP.1.1 ⟨_, _, rfl⟩ ⟨hP.1, hP.2⟩ hL hl.1 rfl rfl (Nat.le_of_ble_eq_true rfl) ⟨Nat.le_of_ble_eq_true rfl, Nat.le_of_ble_eq_true rfl⟩ ⟨Nat.le_of_ble_eq_true rfl, Nat.le_of_ble_eq_true rfl⟩ dL_files_496 (fun H4 locs hL hw_ => ?_)
                    obtain ⟨⟨fl1, hE1, hX1⟩, hR1⟩ := hw_
                    have hV1 : VS (spKeep σ ((k : Int)) ((m9 : Int))).2 := hS.keep ((k : Int)) ((m9 : Int))
                    have hC1 : AC σ hs (spKeep σ ((k : Int)) ((m9 : Int))).2 (hsA σ hs (spKeep σ ((k : Int)) ((m9 : Int))).1) := ac_of (spKeep_b hI ((k : Int)) ((m9 : Int))).2.2
                    have hD1 : VH (hsA σ hs (spKeep σ ((k : Int)) ((m9 : Int))).1) := VH.hs1 hS hH
                    generalize hsA σ hs (spKeep σ ((k : Int)) ((m9 : Int))).1 = hs1 at hX1 hC1 hD1
                    have hok := kp_ok hno hm9 hop hrd hem
                    have hm1 := hok.2.1
                    have he1 := hok.2.2.1
                    have he2 := hok.2.2.2.1
                    have hg1 := hok.2.2.2.2
                    have hg1 : entriesN (spKeep σ (k : Int) (m9 : Int)).2 n + 1 = entriesN σ n + 1 := by rw [hen] at hg1; exact hg1
                    have hr1 : (spKeep σ ((k : Int)) ((m9 : Int))).1 = (f.1 : Int) := hok.1
                    rw [hr1]
                    generalize (spKeep σ ((k : Int)) ((m9 : Int))).2 = τ at hX1 hV1 hC1 hm1 he1 he2 hg1
                    have hI1 := hV1.1
                    have hz1 := FrR.size hR1 hP.2
                    refine lv_istore (lv' := [(11, .int (iI ((f.1 : Int)))), (10, .int (iI (1))), (9, .int (iI ((m9 : Int)))), (8, .int (iI ((entriesN σ n : Int)))), (7, .int (iI (1))), (6, .int (iI ((nx σ : Int)))), (5, .int (iI (0))), (4, .int (iI ((k : Int)))), (3, .int (iI ((n : Int)))), (0, .ref (x)), (1, .int (iI (how))), (2, .int (v))]) E.1 E.2.1 dL_files_499 hl (by decide) rfl (fun ls hl => ?_)
                    have hgl := entN_le τ n
                    refine lv_iload E.1 E.2.1 dL_files_501 (lv_at hl 0 rfl) ?_
                    refine lv_iload E.1 E.2.1 dL_files_503 (lv_at hl 6 rfl) ?_
                    refine r_if_ne (tgt := 517) E dL_files_505 (by decide) (by omega) (fun c505 => absurd c505 (by omega)) (fun c505 => ?_)
                    refine lv_iload E.1 E.2.1 dL_files_508 (lv_at hl 2 rfl) ?_
                    refine lv_aload_n E.1 E.2.1 dL_files_510 rfl (lv_at hl 9 rfl) ?_
                    refine kVRE (As := []) E cw_L_26 (c_X5_sessions G l x fb fl1 τ hs1 tx len hI1 hT hfx hgx  ) hX1.1 ⟨_, _, rfl⟩ hX1 hL hl.1 rfl rfl (Nat.le_of_ble_eq_true rfl) ⟨Nat.le_of_ble_eq_true rfl, Nat.le_of_ble_eq_true rfl⟩ ⟨rfl, rfl⟩ ⟨Nat.le_of_ble_eq_true rfl, Nat.le_of_ble_eq_true rfl⟩ dL_files_511 (fun locs hL => ?_)
                    refine r_icmp_ne (tgt := 521) E dL_files_514 (by decide) (by omega) (by omega) (fun c514 => ?_) (fun c514 => absurd c514 (by omega))
                    refine lv_iload E.1 E.2.1 dL_files_521 (lv_at hl 1 rfl) ?_
                    refine r_if_ne (tgt := 531) E dL_files_523 (by decide) (by omega) (fun c523 => ?_) (fun c523 => absurd c523 (by omega))
                    refine lv_aload_n E.1 E.2.1 dL_files_531 rfl (lv_at hl 9 rfl) ?_
                    refine lv_iload E.1 E.2.1 dL_files_532 (lv_at hl 2 rfl) ?_
                    refine lv_iload E.1 E.2.1 dL_files_534 (lv_at hl 7 rfl) ?_
                    refine r_const E dL_files_536 ?_
                    refine kVRE (As := [.int (iI ((m9 : Int))), .int (iI ((k : Int))), .int (iI (0))]) E cw_L_33 (c_X5_entry G l x fb fl1 τ hs1 tx len hI1 hT hfx hgx ((m9 : Int)) ((k : Int)) (0) (by unfold okI; omega) (by unfold okI; omega) (by unfold okI; omega)) hX1.1 ⟨_, _, rfl⟩ hX1 hL hl.1 rfl rfl (Nat.le_of_ble_eq_true rfl) ⟨Nat.le_of_ble_eq_true rfl, Nat.le_of_ble_eq_true rfl⟩ ⟨rfl, rfl⟩ ⟨Nat.le_of_ble_eq_true rfl, Nat.le_of_ble_eq_true rfl⟩ dL_files_537 (fun locs hL => ?_)
                    rw [spEnt0 (by omega) hno he2]
                    refine r_icmp_ne (tgt := 607) E dL_files_540 (by decide) (by omega) (by omega) (fun c540 => absurd c540 (by omega)) (fun c540 => ?_)
                    refine lv_iload E.1 E.2.1 dL_files_543 (lv_at hl 0 rfl) ?_
                    refine r_if_lt (tgt := 603) E dL_files_545 (by decide) (by omega) (fun c545 => absurd c545 (by omega)) (fun c545 => ?_)
                    refine lv_aload_n E.1 E.2.1 dL_files_548 rfl (lv_at hl 9 rfl) ?_
                    refine lv_iload_n E.1 E.2.1 dL_files_549 rfl (lv_at hl 8 rfl) ?_
                    refine lv_iload E.1 E.2.1 dL_files_550 (lv_at hl 7 rfl) ?_
                    refine r_const E dL_files_552 ?_
                    refine kVRE (As := [.int (iI ((n : Int))), .int (iI ((k : Int))), .int (iI (0))]) E cw_L_33 (c_X5_entry G l x fb fl1 τ hs1 tx len hI1 hT hfx hgx ((n : Int)) ((k : Int)) (0) (by unfold okI; omega) (by unfold okI; omega) (by unfold okI; omega)) hX1.1 ⟨_, _, rfl⟩ hX1 hL hl.1 rfl rfl (Nat.le_of_ble_eq_true rfl) ⟨Nat.le_of_ble_eq_true rfl, Nat.le_of_ble_eq_true rfl⟩ ⟨rfl, rfl⟩ ⟨Nat.le_of_ble_eq_true rfl, Nat.le_of_ble_eq_true rfl⟩ dL_files_553 (fun locs hL => ?_)
                    rw [spEnt0 (by omega) hno he1]
                    refine lv_iload E.1 E.2.1 dL_files_556 (lv_at hl 0 rfl) ?_
                    refine r_icmp_ne (tgt := 607) E dL_files_558 (by decide) (by omega) (by omega) (fun c558 => absurd c558 (by omega)) (fun c558 => ?_)
                    refine lv_aload_n E.1 E.2.1 dL_files_561 rfl (lv_at hl 9 rfl) ?_
                    refine lv_iload_n E.1 E.2.1 dL_files_562 rfl (lv_at hl 8 rfl) ?_
                    refine lv_iload E.1 E.2.1 dL_files_563 (lv_at hl 7 rfl) ?_
                    refine r_const E dL_files_565 ?_
                    refine kVRE (As := [.int (iI ((n : Int))), .int (iI ((k : Int))), .int (iI (1))]) E cw_L_33 (c_X5_entry G l x fb fl1 τ hs1 tx len hI1 hT hfx hgx ((n : Int)) ((k : Int)) (1) (by unfold okI; omega) (by unfold okI; omega) (by unfold okI; omega)) hX1.1 ⟨_, _, rfl⟩ hX1 hL hl.1 rfl rfl (Nat.le_of_ble_eq_true rfl) ⟨Nat.le_of_ble_eq_true rfl, Nat.le_of_ble_eq_true rfl⟩ ⟨rfl, rfl⟩ ⟨Nat.le_of_ble_eq_true rfl, Nat.le_of_ble_eq_true rfl⟩ dL_files_566 (fun locs hL => ?_)
                    rw [spEnt1 (by omega) hno he1]
                    refine lv_aload_n E.1 E.2.1 dL_files_569 rfl (lv_at hl 9 rfl) ?_
                    refine lv_iload E.1 E.2.1 dL_files_570 (lv_at hl 2 rfl) ?_
                    refine lv_iload E.1 E.2.1 dL_files_572 (lv_at hl 7 rfl) ?_
                    refine r_const E dL_files_574 ?_
                    refine kVRE (As := [.int (iI ((m9 : Int))), .int (iI ((k : Int))), .int (iI (1))]) E cw_L_33 (c_X5_entry G l x fb fl1 τ hs1 tx len hI1 hT hfx hgx ((m9 : Int)) ((k : Int)) (1) (by unfold okI; omega) (by unfold okI; omega) (by unfold okI; omega)) hX1.1 ⟨_, _, rfl⟩ hX1 hL hl.1 rfl rfl (Nat.le_of_ble_eq_true rfl) ⟨Nat.le_of_ble_eq_true rfl, Nat.le_of_ble_eq_true rfl⟩ ⟨rfl, rfl⟩ ⟨Nat.le_of_ble_eq_true rfl, Nat.le_of_ble_eq_true rfl⟩ dL_files_575 (fun locs hL => ?_)
                    rw [spEnt1 (by omega) hno he2]
                    refine r_icmp_ne (tgt := 607) E dL_files_578 (by decide) (by omega) (by omega) (fun c578 => absurd c578 (by omega)) (fun c578 => ?_)
                    refine lv_aload_n E.1 E.2.1 dL_files_581 rfl (lv_at hl 9 rfl) ?_
                    refine lv_iload_n E.1 E.2.1 dL_files_582 rfl (lv_at hl 8 rfl) ?_
                    refine r_const E dL_files_583 ?_
                    refine kVRE (As := [.int (iI ((n : Int))), .int (iI (5))]) E cw_L_29 (c_X5_session G l x fb fl1 τ hs1 tx len hI1 hT hfx hgx ((n : Int)) (5) (by unfold okI; omega) (by unfold okI; omega)) hX1.1 ⟨_, _, rfl⟩ hX1 hL hl.1 rfl rfl (Nat.le_of_ble_eq_true rfl) ⟨Nat.le_of_ble_eq_true rfl, Nat.le_of_ble_eq_true rfl⟩ ⟨rfl, rfl⟩ ⟨Nat.le_of_ble_eq_true rfl, Nat.le_of_ble_eq_true rfl⟩ dL_files_584 (fun locs hL => ?_)
                    rw [spSes5 (by omega)]
                    refine lv_iload E.1 E.2.1 dL_files_587 (lv_at hl 3 rfl) ?_
                    refine lv_iload E.1 E.2.1 dL_files_589 (lv_at hl 4 rfl) ?_
                    refine r_if_eq (tgt := 598) E dL_files_591 (by decide) (by omega) (fun c591 => absurd c591 (by omega)) (fun c591 => ?_)
                    refine r_const E dL_files_594 ?_
                    refine lv_goto (tgt := 599) E.1 E.2.1 dL_files_595 (by decide) ?_
                    refine r_add E dL_files_599 ?_
                    refine r_icmp_ne (tgt := 607) E dL_files_600 (by decide) (by omega) (by omega) (fun c600 => absurd c600 (by omega)) (fun c600 => ?_)
                    refine r_const E dL_files_603 ?_
                    refine lv_goto (tgt := 608) E.1 E.2.1 dL_files_604 (by decide) ?_
                    refine W.widen (k := 1) (n := 3) (Nat.le_of_ble_eq_true rfl) (Nat.le_of_ble_eq_true rfl) ?_
                    refine e_zret (rm := ({ frames := 5, cells := 1, slots := 3, locals := 118 } : Room)) (v := iI (1)) E hL rfl dL_files_608 ?_
                    exact ⟨rfl, _, _, _, _, hV1, hD1, hT, hC1, ⟨_, hE1, hX1⟩, hR1⟩
            · have hok0 := rm_ok hno hop hen
              have hbb := (spRemove_b (σ := σ) (k : Int)).1
              have hee : 1 ≤ entriesN σ n := cnt_one (p := fun j => (en σ n j).isSome) hno (by show (en σ n k).isSome = true; rw [hen]; rfl)
              refine lv_aload_n E.1 E.2.1 dL_files_357 rfl (lv_at hl 6 rfl) ?_
              refine lv_iload E.1 E.2.1 dL_files_358 (lv_at hl 4 rfl) ?_
              refine kVWE (As := [.int (iI ((k : Int)))]) E cw_L_122 (c_X5_remove G l x fb fl σ hs tx len hI hT hfx hgx ((k : Int)) (by unfold okI; omega)) hP.1.1 ⟨_, _, rfl⟩ ⟨hP.1, hP.2⟩ hL hl.1 rfl rfl (Nat.le_of_ble_eq_true rfl) ⟨Nat.le_of_ble_eq_true rfl, Nat.le_of_ble_eq_true rfl⟩ ⟨Nat.le_of_ble_eq_true rfl, Nat.le_of_ble_eq_true rfl⟩ dL_files_360 (fun H3 locs hL hw_ => ?_)
              obtain ⟨⟨fl1, hE1, hX1⟩, hR1⟩ := hw_
              have hV1 : VS (spRemove σ ((k : Int))).2 := hS.remove ((k : Int))
              have hC1 : AC σ hs (spRemove σ ((k : Int))).2 (hsA σ hs (spRemove σ ((k : Int))).1) := ac_of (spRemove_b ((k : Int))).2.2
              have hD1 : VH (hsA σ hs (spRemove σ ((k : Int))).1) := VH.hs1 hS hH
              generalize hsA σ hs (spRemove σ ((k : Int))).1 = hs1 at hX1 hC1 hD1
              have hok := hok0
              have hm1 := hok.2.2.1
              have hx1 := hok.2.1
              have he1 := hok.2.2.2
              clear hok0
              have hr1 : (spRemove σ ((k : Int))).1 = ((entriesN σ n : Int) - 1) := hok.1
              rw [hr1]
              generalize (spRemove σ ((k : Int))).2 = τ at hX1 hV1 hC1 hm1 hx1 he1
              have hI1 := hV1.1
              have hz1 := FrR.size hR1 hP.2
              refine lv_istore (lv' := [(9, .int (iI (((entriesN σ n : Int) - 1)))), (8, .int (iI ((entriesN σ n : Int)))), (7, .int (iI (1))), (6, .int (iI ((nx σ : Int)))), (5, .int (iI (0))), (4, .int (iI ((k : Int)))), (3, .int (iI ((n : Int)))), (0, .ref (x)), (1, .int (iI (how))), (2, .int (v))]) E.1 E.2.1 dL_files_363 hl (by decide) rfl (fun ls hl => ?_)
              refine lv_iload E.1 E.2.1 dL_files_365 (lv_at hl 0 rfl) ?_
              refine lv_iload E.1 E.2.1 dL_files_367 (lv_at hl 4 rfl) ?_
              refine r_if_eq (tgt := 376) E dL_files_369 (by decide) (by omega) (fun c369 => ?_) (fun c369 => absurd c369 (by omega))
              refine lv_iload E.1 E.2.1 dL_files_376 (lv_at hl 2 rfl) ?_
              refine r_if_ne (tgt := 386) E dL_files_378 (by decide) (by omega) (fun c378 => ?_) (fun c378 => absurd c378 (by omega))
              refine lv_iload E.1 E.2.1 dL_files_386 (lv_at hl 1 rfl) ?_
              refine r_const E dL_files_388 ?_
              refine r_sub E dL_files_389 ?_
              refine r_icmp_ne (tgt := 424) E dL_files_390 (by decide) (by omega) (by omega) (fun c390 => absurd c390 (by omega)) (fun c390 => ?_)
              refine lv_iload E.1 E.2.1 dL_files_393 (lv_at hl 0 rfl) ?_
              refine r_if_lt (tgt := 420) E dL_files_395 (by decide) (by omega) (fun c395 => absurd c395 (by omega)) (fun c395 => ?_)
              refine lv_aload_n E.1 E.2.1 dL_files_398 rfl (lv_at hl 7 rfl) ?_
              refine lv_iload_n E.1 E.2.1 dL_files_399 rfl (lv_at hl 6 rfl) ?_
              refine lv_iload E.1 E.2.1 dL_files_400 (lv_at hl 5 rfl) ?_
              refine r_const E dL_files_402 ?_
              refine kVRE (As := [.int (iI ((n : Int))), .int (iI ((k : Int))), .int (iI (1))]) E cw_L_33 (c_X5_entry G l x fb fl1 τ hs1 tx len hI1 hT hfx hgx ((n : Int)) ((k : Int)) (1) (by unfold okI; omega) (by unfold okI; omega) (by unfold okI; omega)) hX1.1 ⟨_, _, rfl⟩ hX1 hL hl.1 rfl rfl (Nat.le_of_ble_eq_true rfl) ⟨Nat.le_of_ble_eq_true rfl, Nat.le_of_ble_eq_true rfl⟩ ⟨rfl, rfl⟩ ⟨Nat.le_of_ble_eq_true rfl, Nat.le_of_ble_eq_true rfl⟩ dL_files_403 (fun locs hL => ?_)
              rw [spEntN (by omega) hno he1 (w := 1) (by decide)]
              refine r_bipush E dL_files_406 (by decide) ?_
              refine r_icmp_ne (tgt := 424) E dL_files_408 (by decide) (by omega) (by omega) (fun c408 => absurd c408 (by omega)) (fun c408 => ?_)
              refine lv_aload_n E.1 E.2.1 dL_files_411 rfl (lv_at hl 7 rfl) ?_
              refine kVRE (As := []) E cw_L_13 (c_X5_next G l x fb fl1 τ hs1 tx len hI1 hT hfx hgx  ) hX1.1 ⟨_, _, rfl⟩ hX1 hL hl.1 rfl rfl (Nat.le_of_ble_eq_true rfl) ⟨Nat.le_of_ble_eq_true rfl, Nat.le_of_ble_eq_true rfl⟩ ⟨rfl, rfl⟩ ⟨Nat.le_of_ble_eq_true rfl, Nat.le_of_ble_eq_true rfl⟩ dL_files_412 (fun locs hL => ?_)
              refine lv_iload E.1 E.2.1 dL_files_415 (lv_at hl 3 rfl) ?_
              refine r_icmp_ne (tgt := 424) E dL_files_417 (by decide) (by omega) (by omega) (fun c417 => absurd c417 (by omega)) (fun c417 => ?_)
              refine r_const E dL_files_420 ?_
              refine lv_goto (tgt := 425) E.1 E.2.1 dL_files_421 (by decide) ?_
              refine W.widen (k := 1) (n := 3) (Nat.le_of_ble_eq_true rfl) (Nat.le_of_ble_eq_true rfl) ?_
              refine e_zret (rm := ({ frames := 5, cells := 1, slots := 3, locals := 118 } : Room)) (v := iI (1)) E hL rfl dL_files_425 ?_
              exact ⟨rfl, _, _, _, _, hV1, hD1, hT, hC1, ⟨_, hE1, hX1⟩, hR1⟩
          · refine lv_iload_n E.1 E.2.1 dL_files_98 rfl (lv_at hl 8 rfl) ?_
            refine r_const E dL_files_99 ?_
            refine lv_ishr E.1 E.2.1 dL_files_100 ?_
            have J119_2 : ∀ (v119 : Int) (hv119 : v119 = 42 ∨ v119 = 12) (ls : Array Slot) (locs : List Loc) (hl : lv_has ls 14 [(8, .int (iI ((entriesN σ n : Int)))), (7, .int (iI (1))), (6, .int (iI ((nx σ : Int)))), (5, .int (iI (0))), (4, .int (iI ((k : Int)))), (3, .int (iI ((n : Int)))), (0, .ref (x)), (1, .int (iI (how))), (2, .int (v))]) (hL : Lk G locs), W p l e ({ frames := 5, cells := 1, slots := 3, locals := 118 } : Room) s m args below meth c s.heap locs 0 0 (QQ G below args s ({ frames := 5, cells := 1, slots := 3, locals := 118 } : Room) (WE (iI 1) (fun H H1 => ∃ τ hs1 tx1 len1, VS τ ∧ VH hs1 ∧ TxOk tx1 len1 ∧ AC σ hs τ hs1 ∧ XP G x fb fl τ hs1 tx1 len1 H H1))) (F0 m 119 ls [.int (iI (v119)), .int (((v) >>> ((iI (4)) &&& 31)))]) := by
              intro v119 hv119 ls locs hl hL
              obtain ⟨w4, hw4⟩ : ∃ z : Int, lowI (((v) >>> ((iI (4)) &&& 31))) (v119) = z := ⟨_, rfl⟩
              have hw4b : 0 ≤ w4 ∧ w4 < (v119) := by rw [← hw4]; exact low_b _ (by omega)
              have hw4c := c_L_low G l (((v) >>> ((iI (4)) &&& 31))) (v119) (by omega)
              rw [hw4] at hw4c
              refine kSRE (As := [.int (((v) >>> ((iI (4)) &&& 31))), .int (iI (v119))]) E cw_L_72 hw4c trivial hL hl.1 rfl rfl (Nat.le_of_ble_eq_true rfl) ⟨Nat.le_of_ble_eq_true rfl, Nat.le_of_ble_eq_true rfl⟩ ⟨rfl, rfl⟩ ⟨Nat.le_of_ble_eq_true rfl, Nat.le_of_ble_eq_true rfl⟩ dL_files_119 (fun locs hL => ?_)
              refine lv_istore (lv' := [(9, .int (iI (w4))), (8, .int (iI ((entriesN σ n : Int)))), (7, .int (iI (1))), (6, .int (iI ((nx σ : Int)))), (5, .int (iI (0))), (4, .int (iI ((k : Int)))), (3, .int (iI ((n : Int)))), (0, .ref (x)), (1, .int (iI (how))), (2, .int (v))]) E.1 E.2.1 dL_files_122 hl (by decide) rfl (fun ls hl => ?_)
              have J141_4 : ∀ (v141 : Int) (hv141 : (v141 = 1 ∧ (w4 = 0 ∨ w4 = 41)) ∨ (v141 = 0 ∧ 1 ≤ w4 ∧ w4 ≤ 40)) (ls : Array Slot) (locs : List Loc) (hl : lv_has ls 14 [(9, .int (iI (w4))), (8, .int (iI ((entriesN σ n : Int)))), (7, .int (iI (1))), (6, .int (iI ((nx σ : Int)))), (5, .int (iI (0))), (4, .int (iI ((k : Int)))), (3, .int (iI ((n : Int)))), (0, .ref (x)), (1, .int (iI (how))), (2, .int (v))]) (hL : Lk G locs), W p l e ({ frames := 5, cells := 1, slots := 3, locals := 118 } : Room) s m args below meth c s.heap locs 0 0 (QQ G below args s ({ frames := 5, cells := 1, slots := 3, locals := 118 } : Room) (WE (iI 1) (fun H H1 => ∃ τ hs1 tx1 len1, VS τ ∧ VH hs1 ∧ TxOk tx1 len1 ∧ AC σ hs τ hs1 ∧ XP G x fb fl τ hs1 tx1 len1 H H1))) (F0 m 141 ls [.int (iI (v141))]) := by
                intro v141 hv141 ls locs hl hL
                refine lv_istore (lv' := [(10, .int (iI (v141))), (9, .int (iI (w4))), (8, .int (iI ((entriesN σ n : Int)))), (7, .int (iI (1))), (6, .int (iI ((nx σ : Int)))), (5, .int (iI (0))), (4, .int (iI ((k : Int)))), (3, .int (iI ((n : Int)))), (0, .ref (x)), (1, .int (iI (how))), (2, .int (v))]) E.1 E.2.1 dL_files_141 hl (by decide) rfl (fun ls hl => ?_)
                refine lv_iload E.1 E.2.1 dL_files_143 (lv_at hl 5 rfl) ?_
                refine r_if_eq (tgt := 152) E dL_files_145 (by decide) (by omega) (fun c145 => ?_) (fun c145 => absurd c145 (by omega))
                refine lv_aload_n E.1 E.2.1 dL_files_152 rfl (lv_at hl 8 rfl) ?_
                refine lv_iload E.1 E.2.1 dL_files_153 (lv_at hl 6 rfl) ?_
                refine kVRE (As := [.int (iI ((k : Int)))]) E cw_L_37 (c_X5_versions G l x fb fl σ hs tx len hI hT hfx hgx ((k : Int)) (by unfold okI; omega)) hP.1.1 ⟨_, _, rfl⟩ hP.1 hL hl.1 rfl rfl (Nat.le_of_ble_eq_true rfl) ⟨Nat.le_of_ble_eq_true rfl, Nat.le_of_ble_eq_true rfl⟩ ⟨rfl, rfl⟩ ⟨Nat.le_of_ble_eq_true rfl, Nat.le_of_ble_eq_true rfl⟩ dL_files_155 (fun locs hL => ?_)
                rw [spVer_v hno]
                refine lv_istore (lv' := [(11, .int (iI ((vr σ k : Int)))), (10, .int (iI (v141))), (9, .int (iI (w4))), (8, .int (iI ((entriesN σ n : Int)))), (7, .int (iI (1))), (6, .int (iI ((nx σ : Int)))), (5, .int (iI (0))), (4, .int (iI ((k : Int)))), (3, .int (iI ((n : Int)))), (0, .ref (x)), (1, .int (iI (how))), (2, .int (v))]) E.1 E.2.1 dL_files_158 hl (by decide) rfl (fun ls hl => ?_)
                have J187_5 : ∀ (v187 : Int) (hv187 : (v187 = 1 ∧ (nx σ : Int) + w4 + (se σ n 4 : Int) ≤ 240) ∨ (v187 = 0 ∧ 240 < (nx σ : Int) + w4 + (se σ n 4 : Int))) (ls : Array Slot) (locs : List Loc) (hl : lv_has ls 14 [(11, .int (iI ((vr σ k : Int)))), (10, .int (iI (v141))), (9, .int (iI (w4))), (8, .int (iI ((entriesN σ n : Int)))), (7, .int (iI (1))), (6, .int (iI ((nx σ : Int)))), (5, .int (iI (0))), (4, .int (iI ((k : Int)))), (3, .int (iI ((n : Int)))), (0, .ref (x)), (1, .int (iI (how))), (2, .int (v))]) (hL : Lk G locs), W p l e ({ frames := 5, cells := 1, slots := 3, locals := 118 } : Room) s m args below meth c s.heap locs 0 0 (QQ G below args s ({ frames := 5, cells := 1, slots := 3, locals := 118 } : Room) (WE (iI 1) (fun H H1 => ∃ τ hs1 tx1 len1, VS τ ∧ VH hs1 ∧ TxOk tx1 len1 ∧ AC σ hs τ hs1 ∧ XP G x fb fl τ hs1 tx1 len1 H H1))) (F0 m 187 ls [.int (iI (v187))]) := by
                  intro v187 hv187 ls locs hl hL
                  refine lv_istore (lv' := [(12, .int (iI (v187))), (11, .int (iI ((vr σ k : Int)))), (10, .int (iI (v141))), (9, .int (iI (w4))), (8, .int (iI ((entriesN σ n : Int)))), (7, .int (iI (1))), (6, .int (iI ((nx σ : Int)))), (5, .int (iI (0))), (4, .int (iI ((k : Int)))), (3, .int (iI ((n : Int)))), (0, .ref (x)), (1, .int (iI (how))), (2, .int (v))]) E.1 E.2.1 dL_files_187 hl (by decide) rfl (fun ls hl => ?_)
                  obtain ⟨z, hze⟩ : ∃ k : Nat, w4 = (k : Int) := ⟨w4.toNat, by omega⟩
                  subst hze
                  rcases hv141 with ⟨hq1, hq2⟩ | ⟨hq1, hq2⟩
                  · have hsp : (spWrite σ (k : Int) (z : Int)) = (-2, σ) := wr_e2 (by omega) (by omega)
                    refine lv_aload_n E.1 E.2.1 dL_files_189 rfl (lv_at hl 10 rfl) ?_
                    refine lv_iload E.1 E.2.1 dL_files_190 (lv_at hl 8 rfl) ?_
                    refine lv_iload E.1 E.2.1 dL_files_192 (lv_at hl 3 rfl) ?_
                    refine kVWE (As := [.int (iI ((k : Int))), .int (iI ((z : Int)))]) E cw_L_119 (c_X5_write G l x fb fl σ hs tx len hI hT hfx hgx ((k : Int)) ((z : Int)) (by unfold okI; omega) (by unfold okI; omega)) hP.1.1 ⟨_, _, rfl⟩ ⟨hP.1, hP.2⟩ hL hl.1 rfl rfl (Nat.le_of_ble_eq_true rfl) ⟨Nat.le_of_ble_eq_true rfl, Nat.le_of_ble_eq_true rfl⟩ ⟨Nat.le_of_ble_eq_true rfl, Nat.le_of_ble_eq_true rfl⟩ dL_files_194 (fun H7 locs hL hw_ => ?_)
                    obtain ⟨⟨fl1, hE1, hX1⟩, hR1⟩ := hw_
                    have hV1 : VS (spWrite σ ((k : Int)) ((z : Int))).2 := hS.write ((k : Int)) ((z : Int))
                    have hC1 : AC σ hs (spWrite σ ((k : Int)) ((z : Int))).2 (hsA σ hs (spWrite σ ((k : Int)) ((z : Int))).1) := ac_of (spWrite_b hI ((k : Int)) ((z : Int))).2.2
                    have hD1 : VH (hsA σ hs (spWrite σ ((k : Int)) ((z : Int))).1) := VH.hs1 hS hH
                    generalize hsA σ hs (spWrite σ ((k : Int)) ((z : Int))).1 = hs1 at hX1 hC1 hD1
                    have hte : (spWrite σ (k : Int) (z : Int)).2 = σ := by rw [hsp]
                    have hr1 : (spWrite σ ((k : Int)) ((z : Int))).1 = (-2) := by rw [hsp]
                    rw [hr1]
                    generalize (spWrite σ ((k : Int)) ((z : Int))).2 = τ at hX1 hV1 hC1 hte
                    have hI1 := hV1.1
                    have hz1 := FrR.size hR1 hP.2
                    refine lv_istore (lv' := [(13, .int (iI ((-2)))), (12, .int (iI (v187))), (11, .int (iI ((vr σ k : Int)))), (10, .int (iI (v141))), (9, .int (iI ((z : Int)))), (8, .int (iI ((entriesN σ n : Int)))), (7, .int (iI (1))), (6, .int (iI ((nx σ : Int)))), (5, .int (iI (0))), (4, .int (iI ((k : Int)))), (3, .int (iI ((n : Int)))), (0, .ref (x)), (1, .int (iI (how))), (2, .int (v))]) E.1 E.2.1 dL_files_197 hl (by decide) rfl (fun ls hl => ?_)
                    have hnx1 : nx τ = nx σ := by rw [hte]
                    have hmn1 : mn τ = mn σ := by rw [hte]
                    refine lv_iload E.1 E.2.1 dL_files_199 (lv_at hl 0 rfl) ?_
                    refine lv_iload E.1 E.2.1 dL_files_201 (lv_at hl 8 rfl) ?_
                    refine r_if_eq (tgt := 210) E dL_files_203 (by decide) (by omega) (fun c203 => ?_) (fun c203 => absurd c203 (by omega))
                    refine lv_iload E.1 E.2.1 dL_files_210 (lv_at hl 3 rfl) ?_
                    refine r_if_eq (tgt := 220) E dL_files_212 (by decide) (by omega) (fun c212 => absurd c212 (by omega)) (fun c212 => ?_)
                    refine r_bipush E dL_files_215 (by decide) ?_
                    refine lv_goto (tgt := 241) E.1 E.2.1 dL_files_217 (by decide) ?_
                    refine r_icmp_ne (tgt := 350) E dL_files_241 (by decide) (by omega) (by omega) (fun c241 => absurd c241 (by omega)) (fun c241 => ?_)
                    refine lv_iload E.1 E.2.1 dL_files_244 (lv_at hl 0 rfl) ?_
                    refine r_if_ge (tgt := 261) E dL_files_246 (by decide) (by omega) (fun c246 => absurd c246 (by omega)) (fun c246 => ?_)
                    refine lv_aload_n E.1 E.2.1 dL_files_249 rfl (lv_at hl 11 rfl) ?_
                    refine kVRE (As := []) E cw_L_13 (c_X5_next G l x fb fl1 τ hs1 tx len hI1 hT hfx hgx  ) hX1.1 ⟨_, _, rfl⟩ hX1 hL hl.1 rfl rfl (Nat.le_of_ble_eq_true rfl) ⟨Nat.le_of_ble_eq_true rfl, Nat.le_of_ble_eq_true rfl⟩ ⟨rfl, rfl⟩ ⟨Nat.le_of_ble_eq_true rfl, Nat.le_of_ble_eq_true rfl⟩ dL_files_250 (fun locs hL => ?_)
                    refine lv_iload E.1 E.2.1 dL_files_253 (lv_at hl 7 rfl) ?_
                    refine r_icmp_ne (tgt := 350) E dL_files_255 (by decide) (by omega) (by omega) (fun c255 => absurd c255 (by omega)) (fun c255 => ?_)
                    refine lv_goto (tgt := 346) E.1 E.2.1 dL_files_258 (by decide) ?_
                    refine r_const E dL_files_346 ?_
                    refine lv_goto (tgt := 351) E.1 E.2.1 dL_files_347 (by decide) ?_
                    refine W.widen (k := 1) (n := 3) (Nat.le_of_ble_eq_true rfl) (Nat.le_of_ble_eq_true rfl) ?_
                    refine e_zret (rm := ({ frames := 5, cells := 1, slots := 3, locals := 118 } : Room)) (v := iI (1)) E hL rfl dL_files_351 ?_
                    exact ⟨rfl, _, _, _, _, hV1, hD1, hT, hC1, ⟨_, hE1, hX1⟩, hR1⟩
                  · rcases hv187 with ⟨hq3, hq4⟩ | ⟨hq3, hq4⟩
                    · refine lv_aload_n E.1 E.2.1 dL_files_189 rfl (lv_at hl 10 rfl) ?_
                      refine lv_iload E.1 E.2.1 dL_files_190 (lv_at hl 8 rfl) ?_
                      refine lv_iload E.1 E.2.1 dL_files_192 (lv_at hl 3 rfl) ?_
                      refine kVWE (As := [.int (iI ((k : Int))), .int (iI ((z : Int)))]) E cw_L_119 (c_X5_write G l x fb fl σ hs tx len hI hT hfx hgx ((k : Int)) ((z : Int)) (by unfold okI; omega) (by unfold okI; omega)) hP.1.1 ⟨_, _, rfl⟩ ⟨hP.1, hP.2⟩ hL hl.1 rfl rfl (Nat.le_of_ble_eq_true rfl) ⟨Nat.le_of_ble_eq_true rfl, Nat.le_of_ble_eq_true rfl⟩ ⟨Nat.le_of_ble_eq_true rfl, Nat.le_of_ble_eq_true rfl⟩ dL_files_194 (fun H7 locs hL hw_ => ?_)
                      obtain ⟨⟨fl1, hE1, hX1⟩, hR1⟩ := hw_
                      have hV1 : VS (spWrite σ ((k : Int)) ((z : Int))).2 := hS.write ((k : Int)) ((z : Int))
                      have hC1 : AC σ hs (spWrite σ ((k : Int)) ((z : Int))).2 (hsA σ hs (spWrite σ ((k : Int)) ((z : Int))).1) := ac_of (spWrite_b hI ((k : Int)) ((z : Int))).2.2
                      have hD1 : VH (hsA σ hs (spWrite σ ((k : Int)) ((z : Int))).1) := VH.hs1 hS hH
                      generalize hsA σ hs (spWrite σ ((k : Int)) ((z : Int))).1 = hs1 at hX1 hC1 hD1
                      have hok := wr_ok (z := z) hno (by omega) hop (by omega)
                      have hm1 := hok.2.2.1
                      have hx1 := hok.2.1
                      have hy1 := hok.2.2.2.1
                      have he1 := hok.2.2.2.2.1
                      have hg1 := hok.2.2.2.2.2
                      have hg1 : entriesN (spWrite σ (k : Int) (z : Int)).2 n + 1 = entriesN σ n + 1 := by rw [hen] at hg1; exact hg1
                      have hr1 : (spWrite σ ((k : Int)) ((z : Int))).1 = (nx σ : Int) := hok.1
                      rw [hr1]
                      generalize (spWrite σ ((k : Int)) ((z : Int))).2 = τ at hX1 hV1 hC1 hm1 hx1 hy1 he1 hg1
                      have hI1 := hV1.1
                      have hz1 := FrR.size hR1 hP.2
                      refine lv_istore (lv' := [(13, .int (iI ((nx σ : Int)))), (12, .int (iI (v187))), (11, .int (iI ((vr σ k : Int)))), (10, .int (iI (v141))), (9, .int (iI ((z : Int)))), (8, .int (iI ((entriesN σ n : Int)))), (7, .int (iI (1))), (6, .int (iI ((nx σ : Int)))), (5, .int (iI (0))), (4, .int (iI ((k : Int)))), (3, .int (iI ((n : Int)))), (0, .ref (x)), (1, .int (iI (how))), (2, .int (v))]) E.1 E.2.1 dL_files_197 hl (by decide) rfl (fun ls hl => ?_)
                      have hgl := entN_le τ n
                      have hvl := vr_row hV1 hno
                      refine lv_iload E.1 E.2.1 dL_files_199 (lv_at hl 0 rfl) ?_
                      refine lv_iload E.1 E.2.1 dL_files_201 (lv_at hl 8 rfl) ?_
                      refine r_if_eq (tgt := 210) E dL_files_203 (by decide) (by omega) (fun c203 => ?_) (fun c203 => absurd c203 (by omega))
                      refine lv_iload E.1 E.2.1 dL_files_210 (lv_at hl 3 rfl) ?_
                      refine r_if_eq (tgt := 220) E dL_files_212 (by decide) (by omega) (fun c212 => ?_) (fun c212 => absurd c212 (by omega))
                      refine lv_iload_n E.1 E.2.1 dL_files_220 rfl (lv_at hl 10 rfl) ?_
                      refine r_if_ge (tgt := 229) E dL_files_221 (by decide) (by omega) (fun c221 => ?_) (fun c221 => absurd c221 (by omega))
                      refine lv_iload E.1 E.2.1 dL_files_229 (lv_at hl 1 rfl) ?_
                      refine r_if_ne (tgt := 239) E dL_files_231 (by decide) (by omega) (fun c231 => ?_) (fun c231 => absurd c231 (by omega))
                      refine lv_iload E.1 E.2.1 dL_files_239 (lv_at hl 7 rfl) ?_
                      refine r_icmp_ne (tgt := 350) E dL_files_241 (by decide) (by omega) (by omega) (fun c241 => absurd c241 (by omega)) (fun c241 => ?_)
                      refine lv_iload E.1 E.2.1 dL_files_244 (lv_at hl 0 rfl) ?_
                      refine r_if_ge (tgt := 261) E dL_files_246 (by decide) (by omega) (fun c246 => ?_) (fun c246 => absurd c246 (by omega))
                      refine lv_aload_n E.1 E.2.1 dL_files_261 rfl (lv_at hl 11 rfl) ?_
                      refine kVRE (As := []) E cw_L_13 (c_X5_next G l x fb fl1 τ hs1 tx len hI1 hT hfx hgx  ) hX1.1 ⟨_, _, rfl⟩ hX1 hL hl.1 rfl rfl (Nat.le_of_ble_eq_true rfl) ⟨Nat.le_of_ble_eq_true rfl, Nat.le_of_ble_eq_true rfl⟩ ⟨rfl, rfl⟩ ⟨Nat.le_of_ble_eq_true rfl, Nat.le_of_ble_eq_true rfl⟩ dL_files_262 (fun locs hL => ?_)
                      refine lv_iload E.1 E.2.1 dL_files_265 (lv_at hl 7 rfl) ?_
                      refine lv_iload E.1 E.2.1 dL_files_267 (lv_at hl 4 rfl) ?_
                      refine r_add E dL_files_269 ?_
                      refine r_icmp_ne (tgt := 350) E dL_files_270 (by decide) (by omega) (by omega) (fun c270 => absurd c270 (by omega)) (fun c270 => ?_)
                      refine lv_aload_n E.1 E.2.1 dL_files_273 rfl (lv_at hl 11 rfl) ?_
                      refine lv_iload E.1 E.2.1 dL_files_274 (lv_at hl 9 rfl) ?_
                      refine kVRE (As := [.int (iI ((k : Int)))]) E cw_L_37 (c_X5_versions G l x fb fl1 τ hs1 tx len hI1 hT hfx hgx ((k : Int)) (by unfold okI; omega)) hX1.1 ⟨_, _, rfl⟩ hX1 hL hl.1 rfl rfl (Nat.le_of_ble_eq_true rfl) ⟨Nat.le_of_ble_eq_true rfl, Nat.le_of_ble_eq_true rfl⟩ ⟨rfl, rfl⟩ ⟨Nat.le_of_ble_eq_true rfl, Nat.le_of_ble_eq_true rfl⟩ dL_files_276 (fun locs hL => ?_)
                      rw [spVer_v hno]
                      refine lv_iload E.1 E.2.1 dL_files_279 (lv_at hl 2 rfl) ?_
                      refine r_const E dL_files_281 ?_
                      refine r_add E dL_files_282 ?_
                      refine r_icmp_ne (tgt := 350) E dL_files_283 (by decide) (by omega) (by omega) (fun c283 => absurd c283 (by omega)) (fun c283 => ?_)
                      refine lv_aload_n E.1 E.2.1 dL_files_286 rfl (lv_at hl 11 rfl) ?_
                      refine lv_iload_n E.1 E.2.1 dL_files_287 rfl (lv_at hl 10 rfl) ?_
                      refine lv_iload E.1 E.2.1 dL_files_288 (lv_at hl 9 rfl) ?_
                      refine r_const E dL_files_290 ?_
                      refine kVRE (As := [.int (iI ((n : Int))), .int (iI ((k : Int))), .int (iI (0))]) E cw_L_33 (c_X5_entry G l x fb fl1 τ hs1 tx len hI1 hT hfx hgx ((n : Int)) ((k : Int)) (0) (by unfold okI; omega) (by unfold okI; omega) (by unfold okI; omega)) hX1.1 ⟨_, _, rfl⟩ hX1 hL hl.1 rfl rfl (Nat.le_of_ble_eq_true rfl) ⟨Nat.le_of_ble_eq_true rfl, Nat.le_of_ble_eq_true rfl⟩ ⟨rfl, rfl⟩ ⟨Nat.le_of_ble_eq_true rfl, Nat.le_of_ble_eq_true rfl⟩ dL_files_291 (fun locs hL => ?_)
                      rw [spEntT0 (by omega) hno he1]
                      refine lv_iload E.1 E.2.1 dL_files_294 (lv_at hl 7 rfl) ?_
                      refine r_icmp_ne (tgt := 350) E dL_files_296 (by decide) (by omega) (by omega) (fun c296 => absurd c296 (by omega)) (fun c296 => ?_)
                      refine lv_aload_n E.1 E.2.1 dL_files_299 rfl (lv_at hl 11 rfl) ?_
                      refine lv_iload_n E.1 E.2.1 dL_files_300 rfl (lv_at hl 10 rfl) ?_
                      refine lv_iload E.1 E.2.1 dL_files_301 (lv_at hl 9 rfl) ?_
                      refine r_const E dL_files_303 ?_
                      refine kVRE (As := [.int (iI ((n : Int))), .int (iI ((k : Int))), .int (iI (1))]) E cw_L_33 (c_X5_entry G l x fb fl1 τ hs1 tx len hI1 hT hfx hgx ((n : Int)) ((k : Int)) (1) (by unfold okI; omega) (by unfold okI; omega) (by unfold okI; omega)) hX1.1 ⟨_, _, rfl⟩ hX1 hL hl.1 rfl rfl (Nat.le_of_ble_eq_true rfl) ⟨Nat.le_of_ble_eq_true rfl, Nat.le_of_ble_eq_true rfl⟩ ⟨rfl, rfl⟩ ⟨Nat.le_of_ble_eq_true rfl, Nat.le_of_ble_eq_true rfl⟩ dL_files_304 (fun locs hL => ?_)
                      rw [spEntT1 (by omega) hno he1]
                      refine lv_iload E.1 E.2.1 dL_files_307 (lv_at hl 4 rfl) ?_
                      refine r_icmp_ne (tgt := 350) E dL_files_309 (by decide) (by omega) (by omega) (fun c309 => absurd c309 (by omega)) (fun c309 => ?_)
                      refine lv_aload_n E.1 E.2.1 dL_files_312 rfl (lv_at hl 11 rfl) ?_
                      refine lv_iload_n E.1 E.2.1 dL_files_313 rfl (lv_at hl 10 rfl) ?_
                      refine lv_iload E.1 E.2.1 dL_files_314 (lv_at hl 9 rfl) ?_
                      refine r_const E dL_files_316 ?_
                      refine kVRE (As := [.int (iI ((n : Int))), .int (iI ((k : Int))), .int (iI (2))]) E cw_L_33 (c_X5_entry G l x fb fl1 τ hs1 tx len hI1 hT hfx hgx ((n : Int)) ((k : Int)) (2) (by unfold okI; omega) (by unfold okI; omega) (by unfold okI; omega)) hX1.1 ⟨_, _, rfl⟩ hX1 hL hl.1 rfl rfl (Nat.le_of_ble_eq_true rfl) ⟨Nat.le_of_ble_eq_true rfl, Nat.le_of_ble_eq_true rfl⟩ ⟨rfl, rfl⟩ ⟨Nat.le_of_ble_eq_true rfl, Nat.le_of_ble_eq_true rfl⟩ dL_files_317 (fun locs hL => ?_)
                      rw [spEntT2 (by omega) hno he1]
                      refine lv_iload_n E.1 E.2.1 dL_files_320 rfl (lv_at hl 10 rfl) ?_
                      refine r_icmp_ne (tgt := 350) E dL_files_321 (by decide) (by omega) (by omega) (fun c321 => absurd c321 (by omega)) (fun c321 => ?_)
                      refine lv_aload_n E.1 E.2.1 dL_files_324 rfl (lv_at hl 11 rfl) ?_
                      refine lv_iload_n E.1 E.2.1 dL_files_325 rfl (lv_at hl 10 rfl) ?_
                      refine r_const E dL_files_326 ?_
                      refine kVRE (As := [.int (iI ((n : Int))), .int (iI (5))]) E cw_L_29 (c_X5_session G l x fb fl1 τ hs1 tx len hI1 hT hfx hgx ((n : Int)) (5) (by unfold okI; omega) (by unfold okI; omega)) hX1.1 ⟨_, _, rfl⟩ hX1 hL hl.1 rfl rfl (Nat.le_of_ble_eq_true rfl) ⟨Nat.le_of_ble_eq_true rfl, Nat.le_of_ble_eq_true rfl⟩ ⟨rfl, rfl⟩ ⟨Nat.le_of_ble_eq_true rfl, Nat.le_of_ble_eq_true rfl⟩ dL_files_327 (fun locs hL => ?_)
                      rw [spSes5 (by omega)]
                      refine lv_iload E.1 E.2.1 dL_files_330 (lv_at hl 5 rfl) ?_
                      refine lv_iload E.1 E.2.1 dL_files_332 (lv_at hl 6 rfl) ?_
                      refine r_if_eq (tgt := 341) E dL_files_334 (by decide) (by omega) (fun c334 => absurd c334 (by omega)) (fun c334 => ?_)
                      refine r_const E dL_files_337 ?_
                      refine lv_goto (tgt := 342) E.1 E.2.1 dL_files_338 (by decide) ?_
                      refine r_add E dL_files_342 ?_
                      refine r_icmp_ne (tgt := 350) E dL_files_343 (by decide) (by omega) (by omega) (fun c343 => absurd c343 (by omega)) (fun c343 => ?_)
                      refine r_const E dL_files_346 ?_
                      refine lv_goto (tgt := 351) E.1 E.2.1 dL_files_347 (by decide) ?_
                      refine W.widen (k := 1) (n := 3) (Nat.le_of_ble_eq_true rfl) (Nat.le_of_ble_eq_true rfl) ?_
                      refine e_zret (rm := ({ frames := 5, cells := 1, slots := 3, locals := 118 } : Room)) (v := iI (1)) E hL rfl dL_files_351 ?_
                      exact ⟨rfl, _, _, _, _, hV1, hD1, hT, hC1, ⟨_, hE1, hX1⟩, hR1⟩
                    · have hsp : (spWrite σ (k : Int) (z : Int)) = (-4, σ) := wr_e4 (by omega) (by omega) hop (by omega)
                      refine lv_aload_n E.1 E.2.1 dL_files_189 rfl (lv_at hl 10 rfl) ?_
                      refine lv_iload E.1 E.2.1 dL_files_190 (lv_at hl 8 rfl) ?_
                      refine lv_iload E.1 E.2.1 dL_files_192 (lv_at hl 3 rfl) ?_
                      refine kVWE (As := [.int (iI ((k : Int))), .int (iI ((z : Int)))]) E cw_L_119 (c_X5_write G l x fb fl σ hs tx len hI hT hfx hgx ((k : Int)) ((z : Int)) (by unfold okI; omega) (by unfold okI; omega)) hP.1.1 ⟨_, _, rfl⟩ ⟨hP.1, hP.2⟩ hL hl.1 rfl rfl (Nat.le_of_ble_eq_true rfl) ⟨Nat.le_of_ble_eq_true rfl, Nat.le_of_ble_eq_true rfl⟩ ⟨Nat.le_of_ble_eq_true rfl, Nat.le_of_ble_eq_true rfl⟩ dL_files_194 (fun H7 locs hL hw_ => ?_)
                      obtain ⟨⟨fl1, hE1, hX1⟩, hR1⟩ := hw_
                      have hV1 : VS (spWrite σ ((k : Int)) ((z : Int))).2 := hS.write ((k : Int)) ((z : Int))
                      have hC1 : AC σ hs (spWrite σ ((k : Int)) ((z : Int))).2 (hsA σ hs (spWrite σ ((k : Int)) ((z : Int))).1) := ac_of (spWrite_b hI ((k : Int)) ((z : Int))).2.2
                      have hD1 : VH (hsA σ hs (spWrite σ ((k : Int)) ((z : Int))).1) := VH.hs1 hS hH
                      generalize hsA σ hs (spWrite σ ((k : Int)) ((z : Int))).1 = hs1 at hX1 hC1 hD1
                      have hte : (spWrite σ (k : Int) (z : Int)).2 = σ := by rw [hsp]
                      have hr1 : (spWrite σ ((k : Int)) ((z : Int))).1 = (-4) := by rw [hsp]
                      rw [hr1]
                      generalize (spWrite σ ((k : Int)) ((z : Int))).2 = τ at hX1 hV1 hC1 hte
                      have hI1 := hV1.1
                      have hz1 := FrR.size hR1 hP.2
                      refine lv_istore (lv' := [(13, .int (iI ((-4)))), (12, .int (iI (v187))), (11, .int (iI ((vr σ k : Int)))), (10, .int (iI (v141))), (9, .int (iI ((z : Int)))), (8, .int (iI ((entriesN σ n : Int)))), (7, .int (iI (1))), (6, .int (iI ((nx σ : Int)))), (5, .int (iI (0))), (4, .int (iI ((k : Int)))), (3, .int (iI ((n : Int)))), (0, .ref (x)), (1, .int (iI (how))), (2, .int (v))]) E.1 E.2.1 dL_files_197 hl (by decide) rfl (fun ls hl => ?_)
                      have hnx1 : nx τ = nx σ := by rw [hte]
                      have hmn1 : mn τ = mn σ := by rw [hte]
                      refine lv_iload E.1 E.2.1 dL_files_199 (lv_at hl 0 rfl) ?_
                      refine lv_iload E.1 E.2.1 dL_files_201 (lv_at hl 8 rfl) ?_
                      refine r_if_eq (tgt := 210) E dL_files_203 (by decide) (by omega) (fun c203 => ?_) (fun c203 => absurd c203 (by omega))
                      refine lv_iload E.1 E.2.1 dL_files_210 (lv_at hl 3 rfl) ?_
                      refine r_if_eq (tgt := 220) E dL_files_212 (by decide) (by omega) (fun c212 => ?_) (fun c212 => absurd c212 (by omega))
                      refine lv_iload_n E.1 E.2.1 dL_files_220 rfl (lv_at hl 10 rfl) ?_
                      refine r_if_ge (tgt := 229) E dL_files_221 (by decide) (by omega) (fun c221 => ?_) (fun c221 => absurd c221 (by omega))
                      refine lv_iload E.1 E.2.1 dL_files_229 (lv_at hl 1 rfl) ?_
                      refine r_if_ne (tgt := 239) E dL_files_231 (by decide) (by omega) (fun c231 => absurd c231 (by omega)) (fun c231 => ?_)
                      refine r_bipush E dL_files_234 (by decide) ?_
                      refine lv_goto (tgt := 241) E.1 E.2.1 dL_files_236 (by decide) ?_
                      refine r_icmp_ne (tgt := 350) E dL_files_241 (by decide) (by omega) (by omega) (fun c241 => absurd c241 (by omega)) (fun c241 => ?_)
                      refine lv_iload E.1 E.2.1 dL_files_244 (lv_at hl 0 rfl) ?_
                      refine r_if_ge (tgt := 261) E dL_files_246 (by decide) (by omega) (fun c246 => absurd c246 (by omega)) (fun c246 => ?_)
                      refine lv_aload_n E.1 E.2.1 dL_files_249 rfl (lv_at hl 11 rfl) ?_
                      refine kVRE (As := []) E cw_L_13 (c_X5_next G l x fb fl1 τ hs1 tx len hI1 hT hfx hgx  ) hX1.1 ⟨_, _, rfl⟩ hX1 hL hl.1 rfl rfl (Nat.le_of_ble_eq_true rfl) ⟨Nat.le_of_ble_eq_true rfl, Nat.le_of_ble_eq_true rfl⟩ ⟨rfl, rfl⟩ ⟨Nat.le_of_ble_eq_true rfl, Nat.le_of_ble_eq_true rfl⟩ dL_files_250 (fun locs hL => ?_)
                      refine lv_iload E.1 E.2.1 dL_files_253 (lv_at hl 7 rfl) ?_
                      refine r_icmp_ne (tgt := 350) E dL_files_255 (by decide) (by omega) (by omega) (fun c255 => absurd c255 (by omega)) (fun c255 => ?_)
                      refine lv_goto (tgt := 346) E.1 E.2.1 dL_files_258 (by decide) ?_
                      refine r_const E dL_files_346 ?_
                      refine lv_goto (tgt := 351) E.1 E.2.1 dL_files_347 (by decide) ?_
                      refine W.widen (k := 1) (n := 3) (Nat.le_of_ble_eq_true rfl) (Nat.le_of_ble_eq_true rfl) ?_
                      refine e_zret (rm := ({ frames := 5, cells := 1, slots := 3, locals := 118 } : Room)) (v := iI (1)) E hL rfl dL_files_351 ?_
                      exact ⟨rfl, _, _, _, _, hV1, hD1, hT, hC1, ⟨_, hE1, hX1⟩, hR1⟩
                refine lv_iload_n E.1 E.2.1 dL_files_160 rfl (lv_at hl 8 rfl) ?_
                refine r_if_lt (tgt := 186) E dL_files_161 (by decide) (by omega) (fun c161 => absurd c161 (by omega)) (fun c161 => ?_)
                refine lv_iload E.1 E.2.1 dL_files_164 (lv_at hl 5 rfl) ?_
                refine lv_iload E.1 E.2.1 dL_files_166 (lv_at hl 2 rfl) ?_
                refine r_add E dL_files_168 ?_
                refine lv_aload_n E.1 E.2.1 dL_files_169 rfl (lv_at hl 9 rfl) ?_
                refine lv_iload_n E.1 E.2.1 dL_files_170 rfl (lv_at hl 8 rfl) ?_
                refine r_const E dL_files_171 ?_
                refine kVRE (As := [.int (iI ((n : Int))), .int (iI (4))]) E cw_L_29 (c_X5_session G l x fb fl σ hs tx len hI hT hfx hgx ((n : Int)) (4) (by unfold okI; omega) (by unfold okI; omega)) hP.1.1 ⟨_, _, rfl⟩ hP.1 hL hl.1 rfl rfl (Nat.le_of_ble_eq_true rfl) ⟨Nat.le_of_ble_eq_true rfl, Nat.le_of_ble_eq_true rfl⟩ ⟨rfl, rfl⟩ ⟨Nat.le_of_ble_eq_true rfl, Nat.le_of_ble_eq_true rfl⟩ dL_files_172 (fun locs hL => ?_)
                rw [spSes4 hnm]
                refine r_add E dL_files_175 ?_
                refine r_sipush E dL_files_176 (by decide) ?_
                refine r_icmp_gt (tgt := 186) E dL_files_179 (by decide) (by omega) (by omega) (fun c179 => ?_) (fun c179 => ?_)
                · refine r_const E dL_files_186 ?_
                  exact J187_5 _ (by omega) ls locs (lv_sub hl [0, 1, 2, 3, 4, 5, 6, 7, 8, 9, 10, 11] rfl) hL
                · refine r_const E dL_files_182 ?_
                  refine lv_goto (tgt := 187) E.1 E.2.1 dL_files_183 (by decide) ?_
                  exact J187_5 _ (by omega) ls locs (lv_sub hl [0, 1, 2, 3, 4, 5, 6, 7, 8, 9, 10, 11] rfl) hL
              refine lv_iload E.1 E.2.1 dL_files_124 (lv_at hl 0 rfl) ?_
              refine r_if_eq (tgt := 136) E dL_files_126 (by decide) (by omega) (fun c126 => ?_) (fun c126 => ?_)
              · refine r_const E dL_files_136 ?_
                refine lv_goto (tgt := 141) E.1 E.2.1 dL_files_137 (by decide) ?_
                exact J141_4 _ (by omega) ls locs (lv_sub hl [0, 1, 2, 3, 4, 5, 6, 7, 8, 9] rfl) hL
              · refine lv_iload E.1 E.2.1 dL_files_129 (lv_at hl 0 rfl) ?_
                refine r_bipush E dL_files_131 (by decide) ?_
                refine r_icmp_ne (tgt := 140) E dL_files_133 (by decide) (by omega) (by omega) (fun c133 => ?_) (fun c133 => ?_)
                · refine r_const E dL_files_140 ?_
                  exact J141_4 _ (by omega) ls locs (lv_sub hl [0, 1, 2, 3, 4, 5, 6, 7, 8, 9] rfl) hL
                · refine r_const E dL_files_136 ?_
                  refine lv_goto (tgt := 141) E.1 E.2.1 dL_files_137 (by decide) ?_
                  exact J141_4 _ (by omega) ls locs (lv_sub hl [0, 1, 2, 3, 4, 5, 6, 7, 8, 9] rfl) hL
            refine lv_iload_n E.1 E.2.1 dL_files_101 rfl (lv_at hl 8 rfl) ?_
            refine r_bipush E dL_files_102 (by decide) ?_
            refine lv_ishr E.1 E.2.1 dL_files_104 ?_
            refine r_const E dL_files_105 ?_
            obtain ⟨w4, hw4⟩ : ∃ z : Int, lowI (((v) >>> ((iI (16)) &&& 31))) (3) = z := ⟨_, rfl⟩
            have hw4b : 0 ≤ w4 ∧ w4 < (3) := by rw [← hw4]; exact low_b _ (by omega)
            have hw4c := c_L_low G l (((v) >>> ((iI (16)) &&& 31))) (3) (by omega)
            rw [hw4] at hw4c
            refine kSRE (As := [.int (((v) >>> ((iI (16)) &&& 31))), .int (iI (3))]) E cw_L_72 hw4c trivial hL hl.1 rfl rfl (Nat.le_of_ble_eq_true rfl) ⟨Nat.le_of_ble_eq_true rfl, Nat.le_of_ble_eq_true rfl⟩ ⟨rfl, rfl⟩ ⟨Nat.le_of_ble_eq_true rfl, Nat.le_of_ble_eq_true rfl⟩ dL_files_106 (fun locs hL => ?_)
            refine r_if_ne (tgt := 117) E dL_files_109 (by decide) (by omega) (fun c109 => ?_) (fun c109 => ?_)
            · refine r_bipush E dL_files_117 (by decide) ?_
              exact J119_2 _ (by omega) ls locs (lv_sub hl [0, 1, 2, 3, 4, 5, 6, 7, 8] rfl) hL
            · refine r_bipush E dL_files_112 (by decide) ?_
              refine lv_goto (tgt := 119) E.1 E.2.1 dL_files_114 (by decide) ?_
              exact J119_2 _ (by omega) ls locs (lv_sub hl [0, 1, 2, 3, 4, 5, 6, 7, 8] rfl) hL
    refine lv_iload_n E.1 E.2.1 dL_files_6 rfl (lv_at hl 3 rfl) ?_
    refine r_bipush E dL_files_7 (by decide) ?_
    refine lv_ishr E.1 E.2.1 dL_files_9 ?_
    refine r_const E dL_files_10 ?_
    obtain ⟨w2, hw2⟩ : ∃ z : Int, lowI (((v) >>> ((iI (15)) &&& 31))) (5) = z := ⟨_, rfl⟩
    have hw2b : 0 ≤ w2 ∧ w2 < (5) := by rw [← hw2]; exact low_b _ (by omega)
    have hw2c := c_L_low G l (((v) >>> ((iI (15)) &&& 31))) (5) (by omega)
    rw [hw2] at hw2c
    refine kSRE (As := [.int (((v) >>> ((iI (15)) &&& 31))), .int (iI (5))]) E cw_L_72 hw2c trivial hL hl.1 rfl rfl (Nat.le_of_ble_eq_true rfl) ⟨Nat.le_of_ble_eq_true rfl, Nat.le_of_ble_eq_true rfl⟩ ⟨rfl, rfl⟩ ⟨Nat.le_of_ble_eq_true rfl, Nat.le_of_ble_eq_true rfl⟩ dL_files_11 (fun locs hL => ?_)
    refine r_if_ne (tgt := 22) E dL_files_14 (by decide) (by omega) (fun c14 => ?_) (fun c14 => ?_)
    · refine r_bipush E dL_files_22 (by decide) ?_
      exact J24_0 _ (by omega) ls locs (lv_sub hl [0, 1, 2, 3] rfl) hL
    · refine r_bipush E dL_files_17 (by decide) ?_
      refine lv_goto (tgt := 24) E.1 E.2.1 dL_files_19 (by decide) ?_
      exact J24_0 _ (by omega) ls locs (lv_sub hl [0, 1, 2, 3] rfl) hL
