set_option maxHeartbeats 4000000 in
set_option maxRecDepth 100000 in
theorem c_L_acts (G : GG) (l : Launch) (x fb : Nat) (fl : Nat → Option Fil) (σ : St) (hs : List St) (tx : Nat → Int) (len : Nat) (hS : VS σ) (hH : VH hs) (hT : TxOk tx len) (hfx : x + 179 ≤ fb) (hgx : G.2.2 ≤ x) (v1 v2 : Int32) : Ct G l yL_acts cL_acts 12 (some .boolean) ({ frames := 8, cells := 80, slots := 240, locals := 189 } : Room) [.ref (x), .int (v1), .int (v2)] (fun H => XAt G x fb fl σ hs tx len H ∧ fb ≤ H.size) (WE (iI 1) (fun H H1 => ∃ τ hs1 tx1 len1, VS τ ∧ VH hs1 ∧ TxOk tx1 len1 ∧ (lowI v1 30 ≤ 26 → AC σ hs τ hs1) ∧ XP G x fb fl τ hs1 tx1 len1 H H1)) := by
  refine Ct.of (by decide +kernel) (Nat.le_of_ble_eq_true rfl) ?_
  intro p e s m args below meth c ls E hnm hP hl
  have hI := hS.1
  have i1 := hI.mn12
  have i2 := hI.nx240
  have i3 := hI.s0b
  have i4 := hI.s1b
  have hl : lv_has ls 12 [(0, .ref (x)), (1, .int (v1)), (2, .int (v2))] := hl
  have hL : Lk G [] := Lk.nil
  generalize ([] : List Loc) = locs at hL ⊢
  refine lv_iload_n E.1 E.2.1 dL_acts_0 rfl (lv_at hl 1 rfl) ?_
  refine r_bipush E dL_acts_1 (by decide) ?_
  obtain ⟨w1, hw1⟩ : ∃ z : Int, lowI (v1) (30) = z := ⟨_, rfl⟩
  have hw1b : 0 ≤ w1 ∧ w1 < (30) := by rw [← hw1]; exact low_b _ (by omega)
  have hw1c := c_L_low G l (v1) (30) (by omega)
  rw [hw1] at hw1c
  refine kSRE (As := [.int (v1), .int (iI (30))]) E cw_L_72 hw1c trivial hL hl.1 rfl rfl (Nat.le_of_ble_eq_true rfl) ⟨Nat.le_of_ble_eq_true rfl, Nat.le_of_ble_eq_true rfl⟩ ⟨rfl, rfl⟩ ⟨Nat.le_of_ble_eq_true rfl, Nat.le_of_ble_eq_true rfl⟩ dL_acts_3 (fun locs hL => ?_)
  refine lv_istore_n (lv' := [(3, .int (iI (w1))), (0, .ref (x)), (1, .int (v1)), (2, .int (v2))]) E.1 E.2.1 dL_acts_6 rfl hl (by decide) rfl (fun ls hl => ?_)
  refine lv_aload_n E.1 E.2.1 dL_acts_7 rfl (lv_at hl 1 rfl) ?_
  refine kSRE (As := [.ref (x)]) E cw_L_68 (c_L_open G l x fb fl σ hs tx len hI hT hfx hgx) hP.1 hL hl.1 rfl rfl (Nat.le_of_ble_eq_true rfl) ⟨Nat.le_of_ble_eq_true rfl, Nat.le_of_ble_eq_true rfl⟩ ⟨rfl, rfl⟩ ⟨Nat.le_of_ble_eq_true rfl, Nat.le_of_ble_eq_true rfl⟩ dL_acts_8 (fun locs hL => ?_)
  rcases hop : opn σ with _ | n
  · rw [show oI none = -6 from rfl]
    refine lv_istore (lv' := [(4, .int (iI ((-6)))), (3, .int (iI (w1))), (0, .ref (x)), (1, .int (v1)), (2, .int (v2))]) E.1 E.2.1 dL_acts_11 hl (by decide) rfl (fun ls hl => ?_)
    refine lv_aload_n E.1 E.2.1 dL_acts_13 rfl (lv_at hl 2 rfl) ?_
    refine kVRE (As := []) E cw_L_26 (c_X5_sessions G l x fb fl σ hs tx len hI hT hfx hgx  ) hP.1.1 ⟨_, _, rfl⟩ hP.1 hL hl.1 rfl rfl (Nat.le_of_ble_eq_true rfl) ⟨Nat.le_of_ble_eq_true rfl, Nat.le_of_ble_eq_true rfl⟩ ⟨rfl, rfl⟩ ⟨Nat.le_of_ble_eq_true rfl, Nat.le_of_ble_eq_true rfl⟩ dL_acts_14 (fun locs hL => ?_)
    refine lv_istore (lv' := [(5, .int (iI ((mn σ : Int)))), (4, .int (iI ((-6)))), (3, .int (iI (w1))), (0, .ref (x)), (1, .int (v1)), (2, .int (v2))]) E.1 E.2.1 dL_acts_17 hl (by decide) rfl (fun ls hl => ?_)
    refine lv_aload_n E.1 E.2.1 dL_acts_19 rfl (lv_at hl 3 rfl) ?_
    refine kVRE (As := []) E cw_L_13 (c_X5_next G l x fb fl σ hs tx len hI hT hfx hgx  ) hP.1.1 ⟨_, _, rfl⟩ hP.1 hL hl.1 rfl rfl (Nat.le_of_ble_eq_true rfl) ⟨Nat.le_of_ble_eq_true rfl, Nat.le_of_ble_eq_true rfl⟩ ⟨rfl, rfl⟩ ⟨Nat.le_of_ble_eq_true rfl, Nat.le_of_ble_eq_true rfl⟩ dL_acts_20 (fun locs hL => ?_)
    refine lv_istore (lv' := [(6, .int (iI ((nx σ : Int)))), (5, .int (iI ((mn σ : Int)))), (4, .int (iI ((-6)))), (3, .int (iI (w1))), (0, .ref (x)), (1, .int (v1)), (2, .int (v2))]) E.1 E.2.1 dL_acts_23 hl (by decide) rfl (fun ls hl => ?_)
    obtain ⟨sv, hsv⟩ : ∃ a, spValid σ = a := ⟨_, rfl⟩
    have hsv2 : oI (validD σ (dm σ)) = sv := hsv
    have hvb := oI_b (o := validD σ (dm σ)) (N := 12) (fun n h => Nat.lt_of_lt_of_le (validD_lt h) i1)
    rw [hsv2] at hvb
    refine lv_aload_n E.1 E.2.1 dL_acts_25 rfl (lv_at hl 4 rfl) ?_
    refine kVRE (As := []) E cw_L_55 (c_X5_valid G l x fb fl σ hs tx len hI hT hfx hgx  ) hP.1.1 ⟨_, _, rfl⟩ hP.1 hL hl.1 rfl rfl (Nat.le_of_ble_eq_true rfl) ⟨Nat.le_of_ble_eq_true rfl, Nat.le_of_ble_eq_true rfl⟩ ⟨rfl, rfl⟩ ⟨Nat.le_of_ble_eq_true rfl, Nat.le_of_ble_eq_true rfl⟩ dL_acts_26 (fun locs hL => ?_)
    rw [hsv]
    refine lv_istore (lv' := [(7, .int (iI (sv))), (6, .int (iI ((nx σ : Int)))), (5, .int (iI ((mn σ : Int)))), (4, .int (iI ((-6)))), (3, .int (iI (w1))), (0, .ref (x)), (1, .int (v1)), (2, .int (v2))]) E.1 E.2.1 dL_acts_29 hl (by decide) rfl (fun ls hl => ?_)
    refine lv_iload_n E.1 E.2.1 dL_acts_31 rfl (lv_at hl 4 rfl) ?_
    refine r_const E dL_acts_32 ?_
    refine r_icmp_ge (tgt := 275) E dL_acts_33 (by decide) (by omega) (by omega) (fun c33 => ?_) (fun c33 => ?_)
    · refine lv_iload_n E.1 E.2.1 dL_acts_275 rfl (lv_at hl 4 rfl) ?_
      refine r_bipush E dL_acts_276 (by decide) ?_
      refine r_icmp_ge (tgt := 308) E dL_acts_278 (by decide) (by omega) (by omega) (fun c278 => ?_) (fun c278 => ?_)
      · refine lv_iload_n E.1 E.2.1 dL_acts_308 rfl (lv_at hl 4 rfl) ?_
        refine r_bipush E dL_acts_309 (by decide) ?_
        refine r_icmp_ge (tgt := 414) E dL_acts_311 (by decide) (by omega) (by omega) (fun c311 => ?_) (fun c311 => ?_)
        · refine lv_iload_n E.1 E.2.1 dL_acts_414 rfl (lv_at hl 4 rfl) ?_
          refine r_bipush E dL_acts_415 (by decide) ?_
          refine r_icmp_ne (tgt := 477) E dL_acts_417 (by decide) (by omega) (by omega) (fun c417 => ?_) (fun c417 => ?_)
          · refine lv_iload_n E.1 E.2.1 dL_acts_477 rfl (lv_at hl 4 rfl) ?_
            refine r_bipush E dL_acts_478 (by decide) ?_
            refine r_icmp_ge (tgt := 636) E dL_acts_480 (by decide) (by omega) (by omega) (fun c480 => ?_) (fun c480 => ?_)
            · refine lv_iload_n E.1 E.2.1 dL_acts_636 rfl (lv_at hl 4 rfl) ?_
              refine r_bipush E dL_acts_637 (by decide) ?_
              refine r_icmp_ge (tgt := 812) E dL_acts_639 (by decide) (by omega) (by omega) (fun c639 => ?_) (fun c639 => ?_)
              · refine lv_iload_n E.1 E.2.1 dL_acts_812 rfl (lv_at hl 4 rfl) ?_
                refine r_bipush E dL_acts_813 (by decide) ?_
                refine r_icmp_ne (tgt := 948) E dL_acts_815 (by decide) (by omega) (by omega) (fun c815 => ?_) (fun c815 => ?_)
                · refine lv_aload_n E.1 E.2.1 dL_acts_948 rfl (lv_at hl 5 rfl) ?_
                  refine lv_iload_n E.1 E.2.1 dL_acts_949 rfl (lv_at hl 7 rfl) ?_
                  refine kSWE (As := [.ref (x), .int (v2)]) E cw_L_149 (c_L_runs G l x fb fl σ hs tx len hS hH hT hfx hgx v2) ⟨hP.1, hP.2⟩ hL hl.1 rfl rfl (Nat.le_of_ble_eq_true rfl) ⟨Nat.le_of_ble_eq_true rfl, Nat.le_of_ble_eq_true rfl⟩ ⟨Nat.le_of_ble_eq_true rfl, Nat.le_of_ble_eq_true rfl⟩ dL_acts_950 (fun H2 locs hL hw_ => ?_)
                  obtain ⟨τ, hs1, tx1, len1, hV1, hD1, hT1, -, ⟨fl1, hE1, hX1⟩, hR1⟩ := hw_
                  refine W.widen (k := 80) (n := 240) (Nat.le_of_ble_eq_true rfl) (Nat.le_of_ble_eq_true rfl) ?_
                  refine e_zret (rm := ({ frames := 8, cells := 80, slots := 240, locals := 189 } : Room)) (v := iI (1)) E hL rfl dL_acts_953 ?_
                  exact ⟨rfl, _, _, _, _, hV1, hD1, hT1, fun h9 => absurd (by rw [hw1] at h9; exact h9) (by omega), ⟨_, hE1, hX1⟩, hR1⟩
                · refine lv_iload_n E.1 E.2.1 dL_acts_818 rfl (lv_at hl 7 rfl) ?_
                  refine r_const E dL_acts_819 ?_
                  obtain ⟨w2, hw2⟩ : ∃ z : Int, lowI (v2) (3) = z := ⟨_, rfl⟩
                  have hw2b : 0 ≤ w2 ∧ w2 < (3) := by rw [← hw2]; exact low_b _ (by omega)
                  have hw2c := c_L_low G l (v2) (3) (by omega)
                  rw [hw2] at hw2c
                  refine kSRE (As := [.int (v2), .int (iI (3))]) E cw_L_72 hw2c trivial hL hl.1 rfl rfl (Nat.le_of_ble_eq_true rfl) ⟨Nat.le_of_ble_eq_true rfl, Nat.le_of_ble_eq_true rfl⟩ ⟨rfl, rfl⟩ ⟨Nat.le_of_ble_eq_true rfl, Nat.le_of_ble_eq_true rfl⟩ dL_acts_820 (fun locs hL => ?_)
                  refine lv_istore (lv' := [(8, .int (iI (w2))), (7, .int (iI (sv))), (6, .int (iI ((nx σ : Int)))), (5, .int (iI ((mn σ : Int)))), (4, .int (iI ((-6)))), (3, .int (iI (w1))), (0, .ref (x)), (1, .int (v1)), (2, .int (v2))]) E.1 E.2.1 dL_acts_823 hl (by decide) rfl (fun ls hl => ?_)
                  refine lv_iload_n E.1 E.2.1 dL_acts_825 rfl (lv_at hl 8 rfl) ?_
                  refine r_const E dL_acts_826 ?_
                  refine lv_ishr E.1 E.2.1 dL_acts_827 ?_
                  refine r_bipush E dL_acts_828 (by decide) ?_
                  obtain ⟨w3, hw3⟩ : ∃ z : Int, lowI (((v2) >>> ((iI (2)) &&& 31))) (11) = z := ⟨_, rfl⟩
                  have hw3b : 0 ≤ w3 ∧ w3 < (11) := by rw [← hw3]; exact low_b _ (by omega)
                  have hw3c := c_L_low G l (((v2) >>> ((iI (2)) &&& 31))) (11) (by omega)
                  rw [hw3] at hw3c
                  refine kSRE (As := [.int (((v2) >>> ((iI (2)) &&& 31))), .int (iI (11))]) E cw_L_72 hw3c trivial hL hl.1 rfl rfl (Nat.le_of_ble_eq_true rfl) ⟨Nat.le_of_ble_eq_true rfl, Nat.le_of_ble_eq_true rfl⟩ ⟨rfl, rfl⟩ ⟨Nat.le_of_ble_eq_true rfl, Nat.le_of_ble_eq_true rfl⟩ dL_acts_830 (fun locs hL => ?_)
                  refine lv_istore (lv' := [(9, .int (iI (w3))), (8, .int (iI (w2))), (7, .int (iI (sv))), (6, .int (iI ((nx σ : Int)))), (5, .int (iI ((mn σ : Int)))), (4, .int (iI ((-6)))), (3, .int (iI (w1))), (0, .ref (x)), (1, .int (v1)), (2, .int (v2))]) E.1 E.2.1 dL_acts_833 hl (by decide) rfl (fun ls hl => ?_)
                  rcases (show w2 = 0 ∨ w2 = 1 ∨ w2 = 2 by omega) with rfl | rfl | rfl
                  · refine lv_iload E.1 E.2.1 dL_acts_835 (lv_at hl 1 rfl) ?_
                    refine r_const E dL_acts_837 ?_
                    refine r_icmp_ne (tgt := 845) E dL_acts_838 (by decide) (by omega) (by omega) (fun c838 => ?_) (fun c838 => absurd c838 (by omega))
                    refine lv_aload_n E.1 E.2.1 dL_acts_845 rfl (lv_at hl 7 rfl) ?_
                    refine lv_iload E.1 E.2.1 dL_acts_846 (lv_at hl 1 rfl) ?_
                    refine kVRE (As := [.int (iI (0))]) E cw_L_19 (c_X5_setting G l x fb fl σ hs tx len hI hT hfx hgx (0) (by unfold okI; omega)) hP.1.1 ⟨_, _, rfl⟩ hP.1 hL hl.1 rfl rfl (Nat.le_of_ble_eq_true rfl) ⟨Nat.le_of_ble_eq_true rfl, Nat.le_of_ble_eq_true rfl⟩ ⟨rfl, rfl⟩ ⟨Nat.le_of_ble_eq_true rfl, Nat.le_of_ble_eq_true rfl⟩ dL_acts_848 (fun locs hL => ?_)
                    rw [spSet_0 σ]
                    refine lv_istore (lv' := [(10, .int (iI ((s0 σ : Int)))), (9, .int (iI (w3))), (8, .int (iI (0))), (7, .int (iI (sv))), (6, .int (iI ((nx σ : Int)))), (5, .int (iI ((mn σ : Int)))), (4, .int (iI ((-6)))), (3, .int (iI (w1))), (0, .ref (x)), (1, .int (v1)), (2, .int (v2))]) E.1 E.2.1 dL_acts_851 hl (by decide) rfl (fun ls hl => ?_)
                    have J880_3 : ∀ (v880 : Int) (hv880 : (v880 = 1 ∧ (w3 < 2 ∨ 9 < w3)) ∨ (v880 = 0 ∧ 2 ≤ w3 ∧ w3 ≤ 9)) (ls : Array Slot) (locs : List Loc) (hl : lv_has ls 12 [(10, .int (iI ((s0 σ : Int)))), (9, .int (iI (w3))), (8, .int (iI (0))), (7, .int (iI (sv))), (6, .int (iI ((nx σ : Int)))), (5, .int (iI ((mn σ : Int)))), (4, .int (iI ((-6)))), (3, .int (iI (w1))), (0, .ref (x)), (1, .int (v1)), (2, .int (v2))]) (hL : Lk G locs), W p l e ({ frames := 8, cells := 80, slots := 240, locals := 189 } : Room) s m args below meth c s.heap locs 0 0 (QQ G below args s ({ frames := 8, cells := 80, slots := 240, locals := 189 } : Room) (WE (iI 1) (fun H H1 => ∃ τ hs1 tx1 len1, VS τ ∧ VH hs1 ∧ TxOk tx1 len1 ∧ (lowI v1 30 ≤ 26 → AC σ hs τ hs1) ∧ XP G x fb fl τ hs1 tx1 len1 H H1))) (F0 m 880 ls [.int (iI (v880))]) := by
                      intro v880 hv880 ls locs hl hL
                      refine lv_istore (lv' := [(11, .int (iI (v880))), (10, .int (iI ((s0 σ : Int)))), (9, .int (iI (w3))), (8, .int (iI (0))), (7, .int (iI (sv))), (6, .int (iI ((nx σ : Int)))), (5, .int (iI ((mn σ : Int)))), (4, .int (iI ((-6)))), (3, .int (iI (w1))), (0, .ref (x)), (1, .int (v1)), (2, .int (v2))]) E.1 E.2.1 dL_acts_880 hl (by decide) rfl (fun ls hl => ?_)
                      rcases hv880 with ⟨hb8, hb9⟩ | ⟨hb8, hb9⟩
                      · have hsp : (spSet σ 0 w3) = (-2, σ) := st_0b (by omega)
                        refine lv_aload_n E.1 E.2.1 dL_acts_882 rfl (lv_at hl 9 rfl) ?_
                        refine lv_iload E.1 E.2.1 dL_acts_883 (lv_at hl 3 rfl) ?_
                        refine lv_iload E.1 E.2.1 dL_acts_885 (lv_at hl 2 rfl) ?_
                        refine kVWE (As := [.int (iI (0)), .int (iI (w3))]) E cw_L_146 (c_X5_set G l x fb fl σ hs tx len hI hT hfx hgx (0) (w3) (by unfold okI; omega) (by unfold okI; omega)) hP.1.1 ⟨_, _, rfl⟩ ⟨hP.1, hP.2⟩ hL hl.1 rfl rfl (Nat.le_of_ble_eq_true rfl) ⟨Nat.le_of_ble_eq_true rfl, Nat.le_of_ble_eq_true rfl⟩ ⟨Nat.le_of_ble_eq_true rfl, Nat.le_of_ble_eq_true rfl⟩ dL_acts_887 (fun H5 locs hL hw_ => ?_)
                        obtain ⟨⟨fl1, hE1, hX1⟩, hR1⟩ := hw_
                        have hV1 : VS (spSet σ (0) (w3)).2 := hS.set (0) (w3)
                        have hC1 : AC σ hs (spSet σ (0) (w3)).2 (hsA σ hs (spSet σ (0) (w3)).1) := ac_of (spSet_b hI (0) (w3)).2.2
                        have hD1 : VH (hsA σ hs (spSet σ (0) (w3)).1) := VH.hs1 hS hH
                        generalize hsA σ hs (spSet σ (0) (w3)).1 = hs1 at hX1 hC1 hD1
                        have hte : (spSet σ 0 w3).2 = σ := by rw [hsp]
                        have hr1 : (spSet σ (0) (w3)).1 = (-2) := by rw [hsp]
                        rw [hr1]
                        generalize (spSet σ (0) (w3)).2 = τ at hX1 hV1 hC1 hte
                        have hI1 := hV1.1
                        have hz1 := FrR.size hR1 hP.2
                        have hg9 : s0 τ = s0 σ := by rw [hte]
                        refine lv_iload E.1 E.2.1 dL_acts_890 (lv_at hl 3 rfl) ?_
                        refine r_const E dL_acts_892 ?_
                        refine r_icmp_ne (tgt := 900) E dL_acts_893 (by decide) (by omega) (by omega) (fun c893 => ?_) (fun c893 => absurd c893 (by omega))
                        refine lv_iload E.1 E.2.1 dL_acts_900 (lv_at hl 0 rfl) ?_
                        refine r_if_eq (tgt := 910) E dL_acts_902 (by decide) (by omega) (fun c902 => absurd c902 (by omega)) (fun c902 => ?_)
                        refine r_bipush E dL_acts_905 (by decide) ?_
                        refine lv_goto (tgt := 912) E.1 E.2.1 dL_acts_907 (by decide) ?_
                        refine r_icmp_ne (tgt := 946) E dL_acts_912 (by decide) (by omega) (by omega) (fun c912 => absurd c912 (by omega)) (fun c912 => ?_)
                        refine lv_iload E.1 E.2.1 dL_acts_915 (lv_at hl 3 rfl) ?_
                        refine r_const E dL_acts_917 ?_
                        refine r_icmp_eq (tgt := 942) E dL_acts_918 (by decide) (by omega) (by omega) (fun c918 => absurd c918 (by omega)) (fun c918 => ?_)
                        refine lv_aload_n E.1 E.2.1 dL_acts_921 rfl (lv_at hl 9 rfl) ?_
                        refine lv_iload E.1 E.2.1 dL_acts_922 (lv_at hl 3 rfl) ?_
                        refine kVRE (As := [.int (iI (0))]) E cw_L_19 (c_X5_setting G l x fb fl1 τ hs1 tx len hI1 hT hfx hgx (0) (by unfold okI; omega)) hX1.1 ⟨_, _, rfl⟩ hX1 hL hl.1 rfl rfl (Nat.le_of_ble_eq_true rfl) ⟨Nat.le_of_ble_eq_true rfl, Nat.le_of_ble_eq_true rfl⟩ ⟨rfl, rfl⟩ ⟨Nat.le_of_ble_eq_true rfl, Nat.le_of_ble_eq_true rfl⟩ dL_acts_924 (fun locs hL => ?_)
                        rw [spSet_0 τ]
                        refine lv_iload E.1 E.2.1 dL_acts_927 (lv_at hl 0 rfl) ?_
                        refine r_if_eq (tgt := 937) E dL_acts_929 (by decide) (by omega) (fun c929 => absurd c929 (by omega)) (fun c929 => ?_)
                        refine lv_iload E.1 E.2.1 dL_acts_932 (lv_at hl 1 rfl) ?_
                        refine lv_goto (tgt := 939) E.1 E.2.1 dL_acts_934 (by decide) ?_
                        refine r_icmp_ne (tgt := 946) E dL_acts_939 (by decide) (by omega) (by omega) (fun c939 => absurd c939 (by omega)) (fun c939 => ?_)
                        refine r_const E dL_acts_942 ?_
                        refine lv_goto (tgt := 947) E.1 E.2.1 dL_acts_943 (by decide) ?_
                        refine W.widen (k := 80) (n := 240) (Nat.le_of_ble_eq_true rfl) (Nat.le_of_ble_eq_true rfl) ?_
                        refine e_zret (rm := ({ frames := 8, cells := 80, slots := 240, locals := 189 } : Room)) (v := iI (1)) E hL rfl dL_acts_947 ?_
                        exact ⟨rfl, _, _, _, _, hV1, hD1, hT, fun _ => hC1, ⟨_, hE1, hX1⟩, hR1⟩
                      · refine lv_aload_n E.1 E.2.1 dL_acts_882 rfl (lv_at hl 9 rfl) ?_
                        refine lv_iload E.1 E.2.1 dL_acts_883 (lv_at hl 3 rfl) ?_
                        refine lv_iload E.1 E.2.1 dL_acts_885 (lv_at hl 2 rfl) ?_
                        refine kVWE (As := [.int (iI (0)), .int (iI (w3))]) E cw_L_146 (c_X5_set G l x fb fl σ hs tx len hI hT hfx hgx (0) (w3) (by unfold okI; omega) (by unfold okI; omega)) hP.1.1 ⟨_, _, rfl⟩ ⟨hP.1, hP.2⟩ hL hl.1 rfl rfl (Nat.le_of_ble_eq_true rfl) ⟨Nat.le_of_ble_eq_true rfl, Nat.le_of_ble_eq_true rfl⟩ ⟨Nat.le_of_ble_eq_true rfl, Nat.le_of_ble_eq_true rfl⟩ dL_acts_887 (fun H5 locs hL hw_ => ?_)
                        obtain ⟨⟨fl1, hE1, hX1⟩, hR1⟩ := hw_
                        have hV1 : VS (spSet σ (0) (w3)).2 := hS.set (0) (w3)
                        have hC1 : AC σ hs (spSet σ (0) (w3)).2 (hsA σ hs (spSet σ (0) (w3)).1) := ac_of (spSet_b hI (0) (w3)).2.2
                        have hD1 : VH (hsA σ hs (spSet σ (0) (w3)).1) := VH.hs1 hS hH
                        generalize hsA σ hs (spSet σ (0) (w3)).1 = hs1 at hX1 hC1 hD1
                        have hok := st_0 (σ := σ) hb9
                        have hg9 := hok.2
                        have hr1 : (spSet σ (0) (w3)).1 = (s0 σ : Int) := hok.1
                        rw [hr1]
                        generalize (spSet σ (0) (w3)).2 = τ at hX1 hV1 hC1 hg9
                        have hI1 := hV1.1
                        have hz1 := FrR.size hR1 hP.2
                        refine lv_iload E.1 E.2.1 dL_acts_890 (lv_at hl 3 rfl) ?_
                        refine r_const E dL_acts_892 ?_
                        refine r_icmp_ne (tgt := 900) E dL_acts_893 (by decide) (by omega) (by omega) (fun c893 => ?_) (fun c893 => absurd c893 (by omega))
                        refine lv_iload E.1 E.2.1 dL_acts_900 (lv_at hl 0 rfl) ?_
                        refine r_if_eq (tgt := 910) E dL_acts_902 (by decide) (by omega) (fun c902 => ?_) (fun c902 => absurd c902 (by omega))
                        refine lv_iload E.1 E.2.1 dL_acts_910 (lv_at hl 1 rfl) ?_
                        refine r_icmp_ne (tgt := 946) E dL_acts_912 (by decide) (by omega) (by omega) (fun c912 => absurd c912 (by omega)) (fun c912 => ?_)
                        refine lv_iload E.1 E.2.1 dL_acts_915 (lv_at hl 3 rfl) ?_
                        refine r_const E dL_acts_917 ?_
                        refine r_icmp_eq (tgt := 942) E dL_acts_918 (by decide) (by omega) (by omega) (fun c918 => absurd c918 (by omega)) (fun c918 => ?_)
                        refine lv_aload_n E.1 E.2.1 dL_acts_921 rfl (lv_at hl 9 rfl) ?_
                        refine lv_iload E.1 E.2.1 dL_acts_922 (lv_at hl 3 rfl) ?_
                        refine kVRE (As := [.int (iI (0))]) E cw_L_19 (c_X5_setting G l x fb fl1 τ hs1 tx len hI1 hT hfx hgx (0) (by unfold okI; omega)) hX1.1 ⟨_, _, rfl⟩ hX1 hL hl.1 rfl rfl (Nat.le_of_ble_eq_true rfl) ⟨Nat.le_of_ble_eq_true rfl, Nat.le_of_ble_eq_true rfl⟩ ⟨rfl, rfl⟩ ⟨Nat.le_of_ble_eq_true rfl, Nat.le_of_ble_eq_true rfl⟩ dL_acts_924 (fun locs hL => ?_)
                        rw [spSet_0 τ]
                        refine lv_iload E.1 E.2.1 dL_acts_927 (lv_at hl 0 rfl) ?_
                        refine r_if_eq (tgt := 937) E dL_acts_929 (by decide) (by omega) (fun c929 => ?_) (fun c929 => absurd c929 (by omega))
                        refine lv_iload E.1 E.2.1 dL_acts_937 (lv_at hl 2 rfl) ?_
                        refine r_icmp_ne (tgt := 946) E dL_acts_939 (by decide) (by omega) (by omega) (fun c939 => absurd c939 (by omega)) (fun c939 => ?_)
                        refine r_const E dL_acts_942 ?_
                        refine lv_goto (tgt := 947) E.1 E.2.1 dL_acts_943 (by decide) ?_
                        refine W.widen (k := 80) (n := 240) (Nat.le_of_ble_eq_true rfl) (Nat.le_of_ble_eq_true rfl) ?_
                        refine e_zret (rm := ({ frames := 8, cells := 80, slots := 240, locals := 189 } : Room)) (v := iI (1)) E hL rfl dL_acts_947 ?_
                        exact ⟨rfl, _, _, _, _, hV1, hD1, hT, fun _ => hC1, ⟨_, hE1, hX1⟩, hR1⟩
                    refine lv_iload E.1 E.2.1 dL_acts_853 (lv_at hl 1 rfl) ?_
                    refine lv_iload E.1 E.2.1 dL_acts_855 (lv_at hl 2 rfl) ?_
                    refine r_if_ne (tgt := 864) E dL_acts_857 (by decide) (by omega) (fun c857 => absurd c857 (by omega)) (fun c857 => ?_)
                    refine r_const E dL_acts_860 ?_
                    refine lv_goto (tgt := 865) E.1 E.2.1 dL_acts_861 (by decide) ?_
                    refine r_icmp_lt (tgt := 875) E dL_acts_865 (by decide) (by omega) (by omega) (fun c865 => ?_) (fun c865 => ?_)
                    · refine r_const E dL_acts_875 ?_
                      refine lv_goto (tgt := 880) E.1 E.2.1 dL_acts_876 (by decide) ?_
                      exact J880_3 _ (by omega) ls locs (lv_sub hl [0, 1, 2, 3, 4, 5, 6, 7, 8, 9, 10] rfl) hL
                    · refine lv_iload E.1 E.2.1 dL_acts_868 (lv_at hl 1 rfl) ?_
                      refine r_bipush E dL_acts_870 (by decide) ?_
                      refine r_icmp_le (tgt := 879) E dL_acts_872 (by decide) (by omega) (by omega) (fun c872 => ?_) (fun c872 => ?_)
                      · refine r_const E dL_acts_879 ?_
                        exact J880_3 _ (by omega) ls locs (lv_sub hl [0, 1, 2, 3, 4, 5, 6, 7, 8, 9, 10] rfl) hL
                      · refine r_const E dL_acts_875 ?_
                        refine lv_goto (tgt := 880) E.1 E.2.1 dL_acts_876 (by decide) ?_
                        exact J880_3 _ (by omega) ls locs (lv_sub hl [0, 1, 2, 3, 4, 5, 6, 7, 8, 9, 10] rfl) hL
                  · refine lv_iload E.1 E.2.1 dL_acts_835 (lv_at hl 1 rfl) ?_
                    refine r_const E dL_acts_837 ?_
                    refine r_icmp_ne (tgt := 845) E dL_acts_838 (by decide) (by omega) (by omega) (fun c838 => ?_) (fun c838 => absurd c838 (by omega))
                    refine lv_aload_n E.1 E.2.1 dL_acts_845 rfl (lv_at hl 7 rfl) ?_
                    refine lv_iload E.1 E.2.1 dL_acts_846 (lv_at hl 1 rfl) ?_
                    refine kVRE (As := [.int (iI (1))]) E cw_L_19 (c_X5_setting G l x fb fl σ hs tx len hI hT hfx hgx (1) (by unfold okI; omega)) hP.1.1 ⟨_, _, rfl⟩ hP.1 hL hl.1 rfl rfl (Nat.le_of_ble_eq_true rfl) ⟨Nat.le_of_ble_eq_true rfl, Nat.le_of_ble_eq_true rfl⟩ ⟨rfl, rfl⟩ ⟨Nat.le_of_ble_eq_true rfl, Nat.le_of_ble_eq_true rfl⟩ dL_acts_848 (fun locs hL => ?_)
                    rw [spSet_1 σ]
                    refine lv_istore (lv' := [(10, .int (iI ((s1 σ : Int)))), (9, .int (iI (w3))), (8, .int (iI (1))), (7, .int (iI (sv))), (6, .int (iI ((nx σ : Int)))), (5, .int (iI ((mn σ : Int)))), (4, .int (iI ((-6)))), (3, .int (iI (w1))), (0, .ref (x)), (1, .int (v1)), (2, .int (v2))]) E.1 E.2.1 dL_acts_851 hl (by decide) rfl (fun ls hl => ?_)
                    have J880_3 : ∀ (v880 : Int) (hv880 : (v880 = 1 ∧ (w3 < 1 ∨ 9 < w3)) ∨ (v880 = 0 ∧ 1 ≤ w3 ∧ w3 ≤ 9)) (ls : Array Slot) (locs : List Loc) (hl : lv_has ls 12 [(10, .int (iI ((s1 σ : Int)))), (9, .int (iI (w3))), (8, .int (iI (1))), (7, .int (iI (sv))), (6, .int (iI ((nx σ : Int)))), (5, .int (iI ((mn σ : Int)))), (4, .int (iI ((-6)))), (3, .int (iI (w1))), (0, .ref (x)), (1, .int (v1)), (2, .int (v2))]) (hL : Lk G locs), W p l e ({ frames := 8, cells := 80, slots := 240, locals := 189 } : Room) s m args below meth c s.heap locs 0 0 (QQ G below args s ({ frames := 8, cells := 80, slots := 240, locals := 189 } : Room) (WE (iI 1) (fun H H1 => ∃ τ hs1 tx1 len1, VS τ ∧ VH hs1 ∧ TxOk tx1 len1 ∧ (lowI v1 30 ≤ 26 → AC σ hs τ hs1) ∧ XP G x fb fl τ hs1 tx1 len1 H H1))) (F0 m 880 ls [.int (iI (v880))]) := by
                      intro v880 hv880 ls locs hl hL
                      refine lv_istore (lv' := [(11, .int (iI (v880))), (10, .int (iI ((s1 σ : Int)))), (9, .int (iI (w3))), (8, .int (iI (1))), (7, .int (iI (sv))), (6, .int (iI ((nx σ : Int)))), (5, .int (iI ((mn σ : Int)))), (4, .int (iI ((-6)))), (3, .int (iI (w1))), (0, .ref (x)), (1, .int (v1)), (2, .int (v2))]) E.1 E.2.1 dL_acts_880 hl (by decide) rfl (fun ls hl => ?_)
                      rcases hv880 with ⟨hb8, hb9⟩ | ⟨hb8, hb9⟩
                      · have hsp : (spSet σ 1 w3) = (-2, σ) := st_1b (by omega)
                        refine lv_aload_n E.1 E.2.1 dL_acts_882 rfl (lv_at hl 9 rfl) ?_
                        refine lv_iload E.1 E.2.1 dL_acts_883 (lv_at hl 3 rfl) ?_
                        refine lv_iload E.1 E.2.1 dL_acts_885 (lv_at hl 2 rfl) ?_
                        refine kVWE (As := [.int (iI (1)), .int (iI (w3))]) E cw_L_146 (c_X5_set G l x fb fl σ hs tx len hI hT hfx hgx (1) (w3) (by unfold okI; omega) (by unfold okI; omega)) hP.1.1 ⟨_, _, rfl⟩ ⟨hP.1, hP.2⟩ hL hl.1 rfl rfl (Nat.le_of_ble_eq_true rfl) ⟨Nat.le_of_ble_eq_true rfl, Nat.le_of_ble_eq_true rfl⟩ ⟨Nat.le_of_ble_eq_true rfl, Nat.le_of_ble_eq_true rfl⟩ dL_acts_887 (fun H5 locs hL hw_ => ?_)
                        obtain ⟨⟨fl1, hE1, hX1⟩, hR1⟩ := hw_
                        have hV1 : VS (spSet σ (1) (w3)).2 := hS.set (1) (w3)
                        have hC1 : AC σ hs (spSet σ (1) (w3)).2 (hsA σ hs (spSet σ (1) (w3)).1) := ac_of (spSet_b hI (1) (w3)).2.2
                        have hD1 : VH (hsA σ hs (spSet σ (1) (w3)).1) := VH.hs1 hS hH
                        generalize hsA σ hs (spSet σ (1) (w3)).1 = hs1 at hX1 hC1 hD1
                        have hte : (spSet σ 1 w3).2 = σ := by rw [hsp]
                        have hr1 : (spSet σ (1) (w3)).1 = (-2) := by rw [hsp]
                        rw [hr1]
                        generalize (spSet σ (1) (w3)).2 = τ at hX1 hV1 hC1 hte
                        have hI1 := hV1.1
                        have hz1 := FrR.size hR1 hP.2
                        have hg9 : s1 τ = s1 σ := by rw [hte]
                        refine lv_iload E.1 E.2.1 dL_acts_890 (lv_at hl 3 rfl) ?_
                        refine r_const E dL_acts_892 ?_
                        refine r_icmp_ne (tgt := 900) E dL_acts_893 (by decide) (by omega) (by omega) (fun c893 => ?_) (fun c893 => absurd c893 (by omega))
                        refine lv_iload E.1 E.2.1 dL_acts_900 (lv_at hl 0 rfl) ?_
                        refine r_if_eq (tgt := 910) E dL_acts_902 (by decide) (by omega) (fun c902 => absurd c902 (by omega)) (fun c902 => ?_)
                        refine r_bipush E dL_acts_905 (by decide) ?_
                        refine lv_goto (tgt := 912) E.1 E.2.1 dL_acts_907 (by decide) ?_
                        refine r_icmp_ne (tgt := 946) E dL_acts_912 (by decide) (by omega) (by omega) (fun c912 => absurd c912 (by omega)) (fun c912 => ?_)
                        refine lv_iload E.1 E.2.1 dL_acts_915 (lv_at hl 3 rfl) ?_
                        refine r_const E dL_acts_917 ?_
                        refine r_icmp_eq (tgt := 942) E dL_acts_918 (by decide) (by omega) (by omega) (fun c918 => absurd c918 (by omega)) (fun c918 => ?_)
                        refine lv_aload_n E.1 E.2.1 dL_acts_921 rfl (lv_at hl 9 rfl) ?_
                        refine lv_iload E.1 E.2.1 dL_acts_922 (lv_at hl 3 rfl) ?_
                        refine kVRE (As := [.int (iI (1))]) E cw_L_19 (c_X5_setting G l x fb fl1 τ hs1 tx len hI1 hT hfx hgx (1) (by unfold okI; omega)) hX1.1 ⟨_, _, rfl⟩ hX1 hL hl.1 rfl rfl (Nat.le_of_ble_eq_true rfl) ⟨Nat.le_of_ble_eq_true rfl, Nat.le_of_ble_eq_true rfl⟩ ⟨rfl, rfl⟩ ⟨Nat.le_of_ble_eq_true rfl, Nat.le_of_ble_eq_true rfl⟩ dL_acts_924 (fun locs hL => ?_)
                        rw [spSet_1 τ]
                        refine lv_iload E.1 E.2.1 dL_acts_927 (lv_at hl 0 rfl) ?_
                        refine r_if_eq (tgt := 937) E dL_acts_929 (by decide) (by omega) (fun c929 => absurd c929 (by omega)) (fun c929 => ?_)
                        refine lv_iload E.1 E.2.1 dL_acts_932 (lv_at hl 1 rfl) ?_
                        refine lv_goto (tgt := 939) E.1 E.2.1 dL_acts_934 (by decide) ?_
                        refine r_icmp_ne (tgt := 946) E dL_acts_939 (by decide) (by omega) (by omega) (fun c939 => absurd c939 (by omega)) (fun c939 => ?_)
                        refine r_const E dL_acts_942 ?_
                        refine lv_goto (tgt := 947) E.1 E.2.1 dL_acts_943 (by decide) ?_
                        refine W.widen (k := 80) (n := 240) (Nat.le_of_ble_eq_true rfl) (Nat.le_of_ble_eq_true rfl) ?_
                        refine e_zret (rm := ({ frames := 8, cells := 80, slots := 240, locals := 189 } : Room)) (v := iI (1)) E hL rfl dL_acts_947 ?_
                        exact ⟨rfl, _, _, _, _, hV1, hD1, hT, fun _ => hC1, ⟨_, hE1, hX1⟩, hR1⟩
                      · refine lv_aload_n E.1 E.2.1 dL_acts_882 rfl (lv_at hl 9 rfl) ?_
                        refine lv_iload E.1 E.2.1 dL_acts_883 (lv_at hl 3 rfl) ?_
                        refine lv_iload E.1 E.2.1 dL_acts_885 (lv_at hl 2 rfl) ?_
                        refine kVWE (As := [.int (iI (1)), .int (iI (w3))]) E cw_L_146 (c_X5_set G l x fb fl σ hs tx len hI hT hfx hgx (1) (w3) (by unfold okI; omega) (by unfold okI; omega)) hP.1.1 ⟨_, _, rfl⟩ ⟨hP.1, hP.2⟩ hL hl.1 rfl rfl (Nat.le_of_ble_eq_true rfl) ⟨Nat.le_of_ble_eq_true rfl, Nat.le_of_ble_eq_true rfl⟩ ⟨Nat.le_of_ble_eq_true rfl, Nat.le_of_ble_eq_true rfl⟩ dL_acts_887 (fun H5 locs hL hw_ => ?_)
                        obtain ⟨⟨fl1, hE1, hX1⟩, hR1⟩ := hw_
                        have hV1 : VS (spSet σ (1) (w3)).2 := hS.set (1) (w3)
                        have hC1 : AC σ hs (spSet σ (1) (w3)).2 (hsA σ hs (spSet σ (1) (w3)).1) := ac_of (spSet_b hI (1) (w3)).2.2
                        have hD1 : VH (hsA σ hs (spSet σ (1) (w3)).1) := VH.hs1 hS hH
                        generalize hsA σ hs (spSet σ (1) (w3)).1 = hs1 at hX1 hC1 hD1
                        have hok := st_1 (σ := σ) hb9
                        have hg9 := hok.2
                        have hr1 : (spSet σ (1) (w3)).1 = (s1 σ : Int) := hok.1
                        rw [hr1]
                        generalize (spSet σ (1) (w3)).2 = τ at hX1 hV1 hC1 hg9
                        have hI1 := hV1.1
                        have hz1 := FrR.size hR1 hP.2
                        refine lv_iload E.1 E.2.1 dL_acts_890 (lv_at hl 3 rfl) ?_
                        refine r_const E dL_acts_892 ?_
                        refine r_icmp_ne (tgt := 900) E dL_acts_893 (by decide) (by omega) (by omega) (fun c893 => ?_) (fun c893 => absurd c893 (by omega))
                        refine lv_iload E.1 E.2.1 dL_acts_900 (lv_at hl 0 rfl) ?_
                        refine r_if_eq (tgt := 910) E dL_acts_902 (by decide) (by omega) (fun c902 => ?_) (fun c902 => absurd c902 (by omega))
                        refine lv_iload E.1 E.2.1 dL_acts_910 (lv_at hl 1 rfl) ?_
                        refine r_icmp_ne (tgt := 946) E dL_acts_912 (by decide) (by omega) (by omega) (fun c912 => absurd c912 (by omega)) (fun c912 => ?_)
                        refine lv_iload E.1 E.2.1 dL_acts_915 (lv_at hl 3 rfl) ?_
                        refine r_const E dL_acts_917 ?_
                        refine r_icmp_eq (tgt := 942) E dL_acts_918 (by decide) (by omega) (by omega) (fun c918 => absurd c918 (by omega)) (fun c918 => ?_)
                        refine lv_aload_n E.1 E.2.1 dL_acts_921 rfl (lv_at hl 9 rfl) ?_
                        refine lv_iload E.1 E.2.1 dL_acts_922 (lv_at hl 3 rfl) ?_
                        refine kVRE (As := [.int (iI (1))]) E cw_L_19 (c_X5_setting G l x fb fl1 τ hs1 tx len hI1 hT hfx hgx (1) (by unfold okI; omega)) hX1.1 ⟨_, _, rfl⟩ hX1 hL hl.1 rfl rfl (Nat.le_of_ble_eq_true rfl) ⟨Nat.le_of_ble_eq_true rfl, Nat.le_of_ble_eq_true rfl⟩ ⟨rfl, rfl⟩ ⟨Nat.le_of_ble_eq_true rfl, Nat.le_of_ble_eq_true rfl⟩ dL_acts_924 (fun locs hL => ?_)
                        rw [spSet_1 τ]
                        refine lv_iload E.1 E.2.1 dL_acts_927 (lv_at hl 0 rfl) ?_
                        refine r_if_eq (tgt := 937) E dL_acts_929 (by decide) (by omega) (fun c929 => ?_) (fun c929 => absurd c929 (by omega))
                        refine lv_iload E.1 E.2.1 dL_acts_937 (lv_at hl 2 rfl) ?_
                        refine r_icmp_ne (tgt := 946) E dL_acts_939 (by decide) (by omega) (by omega) (fun c939 => absurd c939 (by omega)) (fun c939 => ?_)
                        refine r_const E dL_acts_942 ?_
                        refine lv_goto (tgt := 947) E.1 E.2.1 dL_acts_943 (by decide) ?_
                        refine W.widen (k := 80) (n := 240) (Nat.le_of_ble_eq_true rfl) (Nat.le_of_ble_eq_true rfl) ?_
                        refine e_zret (rm := ({ frames := 8, cells := 80, slots := 240, locals := 189 } : Room)) (v := iI (1)) E hL rfl dL_acts_947 ?_
                        exact ⟨rfl, _, _, _, _, hV1, hD1, hT, fun _ => hC1, ⟨_, hE1, hX1⟩, hR1⟩
                    refine lv_iload E.1 E.2.1 dL_acts_853 (lv_at hl 1 rfl) ?_
                    refine lv_iload E.1 E.2.1 dL_acts_855 (lv_at hl 2 rfl) ?_
                    refine r_if_ne (tgt := 864) E dL_acts_857 (by decide) (by omega) (fun c857 => ?_) (fun c857 => absurd c857 (by omega))
                    refine r_const E dL_acts_864 ?_
                    refine r_icmp_lt (tgt := 875) E dL_acts_865 (by decide) (by omega) (by omega) (fun c865 => ?_) (fun c865 => ?_)
                    · refine r_const E dL_acts_875 ?_
                      refine lv_goto (tgt := 880) E.1 E.2.1 dL_acts_876 (by decide) ?_
                      exact J880_3 _ (by omega) ls locs (lv_sub hl [0, 1, 2, 3, 4, 5, 6, 7, 8, 9, 10] rfl) hL
                    · refine lv_iload E.1 E.2.1 dL_acts_868 (lv_at hl 1 rfl) ?_
                      refine r_bipush E dL_acts_870 (by decide) ?_
                      refine r_icmp_le (tgt := 879) E dL_acts_872 (by decide) (by omega) (by omega) (fun c872 => ?_) (fun c872 => ?_)
                      · refine r_const E dL_acts_879 ?_
                        exact J880_3 _ (by omega) ls locs (lv_sub hl [0, 1, 2, 3, 4, 5, 6, 7, 8, 9, 10] rfl) hL
                      · refine r_const E dL_acts_875 ?_
                        refine lv_goto (tgt := 880) E.1 E.2.1 dL_acts_876 (by decide) ?_
                        exact J880_3 _ (by omega) ls locs (lv_sub hl [0, 1, 2, 3, 4, 5, 6, 7, 8, 9, 10] rfl) hL
                  · refine lv_iload E.1 E.2.1 dL_acts_835 (lv_at hl 1 rfl) ?_
                    refine r_const E dL_acts_837 ?_
                    refine r_icmp_ne (tgt := 845) E dL_acts_838 (by decide) (by omega) (by omega) (fun c838 => absurd c838 (by omega)) (fun c838 => ?_)
                    refine r_const E dL_acts_841 ?_
                    refine lv_goto (tgt := 851) E.1 E.2.1 dL_acts_842 (by decide) ?_
                    refine lv_istore (lv' := [(10, .int (iI (0))), (9, .int (iI (w3))), (8, .int (iI (2))), (7, .int (iI (sv))), (6, .int (iI ((nx σ : Int)))), (5, .int (iI ((mn σ : Int)))), (4, .int (iI ((-6)))), (3, .int (iI (w1))), (0, .ref (x)), (1, .int (v1)), (2, .int (v2))]) E.1 E.2.1 dL_acts_851 hl (by decide) rfl (fun ls hl => ?_)
                    have J880_3 : ∀ (v880 : Int) (hv880 : (v880 = 1 ∧ (w3 < 1 ∨ 9 < w3)) ∨ (v880 = 0 ∧ 1 ≤ w3 ∧ w3 ≤ 9)) (ls : Array Slot) (locs : List Loc) (hl : lv_has ls 12 [(10, .int (iI (0))), (9, .int (iI (w3))), (8, .int (iI (2))), (7, .int (iI (sv))), (6, .int (iI ((nx σ : Int)))), (5, .int (iI ((mn σ : Int)))), (4, .int (iI ((-6)))), (3, .int (iI (w1))), (0, .ref (x)), (1, .int (v1)), (2, .int (v2))]) (hL : Lk G locs), W p l e ({ frames := 8, cells := 80, slots := 240, locals := 189 } : Room) s m args below meth c s.heap locs 0 0 (QQ G below args s ({ frames := 8, cells := 80, slots := 240, locals := 189 } : Room) (WE (iI 1) (fun H H1 => ∃ τ hs1 tx1 len1, VS τ ∧ VH hs1 ∧ TxOk tx1 len1 ∧ (lowI v1 30 ≤ 26 → AC σ hs τ hs1) ∧ XP G x fb fl τ hs1 tx1 len1 H H1))) (F0 m 880 ls [.int (iI (v880))]) := by
                      intro v880 hv880 ls locs hl hL
                      refine lv_istore (lv' := [(11, .int (iI (v880))), (10, .int (iI (0))), (9, .int (iI (w3))), (8, .int (iI (2))), (7, .int (iI (sv))), (6, .int (iI ((nx σ : Int)))), (5, .int (iI ((mn σ : Int)))), (4, .int (iI ((-6)))), (3, .int (iI (w1))), (0, .ref (x)), (1, .int (v1)), (2, .int (v2))]) E.1 E.2.1 dL_acts_880 hl (by decide) rfl (fun ls hl => ?_)
                      have hsp : (spSet σ 2 w3) = (-1, σ) := st_e1
                      refine lv_aload_n E.1 E.2.1 dL_acts_882 rfl (lv_at hl 9 rfl) ?_
                      refine lv_iload E.1 E.2.1 dL_acts_883 (lv_at hl 3 rfl) ?_
                      refine lv_iload E.1 E.2.1 dL_acts_885 (lv_at hl 2 rfl) ?_
                      refine kVWE (As := [.int (iI (2)), .int (iI (w3))]) E cw_L_146 (c_X5_set G l x fb fl σ hs tx len hI hT hfx hgx (2) (w3) (by unfold okI; omega) (by unfold okI; omega)) hP.1.1 ⟨_, _, rfl⟩ ⟨hP.1, hP.2⟩ hL hl.1 rfl rfl (Nat.le_of_ble_eq_true rfl) ⟨Nat.le_of_ble_eq_true rfl, Nat.le_of_ble_eq_true rfl⟩ ⟨Nat.le_of_ble_eq_true rfl, Nat.le_of_ble_eq_true rfl⟩ dL_acts_887 (fun H5 locs hL hw_ => ?_)
                      obtain ⟨⟨fl1, hE1, hX1⟩, hR1⟩ := hw_
                      have hV1 : VS (spSet σ (2) (w3)).2 := hS.set (2) (w3)
                      have hC1 : AC σ hs (spSet σ (2) (w3)).2 (hsA σ hs (spSet σ (2) (w3)).1) := ac_of (spSet_b hI (2) (w3)).2.2
                      have hD1 : VH (hsA σ hs (spSet σ (2) (w3)).1) := VH.hs1 hS hH
                      generalize hsA σ hs (spSet σ (2) (w3)).1 = hs1 at hX1 hC1 hD1
                      have hte : (spSet σ 2 w3).2 = σ := by rw [hsp]
                      have hr1 : (spSet σ (2) (w3)).1 = (-1) := by rw [hsp]
                      rw [hr1]
                      generalize (spSet σ (2) (w3)).2 = τ at hX1 hV1 hC1 hte
                      have hI1 := hV1.1
                      have hz1 := FrR.size hR1 hP.2
                      refine lv_iload E.1 E.2.1 dL_acts_890 (lv_at hl 3 rfl) ?_
                      refine r_const E dL_acts_892 ?_
                      refine r_icmp_ne (tgt := 900) E dL_acts_893 (by decide) (by omega) (by omega) (fun c893 => absurd c893 (by omega)) (fun c893 => ?_)
                      refine r_const E dL_acts_896 ?_
                      refine lv_goto (tgt := 912) E.1 E.2.1 dL_acts_897 (by decide) ?_
                      refine r_icmp_ne (tgt := 946) E dL_acts_912 (by decide) (by omega) (by omega) (fun c912 => absurd c912 (by omega)) (fun c912 => ?_)
                      refine lv_iload E.1 E.2.1 dL_acts_915 (lv_at hl 3 rfl) ?_
                      refine r_const E dL_acts_917 ?_
                      refine r_icmp_eq (tgt := 942) E dL_acts_918 (by decide) (by omega) (by omega) (fun c918 => ?_) (fun c918 => absurd c918 (by omega))
                      refine r_const E dL_acts_942 ?_
                      refine lv_goto (tgt := 947) E.1 E.2.1 dL_acts_943 (by decide) ?_
                      refine W.widen (k := 80) (n := 240) (Nat.le_of_ble_eq_true rfl) (Nat.le_of_ble_eq_true rfl) ?_
                      refine e_zret (rm := ({ frames := 8, cells := 80, slots := 240, locals := 189 } : Room)) (v := iI (1)) E hL rfl dL_acts_947 ?_
                      exact ⟨rfl, _, _, _, _, hV1, hD1, hT, fun _ => hC1, ⟨_, hE1, hX1⟩, hR1⟩
                    refine lv_iload E.1 E.2.1 dL_acts_853 (lv_at hl 1 rfl) ?_
                    refine lv_iload E.1 E.2.1 dL_acts_855 (lv_at hl 2 rfl) ?_
                    refine r_if_ne (tgt := 864) E dL_acts_857 (by decide) (by omega) (fun c857 => ?_) (fun c857 => absurd c857 (by omega))
                    refine r_const E dL_acts_864 ?_
                    refine r_icmp_lt (tgt := 875) E dL_acts_865 (by decide) (by omega) (by omega) (fun c865 => ?_) (fun c865 => ?_)
                    · refine r_const E dL_acts_875 ?_
                      refine lv_goto (tgt := 880) E.1 E.2.1 dL_acts_876 (by decide) ?_
                      exact J880_3 _ (by omega) ls locs (lv_sub hl [0, 1, 2, 3, 4, 5, 6, 7, 8, 9, 10] rfl) hL
                    · refine lv_iload E.1 E.2.1 dL_acts_868 (lv_at hl 1 rfl) ?_
                      refine r_bipush E dL_acts_870 (by decide) ?_
                      refine r_icmp_le (tgt := 879) E dL_acts_872 (by decide) (by omega) (by omega) (fun c872 => ?_) (fun c872 => ?_)
                      · refine r_const E dL_acts_879 ?_
                        exact J880_3 _ (by omega) ls locs (lv_sub hl [0, 1, 2, 3, 4, 5, 6, 7, 8, 9, 10] rfl) hL
                      · refine r_const E dL_acts_875 ?_
                        refine lv_goto (tgt := 880) E.1 E.2.1 dL_acts_876 (by decide) ?_
                        exact J880_3 _ (by omega) ls locs (lv_sub hl [0, 1, 2, 3, 4, 5, 6, 7, 8, 9, 10] rfl) hL
              · refine lv_iload_n E.1 E.2.1 dL_acts_642 rfl (lv_at hl 7 rfl) ?_
                have J685_1 : ∀ (v685 : Int) (hv685 : 1 ≤ v685 ∧ v685 ≤ 241) (ls : Array Slot) (locs : List Loc) (hl : lv_has ls 12 [(7, .int (iI (sv))), (6, .int (iI ((nx σ : Int)))), (5, .int (iI ((mn σ : Int)))), (4, .int (iI ((-6)))), (3, .int (iI (w1))), (0, .ref (x)), (1, .int (v1)), (2, .int (v2))]) (hL : Lk G locs), W p l e ({ frames := 8, cells := 80, slots := 240, locals := 189 } : Room) s m args below meth c s.heap locs 0 0 (QQ G below args s ({ frames := 8, cells := 80, slots := 240, locals := 189 } : Room) (WE (iI 1) (fun H H1 => ∃ τ hs1 tx1 len1, VS τ ∧ VH hs1 ∧ TxOk tx1 len1 ∧ (lowI v1 30 ≤ 26 → AC σ hs τ hs1) ∧ XP G x fb fl τ hs1 tx1 len1 H H1))) (F0 m 685 ls [.int (iI (v685)), .int (v2)]) := by
                  intro v685 hv685 ls locs hl hL
                  obtain ⟨w3, hw3⟩ : ∃ z : Int, lowI (v2) (v685) = z := ⟨_, rfl⟩
                  have hw3b : 0 ≤ w3 ∧ w3 < (v685) := by rw [← hw3]; exact low_b _ (by omega)
                  have hw3c := c_L_low G l (v2) (v685) (by omega)
                  rw [hw3] at hw3c
                  refine kSRE (As := [.int (v2), .int (iI (v685))]) E cw_L_72 hw3c trivial hL hl.1 rfl rfl (Nat.le_of_ble_eq_true rfl) ⟨Nat.le_of_ble_eq_true rfl, Nat.le_of_ble_eq_true rfl⟩ ⟨rfl, rfl⟩ ⟨Nat.le_of_ble_eq_true rfl, Nat.le_of_ble_eq_true rfl⟩ dL_acts_685 (fun locs hL => ?_)
                  refine lv_istore (lv' := [(8, .int (iI (w3))), (7, .int (iI (sv))), (6, .int (iI ((nx σ : Int)))), (5, .int (iI ((mn σ : Int)))), (4, .int (iI ((-6)))), (3, .int (iI (w1))), (0, .ref (x)), (1, .int (v1)), (2, .int (v2))]) E.1 E.2.1 dL_acts_688 hl (by decide) rfl (fun ls hl => ?_)
                  obtain ⟨q9, hq9e⟩ : ∃ k : Nat, w3 = (k : Int) := ⟨w3.toNat, by omega⟩
                  subst hq9e
                  obtain ⟨fi, hfi⟩ : ∃ z, spIntactFiles σ = z := ⟨_, rfl⟩
                  have hfb : 0 ≤ fi ∧ fi ≤ 20 := by have h9 := cntIntact_le σ (dm σ); rw [← hfi]; show 0 ≤ ((cntIntact σ (dm σ) : Nat) : Int) ∧ ((cntIntact σ (dm σ) : Nat) : Int) ≤ 20; omega
                  rcases (show q9 = 240 ∨ q9 < 240 by omega) with hq9 | hq9
                  · have hsp : (spDamage σ (q9 : Int)) = (-1, σ) := dg_e (by omega)
                    refine lv_iload E.1 E.2.1 dL_acts_690 (lv_at hl 0 rfl) ?_
                    refine r_sipush E dL_acts_692 (by decide) ?_
                    refine r_icmp_ne (tgt := 702) E dL_acts_695 (by decide) (by omega) (by omega) (fun c695 => ?_) (fun c695 => ?_)
                    · refine lv_aload_n E.1 E.2.1 dL_acts_702 rfl (lv_at hl 6 rfl) ?_
                      refine lv_iload E.1 E.2.1 dL_acts_703 (lv_at hl 0 rfl) ?_
                      refine kVRE (As := [.int (iI ((q9 : Int)))]) E cw_L_81 (c_X5_validIf G l x fb fl σ hs tx len hI hT hfx hgx ((q9 : Int)) (by unfold okI; omega)) hP.1.1 ⟨_, _, rfl⟩ hP.1 hL hl.1 rfl rfl (Nat.le_of_ble_eq_true rfl) ⟨Nat.le_of_ble_eq_true rfl, Nat.le_of_ble_eq_true rfl⟩ ⟨rfl, rfl⟩ ⟨Nat.le_of_ble_eq_true rfl, Nat.le_of_ble_eq_true rfl⟩ dL_acts_705 (fun locs hL => ?_)
                      refine lv_istore (lv' := [(9, .int (iI (spValidIf σ ((q9 : Int))))), (8, .int (iI ((q9 : Int)))), (7, .int (iI (sv))), (6, .int (iI ((nx σ : Int)))), (5, .int (iI ((mn σ : Int)))), (4, .int (iI ((-6)))), (3, .int (iI (w1))), (0, .ref (x)), (1, .int (v1)), (2, .int (v2))]) E.1 E.2.1 dL_acts_708 hl (by decide) rfl (fun ls hl => ?_)
                      refine lv_aload_n E.1 E.2.1 dL_acts_710 rfl (lv_at hl 7 rfl) ?_
                      refine kVRE (As := []) E cw_L_58 (c_X5_intactFiles G l x fb fl σ hs tx len hI hT hfx hgx  ) hP.1.1 ⟨_, _, rfl⟩ hP.1 hL hl.1 rfl rfl (Nat.le_of_ble_eq_true rfl) ⟨Nat.le_of_ble_eq_true rfl, Nat.le_of_ble_eq_true rfl⟩ ⟨rfl, rfl⟩ ⟨Nat.le_of_ble_eq_true rfl, Nat.le_of_ble_eq_true rfl⟩ dL_acts_711 (fun locs hL => ?_)
                      rw [hfi]
                      refine lv_istore (lv' := [(10, .int (iI (fi))), (9, .int (iI (spValidIf σ ((q9 : Int))))), (8, .int (iI ((q9 : Int)))), (7, .int (iI (sv))), (6, .int (iI ((nx σ : Int)))), (5, .int (iI ((mn σ : Int)))), (4, .int (iI ((-6)))), (3, .int (iI (w1))), (0, .ref (x)), (1, .int (v1)), (2, .int (v2))]) E.1 E.2.1 dL_acts_714 hl (by decide) rfl (fun ls hl => ?_)
                      refine lv_aload_n E.1 E.2.1 dL_acts_716 rfl (lv_at hl 8 rfl) ?_
                      refine lv_iload E.1 E.2.1 dL_acts_717 (lv_at hl 2 rfl) ?_
                      refine kVWE (As := [.int (iI ((q9 : Int)))]) E cw_L_143 (c_X5_damage G l x fb fl σ hs tx len hI hT hfx hgx ((q9 : Int)) (by unfold okI; omega)) hP.1.1 ⟨_, _, rfl⟩ ⟨hP.1, hP.2⟩ hL hl.1 rfl rfl (Nat.le_of_ble_eq_true rfl) ⟨Nat.le_of_ble_eq_true rfl, Nat.le_of_ble_eq_true rfl⟩ ⟨Nat.le_of_ble_eq_true rfl, Nat.le_of_ble_eq_true rfl⟩ dL_acts_719 (fun H4 locs hL hw_ => ?_)
                      obtain ⟨⟨fl1, hE1, hX1⟩, hR1⟩ := hw_
                      have hV1 : VS (spDamage σ ((q9 : Int))).2 := hS.damage ((q9 : Int))
                      have hC1 : AC σ hs (spDamage σ ((q9 : Int))).2 (hsA σ hs (spDamage σ ((q9 : Int))).1) := ac_of (spDamage_b ((q9 : Int))).2.2
                      have hD1 : VH (hsA σ hs (spDamage σ ((q9 : Int))).1) := VH.hs1 hS hH
                      generalize hsA σ hs (spDamage σ ((q9 : Int))).1 = hs1 at hX1 hC1 hD1
                      have hte : (spDamage σ (q9 : Int)).2 = σ := by rw [hsp]
                      have hr1 : (spDamage σ ((q9 : Int))).1 = (-1) := by rw [hsp]
                      rw [hr1]
                      generalize (spDamage σ ((q9 : Int))).2 = τ at hX1 hV1 hC1 hte
                      have hI1 := hV1.1
                      have hz1 := FrR.size hR1 hP.2
                      refine lv_istore (lv' := [(11, .int (iI ((-1)))), (10, .int (iI (fi))), (9, .int (iI (spValidIf σ ((q9 : Int))))), (8, .int (iI ((q9 : Int)))), (7, .int (iI (sv))), (6, .int (iI ((nx σ : Int)))), (5, .int (iI ((mn σ : Int)))), (4, .int (iI ((-6)))), (3, .int (iI (w1))), (0, .ref (x)), (1, .int (v1)), (2, .int (v2))]) E.1 E.2.1 dL_acts_722 hl (by decide) rfl (fun ls hl => ?_)
                      refine lv_iload E.1 E.2.1 dL_acts_724 (lv_at hl 3 rfl) ?_
                      refine r_sipush E dL_acts_726 (by decide) ?_
                      refine r_icmp_ne (tgt := 746) E dL_acts_729 (by decide) (by omega) (by omega) (fun c729 => absurd c729 (by omega)) (fun c729 => ?_)
                      refine lv_iload E.1 E.2.1 dL_acts_732 (lv_at hl 0 rfl) ?_
                      refine r_const E dL_acts_734 ?_
                      refine r_icmp_ne (tgt := 742) E dL_acts_735 (by decide) (by omega) (by omega) (fun c735 => absurd c735 (by omega)) (fun c735 => ?_)
                      refine r_const E dL_acts_738 ?_
                      refine lv_goto (tgt := 811) E.1 E.2.1 dL_acts_739 (by decide) ?_
                      refine W.widen (k := 80) (n := 240) (Nat.le_of_ble_eq_true rfl) (Nat.le_of_ble_eq_true rfl) ?_
                      refine e_zret (rm := ({ frames := 8, cells := 80, slots := 240, locals := 189 } : Room)) (v := iI (1)) E hL rfl dL_acts_811 ?_
                      exact ⟨rfl, _, _, _, _, hV1, hD1, hT, fun _ => hC1, ⟨_, hE1, hX1⟩, hR1⟩
                    · refine r_const E dL_acts_698 ?_
                      refine lv_goto (tgt := 708) E.1 E.2.1 dL_acts_699 (by decide) ?_
                      refine lv_istore (lv' := [(9, .int (iI ((-1)))), (8, .int (iI ((q9 : Int)))), (7, .int (iI (sv))), (6, .int (iI ((nx σ : Int)))), (5, .int (iI ((mn σ : Int)))), (4, .int (iI ((-6)))), (3, .int (iI (w1))), (0, .ref (x)), (1, .int (v1)), (2, .int (v2))]) E.1 E.2.1 dL_acts_708 hl (by decide) rfl (fun ls hl => ?_)
                      refine lv_aload_n E.1 E.2.1 dL_acts_710 rfl (lv_at hl 7 rfl) ?_
                      refine kVRE (As := []) E cw_L_58 (c_X5_intactFiles G l x fb fl σ hs tx len hI hT hfx hgx  ) hP.1.1 ⟨_, _, rfl⟩ hP.1 hL hl.1 rfl rfl (Nat.le_of_ble_eq_true rfl) ⟨Nat.le_of_ble_eq_true rfl, Nat.le_of_ble_eq_true rfl⟩ ⟨rfl, rfl⟩ ⟨Nat.le_of_ble_eq_true rfl, Nat.le_of_ble_eq_true rfl⟩ dL_acts_711 (fun locs hL => ?_)
                      rw [hfi]
                      refine lv_istore (lv' := [(10, .int (iI (fi))), (9, .int (iI ((-1)))), (8, .int (iI ((q9 : Int)))), (7, .int (iI (sv))), (6, .int (iI ((nx σ : Int)))), (5, .int (iI ((mn σ : Int)))), (4, .int (iI ((-6)))), (3, .int (iI (w1))), (0, .ref (x)), (1, .int (v1)), (2, .int (v2))]) E.1 E.2.1 dL_acts_714 hl (by decide) rfl (fun ls hl => ?_)
                      refine lv_aload_n E.1 E.2.1 dL_acts_716 rfl (lv_at hl 8 rfl) ?_
                      refine lv_iload E.1 E.2.1 dL_acts_717 (lv_at hl 2 rfl) ?_
                      refine kVWE (As := [.int (iI ((q9 : Int)))]) E cw_L_143 (c_X5_damage G l x fb fl σ hs tx len hI hT hfx hgx ((q9 : Int)) (by unfold okI; omega)) hP.1.1 ⟨_, _, rfl⟩ ⟨hP.1, hP.2⟩ hL hl.1 rfl rfl (Nat.le_of_ble_eq_true rfl) ⟨Nat.le_of_ble_eq_true rfl, Nat.le_of_ble_eq_true rfl⟩ ⟨Nat.le_of_ble_eq_true rfl, Nat.le_of_ble_eq_true rfl⟩ dL_acts_719 (fun H4 locs hL hw_ => ?_)
                      obtain ⟨⟨fl1, hE1, hX1⟩, hR1⟩ := hw_
                      have hV1 : VS (spDamage σ ((q9 : Int))).2 := hS.damage ((q9 : Int))
                      have hC1 : AC σ hs (spDamage σ ((q9 : Int))).2 (hsA σ hs (spDamage σ ((q9 : Int))).1) := ac_of (spDamage_b ((q9 : Int))).2.2
                      have hD1 : VH (hsA σ hs (spDamage σ ((q9 : Int))).1) := VH.hs1 hS hH
                      generalize hsA σ hs (spDamage σ ((q9 : Int))).1 = hs1 at hX1 hC1 hD1
                      have hte : (spDamage σ (q9 : Int)).2 = σ := by rw [hsp]
                      have hr1 : (spDamage σ ((q9 : Int))).1 = (-1) := by rw [hsp]
                      rw [hr1]
                      generalize (spDamage σ ((q9 : Int))).2 = τ at hX1 hV1 hC1 hte
                      have hI1 := hV1.1
                      have hz1 := FrR.size hR1 hP.2
                      refine lv_istore (lv' := [(11, .int (iI ((-1)))), (10, .int (iI (fi))), (9, .int (iI ((-1)))), (8, .int (iI ((q9 : Int)))), (7, .int (iI (sv))), (6, .int (iI ((nx σ : Int)))), (5, .int (iI ((mn σ : Int)))), (4, .int (iI ((-6)))), (3, .int (iI (w1))), (0, .ref (x)), (1, .int (v1)), (2, .int (v2))]) E.1 E.2.1 dL_acts_722 hl (by decide) rfl (fun ls hl => ?_)
                      refine lv_iload E.1 E.2.1 dL_acts_724 (lv_at hl 3 rfl) ?_
                      refine r_sipush E dL_acts_726 (by decide) ?_
                      refine r_icmp_ne (tgt := 746) E dL_acts_729 (by decide) (by omega) (by omega) (fun c729 => absurd c729 (by omega)) (fun c729 => ?_)
                      refine lv_iload E.1 E.2.1 dL_acts_732 (lv_at hl 0 rfl) ?_
                      refine r_const E dL_acts_734 ?_
                      refine r_icmp_ne (tgt := 742) E dL_acts_735 (by decide) (by omega) (by omega) (fun c735 => absurd c735 (by omega)) (fun c735 => ?_)
                      refine r_const E dL_acts_738 ?_
                      refine lv_goto (tgt := 811) E.1 E.2.1 dL_acts_739 (by decide) ?_
                      refine W.widen (k := 80) (n := 240) (Nat.le_of_ble_eq_true rfl) (Nat.le_of_ble_eq_true rfl) ?_
                      refine e_zret (rm := ({ frames := 8, cells := 80, slots := 240, locals := 189 } : Room)) (v := iI (1)) E hL rfl dL_acts_811 ?_
                      exact ⟨rfl, _, _, _, _, hV1, hD1, hT, fun _ => hC1, ⟨_, hE1, hX1⟩, hR1⟩
                  · have hdg := dg_ok hI hq9
                    obtain ⟨vi, hvi⟩ : ∃ z, spValidIf σ (q9 : Int) = z := ⟨_, rfl⟩
                    rw [hvi, hsv, hfi] at hdg
                    have hvib : -6 ≤ vi ∧ vi < 13 := by rw [← hvi, vif_in σ hq9]; exact oI_b (o := validD σ (dmH σ (q9 : Int))) (N := 12) (fun n h => Nat.lt_of_lt_of_le (validD_lt h) i1)
                    obtain ⟨dr, hdr⟩ : ∃ z, (spDamage σ (q9 : Int)).1 = z := ⟨_, rfl⟩
                    rw [hdr] at hdg
                    refine lv_iload E.1 E.2.1 dL_acts_690 (lv_at hl 0 rfl) ?_
                    refine r_sipush E dL_acts_692 (by decide) ?_
                    refine r_icmp_ne (tgt := 702) E dL_acts_695 (by decide) (by omega) (by omega) (fun c695 => ?_) (fun c695 => ?_)
                    · refine lv_aload_n E.1 E.2.1 dL_acts_702 rfl (lv_at hl 6 rfl) ?_
                      refine lv_iload E.1 E.2.1 dL_acts_703 (lv_at hl 0 rfl) ?_
                      refine kVRE (As := [.int (iI ((q9 : Int)))]) E cw_L_81 (c_X5_validIf G l x fb fl σ hs tx len hI hT hfx hgx ((q9 : Int)) (by unfold okI; omega)) hP.1.1 ⟨_, _, rfl⟩ hP.1 hL hl.1 rfl rfl (Nat.le_of_ble_eq_true rfl) ⟨Nat.le_of_ble_eq_true rfl, Nat.le_of_ble_eq_true rfl⟩ ⟨rfl, rfl⟩ ⟨Nat.le_of_ble_eq_true rfl, Nat.le_of_ble_eq_true rfl⟩ dL_acts_705 (fun locs hL => ?_)
                      rw [hvi]
                      refine lv_istore (lv' := [(9, .int (iI (vi))), (8, .int (iI ((q9 : Int)))), (7, .int (iI (sv))), (6, .int (iI ((nx σ : Int)))), (5, .int (iI ((mn σ : Int)))), (4, .int (iI ((-6)))), (3, .int (iI (w1))), (0, .ref (x)), (1, .int (v1)), (2, .int (v2))]) E.1 E.2.1 dL_acts_708 hl (by decide) rfl (fun ls hl => ?_)
                      refine lv_aload_n E.1 E.2.1 dL_acts_710 rfl (lv_at hl 7 rfl) ?_
                      refine kVRE (As := []) E cw_L_58 (c_X5_intactFiles G l x fb fl σ hs tx len hI hT hfx hgx  ) hP.1.1 ⟨_, _, rfl⟩ hP.1 hL hl.1 rfl rfl (Nat.le_of_ble_eq_true rfl) ⟨Nat.le_of_ble_eq_true rfl, Nat.le_of_ble_eq_true rfl⟩ ⟨rfl, rfl⟩ ⟨Nat.le_of_ble_eq_true rfl, Nat.le_of_ble_eq_true rfl⟩ dL_acts_711 (fun locs hL => ?_)
                      rw [hfi]
                      refine lv_istore (lv' := [(10, .int (iI (fi))), (9, .int (iI (vi))), (8, .int (iI ((q9 : Int)))), (7, .int (iI (sv))), (6, .int (iI ((nx σ : Int)))), (5, .int (iI ((mn σ : Int)))), (4, .int (iI ((-6)))), (3, .int (iI (w1))), (0, .ref (x)), (1, .int (v1)), (2, .int (v2))]) E.1 E.2.1 dL_acts_714 hl (by decide) rfl (fun ls hl => ?_)
                      refine lv_aload_n E.1 E.2.1 dL_acts_716 rfl (lv_at hl 8 rfl) ?_
                      refine lv_iload E.1 E.2.1 dL_acts_717 (lv_at hl 2 rfl) ?_
                      refine kVWE (As := [.int (iI ((q9 : Int)))]) E cw_L_143 (c_X5_damage G l x fb fl σ hs tx len hI hT hfx hgx ((q9 : Int)) (by unfold okI; omega)) hP.1.1 ⟨_, _, rfl⟩ ⟨hP.1, hP.2⟩ hL hl.1 rfl rfl (Nat.le_of_ble_eq_true rfl) ⟨Nat.le_of_ble_eq_true rfl, Nat.le_of_ble_eq_true rfl⟩ ⟨Nat.le_of_ble_eq_true rfl, Nat.le_of_ble_eq_true rfl⟩ dL_acts_719 (fun H4 locs hL hw_ => ?_)
                      obtain ⟨⟨fl1, hE1, hX1⟩, hR1⟩ := hw_
                      have hV1 : VS (spDamage σ ((q9 : Int))).2 := hS.damage ((q9 : Int))
                      have hC1 : AC σ hs (spDamage σ ((q9 : Int))).2 (hsA σ hs (spDamage σ ((q9 : Int))).1) := ac_of (spDamage_b ((q9 : Int))).2.2
                      have hD1 : VH (hsA σ hs (spDamage σ ((q9 : Int))).1) := VH.hs1 hS hH
                      generalize hsA σ hs (spDamage σ ((q9 : Int))).1 = hs1 at hX1 hC1 hD1
                      have hd1 := hdg.1
                      have hd2 := hdg.2.1
                      have hd3 := hdg.2.2.1
                      have hd4 := hdg.2.2.2
                      have hr1 : (spDamage σ ((q9 : Int))).1 = dr := hdr
                      rw [hr1]
                      generalize (spDamage σ ((q9 : Int))).2 = τ at hX1 hV1 hC1 hd2 hd3 hd4 hdr hdg
                      have hI1 := hV1.1
                      have hz1 := FrR.size hR1 hP.2
                      obtain ⟨fj, hfi2⟩ : ∃ z, spIntactFiles τ = z := ⟨_, rfl⟩
                      rw [hfi2] at hd4
                      have hfb2 : 0 ≤ fj ∧ fj ≤ 20 := by have h9 := cntIntact_le τ (dm τ); rw [← hfi2]; show 0 ≤ ((cntIntact τ (dm τ) : Nat) : Int) ∧ ((cntIntact τ (dm τ) : Nat) : Int) ≤ 20; omega
                      refine lv_istore (lv' := [(11, .int (iI (dr))), (10, .int (iI (fi))), (9, .int (iI (vi))), (8, .int (iI ((q9 : Int)))), (7, .int (iI (sv))), (6, .int (iI ((nx σ : Int)))), (5, .int (iI ((mn σ : Int)))), (4, .int (iI ((-6)))), (3, .int (iI (w1))), (0, .ref (x)), (1, .int (v1)), (2, .int (v2))]) E.1 E.2.1 dL_acts_722 hl (by decide) rfl (fun ls hl => ?_)
                      refine lv_iload E.1 E.2.1 dL_acts_724 (lv_at hl 3 rfl) ?_
                      refine r_sipush E dL_acts_726 (by decide) ?_
                      refine r_icmp_ne (tgt := 746) E dL_acts_729 (by decide) (by omega) (by omega) (fun c729 => ?_) (fun c729 => absurd c729 (by omega))
                      refine lv_iload E.1 E.2.1 dL_acts_746 (lv_at hl 0 rfl) ?_
                      refine r_const E dL_acts_748 ?_
                      refine r_icmp_lt (tgt := 810) E dL_acts_749 (by decide) (by omega) (by omega) (fun c749 => absurd c749 (by omega)) (fun c749 => ?_)
                      refine lv_iload E.1 E.2.1 dL_acts_752 (lv_at hl 0 rfl) ?_
                      refine r_sipush E dL_acts_754 (by decide) ?_
                      refine r_icmp_gt (tgt := 810) E dL_acts_757 (by decide) (by omega) (by omega) (fun c757 => absurd c757 (by omega)) (fun c757 => ?_)
                      refine lv_aload_n E.1 E.2.1 dL_acts_760 rfl (lv_at hl 9 rfl) ?_
                      refine lv_iload E.1 E.2.1 dL_acts_761 (lv_at hl 3 rfl) ?_
                      refine kVRE (As := [.int (iI ((q9 : Int)))]) E cw_L_23 (c_X5_damaged G l x fb fl1 τ hs1 tx len hI1 hT hfx hgx ((q9 : Int)) (by unfold okI; omega)) hX1.1 ⟨_, _, rfl⟩ hX1 hL hl.1 rfl rfl (Nat.le_of_ble_eq_true rfl) ⟨Nat.le_of_ble_eq_true rfl, Nat.le_of_ble_eq_true rfl⟩ ⟨rfl, rfl⟩ ⟨Nat.le_of_ble_eq_true rfl, Nat.le_of_ble_eq_true rfl⟩ dL_acts_763 (fun locs hL => ?_)
                      rw [hd2]
                      refine r_const E dL_acts_766 ?_
                      refine r_icmp_ne (tgt := 810) E dL_acts_767 (by decide) (by omega) (by omega) (fun c767 => absurd c767 (by omega)) (fun c767 => ?_)
                      refine lv_aload_n E.1 E.2.1 dL_acts_770 rfl (lv_at hl 9 rfl) ?_
                      refine kVRE (As := []) E cw_L_55 (c_X5_valid G l x fb fl1 τ hs1 tx len hI1 hT hfx hgx  ) hX1.1 ⟨_, _, rfl⟩ hX1 hL hl.1 rfl rfl (Nat.le_of_ble_eq_true rfl) ⟨Nat.le_of_ble_eq_true rfl, Nat.le_of_ble_eq_true rfl⟩ ⟨rfl, rfl⟩ ⟨Nat.le_of_ble_eq_true rfl, Nat.le_of_ble_eq_true rfl⟩ dL_acts_771 (fun locs hL => ?_)
                      rw [hd3]
                      refine lv_iload E.1 E.2.1 dL_acts_774 (lv_at hl 2 rfl) ?_
                      refine r_icmp_ne (tgt := 810) E dL_acts_776 (by decide) (by omega) (by omega) (fun c776 => absurd c776 (by omega)) (fun c776 => ?_)
                      refine lv_iload E.1 E.2.1 dL_acts_779 (lv_at hl 2 rfl) ?_
                      refine lv_iload E.1 E.2.1 dL_acts_781 (lv_at hl 4 rfl) ?_
                      refine r_icmp_ne (tgt := 806) E dL_acts_783 (by decide) (by omega) (by omega) (fun c783 => ?_) (fun c783 => ?_)
                      · refine r_const E dL_acts_806 ?_
                        refine lv_goto (tgt := 811) E.1 E.2.1 dL_acts_807 (by decide) ?_
                        refine W.widen (k := 80) (n := 240) (Nat.le_of_ble_eq_true rfl) (Nat.le_of_ble_eq_true rfl) ?_
                        refine e_zret (rm := ({ frames := 8, cells := 80, slots := 240, locals := 189 } : Room)) (v := iI (1)) E hL rfl dL_acts_811 ?_
                        exact ⟨rfl, _, _, _, _, hV1, hD1, hT, fun _ => hC1, ⟨_, hE1, hX1⟩, hR1⟩
                      · refine lv_aload_n E.1 E.2.1 dL_acts_786 rfl (lv_at hl 9 rfl) ?_
                        refine kVRE (As := []) E cw_L_58 (c_X5_intactFiles G l x fb fl1 τ hs1 tx len hI1 hT hfx hgx  ) hX1.1 ⟨_, _, rfl⟩ hX1 hL hl.1 rfl rfl (Nat.le_of_ble_eq_true rfl) ⟨Nat.le_of_ble_eq_true rfl, Nat.le_of_ble_eq_true rfl⟩ ⟨rfl, rfl⟩ ⟨Nat.le_of_ble_eq_true rfl, Nat.le_of_ble_eq_true rfl⟩ dL_acts_787 (fun locs hL => ?_)
                        rw [hfi2]
                        refine lv_iload E.1 E.2.1 dL_acts_790 (lv_at hl 1 rfl) ?_
                        refine r_icmp_gt (tgt := 810) E dL_acts_792 (by decide) (by omega) (by omega) (fun c792 => absurd c792 (by omega)) (fun c792 => ?_)
                        refine lv_aload_n E.1 E.2.1 dL_acts_795 rfl (lv_at hl 9 rfl) ?_
                        refine kVRE (As := []) E cw_L_58 (c_X5_intactFiles G l x fb fl1 τ hs1 tx len hI1 hT hfx hgx  ) hX1.1 ⟨_, _, rfl⟩ hX1 hL hl.1 rfl rfl (Nat.le_of_ble_eq_true rfl) ⟨Nat.le_of_ble_eq_true rfl, Nat.le_of_ble_eq_true rfl⟩ ⟨rfl, rfl⟩ ⟨Nat.le_of_ble_eq_true rfl, Nat.le_of_ble_eq_true rfl⟩ dL_acts_796 (fun locs hL => ?_)
                        rw [hfi2]
                        refine lv_iload E.1 E.2.1 dL_acts_799 (lv_at hl 1 rfl) ?_
                        refine r_const E dL_acts_801 ?_
                        refine r_sub E dL_acts_802 ?_
                        refine r_icmp_lt (tgt := 810) E dL_acts_803 (by decide) (by omega) (by omega) (fun c803 => absurd c803 (by omega)) (fun c803 => ?_)
                        refine r_const E dL_acts_806 ?_
                        refine lv_goto (tgt := 811) E.1 E.2.1 dL_acts_807 (by decide) ?_
                        refine W.widen (k := 80) (n := 240) (Nat.le_of_ble_eq_true rfl) (Nat.le_of_ble_eq_true rfl) ?_
                        refine e_zret (rm := ({ frames := 8, cells := 80, slots := 240, locals := 189 } : Room)) (v := iI (1)) E hL rfl dL_acts_811 ?_
                        exact ⟨rfl, _, _, _, _, hV1, hD1, hT, fun _ => hC1, ⟨_, hE1, hX1⟩, hR1⟩
                    · refine r_const E dL_acts_698 ?_
                      refine lv_goto (tgt := 708) E.1 E.2.1 dL_acts_699 (by decide) ?_
                      refine lv_istore (lv' := [(9, .int (iI ((-1)))), (8, .int (iI ((q9 : Int)))), (7, .int (iI (sv))), (6, .int (iI ((nx σ : Int)))), (5, .int (iI ((mn σ : Int)))), (4, .int (iI ((-6)))), (3, .int (iI (w1))), (0, .ref (x)), (1, .int (v1)), (2, .int (v2))]) E.1 E.2.1 dL_acts_708 hl (by decide) rfl (fun ls hl => ?_)
                      refine lv_aload_n E.1 E.2.1 dL_acts_710 rfl (lv_at hl 7 rfl) ?_
                      refine kVRE (As := []) E cw_L_58 (c_X5_intactFiles G l x fb fl σ hs tx len hI hT hfx hgx  ) hP.1.1 ⟨_, _, rfl⟩ hP.1 hL hl.1 rfl rfl (Nat.le_of_ble_eq_true rfl) ⟨Nat.le_of_ble_eq_true rfl, Nat.le_of_ble_eq_true rfl⟩ ⟨rfl, rfl⟩ ⟨Nat.le_of_ble_eq_true rfl, Nat.le_of_ble_eq_true rfl⟩ dL_acts_711 (fun locs hL => ?_)
                      rw [hfi]
                      refine lv_istore (lv' := [(10, .int (iI (fi))), (9, .int (iI ((-1)))), (8, .int (iI ((q9 : Int)))), (7, .int (iI (sv))), (6, .int (iI ((nx σ : Int)))), (5, .int (iI ((mn σ : Int)))), (4, .int (iI ((-6)))), (3, .int (iI (w1))), (0, .ref (x)), (1, .int (v1)), (2, .int (v2))]) E.1 E.2.1 dL_acts_714 hl (by decide) rfl (fun ls hl => ?_)
                      refine lv_aload_n E.1 E.2.1 dL_acts_716 rfl (lv_at hl 8 rfl) ?_
                      refine lv_iload E.1 E.2.1 dL_acts_717 (lv_at hl 2 rfl) ?_
                      refine kVWE (As := [.int (iI ((q9 : Int)))]) E cw_L_143 (c_X5_damage G l x fb fl σ hs tx len hI hT hfx hgx ((q9 : Int)) (by unfold okI; omega)) hP.1.1 ⟨_, _, rfl⟩ ⟨hP.1, hP.2⟩ hL hl.1 rfl rfl (Nat.le_of_ble_eq_true rfl) ⟨Nat.le_of_ble_eq_true rfl, Nat.le_of_ble_eq_true rfl⟩ ⟨Nat.le_of_ble_eq_true rfl, Nat.le_of_ble_eq_true rfl⟩ dL_acts_719 (fun H4 locs hL hw_ => ?_)
                      obtain ⟨⟨fl1, hE1, hX1⟩, hR1⟩ := hw_
                      have hV1 : VS (spDamage σ ((q9 : Int))).2 := hS.damage ((q9 : Int))
                      have hC1 : AC σ hs (spDamage σ ((q9 : Int))).2 (hsA σ hs (spDamage σ ((q9 : Int))).1) := ac_of (spDamage_b ((q9 : Int))).2.2
                      have hD1 : VH (hsA σ hs (spDamage σ ((q9 : Int))).1) := VH.hs1 hS hH
                      generalize hsA σ hs (spDamage σ ((q9 : Int))).1 = hs1 at hX1 hC1 hD1
                      have hd1 := hdg.1
                      have hd2 := hdg.2.1
                      have hd3 := hdg.2.2.1
                      have hd4 := hdg.2.2.2
                      have hr1 : (spDamage σ ((q9 : Int))).1 = dr := hdr
                      rw [hr1]
                      generalize (spDamage σ ((q9 : Int))).2 = τ at hX1 hV1 hC1 hd2 hd3 hd4 hdr hdg
                      have hI1 := hV1.1
                      have hz1 := FrR.size hR1 hP.2
                      obtain ⟨fj, hfi2⟩ : ∃ z, spIntactFiles τ = z := ⟨_, rfl⟩
                      rw [hfi2] at hd4
                      have hfb2 : 0 ≤ fj ∧ fj ≤ 20 := by have h9 := cntIntact_le τ (dm τ); rw [← hfi2]; show 0 ≤ ((cntIntact τ (dm τ) : Nat) : Int) ∧ ((cntIntact τ (dm τ) : Nat) : Int) ≤ 20; omega
                      refine lv_istore (lv' := [(11, .int (iI (dr))), (10, .int (iI (fi))), (9, .int (iI ((-1)))), (8, .int (iI ((q9 : Int)))), (7, .int (iI (sv))), (6, .int (iI ((nx σ : Int)))), (5, .int (iI ((mn σ : Int)))), (4, .int (iI ((-6)))), (3, .int (iI (w1))), (0, .ref (x)), (1, .int (v1)), (2, .int (v2))]) E.1 E.2.1 dL_acts_722 hl (by decide) rfl (fun ls hl => ?_)
                      refine lv_iload E.1 E.2.1 dL_acts_724 (lv_at hl 3 rfl) ?_
                      refine r_sipush E dL_acts_726 (by decide) ?_
                      refine r_icmp_ne (tgt := 746) E dL_acts_729 (by decide) (by omega) (by omega) (fun c729 => ?_) (fun c729 => absurd c729 (by omega))
                      refine lv_iload E.1 E.2.1 dL_acts_746 (lv_at hl 0 rfl) ?_
                      refine r_const E dL_acts_748 ?_
                      refine r_icmp_lt (tgt := 810) E dL_acts_749 (by decide) (by omega) (by omega) (fun c749 => absurd c749 (by omega)) (fun c749 => ?_)
                      refine lv_iload E.1 E.2.1 dL_acts_752 (lv_at hl 0 rfl) ?_
                      refine r_sipush E dL_acts_754 (by decide) ?_
                      refine r_icmp_gt (tgt := 810) E dL_acts_757 (by decide) (by omega) (by omega) (fun c757 => absurd c757 (by omega)) (fun c757 => ?_)
                      refine lv_aload_n E.1 E.2.1 dL_acts_760 rfl (lv_at hl 9 rfl) ?_
                      refine lv_iload E.1 E.2.1 dL_acts_761 (lv_at hl 3 rfl) ?_
                      refine kVRE (As := [.int (iI ((q9 : Int)))]) E cw_L_23 (c_X5_damaged G l x fb fl1 τ hs1 tx len hI1 hT hfx hgx ((q9 : Int)) (by unfold okI; omega)) hX1.1 ⟨_, _, rfl⟩ hX1 hL hl.1 rfl rfl (Nat.le_of_ble_eq_true rfl) ⟨Nat.le_of_ble_eq_true rfl, Nat.le_of_ble_eq_true rfl⟩ ⟨rfl, rfl⟩ ⟨Nat.le_of_ble_eq_true rfl, Nat.le_of_ble_eq_true rfl⟩ dL_acts_763 (fun locs hL => ?_)
                      rw [hd2]
                      refine r_const E dL_acts_766 ?_
                      refine r_icmp_ne (tgt := 810) E dL_acts_767 (by decide) (by omega) (by omega) (fun c767 => absurd c767 (by omega)) (fun c767 => ?_)
                      refine lv_aload_n E.1 E.2.1 dL_acts_770 rfl (lv_at hl 9 rfl) ?_
                      refine kVRE (As := []) E cw_L_55 (c_X5_valid G l x fb fl1 τ hs1 tx len hI1 hT hfx hgx  ) hX1.1 ⟨_, _, rfl⟩ hX1 hL hl.1 rfl rfl (Nat.le_of_ble_eq_true rfl) ⟨Nat.le_of_ble_eq_true rfl, Nat.le_of_ble_eq_true rfl⟩ ⟨rfl, rfl⟩ ⟨Nat.le_of_ble_eq_true rfl, Nat.le_of_ble_eq_true rfl⟩ dL_acts_771 (fun locs hL => ?_)
                      rw [hd3]
                      refine lv_iload E.1 E.2.1 dL_acts_774 (lv_at hl 2 rfl) ?_
                      refine r_icmp_ne (tgt := 810) E dL_acts_776 (by decide) (by omega) (by omega) (fun c776 => absurd c776 (by omega)) (fun c776 => ?_)
                      refine lv_iload E.1 E.2.1 dL_acts_779 (lv_at hl 2 rfl) ?_
                      refine lv_iload E.1 E.2.1 dL_acts_781 (lv_at hl 4 rfl) ?_
                      refine r_icmp_ne (tgt := 806) E dL_acts_783 (by decide) (by omega) (by omega) (fun c783 => ?_) (fun c783 => ?_)
                      · refine r_const E dL_acts_806 ?_
                        refine lv_goto (tgt := 811) E.1 E.2.1 dL_acts_807 (by decide) ?_
                        refine W.widen (k := 80) (n := 240) (Nat.le_of_ble_eq_true rfl) (Nat.le_of_ble_eq_true rfl) ?_
                        refine e_zret (rm := ({ frames := 8, cells := 80, slots := 240, locals := 189 } : Room)) (v := iI (1)) E hL rfl dL_acts_811 ?_
                        exact ⟨rfl, _, _, _, _, hV1, hD1, hT, fun _ => hC1, ⟨_, hE1, hX1⟩, hR1⟩
                      · refine lv_aload_n E.1 E.2.1 dL_acts_786 rfl (lv_at hl 9 rfl) ?_
                        refine kVRE (As := []) E cw_L_58 (c_X5_intactFiles G l x fb fl1 τ hs1 tx len hI1 hT hfx hgx  ) hX1.1 ⟨_, _, rfl⟩ hX1 hL hl.1 rfl rfl (Nat.le_of_ble_eq_true rfl) ⟨Nat.le_of_ble_eq_true rfl, Nat.le_of_ble_eq_true rfl⟩ ⟨rfl, rfl⟩ ⟨Nat.le_of_ble_eq_true rfl, Nat.le_of_ble_eq_true rfl⟩ dL_acts_787 (fun locs hL => ?_)
                        rw [hfi2]
                        refine lv_iload E.1 E.2.1 dL_acts_790 (lv_at hl 1 rfl) ?_
                        refine r_icmp_gt (tgt := 810) E dL_acts_792 (by decide) (by omega) (by omega) (fun c792 => absurd c792 (by omega)) (fun c792 => ?_)
                        refine lv_aload_n E.1 E.2.1 dL_acts_795 rfl (lv_at hl 9 rfl) ?_
                        refine kVRE (As := []) E cw_L_58 (c_X5_intactFiles G l x fb fl1 τ hs1 tx len hI1 hT hfx hgx  ) hX1.1 ⟨_, _, rfl⟩ hX1 hL hl.1 rfl rfl (Nat.le_of_ble_eq_true rfl) ⟨Nat.le_of_ble_eq_true rfl, Nat.le_of_ble_eq_true rfl⟩ ⟨rfl, rfl⟩ ⟨Nat.le_of_ble_eq_true rfl, Nat.le_of_ble_eq_true rfl⟩ dL_acts_796 (fun locs hL => ?_)
                        rw [hfi2]
                        refine lv_iload E.1 E.2.1 dL_acts_799 (lv_at hl 1 rfl) ?_
                        refine r_const E dL_acts_801 ?_
                        refine r_sub E dL_acts_802 ?_
                        refine r_icmp_lt (tgt := 810) E dL_acts_803 (by decide) (by omega) (by omega) (fun c803 => absurd c803 (by omega)) (fun c803 => ?_)
                        refine r_const E dL_acts_806 ?_
                        refine lv_goto (tgt := 811) E.1 E.2.1 dL_acts_807 (by decide) ?_
                        refine W.widen (k := 80) (n := 240) (Nat.le_of_ble_eq_true rfl) (Nat.le_of_ble_eq_true rfl) ?_
                        refine e_zret (rm := ({ frames := 8, cells := 80, slots := 240, locals := 189 } : Room)) (v := iI (1)) E hL rfl dL_acts_811 ?_
                        exact ⟨rfl, _, _, _, _, hV1, hD1, hT, fun _ => hC1, ⟨_, hE1, hX1⟩, hR1⟩
                refine lv_iload_n E.1 E.2.1 dL_acts_643 rfl (lv_at hl 7 rfl) ?_
                refine r_bipush E dL_acts_644 (by decide) ?_
                refine lv_ishr E.1 E.2.1 dL_acts_646 ?_
                refine r_bipush E dL_acts_647 (by decide) ?_
                obtain ⟨w3, hw3⟩ : ∃ z : Int, lowI (((v2) >>> ((iI (12)) &&& 31))) (6) = z := ⟨_, rfl⟩
                have hw3b : 0 ≤ w3 ∧ w3 < (6) := by rw [← hw3]; exact low_b _ (by omega)
                have hw3c := c_L_low G l (((v2) >>> ((iI (12)) &&& 31))) (6) (by omega)
                rw [hw3] at hw3c
                refine kSRE (As := [.int (((v2) >>> ((iI (12)) &&& 31))), .int (iI (6))]) E cw_L_72 hw3c trivial hL hl.1 rfl rfl (Nat.le_of_ble_eq_true rfl) ⟨Nat.le_of_ble_eq_true rfl, Nat.le_of_ble_eq_true rfl⟩ ⟨rfl, rfl⟩ ⟨Nat.le_of_ble_eq_true rfl, Nat.le_of_ble_eq_true rfl⟩ dL_acts_649 (fun locs hL => ?_)
                refine r_if_ne (tgt := 661) E dL_acts_652 (by decide) (by omega) (fun c652 => ?_) (fun c652 => ?_)
                · refine lv_iload E.1 E.2.1 dL_acts_661 (lv_at hl 1 rfl) ?_
                  refine r_if_le (tgt := 682) E dL_acts_663 (by decide) (by omega) (fun c663 => ?_) (fun c663 => ?_)
                  · refine r_sipush E dL_acts_682 (by decide) ?_
                    exact J685_1 _ (by omega) ls locs (lv_sub hl [0, 1, 2, 3, 4, 5, 6, 7] rfl) hL
                  · refine lv_iload_n E.1 E.2.1 dL_acts_666 rfl (lv_at hl 7 rfl) ?_
                    refine r_bipush E dL_acts_667 (by decide) ?_
                    refine lv_ishr E.1 E.2.1 dL_acts_669 ?_
                    refine r_const E dL_acts_670 ?_
                    obtain ⟨w4, hw4⟩ : ∃ z : Int, lowI (((v2) >>> ((iI (11)) &&& 31))) (2) = z := ⟨_, rfl⟩
                    have hw4b : 0 ≤ w4 ∧ w4 < (2) := by rw [← hw4]; exact low_b _ (by omega)
                    have hw4c := c_L_low G l (((v2) >>> ((iI (11)) &&& 31))) (2) (by omega)
                    rw [hw4] at hw4c
                    refine kSRE (As := [.int (((v2) >>> ((iI (11)) &&& 31))), .int (iI (2))]) E cw_L_72 hw4c trivial hL hl.1 rfl rfl (Nat.le_of_ble_eq_true rfl) ⟨Nat.le_of_ble_eq_true rfl, Nat.le_of_ble_eq_true rfl⟩ ⟨rfl, rfl⟩ ⟨Nat.le_of_ble_eq_true rfl, Nat.le_of_ble_eq_true rfl⟩ dL_acts_671 (fun locs hL => ?_)
                    refine r_if_ne (tgt := 682) E dL_acts_674 (by decide) (by omega) (fun c674 => ?_) (fun c674 => ?_)
                    · refine r_sipush E dL_acts_682 (by decide) ?_
                      exact J685_1 _ (by omega) ls locs (lv_sub hl [0, 1, 2, 3, 4, 5, 6, 7] rfl) hL
                    · refine lv_iload E.1 E.2.1 dL_acts_677 (lv_at hl 1 rfl) ?_
                      refine lv_goto (tgt := 685) E.1 E.2.1 dL_acts_679 (by decide) ?_
                      exact J685_1 _ (by omega) ls locs (lv_sub hl [0, 1, 2, 3, 4, 5, 6, 7] rfl) hL
                · refine r_sipush E dL_acts_655 (by decide) ?_
                  refine lv_goto (tgt := 685) E.1 E.2.1 dL_acts_658 (by decide) ?_
                  exact J685_1 _ (by omega) ls locs (lv_sub hl [0, 1, 2, 3, 4, 5, 6, 7] rfl) hL
            · refine lv_iload_n E.1 E.2.1 dL_acts_483 rfl (lv_at hl 7 rfl) ?_
              refine lv_iload E.1 E.2.1 dL_acts_484 (lv_at hl 2 rfl) ?_
              refine r_const E dL_acts_486 ?_
              refine r_add E dL_acts_487 ?_
              obtain ⟨w2, hw2⟩ : ∃ z : Int, lowI (v2) ((mn σ : Int) + 1) = z := ⟨_, rfl⟩
              have hw2b : 0 ≤ w2 ∧ w2 < ((mn σ : Int) + 1) := by rw [← hw2]; exact low_b _ (by omega)
              have hw2c := c_L_low G l (v2) ((mn σ : Int) + 1) (by omega)
              rw [hw2] at hw2c
              refine kSRE (As := [.int (v2), .int (iI ((mn σ : Int) + 1))]) E cw_L_72 hw2c trivial hL hl.1 rfl rfl (Nat.le_of_ble_eq_true rfl) ⟨Nat.le_of_ble_eq_true rfl, Nat.le_of_ble_eq_true rfl⟩ ⟨rfl, rfl⟩ ⟨Nat.le_of_ble_eq_true rfl, Nat.le_of_ble_eq_true rfl⟩ dL_acts_488 (fun locs hL => ?_)
              refine lv_istore (lv' := [(8, .int (iI (w2))), (7, .int (iI (sv))), (6, .int (iI ((nx σ : Int)))), (5, .int (iI ((mn σ : Int)))), (4, .int (iI ((-6)))), (3, .int (iI (w1))), (0, .ref (x)), (1, .int (v1)), (2, .int (v2))]) E.1 E.2.1 dL_acts_491 hl (by decide) rfl (fun ls hl => ?_)
              obtain ⟨m9, hm9e⟩ : ∃ k : Nat, w2 = (k : Int) := ⟨w2.toNat, by omega⟩
              subst hm9e
              rcases (show m9 = mn σ ∨ m9 < mn σ by omega) with hm9 | hm9
              · have hsp : (spRepair σ (m9 : Int)) = (-1, σ) := rp_e1 (by omega)
                refine lv_iload E.1 E.2.1 dL_acts_493 (lv_at hl 0 rfl) ?_
                refine lv_iload E.1 E.2.1 dL_acts_495 (lv_at hl 3 rfl) ?_
                refine r_icmp_ge (tgt := 545) E dL_acts_497 (by decide) (by omega) (by omega) (fun c497 => ?_) (fun c497 => absurd c497 (by omega))
                refine r_const E dL_acts_545 ?_
                refine lv_istore (lv' := [(9, .int (iI (0))), (8, .int (iI ((m9 : Int)))), (7, .int (iI (sv))), (6, .int (iI ((nx σ : Int)))), (5, .int (iI ((mn σ : Int)))), (4, .int (iI ((-6)))), (3, .int (iI (w1))), (0, .ref (x)), (1, .int (v1)), (2, .int (v2))]) E.1 E.2.1 dL_acts_546 hl (by decide) rfl (fun ls hl => ?_)
                refine lv_iload E.1 E.2.1 dL_acts_548 (lv_at hl 0 rfl) ?_
                refine r_if_eq (tgt := 563) E dL_acts_550 (by decide) (by omega) (fun c550 => ?_) (fun c550 => absurd c550 (by omega))
                refine r_const E dL_acts_563 ?_
                refine lv_istore (lv' := [(10, .int (iI (0))), (9, .int (iI (0))), (8, .int (iI ((m9 : Int)))), (7, .int (iI (sv))), (6, .int (iI ((nx σ : Int)))), (5, .int (iI ((mn σ : Int)))), (4, .int (iI ((-6)))), (3, .int (iI (w1))), (0, .ref (x)), (1, .int (v1)), (2, .int (v2))]) E.1 E.2.1 dL_acts_564 hl (by decide) rfl (fun ls hl => ?_)
                refine lv_aload_n E.1 E.2.1 dL_acts_566 rfl (lv_at hl 8 rfl) ?_
                refine lv_iload E.1 E.2.1 dL_acts_567 (lv_at hl 2 rfl) ?_
                refine kVWE (As := [.int (iI ((m9 : Int)))]) E cw_L_140 (c_X5_repair G l x fb fl σ hs tx len hI hT hfx hgx ((m9 : Int)) (by unfold okI; omega)) hP.1.1 ⟨_, _, rfl⟩ ⟨hP.1, hP.2⟩ hL hl.1 rfl rfl (Nat.le_of_ble_eq_true rfl) ⟨Nat.le_of_ble_eq_true rfl, Nat.le_of_ble_eq_true rfl⟩ ⟨Nat.le_of_ble_eq_true rfl, Nat.le_of_ble_eq_true rfl⟩ dL_acts_569 (fun H3 locs hL hw_ => ?_)
                obtain ⟨⟨fl1, hE1, hX1⟩, hR1⟩ := hw_
                have hV1 : VS (spRepair σ ((m9 : Int))).2 := hS.repair ((m9 : Int))
                have hC1 : AC σ hs (spRepair σ ((m9 : Int))).2 (hsA σ hs (spRepair σ ((m9 : Int))).1) := ac_of (spRepair_b hI ((m9 : Int))).2.2
                have hD1 : VH (hsA σ hs (spRepair σ ((m9 : Int))).1) := VH.hs1 hS hH
                generalize hsA σ hs (spRepair σ ((m9 : Int))).1 = hs1 at hX1 hC1 hD1
                have hte : (spRepair σ (m9 : Int)).2 = σ := by rw [hsp]
                have hr1 : (spRepair σ ((m9 : Int))).1 = (-1) := by rw [hsp]
                rw [hr1]
                generalize (spRepair σ ((m9 : Int))).2 = τ at hX1 hV1 hC1 hte
                have hI1 := hV1.1
                have hz1 := FrR.size hR1 hP.2
                refine lv_istore (lv' := [(11, .int (iI ((-1)))), (10, .int (iI (0))), (9, .int (iI (0))), (8, .int (iI ((m9 : Int)))), (7, .int (iI (sv))), (6, .int (iI ((nx σ : Int)))), (5, .int (iI ((mn σ : Int)))), (4, .int (iI ((-6)))), (3, .int (iI (w1))), (0, .ref (x)), (1, .int (v1)), (2, .int (v2))]) E.1 E.2.1 dL_acts_572 hl (by decide) rfl (fun ls hl => ?_)
                refine lv_iload E.1 E.2.1 dL_acts_574 (lv_at hl 0 rfl) ?_
                refine lv_iload E.1 E.2.1 dL_acts_576 (lv_at hl 3 rfl) ?_
                refine lv_iload E.1 E.2.1 dL_acts_578 (lv_at hl 6 rfl) ?_
                refine r_icmp_ne (tgt := 587) E dL_acts_580 (by decide) (by omega) (by omega) (fun c580 => absurd c580 (by omega)) (fun c580 => ?_)
                refine r_const E dL_acts_583 ?_
                refine lv_goto (tgt := 602) E.1 E.2.1 dL_acts_584 (by decide) ?_
                refine r_icmp_ne (tgt := 634) E dL_acts_602 (by decide) (by omega) (by omega) (fun c602 => absurd c602 (by omega)) (fun c602 => ?_)
                refine lv_iload E.1 E.2.1 dL_acts_605 (lv_at hl 2 rfl) ?_
                refine r_if_eq (tgt := 630) E dL_acts_607 (by decide) (by omega) (fun c607 => ?_) (fun c607 => absurd c607 (by omega))
                refine r_const E dL_acts_630 ?_
                refine lv_goto (tgt := 635) E.1 E.2.1 dL_acts_631 (by decide) ?_
                refine W.widen (k := 80) (n := 240) (Nat.le_of_ble_eq_true rfl) (Nat.le_of_ble_eq_true rfl) ?_
                refine e_zret (rm := ({ frames := 8, cells := 80, slots := 240, locals := 189 } : Room)) (v := iI (1)) E hL rfl dL_acts_635 ?_
                exact ⟨rfl, _, _, _, _, hV1, hD1, hT, fun _ => hC1, ⟨_, hE1, hX1⟩, hR1⟩
              · have hr9 := hI.row hm9
                by_cases hl9 : m9 + 1 = mn σ
                · by_cases h29 : se σ m9 0 = 2
                  · rcases hw9 : wholeB (dm σ) (se σ m9 1) (se σ m9 3) with _ | _
                    · have hsp : (spRepair σ (m9 : Int)) = (-5, σ) := rp_e2 hm9 (fun h => by rw [hw9] at h; cases h.2.2)
                      refine lv_iload E.1 E.2.1 dL_acts_493 (lv_at hl 0 rfl) ?_
                      refine lv_iload E.1 E.2.1 dL_acts_495 (lv_at hl 3 rfl) ?_
                      refine r_icmp_ge (tgt := 545) E dL_acts_497 (by decide) (by omega) (by omega) (fun c497 => absurd c497 (by omega)) (fun c497 => ?_)
                      refine lv_iload E.1 E.2.1 dL_acts_500 (lv_at hl 0 rfl) ?_
                      refine lv_iload E.1 E.2.1 dL_acts_502 (lv_at hl 3 rfl) ?_
                      refine r_const E dL_acts_504 ?_
                      refine r_sub E dL_acts_505 ?_
                      refine r_icmp_ne (tgt := 545) E dL_acts_506 (by decide) (by omega) (by omega) (fun c506 => absurd c506 (by omega)) (fun c506 => ?_)
                      refine lv_aload_n E.1 E.2.1 dL_acts_509 rfl (lv_at hl 6 rfl) ?_
                      refine lv_iload E.1 E.2.1 dL_acts_510 (lv_at hl 0 rfl) ?_
                      refine r_const E dL_acts_512 ?_
                      refine kVRE (As := [.int (iI ((m9 : Int))), .int (iI (0))]) E cw_L_29 (c_X5_session G l x fb fl σ hs tx len hI hT hfx hgx ((m9 : Int)) (0) (by unfold okI; omega) (by unfold okI; omega)) hP.1.1 ⟨_, _, rfl⟩ hP.1 hL hl.1 rfl rfl (Nat.le_of_ble_eq_true rfl) ⟨Nat.le_of_ble_eq_true rfl, Nat.le_of_ble_eq_true rfl⟩ ⟨rfl, rfl⟩ ⟨Nat.le_of_ble_eq_true rfl, Nat.le_of_ble_eq_true rfl⟩ dL_acts_513 (fun locs hL => ?_)
                      rw [spSes0 hm9]
                      refine r_const E dL_acts_516 ?_
                      refine r_icmp_ne (tgt := 545) E dL_acts_517 (by decide) (by omega) (by omega) (fun c517 => absurd c517 (by omega)) (fun c517 => ?_)
                      refine lv_aload_n E.1 E.2.1 dL_acts_520 rfl (lv_at hl 6 rfl) ?_
                      refine lv_aload_n E.1 E.2.1 dL_acts_521 rfl (lv_at hl 6 rfl) ?_
                      refine lv_iload E.1 E.2.1 dL_acts_522 (lv_at hl 0 rfl) ?_
                      refine r_const E dL_acts_524 ?_
                      refine kVRE (As := [.int (iI ((m9 : Int))), .int (iI (1))]) E cw_L_29 (c_X5_session G l x fb fl σ hs tx len hI hT hfx hgx ((m9 : Int)) (1) (by unfold okI; omega) (by unfold okI; omega)) hP.1.1 ⟨_, _, rfl⟩ hP.1 hL hl.1 rfl rfl (Nat.le_of_ble_eq_true rfl) ⟨Nat.le_of_ble_eq_true rfl, Nat.le_of_ble_eq_true rfl⟩ ⟨rfl, rfl⟩ ⟨Nat.le_of_ble_eq_true rfl, Nat.le_of_ble_eq_true rfl⟩ dL_acts_525 (fun locs hL => ?_)
                      rw [spSes1 hm9]
                      refine lv_aload_n E.1 E.2.1 dL_acts_528 rfl (lv_at hl 6 rfl) ?_
                      refine lv_iload E.1 E.2.1 dL_acts_529 (lv_at hl 0 rfl) ?_
                      refine r_const E dL_acts_531 ?_
                      refine kVRE (As := [.int (iI ((m9 : Int))), .int (iI (3))]) E cw_L_29 (c_X5_session G l x fb fl σ hs tx len hI hT hfx hgx ((m9 : Int)) (3) (by unfold okI; omega) (by unfold okI; omega)) hP.1.1 ⟨_, _, rfl⟩ hP.1 hL hl.1 rfl rfl (Nat.le_of_ble_eq_true rfl) ⟨Nat.le_of_ble_eq_true rfl, Nat.le_of_ble_eq_true rfl⟩ ⟨rfl, rfl⟩ ⟨Nat.le_of_ble_eq_true rfl, Nat.le_of_ble_eq_true rfl⟩ dL_acts_532 (fun locs hL => ?_)
                      rw [spSes3 hm9]
                      refine kSRE (As := [.ref (x), .int (iI ((se σ m9 1 : Int))), .int (iI ((se σ m9 3 : Int)))]) E cw_L_42 (c_L_whole G l x fb fl σ hs tx len hI hT hfx hgx (se σ m9 1) (se σ m9 3) (by omega)) hP.1 hL hl.1 rfl rfl (Nat.le_of_ble_eq_true rfl) ⟨Nat.le_of_ble_eq_true rfl, Nat.le_of_ble_eq_true rfl⟩ ⟨rfl, rfl⟩ ⟨Nat.le_of_ble_eq_true rfl, Nat.le_of_ble_eq_true rfl⟩ dL_acts_535 (fun locs hL => ?_)
                      rw [hw9, show b2i false = iI 0 from rfl]
                      refine r_if_eq (tgt := 545) E dL_acts_538 (by decide) (by omega) (fun c538 => ?_) (fun c538 => absurd c538 (by omega))
                      refine r_const E dL_acts_545 ?_
                      refine lv_istore (lv' := [(9, .int (iI (0))), (8, .int (iI ((m9 : Int)))), (7, .int (iI (sv))), (6, .int (iI ((nx σ : Int)))), (5, .int (iI ((mn σ : Int)))), (4, .int (iI ((-6)))), (3, .int (iI (w1))), (0, .ref (x)), (1, .int (v1)), (2, .int (v2))]) E.1 E.2.1 dL_acts_546 hl (by decide) rfl (fun ls hl => ?_)
                      refine lv_iload E.1 E.2.1 dL_acts_548 (lv_at hl 0 rfl) ?_
                      refine r_if_eq (tgt := 563) E dL_acts_550 (by decide) (by omega) (fun c550 => ?_) (fun c550 => absurd c550 (by omega))
                      refine r_const E dL_acts_563 ?_
                      refine lv_istore (lv' := [(10, .int (iI (0))), (9, .int (iI (0))), (8, .int (iI ((m9 : Int)))), (7, .int (iI (sv))), (6, .int (iI ((nx σ : Int)))), (5, .int (iI ((mn σ : Int)))), (4, .int (iI ((-6)))), (3, .int (iI (w1))), (0, .ref (x)), (1, .int (v1)), (2, .int (v2))]) E.1 E.2.1 dL_acts_564 hl (by decide) rfl (fun ls hl => ?_)
                      refine lv_aload_n E.1 E.2.1 dL_acts_566 rfl (lv_at hl 8 rfl) ?_
                      refine lv_iload E.1 E.2.1 dL_acts_567 (lv_at hl 2 rfl) ?_
                      refine kVWE (As := [.int (iI ((m9 : Int)))]) E cw_L_140 (c_X5_repair G l x fb fl σ hs tx len hI hT hfx hgx ((m9 : Int)) (by unfold okI; omega)) hP.1.1 ⟨_, _, rfl⟩ ⟨hP.1, hP.2⟩ hL hl.1 rfl rfl (Nat.le_of_ble_eq_true rfl) ⟨Nat.le_of_ble_eq_true rfl, Nat.le_of_ble_eq_true rfl⟩ ⟨Nat.le_of_ble_eq_true rfl, Nat.le_of_ble_eq_true rfl⟩ dL_acts_569 (fun H3 locs hL hw_ => ?_)
                      obtain ⟨⟨fl1, hE1, hX1⟩, hR1⟩ := hw_
                      have hV1 : VS (spRepair σ ((m9 : Int))).2 := hS.repair ((m9 : Int))
                      have hC1 : AC σ hs (spRepair σ ((m9 : Int))).2 (hsA σ hs (spRepair σ ((m9 : Int))).1) := ac_of (spRepair_b hI ((m9 : Int))).2.2
                      have hD1 : VH (hsA σ hs (spRepair σ ((m9 : Int))).1) := VH.hs1 hS hH
                      generalize hsA σ hs (spRepair σ ((m9 : Int))).1 = hs1 at hX1 hC1 hD1
                      have hte : (spRepair σ (m9 : Int)).2 = σ := by rw [hsp]
                      have hr1 : (spRepair σ ((m9 : Int))).1 = (-5) := by rw [hsp]
                      rw [hr1]
                      generalize (spRepair σ ((m9 : Int))).2 = τ at hX1 hV1 hC1 hte
                      have hI1 := hV1.1
                      have hz1 := FrR.size hR1 hP.2
                      refine lv_istore (lv' := [(11, .int (iI ((-5)))), (10, .int (iI (0))), (9, .int (iI (0))), (8, .int (iI ((m9 : Int)))), (7, .int (iI (sv))), (6, .int (iI ((nx σ : Int)))), (5, .int (iI ((mn σ : Int)))), (4, .int (iI ((-6)))), (3, .int (iI (w1))), (0, .ref (x)), (1, .int (v1)), (2, .int (v2))]) E.1 E.2.1 dL_acts_572 hl (by decide) rfl (fun ls hl => ?_)
                      refine lv_iload E.1 E.2.1 dL_acts_574 (lv_at hl 0 rfl) ?_
                      refine lv_iload E.1 E.2.1 dL_acts_576 (lv_at hl 3 rfl) ?_
                      refine lv_iload E.1 E.2.1 dL_acts_578 (lv_at hl 6 rfl) ?_
                      refine r_icmp_ne (tgt := 587) E dL_acts_580 (by decide) (by omega) (by omega) (fun c580 => ?_) (fun c580 => absurd c580 (by omega))
                      refine lv_iload E.1 E.2.1 dL_acts_587 (lv_at hl 2 rfl) ?_
                      refine r_if_eq (tgt := 600) E dL_acts_589 (by decide) (by omega) (fun c589 => ?_) (fun c589 => absurd c589 (by omega))
                      refine r_bipush E dL_acts_600 (by decide) ?_
                      refine r_icmp_ne (tgt := 634) E dL_acts_602 (by decide) (by omega) (by omega) (fun c602 => absurd c602 (by omega)) (fun c602 => ?_)
                      refine lv_iload E.1 E.2.1 dL_acts_605 (lv_at hl 2 rfl) ?_
                      refine r_if_eq (tgt := 630) E dL_acts_607 (by decide) (by omega) (fun c607 => ?_) (fun c607 => absurd c607 (by omega))
                      refine r_const E dL_acts_630 ?_
                      refine lv_goto (tgt := 635) E.1 E.2.1 dL_acts_631 (by decide) ?_
                      refine W.widen (k := 80) (n := 240) (Nat.le_of_ble_eq_true rfl) (Nat.le_of_ble_eq_true rfl) ?_
                      refine e_zret (rm := ({ frames := 8, cells := 80, slots := 240, locals := 189 } : Room)) (v := iI (1)) E hL rfl dL_acts_635 ?_
                      exact ⟨rfl, _, _, _, _, hV1, hD1, hT, fun _ => hC1, ⟨_, hE1, hX1⟩, hR1⟩
                    · have hrow7 := hr9.2.2.2.2.2.2.1 hl9 (by omega)
                      refine lv_iload E.1 E.2.1 dL_acts_493 (lv_at hl 0 rfl) ?_
                      refine lv_iload E.1 E.2.1 dL_acts_495 (lv_at hl 3 rfl) ?_
                      refine r_icmp_ge (tgt := 545) E dL_acts_497 (by decide) (by omega) (by omega) (fun c497 => absurd c497 (by omega)) (fun c497 => ?_)
                      refine lv_iload E.1 E.2.1 dL_acts_500 (lv_at hl 0 rfl) ?_
                      refine lv_iload E.1 E.2.1 dL_acts_502 (lv_at hl 3 rfl) ?_
                      refine r_const E dL_acts_504 ?_
                      refine r_sub E dL_acts_505 ?_
                      refine r_icmp_ne (tgt := 545) E dL_acts_506 (by decide) (by omega) (by omega) (fun c506 => absurd c506 (by omega)) (fun c506 => ?_)
                      refine lv_aload_n E.1 E.2.1 dL_acts_509 rfl (lv_at hl 6 rfl) ?_
                      refine lv_iload E.1 E.2.1 dL_acts_510 (lv_at hl 0 rfl) ?_
                      refine r_const E dL_acts_512 ?_
                      refine kVRE (As := [.int (iI ((m9 : Int))), .int (iI (0))]) E cw_L_29 (c_X5_session G l x fb fl σ hs tx len hI hT hfx hgx ((m9 : Int)) (0) (by unfold okI; omega) (by unfold okI; omega)) hP.1.1 ⟨_, _, rfl⟩ hP.1 hL hl.1 rfl rfl (Nat.le_of_ble_eq_true rfl) ⟨Nat.le_of_ble_eq_true rfl, Nat.le_of_ble_eq_true rfl⟩ ⟨rfl, rfl⟩ ⟨Nat.le_of_ble_eq_true rfl, Nat.le_of_ble_eq_true rfl⟩ dL_acts_513 (fun locs hL => ?_)
                      rw [spSes0 hm9]
                      refine r_const E dL_acts_516 ?_
                      refine r_icmp_ne (tgt := 545) E dL_acts_517 (by decide) (by omega) (by omega) (fun c517 => absurd c517 (by omega)) (fun c517 => ?_)
                      refine lv_aload_n E.1 E.2.1 dL_acts_520 rfl (lv_at hl 6 rfl) ?_
                      refine lv_aload_n E.1 E.2.1 dL_acts_521 rfl (lv_at hl 6 rfl) ?_
                      refine lv_iload E.1 E.2.1 dL_acts_522 (lv_at hl 0 rfl) ?_
                      refine r_const E dL_acts_524 ?_
                      refine kVRE (As := [.int (iI ((m9 : Int))), .int (iI (1))]) E cw_L_29 (c_X5_session G l x fb fl σ hs tx len hI hT hfx hgx ((m9 : Int)) (1) (by unfold okI; omega) (by unfold okI; omega)) hP.1.1 ⟨_, _, rfl⟩ hP.1 hL hl.1 rfl rfl (Nat.le_of_ble_eq_true rfl) ⟨Nat.le_of_ble_eq_true rfl, Nat.le_of_ble_eq_true rfl⟩ ⟨rfl, rfl⟩ ⟨Nat.le_of_ble_eq_true rfl, Nat.le_of_ble_eq_true rfl⟩ dL_acts_525 (fun locs hL => ?_)
                      rw [spSes1 hm9]
                      refine lv_aload_n E.1 E.2.1 dL_acts_528 rfl (lv_at hl 6 rfl) ?_
                      refine lv_iload E.1 E.2.1 dL_acts_529 (lv_at hl 0 rfl) ?_
                      refine r_const E dL_acts_531 ?_
                      refine kVRE (As := [.int (iI ((m9 : Int))), .int (iI (3))]) E cw_L_29 (c_X5_session G l x fb fl σ hs tx len hI hT hfx hgx ((m9 : Int)) (3) (by unfold okI; omega) (by unfold okI; omega)) hP.1.1 ⟨_, _, rfl⟩ hP.1 hL hl.1 rfl rfl (Nat.le_of_ble_eq_true rfl) ⟨Nat.le_of_ble_eq_true rfl, Nat.le_of_ble_eq_true rfl⟩ ⟨rfl, rfl⟩ ⟨Nat.le_of_ble_eq_true rfl, Nat.le_of_ble_eq_true rfl⟩ dL_acts_532 (fun locs hL => ?_)
                      rw [spSes3 hm9]
                      refine kSRE (As := [.ref (x), .int (iI ((se σ m9 1 : Int))), .int (iI ((se σ m9 3 : Int)))]) E cw_L_42 (c_L_whole G l x fb fl σ hs tx len hI hT hfx hgx (se σ m9 1) (se σ m9 3) (by omega)) hP.1 hL hl.1 rfl rfl (Nat.le_of_ble_eq_true rfl) ⟨Nat.le_of_ble_eq_true rfl, Nat.le_of_ble_eq_true rfl⟩ ⟨rfl, rfl⟩ ⟨Nat.le_of_ble_eq_true rfl, Nat.le_of_ble_eq_true rfl⟩ dL_acts_535 (fun locs hL => ?_)
                      rw [hw9, show b2i true = iI 1 from rfl]
                      refine r_if_eq (tgt := 545) E dL_acts_538 (by decide) (by omega) (fun c538 => absurd c538 (by omega)) (fun c538 => ?_)
                      refine r_const E dL_acts_541 ?_
                      refine lv_goto (tgt := 546) E.1 E.2.1 dL_acts_542 (by decide) ?_
                      refine lv_istore (lv' := [(9, .int (iI (1))), (8, .int (iI ((m9 : Int)))), (7, .int (iI (sv))), (6, .int (iI ((nx σ : Int)))), (5, .int (iI ((mn σ : Int)))), (4, .int (iI ((-6)))), (3, .int (iI (w1))), (0, .ref (x)), (1, .int (v1)), (2, .int (v2))]) E.1 E.2.1 dL_acts_546 hl (by decide) rfl (fun ls hl => ?_)
                      refine lv_iload E.1 E.2.1 dL_acts_548 (lv_at hl 0 rfl) ?_
                      refine r_if_eq (tgt := 563) E dL_acts_550 (by decide) (by omega) (fun c550 => absurd c550 (by omega)) (fun c550 => ?_)
                      refine lv_aload_n E.1 E.2.1 dL_acts_553 rfl (lv_at hl 7 rfl) ?_
                      refine lv_iload E.1 E.2.1 dL_acts_554 (lv_at hl 1 rfl) ?_
                      refine r_const E dL_acts_556 ?_
                      refine kVRE (As := [.int (iI ((m9 : Int))), .int (iI (4))]) E cw_L_29 (c_X5_session G l x fb fl σ hs tx len hI hT hfx hgx ((m9 : Int)) (4) (by unfold okI; omega) (by unfold okI; omega)) hP.1.1 ⟨_, _, rfl⟩ hP.1 hL hl.1 rfl rfl (Nat.le_of_ble_eq_true rfl) ⟨Nat.le_of_ble_eq_true rfl, Nat.le_of_ble_eq_true rfl⟩ ⟨rfl, rfl⟩ ⟨Nat.le_of_ble_eq_true rfl, Nat.le_of_ble_eq_true rfl⟩ dL_acts_557 (fun locs hL => ?_)
                      rw [spSes4 hm9]
                      refine lv_goto (tgt := 564) E.1 E.2.1 dL_acts_560 (by decide) ?_
                      refine lv_istore (lv' := [(10, .int (iI ((se σ m9 4 : Int)))), (9, .int (iI (1))), (8, .int (iI ((m9 : Int)))), (7, .int (iI (sv))), (6, .int (iI ((nx σ : Int)))), (5, .int (iI ((mn σ : Int)))), (4, .int (iI ((-6)))), (3, .int (iI (w1))), (0, .ref (x)), (1, .int (v1)), (2, .int (v2))]) E.1 E.2.1 dL_acts_564 hl (by decide) rfl (fun ls hl => ?_)
                      refine lv_aload_n E.1 E.2.1 dL_acts_566 rfl (lv_at hl 8 rfl) ?_
                      refine lv_iload E.1 E.2.1 dL_acts_567 (lv_at hl 2 rfl) ?_
                      refine kVWE (As := [.int (iI ((m9 : Int)))]) E cw_L_140 (c_X5_repair G l x fb fl σ hs tx len hI hT hfx hgx ((m9 : Int)) (by unfold okI; omega)) hP.1.1 ⟨_, _, rfl⟩ ⟨hP.1, hP.2⟩ hL hl.1 rfl rfl (Nat.le_of_ble_eq_true rfl) ⟨Nat.le_of_ble_eq_true rfl, Nat.le_of_ble_eq_true rfl⟩ ⟨Nat.le_of_ble_eq_true rfl, Nat.le_of_ble_eq_true rfl⟩ dL_acts_569 (fun H3 locs hL hw_ => ?_)
                      obtain ⟨⟨fl1, hE1, hX1⟩, hR1⟩ := hw_
                      have hV1 : VS (spRepair σ ((m9 : Int))).2 := hS.repair ((m9 : Int))
                      have hC1 : AC σ hs (spRepair σ ((m9 : Int))).2 (hsA σ hs (spRepair σ ((m9 : Int))).1) := ac_of (spRepair_b hI ((m9 : Int))).2.2
                      have hD1 : VH (hsA σ hs (spRepair σ ((m9 : Int))).1) := VH.hs1 hS hH
                      generalize hsA σ hs (spRepair σ ((m9 : Int))).1 = hs1 at hX1 hC1 hD1
                      have hok := lo_ok (σ := σ) hl9
                      have hrb : readB (leadOut σ m9).2 (dm (leadOut σ m9).2) m9 = true := (hok.2.2.2.2.1 _).trans (by rw [hok.2.2.2.2.2]; exact hw9)
                      rw [← rp_ok hl9 h29 hw9] at hok hrb
                      have hm1 := hok.2.1
                      have hx1 := hok.2.2.1
                      have hq0 := hok.2.2.2.1
                      have hvm := (valid_last (by rw [hm1]; exact hl9)).mpr hrb
                      have hr1 : (spRepair σ ((m9 : Int))).1 = ((nx σ : Int) + (se σ m9 4 : Int)) := hok.1
                      rw [hr1]
                      generalize (spRepair σ ((m9 : Int))).2 = τ at hX1 hV1 hC1 hm1 hx1 hq0 hvm
                      have hI1 := hV1.1
                      have hz1 := FrR.size hR1 hP.2
                      refine lv_istore (lv' := [(11, .int (iI (((nx σ : Int) + (se σ m9 4 : Int))))), (10, .int (iI ((se σ m9 4 : Int)))), (9, .int (iI (1))), (8, .int (iI ((m9 : Int)))), (7, .int (iI (sv))), (6, .int (iI ((nx σ : Int)))), (5, .int (iI ((mn σ : Int)))), (4, .int (iI ((-6)))), (3, .int (iI (w1))), (0, .ref (x)), (1, .int (v1)), (2, .int (v2))]) E.1 E.2.1 dL_acts_572 hl (by decide) rfl (fun ls hl => ?_)
                      refine lv_iload E.1 E.2.1 dL_acts_574 (lv_at hl 0 rfl) ?_
                      refine lv_iload E.1 E.2.1 dL_acts_576 (lv_at hl 3 rfl) ?_
                      refine lv_iload E.1 E.2.1 dL_acts_578 (lv_at hl 6 rfl) ?_
                      refine r_icmp_ne (tgt := 587) E dL_acts_580 (by decide) (by omega) (by omega) (fun c580 => ?_) (fun c580 => absurd c580 (by omega))
                      refine lv_iload E.1 E.2.1 dL_acts_587 (lv_at hl 2 rfl) ?_
                      refine r_if_eq (tgt := 600) E dL_acts_589 (by decide) (by omega) (fun c589 => absurd c589 (by omega)) (fun c589 => ?_)
                      refine lv_iload E.1 E.2.1 dL_acts_592 (lv_at hl 5 rfl) ?_
                      refine lv_iload E.1 E.2.1 dL_acts_594 (lv_at hl 1 rfl) ?_
                      refine r_add E dL_acts_596 ?_
                      refine lv_goto (tgt := 602) E.1 E.2.1 dL_acts_597 (by decide) ?_
                      refine r_icmp_ne (tgt := 634) E dL_acts_602 (by decide) (by omega) (by omega) (fun c602 => absurd c602 (by omega)) (fun c602 => ?_)
                      refine lv_iload E.1 E.2.1 dL_acts_605 (lv_at hl 2 rfl) ?_
                      refine r_if_eq (tgt := 630) E dL_acts_607 (by decide) (by omega) (fun c607 => absurd c607 (by omega)) (fun c607 => ?_)
                      refine lv_aload_n E.1 E.2.1 dL_acts_610 rfl (lv_at hl 9 rfl) ?_
                      refine kVRE (As := []) E cw_L_55 (c_X5_valid G l x fb fl1 τ hs1 tx len hI1 hT hfx hgx  ) hX1.1 ⟨_, _, rfl⟩ hX1 hL hl.1 rfl rfl (Nat.le_of_ble_eq_true rfl) ⟨Nat.le_of_ble_eq_true rfl, Nat.le_of_ble_eq_true rfl⟩ ⟨rfl, rfl⟩ ⟨Nat.le_of_ble_eq_true rfl, Nat.le_of_ble_eq_true rfl⟩ dL_acts_611 (fun locs hL => ?_)
                      rw [hvm]
                      refine lv_iload E.1 E.2.1 dL_acts_614 (lv_at hl 3 rfl) ?_
                      refine r_icmp_ne (tgt := 634) E dL_acts_616 (by decide) (by omega) (by omega) (fun c616 => absurd c616 (by omega)) (fun c616 => ?_)
                      refine lv_aload_n E.1 E.2.1 dL_acts_619 rfl (lv_at hl 9 rfl) ?_
                      refine lv_iload E.1 E.2.1 dL_acts_620 (lv_at hl 3 rfl) ?_
                      refine r_const E dL_acts_622 ?_
                      refine kVRE (As := [.int (iI ((m9 : Int))), .int (iI (0))]) E cw_L_29 (c_X5_session G l x fb fl1 τ hs1 tx len hI1 hT hfx hgx ((m9 : Int)) (0) (by unfold okI; omega) (by unfold okI; omega)) hX1.1 ⟨_, _, rfl⟩ hX1 hL hl.1 rfl rfl (Nat.le_of_ble_eq_true rfl) ⟨Nat.le_of_ble_eq_true rfl, Nat.le_of_ble_eq_true rfl⟩ ⟨rfl, rfl⟩ ⟨Nat.le_of_ble_eq_true rfl, Nat.le_of_ble_eq_true rfl⟩ dL_acts_623 (fun locs hL => ?_)
                      rw [spSes0 (by omega)]
                      refine r_const E dL_acts_626 ?_
                      refine r_icmp_ne (tgt := 634) E dL_acts_627 (by decide) (by omega) (by omega) (fun c627 => absurd c627 (by omega)) (fun c627 => ?_)
                      refine r_const E dL_acts_630 ?_
                      refine lv_goto (tgt := 635) E.1 E.2.1 dL_acts_631 (by decide) ?_
                      refine W.widen (k := 80) (n := 240) (Nat.le_of_ble_eq_true rfl) (Nat.le_of_ble_eq_true rfl) ?_
                      refine e_zret (rm := ({ frames := 8, cells := 80, slots := 240, locals := 189 } : Room)) (v := iI (1)) E hL rfl dL_acts_635 ?_
                      exact ⟨rfl, _, _, _, _, hV1, hD1, hT, fun _ => hC1, ⟨_, hE1, hX1⟩, hR1⟩
                  · have hsp : (spRepair σ (m9 : Int)) = (-5, σ) := rp_e2 hm9 (fun h => h29 h.2.1)
                    refine lv_iload E.1 E.2.1 dL_acts_493 (lv_at hl 0 rfl) ?_
                    refine lv_iload E.1 E.2.1 dL_acts_495 (lv_at hl 3 rfl) ?_
                    refine r_icmp_ge (tgt := 545) E dL_acts_497 (by decide) (by omega) (by omega) (fun c497 => absurd c497 (by omega)) (fun c497 => ?_)
                    refine lv_iload E.1 E.2.1 dL_acts_500 (lv_at hl 0 rfl) ?_
                    refine lv_iload E.1 E.2.1 dL_acts_502 (lv_at hl 3 rfl) ?_
                    refine r_const E dL_acts_504 ?_
                    refine r_sub E dL_acts_505 ?_
                    refine r_icmp_ne (tgt := 545) E dL_acts_506 (by decide) (by omega) (by omega) (fun c506 => absurd c506 (by omega)) (fun c506 => ?_)
                    refine lv_aload_n E.1 E.2.1 dL_acts_509 rfl (lv_at hl 6 rfl) ?_
                    refine lv_iload E.1 E.2.1 dL_acts_510 (lv_at hl 0 rfl) ?_
                    refine r_const E dL_acts_512 ?_
                    refine kVRE (As := [.int (iI ((m9 : Int))), .int (iI (0))]) E cw_L_29 (c_X5_session G l x fb fl σ hs tx len hI hT hfx hgx ((m9 : Int)) (0) (by unfold okI; omega) (by unfold okI; omega)) hP.1.1 ⟨_, _, rfl⟩ hP.1 hL hl.1 rfl rfl (Nat.le_of_ble_eq_true rfl) ⟨Nat.le_of_ble_eq_true rfl, Nat.le_of_ble_eq_true rfl⟩ ⟨rfl, rfl⟩ ⟨Nat.le_of_ble_eq_true rfl, Nat.le_of_ble_eq_true rfl⟩ dL_acts_513 (fun locs hL => ?_)
                    rw [spSes0 hm9]
                    refine r_const E dL_acts_516 ?_
                    refine r_icmp_ne (tgt := 545) E dL_acts_517 (by decide) (by omega) (by omega) (fun c517 => ?_) (fun c517 => absurd c517 (by omega))
                    refine r_const E dL_acts_545 ?_
                    refine lv_istore (lv' := [(9, .int (iI (0))), (8, .int (iI ((m9 : Int)))), (7, .int (iI (sv))), (6, .int (iI ((nx σ : Int)))), (5, .int (iI ((mn σ : Int)))), (4, .int (iI ((-6)))), (3, .int (iI (w1))), (0, .ref (x)), (1, .int (v1)), (2, .int (v2))]) E.1 E.2.1 dL_acts_546 hl (by decide) rfl (fun ls hl => ?_)
                    refine lv_iload E.1 E.2.1 dL_acts_548 (lv_at hl 0 rfl) ?_
                    refine r_if_eq (tgt := 563) E dL_acts_550 (by decide) (by omega) (fun c550 => ?_) (fun c550 => absurd c550 (by omega))
                    refine r_const E dL_acts_563 ?_
                    refine lv_istore (lv' := [(10, .int (iI (0))), (9, .int (iI (0))), (8, .int (iI ((m9 : Int)))), (7, .int (iI (sv))), (6, .int (iI ((nx σ : Int)))), (5, .int (iI ((mn σ : Int)))), (4, .int (iI ((-6)))), (3, .int (iI (w1))), (0, .ref (x)), (1, .int (v1)), (2, .int (v2))]) E.1 E.2.1 dL_acts_564 hl (by decide) rfl (fun ls hl => ?_)
                    refine lv_aload_n E.1 E.2.1 dL_acts_566 rfl (lv_at hl 8 rfl) ?_
                    refine lv_iload E.1 E.2.1 dL_acts_567 (lv_at hl 2 rfl) ?_
                    refine kVWE (As := [.int (iI ((m9 : Int)))]) E cw_L_140 (c_X5_repair G l x fb fl σ hs tx len hI hT hfx hgx ((m9 : Int)) (by unfold okI; omega)) hP.1.1 ⟨_, _, rfl⟩ ⟨hP.1, hP.2⟩ hL hl.1 rfl rfl (Nat.le_of_ble_eq_true rfl) ⟨Nat.le_of_ble_eq_true rfl, Nat.le_of_ble_eq_true rfl⟩ ⟨Nat.le_of_ble_eq_true rfl, Nat.le_of_ble_eq_true rfl⟩ dL_acts_569 (fun H3 locs hL hw_ => ?_)
                    obtain ⟨⟨fl1, hE1, hX1⟩, hR1⟩ := hw_
                    have hV1 : VS (spRepair σ ((m9 : Int))).2 := hS.repair ((m9 : Int))
                    have hC1 : AC σ hs (spRepair σ ((m9 : Int))).2 (hsA σ hs (spRepair σ ((m9 : Int))).1) := ac_of (spRepair_b hI ((m9 : Int))).2.2
                    have hD1 : VH (hsA σ hs (spRepair σ ((m9 : Int))).1) := VH.hs1 hS hH
                    generalize hsA σ hs (spRepair σ ((m9 : Int))).1 = hs1 at hX1 hC1 hD1
                    have hte : (spRepair σ (m9 : Int)).2 = σ := by rw [hsp]
                    have hr1 : (spRepair σ ((m9 : Int))).1 = (-5) := by rw [hsp]
                    rw [hr1]
                    generalize (spRepair σ ((m9 : Int))).2 = τ at hX1 hV1 hC1 hte
                    have hI1 := hV1.1
                    have hz1 := FrR.size hR1 hP.2
                    refine lv_istore (lv' := [(11, .int (iI ((-5)))), (10, .int (iI (0))), (9, .int (iI (0))), (8, .int (iI ((m9 : Int)))), (7, .int (iI (sv))), (6, .int (iI ((nx σ : Int)))), (5, .int (iI ((mn σ : Int)))), (4, .int (iI ((-6)))), (3, .int (iI (w1))), (0, .ref (x)), (1, .int (v1)), (2, .int (v2))]) E.1 E.2.1 dL_acts_572 hl (by decide) rfl (fun ls hl => ?_)
                    refine lv_iload E.1 E.2.1 dL_acts_574 (lv_at hl 0 rfl) ?_
                    refine lv_iload E.1 E.2.1 dL_acts_576 (lv_at hl 3 rfl) ?_
                    refine lv_iload E.1 E.2.1 dL_acts_578 (lv_at hl 6 rfl) ?_
                    refine r_icmp_ne (tgt := 587) E dL_acts_580 (by decide) (by omega) (by omega) (fun c580 => ?_) (fun c580 => absurd c580 (by omega))
                    refine lv_iload E.1 E.2.1 dL_acts_587 (lv_at hl 2 rfl) ?_
                    refine r_if_eq (tgt := 600) E dL_acts_589 (by decide) (by omega) (fun c589 => ?_) (fun c589 => absurd c589 (by omega))
                    refine r_bipush E dL_acts_600 (by decide) ?_
                    refine r_icmp_ne (tgt := 634) E dL_acts_602 (by decide) (by omega) (by omega) (fun c602 => absurd c602 (by omega)) (fun c602 => ?_)
                    refine lv_iload E.1 E.2.1 dL_acts_605 (lv_at hl 2 rfl) ?_
                    refine r_if_eq (tgt := 630) E dL_acts_607 (by decide) (by omega) (fun c607 => ?_) (fun c607 => absurd c607 (by omega))
                    refine r_const E dL_acts_630 ?_
                    refine lv_goto (tgt := 635) E.1 E.2.1 dL_acts_631 (by decide) ?_
                    refine W.widen (k := 80) (n := 240) (Nat.le_of_ble_eq_true rfl) (Nat.le_of_ble_eq_true rfl) ?_
                    refine e_zret (rm := ({ frames := 8, cells := 80, slots := 240, locals := 189 } : Room)) (v := iI (1)) E hL rfl dL_acts_635 ?_
                    exact ⟨rfl, _, _, _, _, hV1, hD1, hT, fun _ => hC1, ⟨_, hE1, hX1⟩, hR1⟩
                · have hsp : (spRepair σ (m9 : Int)) = (-5, σ) := rp_e2 hm9 (fun h => hl9 h.1)
                  refine lv_iload E.1 E.2.1 dL_acts_493 (lv_at hl 0 rfl) ?_
                  refine lv_iload E.1 E.2.1 dL_acts_495 (lv_at hl 3 rfl) ?_
                  refine r_icmp_ge (tgt := 545) E dL_acts_497 (by decide) (by omega) (by omega) (fun c497 => absurd c497 (by omega)) (fun c497 => ?_)
                  refine lv_iload E.1 E.2.1 dL_acts_500 (lv_at hl 0 rfl) ?_
                  refine lv_iload E.1 E.2.1 dL_acts_502 (lv_at hl 3 rfl) ?_
                  refine r_const E dL_acts_504 ?_
                  refine r_sub E dL_acts_505 ?_
                  refine r_icmp_ne (tgt := 545) E dL_acts_506 (by decide) (by omega) (by omega) (fun c506 => ?_) (fun c506 => absurd c506 (by omega))
                  refine r_const E dL_acts_545 ?_
                  refine lv_istore (lv' := [(9, .int (iI (0))), (8, .int (iI ((m9 : Int)))), (7, .int (iI (sv))), (6, .int (iI ((nx σ : Int)))), (5, .int (iI ((mn σ : Int)))), (4, .int (iI ((-6)))), (3, .int (iI (w1))), (0, .ref (x)), (1, .int (v1)), (2, .int (v2))]) E.1 E.2.1 dL_acts_546 hl (by decide) rfl (fun ls hl => ?_)
                  refine lv_iload E.1 E.2.1 dL_acts_548 (lv_at hl 0 rfl) ?_
                  refine r_if_eq (tgt := 563) E dL_acts_550 (by decide) (by omega) (fun c550 => ?_) (fun c550 => absurd c550 (by omega))
                  refine r_const E dL_acts_563 ?_
                  refine lv_istore (lv' := [(10, .int (iI (0))), (9, .int (iI (0))), (8, .int (iI ((m9 : Int)))), (7, .int (iI (sv))), (6, .int (iI ((nx σ : Int)))), (5, .int (iI ((mn σ : Int)))), (4, .int (iI ((-6)))), (3, .int (iI (w1))), (0, .ref (x)), (1, .int (v1)), (2, .int (v2))]) E.1 E.2.1 dL_acts_564 hl (by decide) rfl (fun ls hl => ?_)
                  refine lv_aload_n E.1 E.2.1 dL_acts_566 rfl (lv_at hl 8 rfl) ?_
                  refine lv_iload E.1 E.2.1 dL_acts_567 (lv_at hl 2 rfl) ?_
                  refine kVWE (As := [.int (iI ((m9 : Int)))]) E cw_L_140 (c_X5_repair G l x fb fl σ hs tx len hI hT hfx hgx ((m9 : Int)) (by unfold okI; omega)) hP.1.1 ⟨_, _, rfl⟩ ⟨hP.1, hP.2⟩ hL hl.1 rfl rfl (Nat.le_of_ble_eq_true rfl) ⟨Nat.le_of_ble_eq_true rfl, Nat.le_of_ble_eq_true rfl⟩ ⟨Nat.le_of_ble_eq_true rfl, Nat.le_of_ble_eq_true rfl⟩ dL_acts_569 (fun H3 locs hL hw_ => ?_)
                  obtain ⟨⟨fl1, hE1, hX1⟩, hR1⟩ := hw_
                  have hV1 : VS (spRepair σ ((m9 : Int))).2 := hS.repair ((m9 : Int))
                  have hC1 : AC σ hs (spRepair σ ((m9 : Int))).2 (hsA σ hs (spRepair σ ((m9 : Int))).1) := ac_of (spRepair_b hI ((m9 : Int))).2.2
                  have hD1 : VH (hsA σ hs (spRepair σ ((m9 : Int))).1) := VH.hs1 hS hH
                  generalize hsA σ hs (spRepair σ ((m9 : Int))).1 = hs1 at hX1 hC1 hD1
                  have hte : (spRepair σ (m9 : Int)).2 = σ := by rw [hsp]
                  have hr1 : (spRepair σ ((m9 : Int))).1 = (-5) := by rw [hsp]
                  rw [hr1]
                  generalize (spRepair σ ((m9 : Int))).2 = τ at hX1 hV1 hC1 hte
                  have hI1 := hV1.1
                  have hz1 := FrR.size hR1 hP.2
                  refine lv_istore (lv' := [(11, .int (iI ((-5)))), (10, .int (iI (0))), (9, .int (iI (0))), (8, .int (iI ((m9 : Int)))), (7, .int (iI (sv))), (6, .int (iI ((nx σ : Int)))), (5, .int (iI ((mn σ : Int)))), (4, .int (iI ((-6)))), (3, .int (iI (w1))), (0, .ref (x)), (1, .int (v1)), (2, .int (v2))]) E.1 E.2.1 dL_acts_572 hl (by decide) rfl (fun ls hl => ?_)
                  refine lv_iload E.1 E.2.1 dL_acts_574 (lv_at hl 0 rfl) ?_
                  refine lv_iload E.1 E.2.1 dL_acts_576 (lv_at hl 3 rfl) ?_
                  refine lv_iload E.1 E.2.1 dL_acts_578 (lv_at hl 6 rfl) ?_
                  refine r_icmp_ne (tgt := 587) E dL_acts_580 (by decide) (by omega) (by omega) (fun c580 => ?_) (fun c580 => absurd c580 (by omega))
                  refine lv_iload E.1 E.2.1 dL_acts_587 (lv_at hl 2 rfl) ?_
                  refine r_if_eq (tgt := 600) E dL_acts_589 (by decide) (by omega) (fun c589 => ?_) (fun c589 => absurd c589 (by omega))
                  refine r_bipush E dL_acts_600 (by decide) ?_
                  refine r_icmp_ne (tgt := 634) E dL_acts_602 (by decide) (by omega) (by omega) (fun c602 => absurd c602 (by omega)) (fun c602 => ?_)
                  refine lv_iload E.1 E.2.1 dL_acts_605 (lv_at hl 2 rfl) ?_
                  refine r_if_eq (tgt := 630) E dL_acts_607 (by decide) (by omega) (fun c607 => ?_) (fun c607 => absurd c607 (by omega))
                  refine r_const E dL_acts_630 ?_
                  refine lv_goto (tgt := 635) E.1 E.2.1 dL_acts_631 (by decide) ?_
                  refine W.widen (k := 80) (n := 240) (Nat.le_of_ble_eq_true rfl) (Nat.le_of_ble_eq_true rfl) ?_
                  refine e_zret (rm := ({ frames := 8, cells := 80, slots := 240, locals := 189 } : Room)) (v := iI (1)) E hL rfl dL_acts_635 ?_
                  exact ⟨rfl, _, _, _, _, hV1, hD1, hT, fun _ => hC1, ⟨_, hE1, hX1⟩, hR1⟩
          · have hsp : (spEject σ) = (0, σ) := ej_e hop
            refine lv_aload_n E.1 E.2.1 dL_acts_420 rfl (lv_at hl 5 rfl) ?_
            refine kVWE (As := []) E cw_L_137 (c_X5_eject G l x fb fl σ hs tx len hI hT hfx hgx  ) hP.1.1 ⟨_, _, rfl⟩ ⟨hP.1, hP.2⟩ hL hl.1 rfl rfl (Nat.le_of_ble_eq_true rfl) ⟨Nat.le_of_ble_eq_true rfl, Nat.le_of_ble_eq_true rfl⟩ ⟨Nat.le_of_ble_eq_true rfl, Nat.le_of_ble_eq_true rfl⟩ dL_acts_421 (fun H2 locs hL hw_ => ?_)
            obtain ⟨⟨fl1, hE1, hX1⟩, hR1⟩ := hw_
            have hV1 : VS (spEject σ).2 := hS.eject
            have hC1 : AC σ hs (spEject σ).2 (hsA σ hs (spEject σ).1) := ac_of (spEject_b).2.2
            have hD1 : VH (hsA σ hs (spEject σ).1) := VH.hs1 hS hH
            generalize hsA σ hs (spEject σ).1 = hs1 at hX1 hC1 hD1
            have hte : (spEject σ).2 = σ := by rw [hsp]
            have hr1 : (spEject σ).1 = 0 := by rw [hsp]
            rw [hr1]
            generalize (spEject σ).2 = τ at hX1 hV1 hC1 hte
            have hI1 := hV1.1
            have hz1 := FrR.size hR1 hP.2
            have hx1 : nx τ = nx σ := by rw [hte]
            have hve : spValid τ = sv := by rw [hte]; exact hsv
            refine lv_iload E.1 E.2.1 dL_acts_424 (lv_at hl 3 rfl) ?_
            refine r_if_ge (tgt := 433) E dL_acts_426 (by decide) (by omega) (fun c426 => absurd c426 (by omega)) (fun c426 => ?_)
            refine r_const E dL_acts_429 ?_
            refine lv_goto (tgt := 434) E.1 E.2.1 dL_acts_430 (by decide) ?_
            refine r_icmp_ne (tgt := 475) E dL_acts_434 (by decide) (by omega) (by omega) (fun c434 => absurd c434 (by omega)) (fun c434 => ?_)
            refine lv_iload E.1 E.2.1 dL_acts_437 (lv_at hl 3 rfl) ?_
            refine r_if_lt (tgt := 453) E dL_acts_439 (by decide) (by omega) (fun c439 => ?_) (fun c439 => absurd c439 (by omega))
            refine lv_aload_n E.1 E.2.1 dL_acts_453 rfl (lv_at hl 5 rfl) ?_
            refine kVRE (As := []) E cw_L_13 (c_X5_next G l x fb fl1 τ hs1 tx len hI1 hT hfx hgx  ) hX1.1 ⟨_, _, rfl⟩ hX1 hL hl.1 rfl rfl (Nat.le_of_ble_eq_true rfl) ⟨Nat.le_of_ble_eq_true rfl, Nat.le_of_ble_eq_true rfl⟩ ⟨rfl, rfl⟩ ⟨Nat.le_of_ble_eq_true rfl, Nat.le_of_ble_eq_true rfl⟩ dL_acts_454 (fun locs hL => ?_)
            refine lv_iload E.1 E.2.1 dL_acts_457 (lv_at hl 1 rfl) ?_
            refine r_icmp_ne (tgt := 475) E dL_acts_459 (by decide) (by omega) (by omega) (fun c459 => absurd c459 (by omega)) (fun c459 => ?_)
            refine lv_aload_n E.1 E.2.1 dL_acts_462 rfl (lv_at hl 5 rfl) ?_
            refine kVRE (As := []) E cw_L_55 (c_X5_valid G l x fb fl1 τ hs1 tx len hI1 hT hfx hgx  ) hX1.1 ⟨_, _, rfl⟩ hX1 hL hl.1 rfl rfl (Nat.le_of_ble_eq_true rfl) ⟨Nat.le_of_ble_eq_true rfl, Nat.le_of_ble_eq_true rfl⟩ ⟨rfl, rfl⟩ ⟨Nat.le_of_ble_eq_true rfl, Nat.le_of_ble_eq_true rfl⟩ dL_acts_463 (fun locs hL => ?_)
            rw [hve]
            refine lv_iload E.1 E.2.1 dL_acts_466 (lv_at hl 0 rfl) ?_
            refine r_icmp_ne (tgt := 475) E dL_acts_468 (by decide) (by omega) (by omega) (fun c468 => absurd c468 (by omega)) (fun c468 => ?_)
            refine r_const E dL_acts_471 ?_
            refine lv_goto (tgt := 476) E.1 E.2.1 dL_acts_472 (by decide) ?_
            refine W.widen (k := 80) (n := 240) (Nat.le_of_ble_eq_true rfl) (Nat.le_of_ble_eq_true rfl) ?_
            refine e_zret (rm := ({ frames := 8, cells := 80, slots := 240, locals := 189 } : Room)) (v := iI (1)) E hL rfl dL_acts_476 ?_
            exact ⟨rfl, _, _, _, _, hV1, hD1, hT, fun _ => hC1, ⟨_, hE1, hX1⟩, hR1⟩
        · refine lv_iload E.1 E.2.1 dL_acts_314 (lv_at hl 3 rfl) ?_
          refine r_if_ge (tgt := 323) E dL_acts_316 (by decide) (by omega) (fun c316 => absurd c316 (by omega)) (fun c316 => ?_)
          refine r_const E dL_acts_319 ?_
          refine lv_goto (tgt := 330) E.1 E.2.1 dL_acts_320 (by decide) ?_
          refine lv_istore (lv' := [(8, .int (iI (0))), (7, .int (iI (sv))), (6, .int (iI ((nx σ : Int)))), (5, .int (iI ((mn σ : Int)))), (4, .int (iI ((-6)))), (3, .int (iI (w1))), (0, .ref (x)), (1, .int (v1)), (2, .int (v2))]) E.1 E.2.1 dL_acts_330 hl (by decide) rfl (fun ls hl => ?_)
          have hsp : (spClose σ) = (-5, σ) := cl_e hop
          refine lv_aload_n E.1 E.2.1 dL_acts_332 rfl (lv_at hl 6 rfl) ?_
          refine kVWE (As := []) E cw_L_134 (c_X5_close G l x fb fl σ hs tx len hI hT hfx hgx  ) hP.1.1 ⟨_, _, rfl⟩ ⟨hP.1, hP.2⟩ hL hl.1 rfl rfl (Nat.le_of_ble_eq_true rfl) ⟨Nat.le_of_ble_eq_true rfl, Nat.le_of_ble_eq_true rfl⟩ ⟨Nat.le_of_ble_eq_true rfl, Nat.le_of_ble_eq_true rfl⟩ dL_acts_333 (fun H2 locs hL hw_ => ?_)
          obtain ⟨⟨fl1, hE1, hX1⟩, hR1⟩ := hw_
          have hV1 : VS (spClose σ).2 := hS.close
          have hC1 : AC σ hs (spClose σ).2 (hsA σ hs (spClose σ).1) := ac_of (spClose_b hI).2.2
          have hD1 : VH (hsA σ hs (spClose σ).1) := VH.hs1 hS hH
          generalize hsA σ hs (spClose σ).1 = hs1 at hX1 hC1 hD1
          have hte : (spClose σ).2 = σ := by rw [hsp]
          have hr1 : (spClose σ).1 = (-5) := by rw [hsp]
          rw [hr1]
          generalize (spClose σ).2 = τ at hX1 hV1 hC1 hte
          have hI1 := hV1.1
          have hz1 := FrR.size hR1 hP.2
          refine lv_istore (lv' := [(9, .int (iI ((-5)))), (8, .int (iI (0))), (7, .int (iI (sv))), (6, .int (iI ((nx σ : Int)))), (5, .int (iI ((mn σ : Int)))), (4, .int (iI ((-6)))), (3, .int (iI (w1))), (0, .ref (x)), (1, .int (v1)), (2, .int (v2))]) E.1 E.2.1 dL_acts_336 hl (by decide) rfl (fun ls hl => ?_)
          refine lv_iload E.1 E.2.1 dL_acts_338 (lv_at hl 0 rfl) ?_
          refine lv_iload E.1 E.2.1 dL_acts_340 (lv_at hl 5 rfl) ?_
          refine r_if_ge (tgt := 350) E dL_acts_342 (by decide) (by omega) (fun c342 => absurd c342 (by omega)) (fun c342 => ?_)
          refine r_bipush E dL_acts_345 (by decide) ?_
          refine lv_goto (tgt := 355) E.1 E.2.1 dL_acts_347 (by decide) ?_
          refine r_icmp_ne (tgt := 412) E dL_acts_355 (by decide) (by omega) (by omega) (fun c355 => absurd c355 (by omega)) (fun c355 => ?_)
          refine lv_iload E.1 E.2.1 dL_acts_358 (lv_at hl 5 rfl) ?_
          refine r_if_lt (tgt := 408) E dL_acts_360 (by decide) (by omega) (fun c360 => ?_) (fun c360 => absurd c360 (by omega))
          refine r_const E dL_acts_408 ?_
          refine lv_goto (tgt := 413) E.1 E.2.1 dL_acts_409 (by decide) ?_
          refine W.widen (k := 80) (n := 240) (Nat.le_of_ble_eq_true rfl) (Nat.le_of_ble_eq_true rfl) ?_
          refine e_zret (rm := ({ frames := 8, cells := 80, slots := 240, locals := 189 } : Room)) (v := iI (1)) E hL rfl dL_acts_413 ?_
          exact ⟨rfl, _, _, _, _, hV1, hD1, hT, fun _ => hC1, ⟨_, hE1, hX1⟩, hR1⟩
      · refine lv_aload_n E.1 E.2.1 dL_acts_281 rfl (lv_at hl 5 rfl) ?_
        refine lv_iload_n E.1 E.2.1 dL_acts_282 rfl (lv_at hl 4 rfl) ?_
        refine r_bipush E dL_acts_283 (by decide) ?_
        refine r_icmp_ge (tgt := 292) E dL_acts_285 (by decide) (by omega) (by omega) (fun c285 => ?_) (fun c285 => ?_)
        · refine lv_iload_n E.1 E.2.1 dL_acts_292 rfl (lv_at hl 4 rfl) ?_
          refine r_bipush E dL_acts_293 (by decide) ?_
          refine r_icmp_ge (tgt := 302) E dL_acts_295 (by decide) (by omega) (by omega) (fun c295 => ?_) (fun c295 => ?_)
          · refine r_const E dL_acts_302 ?_
            refine lv_iload_n E.1 E.2.1 dL_acts_303 rfl (lv_at hl 7 rfl) ?_
            refine kSWE (As := [.ref (x), .int (iI (2)), .int (v2)]) E cw_L_131 (c_L_files G l x fb fl σ hs tx len hS hH hT hfx hgx (2) (by omega) v2) ⟨hP.1, hP.2⟩ hL hl.1 rfl rfl (Nat.le_of_ble_eq_true rfl) ⟨Nat.le_of_ble_eq_true rfl, Nat.le_of_ble_eq_true rfl⟩ ⟨Nat.le_of_ble_eq_true rfl, Nat.le_of_ble_eq_true rfl⟩ dL_acts_304 (fun H2 locs hL hw_ => ?_)
            obtain ⟨τ, hs1, tx1, len1, hV1, hD1, hT1, hC1, ⟨fl1, hE1, hX1⟩, hR1⟩ := hw_
            refine W.widen (k := 80) (n := 240) (Nat.le_of_ble_eq_true rfl) (Nat.le_of_ble_eq_true rfl) ?_
            refine e_zret (rm := ({ frames := 8, cells := 80, slots := 240, locals := 189 } : Room)) (v := iI (1)) E hL rfl dL_acts_307 ?_
            exact ⟨rfl, _, _, _, _, hV1, hD1, hT1, fun _ => hC1, ⟨_, hE1, hX1⟩, hR1⟩
          · refine r_const E dL_acts_298 ?_
            refine lv_goto (tgt := 303) E.1 E.2.1 dL_acts_299 (by decide) ?_
            refine lv_iload_n E.1 E.2.1 dL_acts_303 rfl (lv_at hl 7 rfl) ?_
            refine kSWE (As := [.ref (x), .int (iI (1)), .int (v2)]) E cw_L_131 (c_L_files G l x fb fl σ hs tx len hS hH hT hfx hgx (1) (by omega) v2) ⟨hP.1, hP.2⟩ hL hl.1 rfl rfl (Nat.le_of_ble_eq_true rfl) ⟨Nat.le_of_ble_eq_true rfl, Nat.le_of_ble_eq_true rfl⟩ ⟨Nat.le_of_ble_eq_true rfl, Nat.le_of_ble_eq_true rfl⟩ dL_acts_304 (fun H2 locs hL hw_ => ?_)
            obtain ⟨τ, hs1, tx1, len1, hV1, hD1, hT1, hC1, ⟨fl1, hE1, hX1⟩, hR1⟩ := hw_
            refine W.widen (k := 80) (n := 240) (Nat.le_of_ble_eq_true rfl) (Nat.le_of_ble_eq_true rfl) ?_
            refine e_zret (rm := ({ frames := 8, cells := 80, slots := 240, locals := 189 } : Room)) (v := iI (1)) E hL rfl dL_acts_307 ?_
            exact ⟨rfl, _, _, _, _, hV1, hD1, hT1, fun _ => hC1, ⟨_, hE1, hX1⟩, hR1⟩
        · refine r_const E dL_acts_288 ?_
          refine lv_goto (tgt := 303) E.1 E.2.1 dL_acts_289 (by decide) ?_
          refine lv_iload_n E.1 E.2.1 dL_acts_303 rfl (lv_at hl 7 rfl) ?_
          refine kSWE (As := [.ref (x), .int (iI (0)), .int (v2)]) E cw_L_131 (c_L_files G l x fb fl σ hs tx len hS hH hT hfx hgx (0) (by omega) v2) ⟨hP.1, hP.2⟩ hL hl.1 rfl rfl (Nat.le_of_ble_eq_true rfl) ⟨Nat.le_of_ble_eq_true rfl, Nat.le_of_ble_eq_true rfl⟩ ⟨Nat.le_of_ble_eq_true rfl, Nat.le_of_ble_eq_true rfl⟩ dL_acts_304 (fun H2 locs hL hw_ => ?_)
          obtain ⟨τ, hs1, tx1, len1, hV1, hD1, hT1, hC1, ⟨fl1, hE1, hX1⟩, hR1⟩ := hw_
          refine W.widen (k := 80) (n := 240) (Nat.le_of_ble_eq_true rfl) (Nat.le_of_ble_eq_true rfl) ?_
          refine e_zret (rm := ({ frames := 8, cells := 80, slots := 240, locals := 189 } : Room)) (v := iI (1)) E hL rfl dL_acts_307 ?_
          exact ⟨rfl, _, _, _, _, hV1, hD1, hT1, fun _ => hC1, ⟨_, hE1, hX1⟩, hR1⟩
    · refine lv_iload_n E.1 E.2.1 dL_acts_36 rfl (lv_at hl 7 rfl) ?_
      have J54_1 : ∀ (v54 : Int) (hv54 : v54 = 3 ∨ v54 = 2) (ls : Array Slot) (locs : List Loc) (hl : lv_has ls 12 [(7, .int (iI (sv))), (6, .int (iI ((nx σ : Int)))), (5, .int (iI ((mn σ : Int)))), (4, .int (iI ((-6)))), (3, .int (iI (w1))), (0, .ref (x)), (1, .int (v1)), (2, .int (v2))]) (hL : Lk G locs), W p l e ({ frames := 8, cells := 80, slots := 240, locals := 189 } : Room) s m args below meth c s.heap locs 0 0 (QQ G below args s ({ frames := 8, cells := 80, slots := 240, locals := 189 } : Room) (WE (iI 1) (fun H H1 => ∃ τ hs1 tx1 len1, VS τ ∧ VH hs1 ∧ TxOk tx1 len1 ∧ (lowI v1 30 ≤ 26 → AC σ hs τ hs1) ∧ XP G x fb fl τ hs1 tx1 len1 H H1))) (F0 m 54 ls [.int (iI (v54)), .int (v2)]) := by
        intro v54 hv54 ls locs hl hL
        obtain ⟨w3, hw3⟩ : ∃ z : Int, lowI (v2) (v54) = z := ⟨_, rfl⟩
        have hw3b : 0 ≤ w3 ∧ w3 < (v54) := by rw [← hw3]; exact low_b _ (by omega)
        have hw3c := c_L_low G l (v2) (v54) (by omega)
        rw [hw3] at hw3c
        refine kSRE (As := [.int (v2), .int (iI (v54))]) E cw_L_72 hw3c trivial hL hl.1 rfl rfl (Nat.le_of_ble_eq_true rfl) ⟨Nat.le_of_ble_eq_true rfl, Nat.le_of_ble_eq_true rfl⟩ ⟨rfl, rfl⟩ ⟨Nat.le_of_ble_eq_true rfl, Nat.le_of_ble_eq_true rfl⟩ dL_acts_54 (fun locs hL => ?_)
        refine lv_istore (lv' := [(8, .int (iI (w3))), (7, .int (iI (sv))), (6, .int (iI ((nx σ : Int)))), (5, .int (iI ((mn σ : Int)))), (4, .int (iI ((-6)))), (3, .int (iI (w1))), (0, .ref (x)), (1, .int (v1)), (2, .int (v2))]) E.1 E.2.1 dL_acts_57 hl (by decide) rfl (fun ls hl => ?_)
        have J91_3 : ∀ (v91 : Int) (hv91 : (v91 = 1 ∧ ¬ (12 ≤ mn σ ∨ 240 < nx σ + s0 σ + s1 σ)) ∨ (v91 = 0 ∧ (12 ≤ mn σ ∨ 240 < nx σ + s0 σ + s1 σ))) (ls : Array Slot) (locs : List Loc) (hl : lv_has ls 12 [(8, .int (iI (w3))), (7, .int (iI (sv))), (6, .int (iI ((nx σ : Int)))), (5, .int (iI ((mn σ : Int)))), (4, .int (iI ((-6)))), (3, .int (iI (w1))), (0, .ref (x)), (1, .int (v1)), (2, .int (v2))]) (hL : Lk G locs), W p l e ({ frames := 8, cells := 80, slots := 240, locals := 189 } : Room) s m args below meth c s.heap locs 0 0 (QQ G below args s ({ frames := 8, cells := 80, slots := 240, locals := 189 } : Room) (WE (iI 1) (fun H H1 => ∃ τ hs1 tx1 len1, VS τ ∧ VH hs1 ∧ TxOk tx1 len1 ∧ (lowI v1 30 ≤ 26 → AC σ hs τ hs1) ∧ XP G x fb fl τ hs1 tx1 len1 H H1))) (F0 m 91 ls [.int (iI (v91))]) := by
          intro v91 hv91 ls locs hl hL
          refine lv_istore (lv' := [(9, .int (iI (v91))), (8, .int (iI (w3))), (7, .int (iI (sv))), (6, .int (iI ((nx σ : Int)))), (5, .int (iI ((mn σ : Int)))), (4, .int (iI ((-6)))), (3, .int (iI (w1))), (0, .ref (x)), (1, .int (v1)), (2, .int (v2))]) E.1 E.2.1 dL_acts_91 hl (by decide) rfl (fun ls hl => ?_)
          rcases hvd : validD σ (dm σ) with _ | v9
          · have hs9 : sv = -6 := by rw [← hsv2, hvd]; rfl
            refine lv_iload E.1 E.2.1 dL_acts_93 (lv_at hl 1 rfl) ?_
            refine r_const E dL_acts_95 ?_
            refine r_icmp_ne (tgt := 116) E dL_acts_96 (by decide) (by omega) (by omega) (fun c96 => ?_) (fun c96 => ?_)
            · refine r_const E dL_acts_116 ?_
              refine lv_istore (lv' := [(10, .int (iI (0))), (9, .int (iI (v91))), (8, .int (iI (w3))), (7, .int (iI (sv))), (6, .int (iI ((nx σ : Int)))), (5, .int (iI ((mn σ : Int)))), (4, .int (iI ((-6)))), (3, .int (iI (w1))), (0, .ref (x)), (1, .int (v1)), (2, .int (v2))]) E.1 E.2.1 dL_acts_117 hl (by decide) rfl (fun ls hl => ?_)
              rcases (show w3 = 2 ∨ (0 ≤ w3 ∧ w3 ≤ 1) by omega) with hm2 | hm2
              · have hsp : (spBegin σ w3) = (-2, σ) := bg_e1 hm2
                refine lv_aload_n E.1 E.2.1 dL_acts_119 rfl (lv_at hl 8 rfl) ?_
                refine lv_iload E.1 E.2.1 dL_acts_120 (lv_at hl 2 rfl) ?_
                refine kVWE (As := [.int (iI (w3))]) E cw_L_128 (c_X5_begin G l x fb fl σ hs tx len hI hT hfx hgx (w3) (by unfold okI; omega)) hP.1.1 ⟨_, _, rfl⟩ ⟨hP.1, hP.2⟩ hL hl.1 rfl rfl (Nat.le_of_ble_eq_true rfl) ⟨Nat.le_of_ble_eq_true rfl, Nat.le_of_ble_eq_true rfl⟩ ⟨Nat.le_of_ble_eq_true rfl, Nat.le_of_ble_eq_true rfl⟩ dL_acts_122 (fun H5 locs hL hw_ => ?_)
                obtain ⟨⟨fl1, hE1, hX1⟩, hR1⟩ := hw_
                have hV1 : VS (spBegin σ (w3)).2 := hS.begin (w3)
                have hC1 : AC σ hs (spBegin σ (w3)).2 (hsA σ hs (spBegin σ (w3)).1) := ac_of (spBegin_b hI (w3)).2.2
                have hD1 : VH (hsA σ hs (spBegin σ (w3)).1) := VH.hs1 hS hH
                generalize hsA σ hs (spBegin σ (w3)).1 = hs1 at hX1 hC1 hD1
                have hte : (spBegin σ w3).2 = σ := by rw [hsp]
                have hr1 : (spBegin σ (w3)).1 = (-2) := by rw [hsp]
                rw [hr1]
                generalize (spBegin σ (w3)).2 = τ at hX1 hV1 hC1 hte
                have hI1 := hV1.1
                have hz1 := FrR.size hR1 hP.2
                refine lv_istore (lv' := [(11, .int (iI ((-2)))), (10, .int (iI (0))), (9, .int (iI (v91))), (8, .int (iI (w3))), (7, .int (iI (sv))), (6, .int (iI ((nx σ : Int)))), (5, .int (iI ((mn σ : Int)))), (4, .int (iI ((-6)))), (3, .int (iI (w1))), (0, .ref (x)), (1, .int (v1)), (2, .int (v2))]) E.1 E.2.1 dL_acts_125 hl (by decide) rfl (fun ls hl => ?_)
                refine lv_iload E.1 E.2.1 dL_acts_127 (lv_at hl 0 rfl) ?_
                refine lv_iload E.1 E.2.1 dL_acts_129 (lv_at hl 3 rfl) ?_
                refine r_const E dL_acts_131 ?_
                refine r_icmp_ne (tgt := 140) E dL_acts_132 (by decide) (by omega) (by omega) (fun c132 => absurd c132 (by omega)) (fun c132 => ?_)
                refine r_bipush E dL_acts_135 (by decide) ?_
                refine lv_goto (tgt := 162) E.1 E.2.1 dL_acts_137 (by decide) ?_
                refine r_icmp_ne (tgt := 273) E dL_acts_162 (by decide) (by omega) (by omega) (fun c162 => absurd c162 (by omega)) (fun c162 => ?_)
                refine lv_iload E.1 E.2.1 dL_acts_165 (lv_at hl 0 rfl) ?_
                refine r_if_lt (tgt := 269) E dL_acts_167 (by decide) (by omega) (fun c167 => ?_) (fun c167 => absurd c167 (by omega))
                refine r_const E dL_acts_269 ?_
                refine lv_goto (tgt := 274) E.1 E.2.1 dL_acts_270 (by decide) ?_
                refine W.widen (k := 80) (n := 240) (Nat.le_of_ble_eq_true rfl) (Nat.le_of_ble_eq_true rfl) ?_
                refine e_zret (rm := ({ frames := 8, cells := 80, slots := 240, locals := 189 } : Room)) (v := iI (1)) E hL rfl dL_acts_274 ?_
                exact ⟨rfl, _, _, _, _, hV1, hD1, hT, fun _ => hC1, ⟨_, hE1, hX1⟩, hR1⟩
              · rcases hv91 with ⟨hf1, hf2⟩ | ⟨hf1, hf2⟩
                · refine lv_aload_n E.1 E.2.1 dL_acts_119 rfl (lv_at hl 8 rfl) ?_
                  refine lv_iload E.1 E.2.1 dL_acts_120 (lv_at hl 2 rfl) ?_
                  refine kVWE (As := [.int (iI (w3))]) E cw_L_128 (c_X5_begin G l x fb fl σ hs tx len hI hT hfx hgx (w3) (by unfold okI; omega)) hP.1.1 ⟨_, _, rfl⟩ ⟨hP.1, hP.2⟩ hL hl.1 rfl rfl (Nat.le_of_ble_eq_true rfl) ⟨Nat.le_of_ble_eq_true rfl, Nat.le_of_ble_eq_true rfl⟩ ⟨Nat.le_of_ble_eq_true rfl, Nat.le_of_ble_eq_true rfl⟩ dL_acts_122 (fun H5 locs hL hw_ => ?_)
                  obtain ⟨⟨fl1, hE1, hX1⟩, hR1⟩ := hw_
                  have hV1 : VS (spBegin σ (w3)).2 := hS.begin (w3)
                  have hC1 : AC σ hs (spBegin σ (w3)).2 (hsA σ hs (spBegin σ (w3)).1) := ac_of (spBegin_b hI (w3)).2.2
                  have hD1 : VH (hsA σ hs (spBegin σ (w3)).1) := VH.hs1 hS hH
                  generalize hsA σ hs (spBegin σ (w3)).1 = hs1 at hX1 hC1 hD1
                  have hok := bg_ok hm2 hop hf2
                  have hm1 := hok.2.1
                  have hg0 : s0 (spBegin σ w3).2 = s0 σ := hok.2.2.1.1
                  have hg1 : s1 (spBegin σ w3).2 = s1 σ := hok.2.2.1.2
                  have hq0 := hok.2.2.2.1.1
                  have hq1 := hok.2.2.2.1.2.1
                  have hq2 := hok.2.2.2.1.2.2.1
                  have hq3 := hok.2.2.2.1.2.2.2.1
                  have hq4 := hok.2.2.2.1.2.2.2.2.1
                  have hq5 := hok.2.2.2.1.2.2.2.2.2
                  have hqe : entriesN (spBegin σ w3).2 (mn σ) = 0 := hok.2.2.2.2.1 (by omega)
                  have hqv := hok.2.2.2.2.2.2.2
                  have hr1 : (spBegin σ (w3)).1 = (mn σ : Int) := hok.1
                  rw [hr1]
                  generalize (spBegin σ (w3)).2 = τ at hX1 hV1 hC1 hm1 hg0 hg1 hq0 hq1 hq2 hq3 hq4 hq5 hqe hqv
                  have hI1 := hV1.1
                  have hz1 := FrR.size hR1 hP.2
                  refine lv_istore (lv' := [(11, .int (iI ((mn σ : Int)))), (10, .int (iI (0))), (9, .int (iI (v91))), (8, .int (iI (w3))), (7, .int (iI (sv))), (6, .int (iI ((nx σ : Int)))), (5, .int (iI ((mn σ : Int)))), (4, .int (iI ((-6)))), (3, .int (iI (w1))), (0, .ref (x)), (1, .int (v1)), (2, .int (v2))]) E.1 E.2.1 dL_acts_125 hl (by decide) rfl (fun ls hl => ?_)
                  have hm12 := hI1.mn12
                  refine lv_iload E.1 E.2.1 dL_acts_127 (lv_at hl 0 rfl) ?_
                  refine lv_iload E.1 E.2.1 dL_acts_129 (lv_at hl 3 rfl) ?_
                  refine r_const E dL_acts_131 ?_
                  refine r_icmp_ne (tgt := 140) E dL_acts_132 (by decide) (by omega) (by omega) (fun c132 => ?_) (fun c132 => absurd c132 (by omega))
                  refine lv_iload E.1 E.2.1 dL_acts_140 (lv_at hl 7 rfl) ?_
                  refine r_if_lt (tgt := 150) E dL_acts_142 (by decide) (by omega) (fun c142 => ?_) (fun c142 => absurd c142 (by omega))
                  refine lv_iload E.1 E.2.1 dL_acts_150 (lv_at hl 2 rfl) ?_
                  refine r_if_ne (tgt := 160) E dL_acts_152 (by decide) (by omega) (fun c152 => ?_) (fun c152 => absurd c152 (by omega))
                  refine lv_iload E.1 E.2.1 dL_acts_160 (lv_at hl 6 rfl) ?_
                  refine r_icmp_ne (tgt := 273) E dL_acts_162 (by decide) (by omega) (by omega) (fun c162 => absurd c162 (by omega)) (fun c162 => ?_)
                  refine lv_iload E.1 E.2.1 dL_acts_165 (lv_at hl 0 rfl) ?_
                  refine r_if_lt (tgt := 269) E dL_acts_167 (by decide) (by omega) (fun c167 => absurd c167 (by omega)) (fun c167 => ?_)
                  refine lv_aload_n E.1 E.2.1 dL_acts_170 rfl (lv_at hl 9 rfl) ?_
                  refine lv_iload E.1 E.2.1 dL_acts_171 (lv_at hl 0 rfl) ?_
                  refine r_const E dL_acts_173 ?_
                  refine kVRE (As := [.int (iI ((mn σ : Int))), .int (iI (0))]) E cw_L_29 (c_X5_session G l x fb fl1 τ hs1 tx len hI1 hT hfx hgx ((mn σ : Int)) (0) (by unfold okI; omega) (by unfold okI; omega)) hX1.1 ⟨_, _, rfl⟩ hX1 hL hl.1 rfl rfl (Nat.le_of_ble_eq_true rfl) ⟨Nat.le_of_ble_eq_true rfl, Nat.le_of_ble_eq_true rfl⟩ ⟨rfl, rfl⟩ ⟨Nat.le_of_ble_eq_true rfl, Nat.le_of_ble_eq_true rfl⟩ dL_acts_174 (fun locs hL => ?_)
                  rw [spSes0 (by omega)]
                  refine r_if_ne (tgt := 273) E dL_acts_177 (by decide) (by omega) (fun c177 => absurd c177 (by omega)) (fun c177 => ?_)
                  refine lv_aload_n E.1 E.2.1 dL_acts_180 rfl (lv_at hl 9 rfl) ?_
                  refine lv_iload E.1 E.2.1 dL_acts_181 (lv_at hl 0 rfl) ?_
                  refine r_const E dL_acts_183 ?_
                  refine kVRE (As := [.int (iI ((mn σ : Int))), .int (iI (1))]) E cw_L_29 (c_X5_session G l x fb fl1 τ hs1 tx len hI1 hT hfx hgx ((mn σ : Int)) (1) (by unfold okI; omega) (by unfold okI; omega)) hX1.1 ⟨_, _, rfl⟩ hX1 hL hl.1 rfl rfl (Nat.le_of_ble_eq_true rfl) ⟨Nat.le_of_ble_eq_true rfl, Nat.le_of_ble_eq_true rfl⟩ ⟨rfl, rfl⟩ ⟨Nat.le_of_ble_eq_true rfl, Nat.le_of_ble_eq_true rfl⟩ dL_acts_184 (fun locs hL => ?_)
                  rw [spSes1 (by omega)]
                  refine lv_iload E.1 E.2.1 dL_acts_187 (lv_at hl 5 rfl) ?_
                  refine r_icmp_ne (tgt := 273) E dL_acts_189 (by decide) (by omega) (by omega) (fun c189 => absurd c189 (by omega)) (fun c189 => ?_)
                  refine lv_aload_n E.1 E.2.1 dL_acts_192 rfl (lv_at hl 9 rfl) ?_
                  refine lv_iload E.1 E.2.1 dL_acts_193 (lv_at hl 0 rfl) ?_
                  refine r_const E dL_acts_195 ?_
                  refine kVRE (As := [.int (iI ((mn σ : Int))), .int (iI (2))]) E cw_L_29 (c_X5_session G l x fb fl1 τ hs1 tx len hI1 hT hfx hgx ((mn σ : Int)) (2) (by unfold okI; omega) (by unfold okI; omega)) hX1.1 ⟨_, _, rfl⟩ hX1 hL hl.1 rfl rfl (Nat.le_of_ble_eq_true rfl) ⟨Nat.le_of_ble_eq_true rfl, Nat.le_of_ble_eq_true rfl⟩ ⟨rfl, rfl⟩ ⟨Nat.le_of_ble_eq_true rfl, Nat.le_of_ble_eq_true rfl⟩ dL_acts_196 (fun locs hL => ?_)
                  rw [spSes2 (by omega)]
                  refine lv_aload_n E.1 E.2.1 dL_acts_199 rfl (lv_at hl 9 rfl) ?_
                  refine r_const E dL_acts_200 ?_
                  refine kVRE (As := [.int (iI (0))]) E cw_L_19 (c_X5_setting G l x fb fl1 τ hs1 tx len hI1 hT hfx hgx (0) (by unfold okI; omega)) hX1.1 ⟨_, _, rfl⟩ hX1 hL hl.1 rfl rfl (Nat.le_of_ble_eq_true rfl) ⟨Nat.le_of_ble_eq_true rfl, Nat.le_of_ble_eq_true rfl⟩ ⟨rfl, rfl⟩ ⟨Nat.le_of_ble_eq_true rfl, Nat.le_of_ble_eq_true rfl⟩ dL_acts_201 (fun locs hL => ?_)
                  rw [spSet_0 τ]
                  refine r_icmp_ne (tgt := 273) E dL_acts_204 (by decide) (by omega) (by omega) (fun c204 => absurd c204 (by omega)) (fun c204 => ?_)
                  refine lv_aload_n E.1 E.2.1 dL_acts_207 rfl (lv_at hl 9 rfl) ?_
                  refine lv_iload E.1 E.2.1 dL_acts_208 (lv_at hl 0 rfl) ?_
                  refine r_const E dL_acts_210 ?_
                  refine kVRE (As := [.int (iI ((mn σ : Int))), .int (iI (3))]) E cw_L_29 (c_X5_session G l x fb fl1 τ hs1 tx len hI1 hT hfx hgx ((mn σ : Int)) (3) (by unfold okI; omega) (by unfold okI; omega)) hX1.1 ⟨_, _, rfl⟩ hX1 hL hl.1 rfl rfl (Nat.le_of_ble_eq_true rfl) ⟨Nat.le_of_ble_eq_true rfl, Nat.le_of_ble_eq_true rfl⟩ ⟨rfl, rfl⟩ ⟨Nat.le_of_ble_eq_true rfl, Nat.le_of_ble_eq_true rfl⟩ dL_acts_211 (fun locs hL => ?_)
                  rw [spSes3 (by omega)]
                  refine lv_aload_n E.1 E.2.1 dL_acts_214 rfl (lv_at hl 9 rfl) ?_
                  refine r_const E dL_acts_215 ?_
                  refine kVRE (As := [.int (iI (0))]) E cw_L_19 (c_X5_setting G l x fb fl1 τ hs1 tx len hI1 hT hfx hgx (0) (by unfold okI; omega)) hX1.1 ⟨_, _, rfl⟩ hX1 hL hl.1 rfl rfl (Nat.le_of_ble_eq_true rfl) ⟨Nat.le_of_ble_eq_true rfl, Nat.le_of_ble_eq_true rfl⟩ ⟨rfl, rfl⟩ ⟨Nat.le_of_ble_eq_true rfl, Nat.le_of_ble_eq_true rfl⟩ dL_acts_216 (fun locs hL => ?_)
                  rw [spSet_0 τ]
                  refine r_icmp_ne (tgt := 273) E dL_acts_219 (by decide) (by omega) (by omega) (fun c219 => absurd c219 (by omega)) (fun c219 => ?_)
                  refine lv_aload_n E.1 E.2.1 dL_acts_222 rfl (lv_at hl 9 rfl) ?_
                  refine lv_iload E.1 E.2.1 dL_acts_223 (lv_at hl 0 rfl) ?_
                  refine r_const E dL_acts_225 ?_
                  refine kVRE (As := [.int (iI ((mn σ : Int))), .int (iI (4))]) E cw_L_29 (c_X5_session G l x fb fl1 τ hs1 tx len hI1 hT hfx hgx ((mn σ : Int)) (4) (by unfold okI; omega) (by unfold okI; omega)) hX1.1 ⟨_, _, rfl⟩ hX1 hL hl.1 rfl rfl (Nat.le_of_ble_eq_true rfl) ⟨Nat.le_of_ble_eq_true rfl, Nat.le_of_ble_eq_true rfl⟩ ⟨rfl, rfl⟩ ⟨Nat.le_of_ble_eq_true rfl, Nat.le_of_ble_eq_true rfl⟩ dL_acts_226 (fun locs hL => ?_)
                  rw [spSes4 (by omega)]
                  refine lv_aload_n E.1 E.2.1 dL_acts_229 rfl (lv_at hl 9 rfl) ?_
                  refine r_const E dL_acts_230 ?_
                  refine kVRE (As := [.int (iI (1))]) E cw_L_19 (c_X5_setting G l x fb fl1 τ hs1 tx len hI1 hT hfx hgx (1) (by unfold okI; omega)) hX1.1 ⟨_, _, rfl⟩ hX1 hL hl.1 rfl rfl (Nat.le_of_ble_eq_true rfl) ⟨Nat.le_of_ble_eq_true rfl, Nat.le_of_ble_eq_true rfl⟩ ⟨rfl, rfl⟩ ⟨Nat.le_of_ble_eq_true rfl, Nat.le_of_ble_eq_true rfl⟩ dL_acts_231 (fun locs hL => ?_)
                  rw [spSet_1 τ]
                  refine r_icmp_ne (tgt := 273) E dL_acts_234 (by decide) (by omega) (by omega) (fun c234 => absurd c234 (by omega)) (fun c234 => ?_)
                  refine lv_aload_n E.1 E.2.1 dL_acts_237 rfl (lv_at hl 9 rfl) ?_
                  refine lv_iload E.1 E.2.1 dL_acts_238 (lv_at hl 0 rfl) ?_
                  refine r_const E dL_acts_240 ?_
                  refine kVRE (As := [.int (iI ((mn σ : Int))), .int (iI (5))]) E cw_L_29 (c_X5_session G l x fb fl1 τ hs1 tx len hI1 hT hfx hgx ((mn σ : Int)) (5) (by unfold okI; omega) (by unfold okI; omega)) hX1.1 ⟨_, _, rfl⟩ hX1 hL hl.1 rfl rfl (Nat.le_of_ble_eq_true rfl) ⟨Nat.le_of_ble_eq_true rfl, Nat.le_of_ble_eq_true rfl⟩ ⟨rfl, rfl⟩ ⟨Nat.le_of_ble_eq_true rfl, Nat.le_of_ble_eq_true rfl⟩ dL_acts_241 (fun locs hL => ?_)
                  rw [spSes5 (by omega)]
                  refine lv_iload E.1 E.2.1 dL_acts_244 (lv_at hl 1 rfl) ?_
                  refine r_icmp_ne (tgt := 273) E dL_acts_246 (by decide) (by omega) (by omega) (fun c246 => absurd c246 (by omega)) (fun c246 => ?_)
                  refine lv_aload_n E.1 E.2.1 dL_acts_249 rfl (lv_at hl 9 rfl) ?_
                  refine lv_iload E.1 E.2.1 dL_acts_250 (lv_at hl 0 rfl) ?_
                  refine r_bipush E dL_acts_252 (by decide) ?_
                  refine kVRE (As := [.int (iI ((mn σ : Int))), .int (iI (7))]) E cw_L_29 (c_X5_session G l x fb fl1 τ hs1 tx len hI1 hT hfx hgx ((mn σ : Int)) (7) (by unfold okI; omega) (by unfold okI; omega)) hX1.1 ⟨_, _, rfl⟩ hX1 hL hl.1 rfl rfl (Nat.le_of_ble_eq_true rfl) ⟨Nat.le_of_ble_eq_true rfl, Nat.le_of_ble_eq_true rfl⟩ ⟨rfl, rfl⟩ ⟨Nat.le_of_ble_eq_true rfl, Nat.le_of_ble_eq_true rfl⟩ dL_acts_254 (fun locs hL => ?_)
                  rw [spSes7 (by omega)]
                  refine r_if_ne (tgt := 273) E dL_acts_257 (by decide) (by omega) (fun c257 => absurd c257 (by omega)) (fun c257 => ?_)
                  refine lv_aload_n E.1 E.2.1 dL_acts_260 rfl (lv_at hl 9 rfl) ?_
                  refine kVRE (As := []) E cw_L_55 (c_X5_valid G l x fb fl1 τ hs1 tx len hI1 hT hfx hgx  ) hX1.1 ⟨_, _, rfl⟩ hX1 hL hl.1 rfl rfl (Nat.le_of_ble_eq_true rfl) ⟨Nat.le_of_ble_eq_true rfl, Nat.le_of_ble_eq_true rfl⟩ ⟨rfl, rfl⟩ ⟨Nat.le_of_ble_eq_true rfl, Nat.le_of_ble_eq_true rfl⟩ dL_acts_261 (fun locs hL => ?_)
                  rw [hqv, hsv]
                  refine lv_iload E.1 E.2.1 dL_acts_264 (lv_at hl 4 rfl) ?_
                  refine r_icmp_ne (tgt := 273) E dL_acts_266 (by decide) (by omega) (by omega) (fun c266 => absurd c266 (by omega)) (fun c266 => ?_)
                  refine r_const E dL_acts_269 ?_
                  refine lv_goto (tgt := 274) E.1 E.2.1 dL_acts_270 (by decide) ?_
                  refine W.widen (k := 80) (n := 240) (Nat.le_of_ble_eq_true rfl) (Nat.le_of_ble_eq_true rfl) ?_
                  refine e_zret (rm := ({ frames := 8, cells := 80, slots := 240, locals := 189 } : Room)) (v := iI (1)) E hL rfl dL_acts_274 ?_
                  exact ⟨rfl, _, _, _, _, hV1, hD1, hT, fun _ => hC1, ⟨_, hE1, hX1⟩, hR1⟩
                · have hsp : (spBegin σ w3) = (-4, σ) := bg_e3 hm2 hop hf2
                  refine lv_aload_n E.1 E.2.1 dL_acts_119 rfl (lv_at hl 8 rfl) ?_
                  refine lv_iload E.1 E.2.1 dL_acts_120 (lv_at hl 2 rfl) ?_
                  refine kVWE (As := [.int (iI (w3))]) E cw_L_128 (c_X5_begin G l x fb fl σ hs tx len hI hT hfx hgx (w3) (by unfold okI; omega)) hP.1.1 ⟨_, _, rfl⟩ ⟨hP.1, hP.2⟩ hL hl.1 rfl rfl (Nat.le_of_ble_eq_true rfl) ⟨Nat.le_of_ble_eq_true rfl, Nat.le_of_ble_eq_true rfl⟩ ⟨Nat.le_of_ble_eq_true rfl, Nat.le_of_ble_eq_true rfl⟩ dL_acts_122 (fun H5 locs hL hw_ => ?_)
                  obtain ⟨⟨fl1, hE1, hX1⟩, hR1⟩ := hw_
                  have hV1 : VS (spBegin σ (w3)).2 := hS.begin (w3)
                  have hC1 : AC σ hs (spBegin σ (w3)).2 (hsA σ hs (spBegin σ (w3)).1) := ac_of (spBegin_b hI (w3)).2.2
                  have hD1 : VH (hsA σ hs (spBegin σ (w3)).1) := VH.hs1 hS hH
                  generalize hsA σ hs (spBegin σ (w3)).1 = hs1 at hX1 hC1 hD1
                  have hte : (spBegin σ w3).2 = σ := by rw [hsp]
                  have hr1 : (spBegin σ (w3)).1 = (-4) := by rw [hsp]
                  rw [hr1]
                  generalize (spBegin σ (w3)).2 = τ at hX1 hV1 hC1 hte
                  have hI1 := hV1.1
                  have hz1 := FrR.size hR1 hP.2
                  refine lv_istore (lv' := [(11, .int (iI ((-4)))), (10, .int (iI (0))), (9, .int (iI (v91))), (8, .int (iI (w3))), (7, .int (iI (sv))), (6, .int (iI ((nx σ : Int)))), (5, .int (iI ((mn σ : Int)))), (4, .int (iI ((-6)))), (3, .int (iI (w1))), (0, .ref (x)), (1, .int (v1)), (2, .int (v2))]) E.1 E.2.1 dL_acts_125 hl (by decide) rfl (fun ls hl => ?_)
                  refine lv_iload E.1 E.2.1 dL_acts_127 (lv_at hl 0 rfl) ?_
                  refine lv_iload E.1 E.2.1 dL_acts_129 (lv_at hl 3 rfl) ?_
                  refine r_const E dL_acts_131 ?_
                  refine r_icmp_ne (tgt := 140) E dL_acts_132 (by decide) (by omega) (by omega) (fun c132 => ?_) (fun c132 => absurd c132 (by omega))
                  refine lv_iload E.1 E.2.1 dL_acts_140 (lv_at hl 7 rfl) ?_
                  refine r_if_lt (tgt := 150) E dL_acts_142 (by decide) (by omega) (fun c142 => ?_) (fun c142 => absurd c142 (by omega))
                  refine lv_iload E.1 E.2.1 dL_acts_150 (lv_at hl 2 rfl) ?_
                  refine r_if_ne (tgt := 160) E dL_acts_152 (by decide) (by omega) (fun c152 => absurd c152 (by omega)) (fun c152 => ?_)
                  refine r_bipush E dL_acts_155 (by decide) ?_
                  refine lv_goto (tgt := 162) E.1 E.2.1 dL_acts_157 (by decide) ?_
                  refine r_icmp_ne (tgt := 273) E dL_acts_162 (by decide) (by omega) (by omega) (fun c162 => absurd c162 (by omega)) (fun c162 => ?_)
                  refine lv_iload E.1 E.2.1 dL_acts_165 (lv_at hl 0 rfl) ?_
                  refine r_if_lt (tgt := 269) E dL_acts_167 (by decide) (by omega) (fun c167 => ?_) (fun c167 => absurd c167 (by omega))
                  refine r_const E dL_acts_269 ?_
                  refine lv_goto (tgt := 274) E.1 E.2.1 dL_acts_270 (by decide) ?_
                  refine W.widen (k := 80) (n := 240) (Nat.le_of_ble_eq_true rfl) (Nat.le_of_ble_eq_true rfl) ?_
                  refine e_zret (rm := ({ frames := 8, cells := 80, slots := 240, locals := 189 } : Room)) (v := iI (1)) E hL rfl dL_acts_274 ?_
                  exact ⟨rfl, _, _, _, _, hV1, hD1, hT, fun _ => hC1, ⟨_, hE1, hX1⟩, hR1⟩
            · refine lv_iload E.1 E.2.1 dL_acts_99 (lv_at hl 2 rfl) ?_
              refine r_bipush E dL_acts_101 (by decide) ?_
              refine r_icmp_eq (tgt := 116) E dL_acts_103 (by decide) (by omega) (by omega) (fun c103 => ?_) (fun c103 => absurd c103 (by omega))
              refine r_const E dL_acts_116 ?_
              refine lv_istore (lv' := [(10, .int (iI (0))), (9, .int (iI (v91))), (8, .int (iI (w3))), (7, .int (iI (sv))), (6, .int (iI ((nx σ : Int)))), (5, .int (iI ((mn σ : Int)))), (4, .int (iI ((-6)))), (3, .int (iI (w1))), (0, .ref (x)), (1, .int (v1)), (2, .int (v2))]) E.1 E.2.1 dL_acts_117 hl (by decide) rfl (fun ls hl => ?_)
              rcases (show w3 = 2 ∨ (0 ≤ w3 ∧ w3 ≤ 1) by omega) with hm2 | hm2
              · have hsp : (spBegin σ w3) = (-2, σ) := bg_e1 hm2
                refine lv_aload_n E.1 E.2.1 dL_acts_119 rfl (lv_at hl 8 rfl) ?_
                refine lv_iload E.1 E.2.1 dL_acts_120 (lv_at hl 2 rfl) ?_
                refine kVWE (As := [.int (iI (w3))]) E cw_L_128 (c_X5_begin G l x fb fl σ hs tx len hI hT hfx hgx (w3) (by unfold okI; omega)) hP.1.1 ⟨_, _, rfl⟩ ⟨hP.1, hP.2⟩ hL hl.1 rfl rfl (Nat.le_of_ble_eq_true rfl) ⟨Nat.le_of_ble_eq_true rfl, Nat.le_of_ble_eq_true rfl⟩ ⟨Nat.le_of_ble_eq_true rfl, Nat.le_of_ble_eq_true rfl⟩ dL_acts_122 (fun H5 locs hL hw_ => ?_)
                obtain ⟨⟨fl1, hE1, hX1⟩, hR1⟩ := hw_
                have hV1 : VS (spBegin σ (w3)).2 := hS.begin (w3)
                have hC1 : AC σ hs (spBegin σ (w3)).2 (hsA σ hs (spBegin σ (w3)).1) := ac_of (spBegin_b hI (w3)).2.2
                have hD1 : VH (hsA σ hs (spBegin σ (w3)).1) := VH.hs1 hS hH
                generalize hsA σ hs (spBegin σ (w3)).1 = hs1 at hX1 hC1 hD1
                have hte : (spBegin σ w3).2 = σ := by rw [hsp]
                have hr1 : (spBegin σ (w3)).1 = (-2) := by rw [hsp]
                rw [hr1]
                generalize (spBegin σ (w3)).2 = τ at hX1 hV1 hC1 hte
                have hI1 := hV1.1
                have hz1 := FrR.size hR1 hP.2
                refine lv_istore (lv' := [(11, .int (iI ((-2)))), (10, .int (iI (0))), (9, .int (iI (v91))), (8, .int (iI (w3))), (7, .int (iI (sv))), (6, .int (iI ((nx σ : Int)))), (5, .int (iI ((mn σ : Int)))), (4, .int (iI ((-6)))), (3, .int (iI (w1))), (0, .ref (x)), (1, .int (v1)), (2, .int (v2))]) E.1 E.2.1 dL_acts_125 hl (by decide) rfl (fun ls hl => ?_)
                refine lv_iload E.1 E.2.1 dL_acts_127 (lv_at hl 0 rfl) ?_
                refine lv_iload E.1 E.2.1 dL_acts_129 (lv_at hl 3 rfl) ?_
                refine r_const E dL_acts_131 ?_
                refine r_icmp_ne (tgt := 140) E dL_acts_132 (by decide) (by omega) (by omega) (fun c132 => absurd c132 (by omega)) (fun c132 => ?_)
                refine r_bipush E dL_acts_135 (by decide) ?_
                refine lv_goto (tgt := 162) E.1 E.2.1 dL_acts_137 (by decide) ?_
                refine r_icmp_ne (tgt := 273) E dL_acts_162 (by decide) (by omega) (by omega) (fun c162 => absurd c162 (by omega)) (fun c162 => ?_)
                refine lv_iload E.1 E.2.1 dL_acts_165 (lv_at hl 0 rfl) ?_
                refine r_if_lt (tgt := 269) E dL_acts_167 (by decide) (by omega) (fun c167 => ?_) (fun c167 => absurd c167 (by omega))
                refine r_const E dL_acts_269 ?_
                refine lv_goto (tgt := 274) E.1 E.2.1 dL_acts_270 (by decide) ?_
                refine W.widen (k := 80) (n := 240) (Nat.le_of_ble_eq_true rfl) (Nat.le_of_ble_eq_true rfl) ?_
                refine e_zret (rm := ({ frames := 8, cells := 80, slots := 240, locals := 189 } : Room)) (v := iI (1)) E hL rfl dL_acts_274 ?_
                exact ⟨rfl, _, _, _, _, hV1, hD1, hT, fun _ => hC1, ⟨_, hE1, hX1⟩, hR1⟩
              · rcases hv91 with ⟨hf1, hf2⟩ | ⟨hf1, hf2⟩
                · refine lv_aload_n E.1 E.2.1 dL_acts_119 rfl (lv_at hl 8 rfl) ?_
                  refine lv_iload E.1 E.2.1 dL_acts_120 (lv_at hl 2 rfl) ?_
                  refine kVWE (As := [.int (iI (w3))]) E cw_L_128 (c_X5_begin G l x fb fl σ hs tx len hI hT hfx hgx (w3) (by unfold okI; omega)) hP.1.1 ⟨_, _, rfl⟩ ⟨hP.1, hP.2⟩ hL hl.1 rfl rfl (Nat.le_of_ble_eq_true rfl) ⟨Nat.le_of_ble_eq_true rfl, Nat.le_of_ble_eq_true rfl⟩ ⟨Nat.le_of_ble_eq_true rfl, Nat.le_of_ble_eq_true rfl⟩ dL_acts_122 (fun H5 locs hL hw_ => ?_)
                  obtain ⟨⟨fl1, hE1, hX1⟩, hR1⟩ := hw_
                  have hV1 : VS (spBegin σ (w3)).2 := hS.begin (w3)
                  have hC1 : AC σ hs (spBegin σ (w3)).2 (hsA σ hs (spBegin σ (w3)).1) := ac_of (spBegin_b hI (w3)).2.2
                  have hD1 : VH (hsA σ hs (spBegin σ (w3)).1) := VH.hs1 hS hH
                  generalize hsA σ hs (spBegin σ (w3)).1 = hs1 at hX1 hC1 hD1
                  have hok := bg_ok hm2 hop hf2
                  have hm1 := hok.2.1
                  have hg0 : s0 (spBegin σ w3).2 = s0 σ := hok.2.2.1.1
                  have hg1 : s1 (spBegin σ w3).2 = s1 σ := hok.2.2.1.2
                  have hq0 := hok.2.2.2.1.1
                  have hq1 := hok.2.2.2.1.2.1
                  have hq2 := hok.2.2.2.1.2.2.1
                  have hq3 := hok.2.2.2.1.2.2.2.1
                  have hq4 := hok.2.2.2.1.2.2.2.2.1
                  have hq5 := hok.2.2.2.1.2.2.2.2.2
                  have hqe : entriesN (spBegin σ w3).2 (mn σ) = 0 := hok.2.2.2.2.2.1 hvd
                  have hqv := hok.2.2.2.2.2.2.2
                  have hr1 : (spBegin σ (w3)).1 = (mn σ : Int) := hok.1
                  rw [hr1]
                  generalize (spBegin σ (w3)).2 = τ at hX1 hV1 hC1 hm1 hg0 hg1 hq0 hq1 hq2 hq3 hq4 hq5 hqe hqv
                  have hI1 := hV1.1
                  have hz1 := FrR.size hR1 hP.2
                  refine lv_istore (lv' := [(11, .int (iI ((mn σ : Int)))), (10, .int (iI (0))), (9, .int (iI (v91))), (8, .int (iI (w3))), (7, .int (iI (sv))), (6, .int (iI ((nx σ : Int)))), (5, .int (iI ((mn σ : Int)))), (4, .int (iI ((-6)))), (3, .int (iI (w1))), (0, .ref (x)), (1, .int (v1)), (2, .int (v2))]) E.1 E.2.1 dL_acts_125 hl (by decide) rfl (fun ls hl => ?_)
                  have hm12 := hI1.mn12
                  refine lv_iload E.1 E.2.1 dL_acts_127 (lv_at hl 0 rfl) ?_
                  refine lv_iload E.1 E.2.1 dL_acts_129 (lv_at hl 3 rfl) ?_
                  refine r_const E dL_acts_131 ?_
                  refine r_icmp_ne (tgt := 140) E dL_acts_132 (by decide) (by omega) (by omega) (fun c132 => ?_) (fun c132 => absurd c132 (by omega))
                  refine lv_iload E.1 E.2.1 dL_acts_140 (lv_at hl 7 rfl) ?_
                  refine r_if_lt (tgt := 150) E dL_acts_142 (by decide) (by omega) (fun c142 => ?_) (fun c142 => absurd c142 (by omega))
                  refine lv_iload E.1 E.2.1 dL_acts_150 (lv_at hl 2 rfl) ?_
                  refine r_if_ne (tgt := 160) E dL_acts_152 (by decide) (by omega) (fun c152 => ?_) (fun c152 => absurd c152 (by omega))
                  refine lv_iload E.1 E.2.1 dL_acts_160 (lv_at hl 6 rfl) ?_
                  refine r_icmp_ne (tgt := 273) E dL_acts_162 (by decide) (by omega) (by omega) (fun c162 => absurd c162 (by omega)) (fun c162 => ?_)
                  refine lv_iload E.1 E.2.1 dL_acts_165 (lv_at hl 0 rfl) ?_
                  refine r_if_lt (tgt := 269) E dL_acts_167 (by decide) (by omega) (fun c167 => absurd c167 (by omega)) (fun c167 => ?_)
                  refine lv_aload_n E.1 E.2.1 dL_acts_170 rfl (lv_at hl 9 rfl) ?_
                  refine lv_iload E.1 E.2.1 dL_acts_171 (lv_at hl 0 rfl) ?_
                  refine r_const E dL_acts_173 ?_
                  refine kVRE (As := [.int (iI ((mn σ : Int))), .int (iI (0))]) E cw_L_29 (c_X5_session G l x fb fl1 τ hs1 tx len hI1 hT hfx hgx ((mn σ : Int)) (0) (by unfold okI; omega) (by unfold okI; omega)) hX1.1 ⟨_, _, rfl⟩ hX1 hL hl.1 rfl rfl (Nat.le_of_ble_eq_true rfl) ⟨Nat.le_of_ble_eq_true rfl, Nat.le_of_ble_eq_true rfl⟩ ⟨rfl, rfl⟩ ⟨Nat.le_of_ble_eq_true rfl, Nat.le_of_ble_eq_true rfl⟩ dL_acts_174 (fun locs hL => ?_)
                  rw [spSes0 (by omega)]
                  refine r_if_ne (tgt := 273) E dL_acts_177 (by decide) (by omega) (fun c177 => absurd c177 (by omega)) (fun c177 => ?_)
                  refine lv_aload_n E.1 E.2.1 dL_acts_180 rfl (lv_at hl 9 rfl) ?_
                  refine lv_iload E.1 E.2.1 dL_acts_181 (lv_at hl 0 rfl) ?_
                  refine r_const E dL_acts_183 ?_
                  refine kVRE (As := [.int (iI ((mn σ : Int))), .int (iI (1))]) E cw_L_29 (c_X5_session G l x fb fl1 τ hs1 tx len hI1 hT hfx hgx ((mn σ : Int)) (1) (by unfold okI; omega) (by unfold okI; omega)) hX1.1 ⟨_, _, rfl⟩ hX1 hL hl.1 rfl rfl (Nat.le_of_ble_eq_true rfl) ⟨Nat.le_of_ble_eq_true rfl, Nat.le_of_ble_eq_true rfl⟩ ⟨rfl, rfl⟩ ⟨Nat.le_of_ble_eq_true rfl, Nat.le_of_ble_eq_true rfl⟩ dL_acts_184 (fun locs hL => ?_)
                  rw [spSes1 (by omega)]
                  refine lv_iload E.1 E.2.1 dL_acts_187 (lv_at hl 5 rfl) ?_
                  refine r_icmp_ne (tgt := 273) E dL_acts_189 (by decide) (by omega) (by omega) (fun c189 => absurd c189 (by omega)) (fun c189 => ?_)
                  refine lv_aload_n E.1 E.2.1 dL_acts_192 rfl (lv_at hl 9 rfl) ?_
                  refine lv_iload E.1 E.2.1 dL_acts_193 (lv_at hl 0 rfl) ?_
                  refine r_const E dL_acts_195 ?_
                  refine kVRE (As := [.int (iI ((mn σ : Int))), .int (iI (2))]) E cw_L_29 (c_X5_session G l x fb fl1 τ hs1 tx len hI1 hT hfx hgx ((mn σ : Int)) (2) (by unfold okI; omega) (by unfold okI; omega)) hX1.1 ⟨_, _, rfl⟩ hX1 hL hl.1 rfl rfl (Nat.le_of_ble_eq_true rfl) ⟨Nat.le_of_ble_eq_true rfl, Nat.le_of_ble_eq_true rfl⟩ ⟨rfl, rfl⟩ ⟨Nat.le_of_ble_eq_true rfl, Nat.le_of_ble_eq_true rfl⟩ dL_acts_196 (fun locs hL => ?_)
                  rw [spSes2 (by omega)]
                  refine lv_aload_n E.1 E.2.1 dL_acts_199 rfl (lv_at hl 9 rfl) ?_
                  refine r_const E dL_acts_200 ?_
                  refine kVRE (As := [.int (iI (0))]) E cw_L_19 (c_X5_setting G l x fb fl1 τ hs1 tx len hI1 hT hfx hgx (0) (by unfold okI; omega)) hX1.1 ⟨_, _, rfl⟩ hX1 hL hl.1 rfl rfl (Nat.le_of_ble_eq_true rfl) ⟨Nat.le_of_ble_eq_true rfl, Nat.le_of_ble_eq_true rfl⟩ ⟨rfl, rfl⟩ ⟨Nat.le_of_ble_eq_true rfl, Nat.le_of_ble_eq_true rfl⟩ dL_acts_201 (fun locs hL => ?_)
                  rw [spSet_0 τ]
                  refine r_icmp_ne (tgt := 273) E dL_acts_204 (by decide) (by omega) (by omega) (fun c204 => absurd c204 (by omega)) (fun c204 => ?_)
                  refine lv_aload_n E.1 E.2.1 dL_acts_207 rfl (lv_at hl 9 rfl) ?_
                  refine lv_iload E.1 E.2.1 dL_acts_208 (lv_at hl 0 rfl) ?_
                  refine r_const E dL_acts_210 ?_
                  refine kVRE (As := [.int (iI ((mn σ : Int))), .int (iI (3))]) E cw_L_29 (c_X5_session G l x fb fl1 τ hs1 tx len hI1 hT hfx hgx ((mn σ : Int)) (3) (by unfold okI; omega) (by unfold okI; omega)) hX1.1 ⟨_, _, rfl⟩ hX1 hL hl.1 rfl rfl (Nat.le_of_ble_eq_true rfl) ⟨Nat.le_of_ble_eq_true rfl, Nat.le_of_ble_eq_true rfl⟩ ⟨rfl, rfl⟩ ⟨Nat.le_of_ble_eq_true rfl, Nat.le_of_ble_eq_true rfl⟩ dL_acts_211 (fun locs hL => ?_)
                  rw [spSes3 (by omega)]
                  refine lv_aload_n E.1 E.2.1 dL_acts_214 rfl (lv_at hl 9 rfl) ?_
                  refine r_const E dL_acts_215 ?_
                  refine kVRE (As := [.int (iI (0))]) E cw_L_19 (c_X5_setting G l x fb fl1 τ hs1 tx len hI1 hT hfx hgx (0) (by unfold okI; omega)) hX1.1 ⟨_, _, rfl⟩ hX1 hL hl.1 rfl rfl (Nat.le_of_ble_eq_true rfl) ⟨Nat.le_of_ble_eq_true rfl, Nat.le_of_ble_eq_true rfl⟩ ⟨rfl, rfl⟩ ⟨Nat.le_of_ble_eq_true rfl, Nat.le_of_ble_eq_true rfl⟩ dL_acts_216 (fun locs hL => ?_)
                  rw [spSet_0 τ]
                  refine r_icmp_ne (tgt := 273) E dL_acts_219 (by decide) (by omega) (by omega) (fun c219 => absurd c219 (by omega)) (fun c219 => ?_)
                  refine lv_aload_n E.1 E.2.1 dL_acts_222 rfl (lv_at hl 9 rfl) ?_
                  refine lv_iload E.1 E.2.1 dL_acts_223 (lv_at hl 0 rfl) ?_
                  refine r_const E dL_acts_225 ?_
                  refine kVRE (As := [.int (iI ((mn σ : Int))), .int (iI (4))]) E cw_L_29 (c_X5_session G l x fb fl1 τ hs1 tx len hI1 hT hfx hgx ((mn σ : Int)) (4) (by unfold okI; omega) (by unfold okI; omega)) hX1.1 ⟨_, _, rfl⟩ hX1 hL hl.1 rfl rfl (Nat.le_of_ble_eq_true rfl) ⟨Nat.le_of_ble_eq_true rfl, Nat.le_of_ble_eq_true rfl⟩ ⟨rfl, rfl⟩ ⟨Nat.le_of_ble_eq_true rfl, Nat.le_of_ble_eq_true rfl⟩ dL_acts_226 (fun locs hL => ?_)
                  rw [spSes4 (by omega)]
                  refine lv_aload_n E.1 E.2.1 dL_acts_229 rfl (lv_at hl 9 rfl) ?_
                  refine r_const E dL_acts_230 ?_
                  refine kVRE (As := [.int (iI (1))]) E cw_L_19 (c_X5_setting G l x fb fl1 τ hs1 tx len hI1 hT hfx hgx (1) (by unfold okI; omega)) hX1.1 ⟨_, _, rfl⟩ hX1 hL hl.1 rfl rfl (Nat.le_of_ble_eq_true rfl) ⟨Nat.le_of_ble_eq_true rfl, Nat.le_of_ble_eq_true rfl⟩ ⟨rfl, rfl⟩ ⟨Nat.le_of_ble_eq_true rfl, Nat.le_of_ble_eq_true rfl⟩ dL_acts_231 (fun locs hL => ?_)
                  rw [spSet_1 τ]
                  refine r_icmp_ne (tgt := 273) E dL_acts_234 (by decide) (by omega) (by omega) (fun c234 => absurd c234 (by omega)) (fun c234 => ?_)
                  refine lv_aload_n E.1 E.2.1 dL_acts_237 rfl (lv_at hl 9 rfl) ?_
                  refine lv_iload E.1 E.2.1 dL_acts_238 (lv_at hl 0 rfl) ?_
                  refine r_const E dL_acts_240 ?_
                  refine kVRE (As := [.int (iI ((mn σ : Int))), .int (iI (5))]) E cw_L_29 (c_X5_session G l x fb fl1 τ hs1 tx len hI1 hT hfx hgx ((mn σ : Int)) (5) (by unfold okI; omega) (by unfold okI; omega)) hX1.1 ⟨_, _, rfl⟩ hX1 hL hl.1 rfl rfl (Nat.le_of_ble_eq_true rfl) ⟨Nat.le_of_ble_eq_true rfl, Nat.le_of_ble_eq_true rfl⟩ ⟨rfl, rfl⟩ ⟨Nat.le_of_ble_eq_true rfl, Nat.le_of_ble_eq_true rfl⟩ dL_acts_241 (fun locs hL => ?_)
                  rw [spSes5 (by omega)]
                  refine lv_iload E.1 E.2.1 dL_acts_244 (lv_at hl 1 rfl) ?_
                  refine r_icmp_ne (tgt := 273) E dL_acts_246 (by decide) (by omega) (by omega) (fun c246 => absurd c246 (by omega)) (fun c246 => ?_)
                  refine lv_aload_n E.1 E.2.1 dL_acts_249 rfl (lv_at hl 9 rfl) ?_
                  refine lv_iload E.1 E.2.1 dL_acts_250 (lv_at hl 0 rfl) ?_
                  refine r_bipush E dL_acts_252 (by decide) ?_
                  refine kVRE (As := [.int (iI ((mn σ : Int))), .int (iI (7))]) E cw_L_29 (c_X5_session G l x fb fl1 τ hs1 tx len hI1 hT hfx hgx ((mn σ : Int)) (7) (by unfold okI; omega) (by unfold okI; omega)) hX1.1 ⟨_, _, rfl⟩ hX1 hL hl.1 rfl rfl (Nat.le_of_ble_eq_true rfl) ⟨Nat.le_of_ble_eq_true rfl, Nat.le_of_ble_eq_true rfl⟩ ⟨rfl, rfl⟩ ⟨Nat.le_of_ble_eq_true rfl, Nat.le_of_ble_eq_true rfl⟩ dL_acts_254 (fun locs hL => ?_)
                  rw [spSes7 (by omega)]
                  refine r_if_ne (tgt := 273) E dL_acts_257 (by decide) (by omega) (fun c257 => absurd c257 (by omega)) (fun c257 => ?_)
                  refine lv_aload_n E.1 E.2.1 dL_acts_260 rfl (lv_at hl 9 rfl) ?_
                  refine kVRE (As := []) E cw_L_55 (c_X5_valid G l x fb fl1 τ hs1 tx len hI1 hT hfx hgx  ) hX1.1 ⟨_, _, rfl⟩ hX1 hL hl.1 rfl rfl (Nat.le_of_ble_eq_true rfl) ⟨Nat.le_of_ble_eq_true rfl, Nat.le_of_ble_eq_true rfl⟩ ⟨rfl, rfl⟩ ⟨Nat.le_of_ble_eq_true rfl, Nat.le_of_ble_eq_true rfl⟩ dL_acts_261 (fun locs hL => ?_)
                  rw [hqv, hsv]
                  refine lv_iload E.1 E.2.1 dL_acts_264 (lv_at hl 4 rfl) ?_
                  refine r_icmp_ne (tgt := 273) E dL_acts_266 (by decide) (by omega) (by omega) (fun c266 => absurd c266 (by omega)) (fun c266 => ?_)
                  refine r_const E dL_acts_269 ?_
                  refine lv_goto (tgt := 274) E.1 E.2.1 dL_acts_270 (by decide) ?_
                  refine W.widen (k := 80) (n := 240) (Nat.le_of_ble_eq_true rfl) (Nat.le_of_ble_eq_true rfl) ?_
                  refine e_zret (rm := ({ frames := 8, cells := 80, slots := 240, locals := 189 } : Room)) (v := iI (1)) E hL rfl dL_acts_274 ?_
                  exact ⟨rfl, _, _, _, _, hV1, hD1, hT, fun _ => hC1, ⟨_, hE1, hX1⟩, hR1⟩
                · have hsp : (spBegin σ w3) = (-4, σ) := bg_e3 hm2 hop hf2
                  refine lv_aload_n E.1 E.2.1 dL_acts_119 rfl (lv_at hl 8 rfl) ?_
                  refine lv_iload E.1 E.2.1 dL_acts_120 (lv_at hl 2 rfl) ?_
                  refine kVWE (As := [.int (iI (w3))]) E cw_L_128 (c_X5_begin G l x fb fl σ hs tx len hI hT hfx hgx (w3) (by unfold okI; omega)) hP.1.1 ⟨_, _, rfl⟩ ⟨hP.1, hP.2⟩ hL hl.1 rfl rfl (Nat.le_of_ble_eq_true rfl) ⟨Nat.le_of_ble_eq_true rfl, Nat.le_of_ble_eq_true rfl⟩ ⟨Nat.le_of_ble_eq_true rfl, Nat.le_of_ble_eq_true rfl⟩ dL_acts_122 (fun H5 locs hL hw_ => ?_)
                  obtain ⟨⟨fl1, hE1, hX1⟩, hR1⟩ := hw_
                  have hV1 : VS (spBegin σ (w3)).2 := hS.begin (w3)
                  have hC1 : AC σ hs (spBegin σ (w3)).2 (hsA σ hs (spBegin σ (w3)).1) := ac_of (spBegin_b hI (w3)).2.2
                  have hD1 : VH (hsA σ hs (spBegin σ (w3)).1) := VH.hs1 hS hH
                  generalize hsA σ hs (spBegin σ (w3)).1 = hs1 at hX1 hC1 hD1
                  have hte : (spBegin σ w3).2 = σ := by rw [hsp]
                  have hr1 : (spBegin σ (w3)).1 = (-4) := by rw [hsp]
                  rw [hr1]
                  generalize (spBegin σ (w3)).2 = τ at hX1 hV1 hC1 hte
                  have hI1 := hV1.1
                  have hz1 := FrR.size hR1 hP.2
                  refine lv_istore (lv' := [(11, .int (iI ((-4)))), (10, .int (iI (0))), (9, .int (iI (v91))), (8, .int (iI (w3))), (7, .int (iI (sv))), (6, .int (iI ((nx σ : Int)))), (5, .int (iI ((mn σ : Int)))), (4, .int (iI ((-6)))), (3, .int (iI (w1))), (0, .ref (x)), (1, .int (v1)), (2, .int (v2))]) E.1 E.2.1 dL_acts_125 hl (by decide) rfl (fun ls hl => ?_)
                  refine lv_iload E.1 E.2.1 dL_acts_127 (lv_at hl 0 rfl) ?_
                  refine lv_iload E.1 E.2.1 dL_acts_129 (lv_at hl 3 rfl) ?_
                  refine r_const E dL_acts_131 ?_
                  refine r_icmp_ne (tgt := 140) E dL_acts_132 (by decide) (by omega) (by omega) (fun c132 => ?_) (fun c132 => absurd c132 (by omega))
                  refine lv_iload E.1 E.2.1 dL_acts_140 (lv_at hl 7 rfl) ?_
                  refine r_if_lt (tgt := 150) E dL_acts_142 (by decide) (by omega) (fun c142 => ?_) (fun c142 => absurd c142 (by omega))
                  refine lv_iload E.1 E.2.1 dL_acts_150 (lv_at hl 2 rfl) ?_
                  refine r_if_ne (tgt := 160) E dL_acts_152 (by decide) (by omega) (fun c152 => absurd c152 (by omega)) (fun c152 => ?_)
                  refine r_bipush E dL_acts_155 (by decide) ?_
                  refine lv_goto (tgt := 162) E.1 E.2.1 dL_acts_157 (by decide) ?_
                  refine r_icmp_ne (tgt := 273) E dL_acts_162 (by decide) (by omega) (by omega) (fun c162 => absurd c162 (by omega)) (fun c162 => ?_)
                  refine lv_iload E.1 E.2.1 dL_acts_165 (lv_at hl 0 rfl) ?_
                  refine r_if_lt (tgt := 269) E dL_acts_167 (by decide) (by omega) (fun c167 => ?_) (fun c167 => absurd c167 (by omega))
                  refine r_const E dL_acts_269 ?_
                  refine lv_goto (tgt := 274) E.1 E.2.1 dL_acts_270 (by decide) ?_
                  refine W.widen (k := 80) (n := 240) (Nat.le_of_ble_eq_true rfl) (Nat.le_of_ble_eq_true rfl) ?_
                  refine e_zret (rm := ({ frames := 8, cells := 80, slots := 240, locals := 189 } : Room)) (v := iI (1)) E hL rfl dL_acts_274 ?_
                  exact ⟨rfl, _, _, _, _, hV1, hD1, hT, fun _ => hC1, ⟨_, hE1, hX1⟩, hR1⟩
          · have hs9 : sv = (v9 : Int) := by rw [← hsv2, hvd]; rfl
            have hvm := validD_lt hvd
            have hel := entN_le σ v9
            refine lv_iload E.1 E.2.1 dL_acts_93 (lv_at hl 1 rfl) ?_
            refine r_const E dL_acts_95 ?_
            refine r_icmp_ne (tgt := 116) E dL_acts_96 (by decide) (by omega) (by omega) (fun c96 => ?_) (fun c96 => ?_)
            · refine r_const E dL_acts_116 ?_
              refine lv_istore (lv' := [(10, .int (iI (0))), (9, .int (iI (v91))), (8, .int (iI (w3))), (7, .int (iI (sv))), (6, .int (iI ((nx σ : Int)))), (5, .int (iI ((mn σ : Int)))), (4, .int (iI ((-6)))), (3, .int (iI (w1))), (0, .ref (x)), (1, .int (v1)), (2, .int (v2))]) E.1 E.2.1 dL_acts_117 hl (by decide) rfl (fun ls hl => ?_)
              rcases (show w3 = 2 ∨ (0 ≤ w3 ∧ w3 ≤ 1) by omega) with hm2 | hm2
              · have hsp : (spBegin σ w3) = (-2, σ) := bg_e1 hm2
                refine lv_aload_n E.1 E.2.1 dL_acts_119 rfl (lv_at hl 8 rfl) ?_
                refine lv_iload E.1 E.2.1 dL_acts_120 (lv_at hl 2 rfl) ?_
                refine kVWE (As := [.int (iI (w3))]) E cw_L_128 (c_X5_begin G l x fb fl σ hs tx len hI hT hfx hgx (w3) (by unfold okI; omega)) hP.1.1 ⟨_, _, rfl⟩ ⟨hP.1, hP.2⟩ hL hl.1 rfl rfl (Nat.le_of_ble_eq_true rfl) ⟨Nat.le_of_ble_eq_true rfl, Nat.le_of_ble_eq_true rfl⟩ ⟨Nat.le_of_ble_eq_true rfl, Nat.le_of_ble_eq_true rfl⟩ dL_acts_122 (fun H5 locs hL hw_ => ?_)
                obtain ⟨⟨fl1, hE1, hX1⟩, hR1⟩ := hw_
                have hV1 : VS (spBegin σ (w3)).2 := hS.begin (w3)
                have hC1 : AC σ hs (spBegin σ (w3)).2 (hsA σ hs (spBegin σ (w3)).1) := ac_of (spBegin_b hI (w3)).2.2
                have hD1 : VH (hsA σ hs (spBegin σ (w3)).1) := VH.hs1 hS hH
                generalize hsA σ hs (spBegin σ (w3)).1 = hs1 at hX1 hC1 hD1
                have hte : (spBegin σ w3).2 = σ := by rw [hsp]
                have hr1 : (spBegin σ (w3)).1 = (-2) := by rw [hsp]
                rw [hr1]
                generalize (spBegin σ (w3)).2 = τ at hX1 hV1 hC1 hte
                have hI1 := hV1.1
                have hz1 := FrR.size hR1 hP.2
                refine lv_istore (lv' := [(11, .int (iI ((-2)))), (10, .int (iI (0))), (9, .int (iI (v91))), (8, .int (iI (w3))), (7, .int (iI (sv))), (6, .int (iI ((nx σ : Int)))), (5, .int (iI ((mn σ : Int)))), (4, .int (iI ((-6)))), (3, .int (iI (w1))), (0, .ref (x)), (1, .int (v1)), (2, .int (v2))]) E.1 E.2.1 dL_acts_125 hl (by decide) rfl (fun ls hl => ?_)
                refine lv_iload E.1 E.2.1 dL_acts_127 (lv_at hl 0 rfl) ?_
                refine lv_iload E.1 E.2.1 dL_acts_129 (lv_at hl 3 rfl) ?_
                refine r_const E dL_acts_131 ?_
                refine r_icmp_ne (tgt := 140) E dL_acts_132 (by decide) (by omega) (by omega) (fun c132 => absurd c132 (by omega)) (fun c132 => ?_)
                refine r_bipush E dL_acts_135 (by decide) ?_
                refine lv_goto (tgt := 162) E.1 E.2.1 dL_acts_137 (by decide) ?_
                refine r_icmp_ne (tgt := 273) E dL_acts_162 (by decide) (by omega) (by omega) (fun c162 => absurd c162 (by omega)) (fun c162 => ?_)
                refine lv_iload E.1 E.2.1 dL_acts_165 (lv_at hl 0 rfl) ?_
                refine r_if_lt (tgt := 269) E dL_acts_167 (by decide) (by omega) (fun c167 => ?_) (fun c167 => absurd c167 (by omega))
                refine r_const E dL_acts_269 ?_
                refine lv_goto (tgt := 274) E.1 E.2.1 dL_acts_270 (by decide) ?_
                refine W.widen (k := 80) (n := 240) (Nat.le_of_ble_eq_true rfl) (Nat.le_of_ble_eq_true rfl) ?_
                refine e_zret (rm := ({ frames := 8, cells := 80, slots := 240, locals := 189 } : Room)) (v := iI (1)) E hL rfl dL_acts_274 ?_
                exact ⟨rfl, _, _, _, _, hV1, hD1, hT, fun _ => hC1, ⟨_, hE1, hX1⟩, hR1⟩
              · rcases hv91 with ⟨hf1, hf2⟩ | ⟨hf1, hf2⟩
                · refine lv_aload_n E.1 E.2.1 dL_acts_119 rfl (lv_at hl 8 rfl) ?_
                  refine lv_iload E.1 E.2.1 dL_acts_120 (lv_at hl 2 rfl) ?_
                  refine kVWE (As := [.int (iI (w3))]) E cw_L_128 (c_X5_begin G l x fb fl σ hs tx len hI hT hfx hgx (w3) (by unfold okI; omega)) hP.1.1 ⟨_, _, rfl⟩ ⟨hP.1, hP.2⟩ hL hl.1 rfl rfl (Nat.le_of_ble_eq_true rfl) ⟨Nat.le_of_ble_eq_true rfl, Nat.le_of_ble_eq_true rfl⟩ ⟨Nat.le_of_ble_eq_true rfl, Nat.le_of_ble_eq_true rfl⟩ dL_acts_122 (fun H5 locs hL hw_ => ?_)
                  obtain ⟨⟨fl1, hE1, hX1⟩, hR1⟩ := hw_
                  have hV1 : VS (spBegin σ (w3)).2 := hS.begin (w3)
                  have hC1 : AC σ hs (spBegin σ (w3)).2 (hsA σ hs (spBegin σ (w3)).1) := ac_of (spBegin_b hI (w3)).2.2
                  have hD1 : VH (hsA σ hs (spBegin σ (w3)).1) := VH.hs1 hS hH
                  generalize hsA σ hs (spBegin σ (w3)).1 = hs1 at hX1 hC1 hD1
                  have hok := bg_ok hm2 hop hf2
                  have hm1 := hok.2.1
                  have hg0 : s0 (spBegin σ w3).2 = s0 σ := hok.2.2.1.1
                  have hg1 : s1 (spBegin σ w3).2 = s1 σ := hok.2.2.1.2
                  have hq0 := hok.2.2.2.1.1
                  have hq1 := hok.2.2.2.1.2.1
                  have hq2 := hok.2.2.2.1.2.2.1
                  have hq3 := hok.2.2.2.1.2.2.2.1
                  have hq4 := hok.2.2.2.1.2.2.2.2.1
                  have hq5 := hok.2.2.2.1.2.2.2.2.2
                  have hqe : entriesN (spBegin σ w3).2 (mn σ) = 0 := hok.2.2.2.2.1 (by omega)
                  have hqv := hok.2.2.2.2.2.2.2
                  have hr1 : (spBegin σ (w3)).1 = (mn σ : Int) := hok.1
                  rw [hr1]
                  generalize (spBegin σ (w3)).2 = τ at hX1 hV1 hC1 hm1 hg0 hg1 hq0 hq1 hq2 hq3 hq4 hq5 hqe hqv
                  have hI1 := hV1.1
                  have hz1 := FrR.size hR1 hP.2
                  refine lv_istore (lv' := [(11, .int (iI ((mn σ : Int)))), (10, .int (iI (0))), (9, .int (iI (v91))), (8, .int (iI (w3))), (7, .int (iI (sv))), (6, .int (iI ((nx σ : Int)))), (5, .int (iI ((mn σ : Int)))), (4, .int (iI ((-6)))), (3, .int (iI (w1))), (0, .ref (x)), (1, .int (v1)), (2, .int (v2))]) E.1 E.2.1 dL_acts_125 hl (by decide) rfl (fun ls hl => ?_)
                  have hm12 := hI1.mn12
                  refine lv_iload E.1 E.2.1 dL_acts_127 (lv_at hl 0 rfl) ?_
                  refine lv_iload E.1 E.2.1 dL_acts_129 (lv_at hl 3 rfl) ?_
                  refine r_const E dL_acts_131 ?_
                  refine r_icmp_ne (tgt := 140) E dL_acts_132 (by decide) (by omega) (by omega) (fun c132 => ?_) (fun c132 => absurd c132 (by omega))
                  refine lv_iload E.1 E.2.1 dL_acts_140 (lv_at hl 7 rfl) ?_
                  refine r_if_lt (tgt := 150) E dL_acts_142 (by decide) (by omega) (fun c142 => ?_) (fun c142 => absurd c142 (by omega))
                  refine lv_iload E.1 E.2.1 dL_acts_150 (lv_at hl 2 rfl) ?_
                  refine r_if_ne (tgt := 160) E dL_acts_152 (by decide) (by omega) (fun c152 => ?_) (fun c152 => absurd c152 (by omega))
                  refine lv_iload E.1 E.2.1 dL_acts_160 (lv_at hl 6 rfl) ?_
                  refine r_icmp_ne (tgt := 273) E dL_acts_162 (by decide) (by omega) (by omega) (fun c162 => absurd c162 (by omega)) (fun c162 => ?_)
                  refine lv_iload E.1 E.2.1 dL_acts_165 (lv_at hl 0 rfl) ?_
                  refine r_if_lt (tgt := 269) E dL_acts_167 (by decide) (by omega) (fun c167 => absurd c167 (by omega)) (fun c167 => ?_)
                  refine lv_aload_n E.1 E.2.1 dL_acts_170 rfl (lv_at hl 9 rfl) ?_
                  refine lv_iload E.1 E.2.1 dL_acts_171 (lv_at hl 0 rfl) ?_
                  refine r_const E dL_acts_173 ?_
                  refine kVRE (As := [.int (iI ((mn σ : Int))), .int (iI (0))]) E cw_L_29 (c_X5_session G l x fb fl1 τ hs1 tx len hI1 hT hfx hgx ((mn σ : Int)) (0) (by unfold okI; omega) (by unfold okI; omega)) hX1.1 ⟨_, _, rfl⟩ hX1 hL hl.1 rfl rfl (Nat.le_of_ble_eq_true rfl) ⟨Nat.le_of_ble_eq_true rfl, Nat.le_of_ble_eq_true rfl⟩ ⟨rfl, rfl⟩ ⟨Nat.le_of_ble_eq_true rfl, Nat.le_of_ble_eq_true rfl⟩ dL_acts_174 (fun locs hL => ?_)
                  rw [spSes0 (by omega)]
                  refine r_if_ne (tgt := 273) E dL_acts_177 (by decide) (by omega) (fun c177 => absurd c177 (by omega)) (fun c177 => ?_)
                  refine lv_aload_n E.1 E.2.1 dL_acts_180 rfl (lv_at hl 9 rfl) ?_
                  refine lv_iload E.1 E.2.1 dL_acts_181 (lv_at hl 0 rfl) ?_
                  refine r_const E dL_acts_183 ?_
                  refine kVRE (As := [.int (iI ((mn σ : Int))), .int (iI (1))]) E cw_L_29 (c_X5_session G l x fb fl1 τ hs1 tx len hI1 hT hfx hgx ((mn σ : Int)) (1) (by unfold okI; omega) (by unfold okI; omega)) hX1.1 ⟨_, _, rfl⟩ hX1 hL hl.1 rfl rfl (Nat.le_of_ble_eq_true rfl) ⟨Nat.le_of_ble_eq_true rfl, Nat.le_of_ble_eq_true rfl⟩ ⟨rfl, rfl⟩ ⟨Nat.le_of_ble_eq_true rfl, Nat.le_of_ble_eq_true rfl⟩ dL_acts_184 (fun locs hL => ?_)
                  rw [spSes1 (by omega)]
                  refine lv_iload E.1 E.2.1 dL_acts_187 (lv_at hl 5 rfl) ?_
                  refine r_icmp_ne (tgt := 273) E dL_acts_189 (by decide) (by omega) (by omega) (fun c189 => absurd c189 (by omega)) (fun c189 => ?_)
                  refine lv_aload_n E.1 E.2.1 dL_acts_192 rfl (lv_at hl 9 rfl) ?_
                  refine lv_iload E.1 E.2.1 dL_acts_193 (lv_at hl 0 rfl) ?_
                  refine r_const E dL_acts_195 ?_
                  refine kVRE (As := [.int (iI ((mn σ : Int))), .int (iI (2))]) E cw_L_29 (c_X5_session G l x fb fl1 τ hs1 tx len hI1 hT hfx hgx ((mn σ : Int)) (2) (by unfold okI; omega) (by unfold okI; omega)) hX1.1 ⟨_, _, rfl⟩ hX1 hL hl.1 rfl rfl (Nat.le_of_ble_eq_true rfl) ⟨Nat.le_of_ble_eq_true rfl, Nat.le_of_ble_eq_true rfl⟩ ⟨rfl, rfl⟩ ⟨Nat.le_of_ble_eq_true rfl, Nat.le_of_ble_eq_true rfl⟩ dL_acts_196 (fun locs hL => ?_)
                  rw [spSes2 (by omega)]
                  refine lv_aload_n E.1 E.2.1 dL_acts_199 rfl (lv_at hl 9 rfl) ?_
                  refine r_const E dL_acts_200 ?_
                  refine kVRE (As := [.int (iI (0))]) E cw_L_19 (c_X5_setting G l x fb fl1 τ hs1 tx len hI1 hT hfx hgx (0) (by unfold okI; omega)) hX1.1 ⟨_, _, rfl⟩ hX1 hL hl.1 rfl rfl (Nat.le_of_ble_eq_true rfl) ⟨Nat.le_of_ble_eq_true rfl, Nat.le_of_ble_eq_true rfl⟩ ⟨rfl, rfl⟩ ⟨Nat.le_of_ble_eq_true rfl, Nat.le_of_ble_eq_true rfl⟩ dL_acts_201 (fun locs hL => ?_)
                  rw [spSet_0 τ]
                  refine r_icmp_ne (tgt := 273) E dL_acts_204 (by decide) (by omega) (by omega) (fun c204 => absurd c204 (by omega)) (fun c204 => ?_)
                  refine lv_aload_n E.1 E.2.1 dL_acts_207 rfl (lv_at hl 9 rfl) ?_
                  refine lv_iload E.1 E.2.1 dL_acts_208 (lv_at hl 0 rfl) ?_
                  refine r_const E dL_acts_210 ?_
                  refine kVRE (As := [.int (iI ((mn σ : Int))), .int (iI (3))]) E cw_L_29 (c_X5_session G l x fb fl1 τ hs1 tx len hI1 hT hfx hgx ((mn σ : Int)) (3) (by unfold okI; omega) (by unfold okI; omega)) hX1.1 ⟨_, _, rfl⟩ hX1 hL hl.1 rfl rfl (Nat.le_of_ble_eq_true rfl) ⟨Nat.le_of_ble_eq_true rfl, Nat.le_of_ble_eq_true rfl⟩ ⟨rfl, rfl⟩ ⟨Nat.le_of_ble_eq_true rfl, Nat.le_of_ble_eq_true rfl⟩ dL_acts_211 (fun locs hL => ?_)
                  rw [spSes3 (by omega)]
                  refine lv_aload_n E.1 E.2.1 dL_acts_214 rfl (lv_at hl 9 rfl) ?_
                  refine r_const E dL_acts_215 ?_
                  refine kVRE (As := [.int (iI (0))]) E cw_L_19 (c_X5_setting G l x fb fl1 τ hs1 tx len hI1 hT hfx hgx (0) (by unfold okI; omega)) hX1.1 ⟨_, _, rfl⟩ hX1 hL hl.1 rfl rfl (Nat.le_of_ble_eq_true rfl) ⟨Nat.le_of_ble_eq_true rfl, Nat.le_of_ble_eq_true rfl⟩ ⟨rfl, rfl⟩ ⟨Nat.le_of_ble_eq_true rfl, Nat.le_of_ble_eq_true rfl⟩ dL_acts_216 (fun locs hL => ?_)
                  rw [spSet_0 τ]
                  refine r_icmp_ne (tgt := 273) E dL_acts_219 (by decide) (by omega) (by omega) (fun c219 => absurd c219 (by omega)) (fun c219 => ?_)
                  refine lv_aload_n E.1 E.2.1 dL_acts_222 rfl (lv_at hl 9 rfl) ?_
                  refine lv_iload E.1 E.2.1 dL_acts_223 (lv_at hl 0 rfl) ?_
                  refine r_const E dL_acts_225 ?_
                  refine kVRE (As := [.int (iI ((mn σ : Int))), .int (iI (4))]) E cw_L_29 (c_X5_session G l x fb fl1 τ hs1 tx len hI1 hT hfx hgx ((mn σ : Int)) (4) (by unfold okI; omega) (by unfold okI; omega)) hX1.1 ⟨_, _, rfl⟩ hX1 hL hl.1 rfl rfl (Nat.le_of_ble_eq_true rfl) ⟨Nat.le_of_ble_eq_true rfl, Nat.le_of_ble_eq_true rfl⟩ ⟨rfl, rfl⟩ ⟨Nat.le_of_ble_eq_true rfl, Nat.le_of_ble_eq_true rfl⟩ dL_acts_226 (fun locs hL => ?_)
                  rw [spSes4 (by omega)]
                  refine lv_aload_n E.1 E.2.1 dL_acts_229 rfl (lv_at hl 9 rfl) ?_
                  refine r_const E dL_acts_230 ?_
                  refine kVRE (As := [.int (iI (1))]) E cw_L_19 (c_X5_setting G l x fb fl1 τ hs1 tx len hI1 hT hfx hgx (1) (by unfold okI; omega)) hX1.1 ⟨_, _, rfl⟩ hX1 hL hl.1 rfl rfl (Nat.le_of_ble_eq_true rfl) ⟨Nat.le_of_ble_eq_true rfl, Nat.le_of_ble_eq_true rfl⟩ ⟨rfl, rfl⟩ ⟨Nat.le_of_ble_eq_true rfl, Nat.le_of_ble_eq_true rfl⟩ dL_acts_231 (fun locs hL => ?_)
                  rw [spSet_1 τ]
                  refine r_icmp_ne (tgt := 273) E dL_acts_234 (by decide) (by omega) (by omega) (fun c234 => absurd c234 (by omega)) (fun c234 => ?_)
                  refine lv_aload_n E.1 E.2.1 dL_acts_237 rfl (lv_at hl 9 rfl) ?_
                  refine lv_iload E.1 E.2.1 dL_acts_238 (lv_at hl 0 rfl) ?_
                  refine r_const E dL_acts_240 ?_
                  refine kVRE (As := [.int (iI ((mn σ : Int))), .int (iI (5))]) E cw_L_29 (c_X5_session G l x fb fl1 τ hs1 tx len hI1 hT hfx hgx ((mn σ : Int)) (5) (by unfold okI; omega) (by unfold okI; omega)) hX1.1 ⟨_, _, rfl⟩ hX1 hL hl.1 rfl rfl (Nat.le_of_ble_eq_true rfl) ⟨Nat.le_of_ble_eq_true rfl, Nat.le_of_ble_eq_true rfl⟩ ⟨rfl, rfl⟩ ⟨Nat.le_of_ble_eq_true rfl, Nat.le_of_ble_eq_true rfl⟩ dL_acts_241 (fun locs hL => ?_)
                  rw [spSes5 (by omega)]
                  refine lv_iload E.1 E.2.1 dL_acts_244 (lv_at hl 1 rfl) ?_
                  refine r_icmp_ne (tgt := 273) E dL_acts_246 (by decide) (by omega) (by omega) (fun c246 => absurd c246 (by omega)) (fun c246 => ?_)
                  refine lv_aload_n E.1 E.2.1 dL_acts_249 rfl (lv_at hl 9 rfl) ?_
                  refine lv_iload E.1 E.2.1 dL_acts_250 (lv_at hl 0 rfl) ?_
                  refine r_bipush E dL_acts_252 (by decide) ?_
                  refine kVRE (As := [.int (iI ((mn σ : Int))), .int (iI (7))]) E cw_L_29 (c_X5_session G l x fb fl1 τ hs1 tx len hI1 hT hfx hgx ((mn σ : Int)) (7) (by unfold okI; omega) (by unfold okI; omega)) hX1.1 ⟨_, _, rfl⟩ hX1 hL hl.1 rfl rfl (Nat.le_of_ble_eq_true rfl) ⟨Nat.le_of_ble_eq_true rfl, Nat.le_of_ble_eq_true rfl⟩ ⟨rfl, rfl⟩ ⟨Nat.le_of_ble_eq_true rfl, Nat.le_of_ble_eq_true rfl⟩ dL_acts_254 (fun locs hL => ?_)
                  rw [spSes7 (by omega)]
                  refine r_if_ne (tgt := 273) E dL_acts_257 (by decide) (by omega) (fun c257 => absurd c257 (by omega)) (fun c257 => ?_)
                  refine lv_aload_n E.1 E.2.1 dL_acts_260 rfl (lv_at hl 9 rfl) ?_
                  refine kVRE (As := []) E cw_L_55 (c_X5_valid G l x fb fl1 τ hs1 tx len hI1 hT hfx hgx  ) hX1.1 ⟨_, _, rfl⟩ hX1 hL hl.1 rfl rfl (Nat.le_of_ble_eq_true rfl) ⟨Nat.le_of_ble_eq_true rfl, Nat.le_of_ble_eq_true rfl⟩ ⟨rfl, rfl⟩ ⟨Nat.le_of_ble_eq_true rfl, Nat.le_of_ble_eq_true rfl⟩ dL_acts_261 (fun locs hL => ?_)
                  rw [hqv, hsv]
                  refine lv_iload E.1 E.2.1 dL_acts_264 (lv_at hl 4 rfl) ?_
                  refine r_icmp_ne (tgt := 273) E dL_acts_266 (by decide) (by omega) (by omega) (fun c266 => absurd c266 (by omega)) (fun c266 => ?_)
                  refine r_const E dL_acts_269 ?_
                  refine lv_goto (tgt := 274) E.1 E.2.1 dL_acts_270 (by decide) ?_
                  refine W.widen (k := 80) (n := 240) (Nat.le_of_ble_eq_true rfl) (Nat.le_of_ble_eq_true rfl) ?_
                  refine e_zret (rm := ({ frames := 8, cells := 80, slots := 240, locals := 189 } : Room)) (v := iI (1)) E hL rfl dL_acts_274 ?_
                  exact ⟨rfl, _, _, _, _, hV1, hD1, hT, fun _ => hC1, ⟨_, hE1, hX1⟩, hR1⟩
                · have hsp : (spBegin σ w3) = (-4, σ) := bg_e3 hm2 hop hf2
                  refine lv_aload_n E.1 E.2.1 dL_acts_119 rfl (lv_at hl 8 rfl) ?_
                  refine lv_iload E.1 E.2.1 dL_acts_120 (lv_at hl 2 rfl) ?_
                  refine kVWE (As := [.int (iI (w3))]) E cw_L_128 (c_X5_begin G l x fb fl σ hs tx len hI hT hfx hgx (w3) (by unfold okI; omega)) hP.1.1 ⟨_, _, rfl⟩ ⟨hP.1, hP.2⟩ hL hl.1 rfl rfl (Nat.le_of_ble_eq_true rfl) ⟨Nat.le_of_ble_eq_true rfl, Nat.le_of_ble_eq_true rfl⟩ ⟨Nat.le_of_ble_eq_true rfl, Nat.le_of_ble_eq_true rfl⟩ dL_acts_122 (fun H5 locs hL hw_ => ?_)
                  obtain ⟨⟨fl1, hE1, hX1⟩, hR1⟩ := hw_
                  have hV1 : VS (spBegin σ (w3)).2 := hS.begin (w3)
                  have hC1 : AC σ hs (spBegin σ (w3)).2 (hsA σ hs (spBegin σ (w3)).1) := ac_of (spBegin_b hI (w3)).2.2
                  have hD1 : VH (hsA σ hs (spBegin σ (w3)).1) := VH.hs1 hS hH
                  generalize hsA σ hs (spBegin σ (w3)).1 = hs1 at hX1 hC1 hD1
                  have hte : (spBegin σ w3).2 = σ := by rw [hsp]
                  have hr1 : (spBegin σ (w3)).1 = (-4) := by rw [hsp]
                  rw [hr1]
                  generalize (spBegin σ (w3)).2 = τ at hX1 hV1 hC1 hte
                  have hI1 := hV1.1
                  have hz1 := FrR.size hR1 hP.2
                  refine lv_istore (lv' := [(11, .int (iI ((-4)))), (10, .int (iI (0))), (9, .int (iI (v91))), (8, .int (iI (w3))), (7, .int (iI (sv))), (6, .int (iI ((nx σ : Int)))), (5, .int (iI ((mn σ : Int)))), (4, .int (iI ((-6)))), (3, .int (iI (w1))), (0, .ref (x)), (1, .int (v1)), (2, .int (v2))]) E.1 E.2.1 dL_acts_125 hl (by decide) rfl (fun ls hl => ?_)
                  refine lv_iload E.1 E.2.1 dL_acts_127 (lv_at hl 0 rfl) ?_
                  refine lv_iload E.1 E.2.1 dL_acts_129 (lv_at hl 3 rfl) ?_
                  refine r_const E dL_acts_131 ?_
                  refine r_icmp_ne (tgt := 140) E dL_acts_132 (by decide) (by omega) (by omega) (fun c132 => ?_) (fun c132 => absurd c132 (by omega))
                  refine lv_iload E.1 E.2.1 dL_acts_140 (lv_at hl 7 rfl) ?_
                  refine r_if_lt (tgt := 150) E dL_acts_142 (by decide) (by omega) (fun c142 => ?_) (fun c142 => absurd c142 (by omega))
                  refine lv_iload E.1 E.2.1 dL_acts_150 (lv_at hl 2 rfl) ?_
                  refine r_if_ne (tgt := 160) E dL_acts_152 (by decide) (by omega) (fun c152 => absurd c152 (by omega)) (fun c152 => ?_)
                  refine r_bipush E dL_acts_155 (by decide) ?_
                  refine lv_goto (tgt := 162) E.1 E.2.1 dL_acts_157 (by decide) ?_
                  refine r_icmp_ne (tgt := 273) E dL_acts_162 (by decide) (by omega) (by omega) (fun c162 => absurd c162 (by omega)) (fun c162 => ?_)
                  refine lv_iload E.1 E.2.1 dL_acts_165 (lv_at hl 0 rfl) ?_
                  refine r_if_lt (tgt := 269) E dL_acts_167 (by decide) (by omega) (fun c167 => ?_) (fun c167 => absurd c167 (by omega))
                  refine r_const E dL_acts_269 ?_
                  refine lv_goto (tgt := 274) E.1 E.2.1 dL_acts_270 (by decide) ?_
                  refine W.widen (k := 80) (n := 240) (Nat.le_of_ble_eq_true rfl) (Nat.le_of_ble_eq_true rfl) ?_
                  refine e_zret (rm := ({ frames := 8, cells := 80, slots := 240, locals := 189 } : Room)) (v := iI (1)) E hL rfl dL_acts_274 ?_
                  exact ⟨rfl, _, _, _, _, hV1, hD1, hT, fun _ => hC1, ⟨_, hE1, hX1⟩, hR1⟩
            · refine lv_iload E.1 E.2.1 dL_acts_99 (lv_at hl 2 rfl) ?_
              refine r_bipush E dL_acts_101 (by decide) ?_
              refine r_icmp_eq (tgt := 116) E dL_acts_103 (by decide) (by omega) (by omega) (fun c103 => absurd c103 (by omega)) (fun c103 => ?_)
              refine lv_aload_n E.1 E.2.1 dL_acts_106 rfl (lv_at hl 7 rfl) ?_
              refine lv_iload E.1 E.2.1 dL_acts_107 (lv_at hl 2 rfl) ?_
              rw [show ((sv : Int)) = (v9 : Int) by omega]
              refine r_const E dL_acts_109 ?_
              refine kVRE (As := [.int (iI ((v9 : Int))), .int (iI (5))]) E cw_L_29 (c_X5_session G l x fb fl σ hs tx len hI hT hfx hgx ((v9 : Int)) (5) (by unfold okI; omega) (by unfold okI; omega)) hP.1.1 ⟨_, _, rfl⟩ hP.1 hL hl.1 rfl rfl (Nat.le_of_ble_eq_true rfl) ⟨Nat.le_of_ble_eq_true rfl, Nat.le_of_ble_eq_true rfl⟩ ⟨rfl, rfl⟩ ⟨Nat.le_of_ble_eq_true rfl, Nat.le_of_ble_eq_true rfl⟩ dL_acts_110 (fun locs hL => ?_)
              rw [spSes5 hvm]
              refine lv_goto (tgt := 117) E.1 E.2.1 dL_acts_113 (by decide) ?_
              refine lv_istore (lv' := [(10, .int (iI ((entriesN σ v9 : Int)))), (9, .int (iI (v91))), (8, .int (iI (w3))), (7, .int (iI (sv))), (6, .int (iI ((nx σ : Int)))), (5, .int (iI ((mn σ : Int)))), (4, .int (iI ((-6)))), (3, .int (iI (w1))), (0, .ref (x)), (1, .int (v1)), (2, .int (v2))]) E.1 E.2.1 dL_acts_117 hl (by decide) rfl (fun ls hl => ?_)
              rcases (show w3 = 2 ∨ (0 ≤ w3 ∧ w3 ≤ 1) by omega) with hm2 | hm2
              · have hsp : (spBegin σ w3) = (-2, σ) := bg_e1 hm2
                refine lv_aload_n E.1 E.2.1 dL_acts_119 rfl (lv_at hl 8 rfl) ?_
                refine lv_iload E.1 E.2.1 dL_acts_120 (lv_at hl 2 rfl) ?_
                refine kVWE (As := [.int (iI (w3))]) E cw_L_128 (c_X5_begin G l x fb fl σ hs tx len hI hT hfx hgx (w3) (by unfold okI; omega)) hP.1.1 ⟨_, _, rfl⟩ ⟨hP.1, hP.2⟩ hL hl.1 rfl rfl (Nat.le_of_ble_eq_true rfl) ⟨Nat.le_of_ble_eq_true rfl, Nat.le_of_ble_eq_true rfl⟩ ⟨Nat.le_of_ble_eq_true rfl, Nat.le_of_ble_eq_true rfl⟩ dL_acts_122 (fun H5 locs hL hw_ => ?_)
                obtain ⟨⟨fl1, hE1, hX1⟩, hR1⟩ := hw_
                have hV1 : VS (spBegin σ (w3)).2 := hS.begin (w3)
                have hC1 : AC σ hs (spBegin σ (w3)).2 (hsA σ hs (spBegin σ (w3)).1) := ac_of (spBegin_b hI (w3)).2.2
                have hD1 : VH (hsA σ hs (spBegin σ (w3)).1) := VH.hs1 hS hH
                generalize hsA σ hs (spBegin σ (w3)).1 = hs1 at hX1 hC1 hD1
                have hte : (spBegin σ w3).2 = σ := by rw [hsp]
                have hr1 : (spBegin σ (w3)).1 = (-2) := by rw [hsp]
                rw [hr1]
                generalize (spBegin σ (w3)).2 = τ at hX1 hV1 hC1 hte
                have hI1 := hV1.1
                have hz1 := FrR.size hR1 hP.2
                refine lv_istore (lv' := [(11, .int (iI ((-2)))), (10, .int (iI ((entriesN σ v9 : Int)))), (9, .int (iI (v91))), (8, .int (iI (w3))), (7, .int (iI (sv))), (6, .int (iI ((nx σ : Int)))), (5, .int (iI ((mn σ : Int)))), (4, .int (iI ((-6)))), (3, .int (iI (w1))), (0, .ref (x)), (1, .int (v1)), (2, .int (v2))]) E.1 E.2.1 dL_acts_125 hl (by decide) rfl (fun ls hl => ?_)
                refine lv_iload E.1 E.2.1 dL_acts_127 (lv_at hl 0 rfl) ?_
                refine lv_iload E.1 E.2.1 dL_acts_129 (lv_at hl 3 rfl) ?_
                refine r_const E dL_acts_131 ?_
                refine r_icmp_ne (tgt := 140) E dL_acts_132 (by decide) (by omega) (by omega) (fun c132 => absurd c132 (by omega)) (fun c132 => ?_)
                refine r_bipush E dL_acts_135 (by decide) ?_
                refine lv_goto (tgt := 162) E.1 E.2.1 dL_acts_137 (by decide) ?_
                refine r_icmp_ne (tgt := 273) E dL_acts_162 (by decide) (by omega) (by omega) (fun c162 => absurd c162 (by omega)) (fun c162 => ?_)
                refine lv_iload E.1 E.2.1 dL_acts_165 (lv_at hl 0 rfl) ?_
                refine r_if_lt (tgt := 269) E dL_acts_167 (by decide) (by omega) (fun c167 => ?_) (fun c167 => absurd c167 (by omega))
                refine r_const E dL_acts_269 ?_
                refine lv_goto (tgt := 274) E.1 E.2.1 dL_acts_270 (by decide) ?_
                refine W.widen (k := 80) (n := 240) (Nat.le_of_ble_eq_true rfl) (Nat.le_of_ble_eq_true rfl) ?_
                refine e_zret (rm := ({ frames := 8, cells := 80, slots := 240, locals := 189 } : Room)) (v := iI (1)) E hL rfl dL_acts_274 ?_
                exact ⟨rfl, _, _, _, _, hV1, hD1, hT, fun _ => hC1, ⟨_, hE1, hX1⟩, hR1⟩
              · rcases hv91 with ⟨hf1, hf2⟩ | ⟨hf1, hf2⟩
                · refine lv_aload_n E.1 E.2.1 dL_acts_119 rfl (lv_at hl 8 rfl) ?_
                  refine lv_iload E.1 E.2.1 dL_acts_120 (lv_at hl 2 rfl) ?_
                  refine kVWE (As := [.int (iI (w3))]) E cw_L_128 (c_X5_begin G l x fb fl σ hs tx len hI hT hfx hgx (w3) (by unfold okI; omega)) hP.1.1 ⟨_, _, rfl⟩ ⟨hP.1, hP.2⟩ hL hl.1 rfl rfl (Nat.le_of_ble_eq_true rfl) ⟨Nat.le_of_ble_eq_true rfl, Nat.le_of_ble_eq_true rfl⟩ ⟨Nat.le_of_ble_eq_true rfl, Nat.le_of_ble_eq_true rfl⟩ dL_acts_122 (fun H5 locs hL hw_ => ?_)
                  obtain ⟨⟨fl1, hE1, hX1⟩, hR1⟩ := hw_
                  have hV1 : VS (spBegin σ (w3)).2 := hS.begin (w3)
                  have hC1 : AC σ hs (spBegin σ (w3)).2 (hsA σ hs (spBegin σ (w3)).1) := ac_of (spBegin_b hI (w3)).2.2
                  have hD1 : VH (hsA σ hs (spBegin σ (w3)).1) := VH.hs1 hS hH
                  generalize hsA σ hs (spBegin σ (w3)).1 = hs1 at hX1 hC1 hD1
                  have hok := bg_ok hm2 hop hf2
                  have hm1 := hok.2.1
                  have hg0 : s0 (spBegin σ w3).2 = s0 σ := hok.2.2.1.1
                  have hg1 : s1 (spBegin σ w3).2 = s1 σ := hok.2.2.1.2
                  have hq0 := hok.2.2.2.1.1
                  have hq1 := hok.2.2.2.1.2.1
                  have hq2 := hok.2.2.2.1.2.2.1
                  have hq3 := hok.2.2.2.1.2.2.2.1
                  have hq4 := hok.2.2.2.1.2.2.2.2.1
                  have hq5 := hok.2.2.2.1.2.2.2.2.2
                  have hqe : entriesN (spBegin σ w3).2 (mn σ) = entriesN σ v9 := hok.2.2.2.2.2.2.1 _ (by omega) hvd
                  have hqv := hok.2.2.2.2.2.2.2
                  have hr1 : (spBegin σ (w3)).1 = (mn σ : Int) := hok.1
                  rw [hr1]
                  generalize (spBegin σ (w3)).2 = τ at hX1 hV1 hC1 hm1 hg0 hg1 hq0 hq1 hq2 hq3 hq4 hq5 hqe hqv
                  have hI1 := hV1.1
                  have hz1 := FrR.size hR1 hP.2
                  refine lv_istore (lv' := [(11, .int (iI ((mn σ : Int)))), (10, .int (iI ((entriesN σ v9 : Int)))), (9, .int (iI (v91))), (8, .int (iI (w3))), (7, .int (iI (sv))), (6, .int (iI ((nx σ : Int)))), (5, .int (iI ((mn σ : Int)))), (4, .int (iI ((-6)))), (3, .int (iI (w1))), (0, .ref (x)), (1, .int (v1)), (2, .int (v2))]) E.1 E.2.1 dL_acts_125 hl (by decide) rfl (fun ls hl => ?_)
                  have hm12 := hI1.mn12
                  refine lv_iload E.1 E.2.1 dL_acts_127 (lv_at hl 0 rfl) ?_
                  refine lv_iload E.1 E.2.1 dL_acts_129 (lv_at hl 3 rfl) ?_
                  refine r_const E dL_acts_131 ?_
                  refine r_icmp_ne (tgt := 140) E dL_acts_132 (by decide) (by omega) (by omega) (fun c132 => ?_) (fun c132 => absurd c132 (by omega))
                  refine lv_iload E.1 E.2.1 dL_acts_140 (lv_at hl 7 rfl) ?_
                  refine r_if_lt (tgt := 150) E dL_acts_142 (by decide) (by omega) (fun c142 => ?_) (fun c142 => absurd c142 (by omega))
                  refine lv_iload E.1 E.2.1 dL_acts_150 (lv_at hl 2 rfl) ?_
                  refine r_if_ne (tgt := 160) E dL_acts_152 (by decide) (by omega) (fun c152 => ?_) (fun c152 => absurd c152 (by omega))
                  refine lv_iload E.1 E.2.1 dL_acts_160 (lv_at hl 6 rfl) ?_
                  refine r_icmp_ne (tgt := 273) E dL_acts_162 (by decide) (by omega) (by omega) (fun c162 => absurd c162 (by omega)) (fun c162 => ?_)
                  refine lv_iload E.1 E.2.1 dL_acts_165 (lv_at hl 0 rfl) ?_
                  refine r_if_lt (tgt := 269) E dL_acts_167 (by decide) (by omega) (fun c167 => absurd c167 (by omega)) (fun c167 => ?_)
                  refine lv_aload_n E.1 E.2.1 dL_acts_170 rfl (lv_at hl 9 rfl) ?_
                  refine lv_iload E.1 E.2.1 dL_acts_171 (lv_at hl 0 rfl) ?_
                  refine r_const E dL_acts_173 ?_
                  refine kVRE (As := [.int (iI ((mn σ : Int))), .int (iI (0))]) E cw_L_29 (c_X5_session G l x fb fl1 τ hs1 tx len hI1 hT hfx hgx ((mn σ : Int)) (0) (by unfold okI; omega) (by unfold okI; omega)) hX1.1 ⟨_, _, rfl⟩ hX1 hL hl.1 rfl rfl (Nat.le_of_ble_eq_true rfl) ⟨Nat.le_of_ble_eq_true rfl, Nat.le_of_ble_eq_true rfl⟩ ⟨rfl, rfl⟩ ⟨Nat.le_of_ble_eq_true rfl, Nat.le_of_ble_eq_true rfl⟩ dL_acts_174 (fun locs hL => ?_)
                  rw [spSes0 (by omega)]
                  refine r_if_ne (tgt := 273) E dL_acts_177 (by decide) (by omega) (fun c177 => absurd c177 (by omega)) (fun c177 => ?_)
                  refine lv_aload_n E.1 E.2.1 dL_acts_180 rfl (lv_at hl 9 rfl) ?_
                  refine lv_iload E.1 E.2.1 dL_acts_181 (lv_at hl 0 rfl) ?_
                  refine r_const E dL_acts_183 ?_
                  refine kVRE (As := [.int (iI ((mn σ : Int))), .int (iI (1))]) E cw_L_29 (c_X5_session G l x fb fl1 τ hs1 tx len hI1 hT hfx hgx ((mn σ : Int)) (1) (by unfold okI; omega) (by unfold okI; omega)) hX1.1 ⟨_, _, rfl⟩ hX1 hL hl.1 rfl rfl (Nat.le_of_ble_eq_true rfl) ⟨Nat.le_of_ble_eq_true rfl, Nat.le_of_ble_eq_true rfl⟩ ⟨rfl, rfl⟩ ⟨Nat.le_of_ble_eq_true rfl, Nat.le_of_ble_eq_true rfl⟩ dL_acts_184 (fun locs hL => ?_)
                  rw [spSes1 (by omega)]
                  refine lv_iload E.1 E.2.1 dL_acts_187 (lv_at hl 5 rfl) ?_
                  refine r_icmp_ne (tgt := 273) E dL_acts_189 (by decide) (by omega) (by omega) (fun c189 => absurd c189 (by omega)) (fun c189 => ?_)
                  refine lv_aload_n E.1 E.2.1 dL_acts_192 rfl (lv_at hl 9 rfl) ?_
                  refine lv_iload E.1 E.2.1 dL_acts_193 (lv_at hl 0 rfl) ?_
                  refine r_const E dL_acts_195 ?_
                  refine kVRE (As := [.int (iI ((mn σ : Int))), .int (iI (2))]) E cw_L_29 (c_X5_session G l x fb fl1 τ hs1 tx len hI1 hT hfx hgx ((mn σ : Int)) (2) (by unfold okI; omega) (by unfold okI; omega)) hX1.1 ⟨_, _, rfl⟩ hX1 hL hl.1 rfl rfl (Nat.le_of_ble_eq_true rfl) ⟨Nat.le_of_ble_eq_true rfl, Nat.le_of_ble_eq_true rfl⟩ ⟨rfl, rfl⟩ ⟨Nat.le_of_ble_eq_true rfl, Nat.le_of_ble_eq_true rfl⟩ dL_acts_196 (fun locs hL => ?_)
                  rw [spSes2 (by omega)]
                  refine lv_aload_n E.1 E.2.1 dL_acts_199 rfl (lv_at hl 9 rfl) ?_
                  refine r_const E dL_acts_200 ?_
                  refine kVRE (As := [.int (iI (0))]) E cw_L_19 (c_X5_setting G l x fb fl1 τ hs1 tx len hI1 hT hfx hgx (0) (by unfold okI; omega)) hX1.1 ⟨_, _, rfl⟩ hX1 hL hl.1 rfl rfl (Nat.le_of_ble_eq_true rfl) ⟨Nat.le_of_ble_eq_true rfl, Nat.le_of_ble_eq_true rfl⟩ ⟨rfl, rfl⟩ ⟨Nat.le_of_ble_eq_true rfl, Nat.le_of_ble_eq_true rfl⟩ dL_acts_201 (fun locs hL => ?_)
                  rw [spSet_0 τ]
                  refine r_icmp_ne (tgt := 273) E dL_acts_204 (by decide) (by omega) (by omega) (fun c204 => absurd c204 (by omega)) (fun c204 => ?_)
                  refine lv_aload_n E.1 E.2.1 dL_acts_207 rfl (lv_at hl 9 rfl) ?_
                  refine lv_iload E.1 E.2.1 dL_acts_208 (lv_at hl 0 rfl) ?_
                  refine r_const E dL_acts_210 ?_
                  refine kVRE (As := [.int (iI ((mn σ : Int))), .int (iI (3))]) E cw_L_29 (c_X5_session G l x fb fl1 τ hs1 tx len hI1 hT hfx hgx ((mn σ : Int)) (3) (by unfold okI; omega) (by unfold okI; omega)) hX1.1 ⟨_, _, rfl⟩ hX1 hL hl.1 rfl rfl (Nat.le_of_ble_eq_true rfl) ⟨Nat.le_of_ble_eq_true rfl, Nat.le_of_ble_eq_true rfl⟩ ⟨rfl, rfl⟩ ⟨Nat.le_of_ble_eq_true rfl, Nat.le_of_ble_eq_true rfl⟩ dL_acts_211 (fun locs hL => ?_)
                  rw [spSes3 (by omega)]
                  refine lv_aload_n E.1 E.2.1 dL_acts_214 rfl (lv_at hl 9 rfl) ?_
                  refine r_const E dL_acts_215 ?_
                  refine kVRE (As := [.int (iI (0))]) E cw_L_19 (c_X5_setting G l x fb fl1 τ hs1 tx len hI1 hT hfx hgx (0) (by unfold okI; omega)) hX1.1 ⟨_, _, rfl⟩ hX1 hL hl.1 rfl rfl (Nat.le_of_ble_eq_true rfl) ⟨Nat.le_of_ble_eq_true rfl, Nat.le_of_ble_eq_true rfl⟩ ⟨rfl, rfl⟩ ⟨Nat.le_of_ble_eq_true rfl, Nat.le_of_ble_eq_true rfl⟩ dL_acts_216 (fun locs hL => ?_)
                  rw [spSet_0 τ]
                  refine r_icmp_ne (tgt := 273) E dL_acts_219 (by decide) (by omega) (by omega) (fun c219 => absurd c219 (by omega)) (fun c219 => ?_)
                  refine lv_aload_n E.1 E.2.1 dL_acts_222 rfl (lv_at hl 9 rfl) ?_
                  refine lv_iload E.1 E.2.1 dL_acts_223 (lv_at hl 0 rfl) ?_
                  refine r_const E dL_acts_225 ?_
                  refine kVRE (As := [.int (iI ((mn σ : Int))), .int (iI (4))]) E cw_L_29 (c_X5_session G l x fb fl1 τ hs1 tx len hI1 hT hfx hgx ((mn σ : Int)) (4) (by unfold okI; omega) (by unfold okI; omega)) hX1.1 ⟨_, _, rfl⟩ hX1 hL hl.1 rfl rfl (Nat.le_of_ble_eq_true rfl) ⟨Nat.le_of_ble_eq_true rfl, Nat.le_of_ble_eq_true rfl⟩ ⟨rfl, rfl⟩ ⟨Nat.le_of_ble_eq_true rfl, Nat.le_of_ble_eq_true rfl⟩ dL_acts_226 (fun locs hL => ?_)
                  rw [spSes4 (by omega)]
                  refine lv_aload_n E.1 E.2.1 dL_acts_229 rfl (lv_at hl 9 rfl) ?_
                  refine r_const E dL_acts_230 ?_
                  refine kVRE (As := [.int (iI (1))]) E cw_L_19 (c_X5_setting G l x fb fl1 τ hs1 tx len hI1 hT hfx hgx (1) (by unfold okI; omega)) hX1.1 ⟨_, _, rfl⟩ hX1 hL hl.1 rfl rfl (Nat.le_of_ble_eq_true rfl) ⟨Nat.le_of_ble_eq_true rfl, Nat.le_of_ble_eq_true rfl⟩ ⟨rfl, rfl⟩ ⟨Nat.le_of_ble_eq_true rfl, Nat.le_of_ble_eq_true rfl⟩ dL_acts_231 (fun locs hL => ?_)
                  rw [spSet_1 τ]
                  refine r_icmp_ne (tgt := 273) E dL_acts_234 (by decide) (by omega) (by omega) (fun c234 => absurd c234 (by omega)) (fun c234 => ?_)
                  refine lv_aload_n E.1 E.2.1 dL_acts_237 rfl (lv_at hl 9 rfl) ?_
                  refine lv_iload E.1 E.2.1 dL_acts_238 (lv_at hl 0 rfl) ?_
                  refine r_const E dL_acts_240 ?_
                  refine kVRE (As := [.int (iI ((mn σ : Int))), .int (iI (5))]) E cw_L_29 (c_X5_session G l x fb fl1 τ hs1 tx len hI1 hT hfx hgx ((mn σ : Int)) (5) (by unfold okI; omega) (by unfold okI; omega)) hX1.1 ⟨_, _, rfl⟩ hX1 hL hl.1 rfl rfl (Nat.le_of_ble_eq_true rfl) ⟨Nat.le_of_ble_eq_true rfl, Nat.le_of_ble_eq_true rfl⟩ ⟨rfl, rfl⟩ ⟨Nat.le_of_ble_eq_true rfl, Nat.le_of_ble_eq_true rfl⟩ dL_acts_241 (fun locs hL => ?_)
                  rw [spSes5 (by omega)]
                  refine lv_iload E.1 E.2.1 dL_acts_244 (lv_at hl 1 rfl) ?_
                  refine r_icmp_ne (tgt := 273) E dL_acts_246 (by decide) (by omega) (by omega) (fun c246 => absurd c246 (by omega)) (fun c246 => ?_)
                  refine lv_aload_n E.1 E.2.1 dL_acts_249 rfl (lv_at hl 9 rfl) ?_
                  refine lv_iload E.1 E.2.1 dL_acts_250 (lv_at hl 0 rfl) ?_
                  refine r_bipush E dL_acts_252 (by decide) ?_
                  refine kVRE (As := [.int (iI ((mn σ : Int))), .int (iI (7))]) E cw_L_29 (c_X5_session G l x fb fl1 τ hs1 tx len hI1 hT hfx hgx ((mn σ : Int)) (7) (by unfold okI; omega) (by unfold okI; omega)) hX1.1 ⟨_, _, rfl⟩ hX1 hL hl.1 rfl rfl (Nat.le_of_ble_eq_true rfl) ⟨Nat.le_of_ble_eq_true rfl, Nat.le_of_ble_eq_true rfl⟩ ⟨rfl, rfl⟩ ⟨Nat.le_of_ble_eq_true rfl, Nat.le_of_ble_eq_true rfl⟩ dL_acts_254 (fun locs hL => ?_)
                  rw [spSes7 (by omega)]
                  refine r_if_ne (tgt := 273) E dL_acts_257 (by decide) (by omega) (fun c257 => absurd c257 (by omega)) (fun c257 => ?_)
                  refine lv_aload_n E.1 E.2.1 dL_acts_260 rfl (lv_at hl 9 rfl) ?_
                  refine kVRE (As := []) E cw_L_55 (c_X5_valid G l x fb fl1 τ hs1 tx len hI1 hT hfx hgx  ) hX1.1 ⟨_, _, rfl⟩ hX1 hL hl.1 rfl rfl (Nat.le_of_ble_eq_true rfl) ⟨Nat.le_of_ble_eq_true rfl, Nat.le_of_ble_eq_true rfl⟩ ⟨rfl, rfl⟩ ⟨Nat.le_of_ble_eq_true rfl, Nat.le_of_ble_eq_true rfl⟩ dL_acts_261 (fun locs hL => ?_)
                  rw [hqv, hsv]
                  refine lv_iload E.1 E.2.1 dL_acts_264 (lv_at hl 4 rfl) ?_
                  refine r_icmp_ne (tgt := 273) E dL_acts_266 (by decide) (by omega) (by omega) (fun c266 => absurd c266 (by omega)) (fun c266 => ?_)
                  refine r_const E dL_acts_269 ?_
                  refine lv_goto (tgt := 274) E.1 E.2.1 dL_acts_270 (by decide) ?_
                  refine W.widen (k := 80) (n := 240) (Nat.le_of_ble_eq_true rfl) (Nat.le_of_ble_eq_true rfl) ?_
                  refine e_zret (rm := ({ frames := 8, cells := 80, slots := 240, locals := 189 } : Room)) (v := iI (1)) E hL rfl dL_acts_274 ?_
                  exact ⟨rfl, _, _, _, _, hV1, hD1, hT, fun _ => hC1, ⟨_, hE1, hX1⟩, hR1⟩
                · have hsp : (spBegin σ w3) = (-4, σ) := bg_e3 hm2 hop hf2
                  refine lv_aload_n E.1 E.2.1 dL_acts_119 rfl (lv_at hl 8 rfl) ?_
                  refine lv_iload E.1 E.2.1 dL_acts_120 (lv_at hl 2 rfl) ?_
                  refine kVWE (As := [.int (iI (w3))]) E cw_L_128 (c_X5_begin G l x fb fl σ hs tx len hI hT hfx hgx (w3) (by unfold okI; omega)) hP.1.1 ⟨_, _, rfl⟩ ⟨hP.1, hP.2⟩ hL hl.1 rfl rfl (Nat.le_of_ble_eq_true rfl) ⟨Nat.le_of_ble_eq_true rfl, Nat.le_of_ble_eq_true rfl⟩ ⟨Nat.le_of_ble_eq_true rfl, Nat.le_of_ble_eq_true rfl⟩ dL_acts_122 (fun H5 locs hL hw_ => ?_)
                  obtain ⟨⟨fl1, hE1, hX1⟩, hR1⟩ := hw_
                  have hV1 : VS (spBegin σ (w3)).2 := hS.begin (w3)
                  have hC1 : AC σ hs (spBegin σ (w3)).2 (hsA σ hs (spBegin σ (w3)).1) := ac_of (spBegin_b hI (w3)).2.2
                  have hD1 : VH (hsA σ hs (spBegin σ (w3)).1) := VH.hs1 hS hH
                  generalize hsA σ hs (spBegin σ (w3)).1 = hs1 at hX1 hC1 hD1
                  have hte : (spBegin σ w3).2 = σ := by rw [hsp]
                  have hr1 : (spBegin σ (w3)).1 = (-4) := by rw [hsp]
                  rw [hr1]
                  generalize (spBegin σ (w3)).2 = τ at hX1 hV1 hC1 hte
                  have hI1 := hV1.1
                  have hz1 := FrR.size hR1 hP.2
                  refine lv_istore (lv' := [(11, .int (iI ((-4)))), (10, .int (iI ((entriesN σ v9 : Int)))), (9, .int (iI (v91))), (8, .int (iI (w3))), (7, .int (iI (sv))), (6, .int (iI ((nx σ : Int)))), (5, .int (iI ((mn σ : Int)))), (4, .int (iI ((-6)))), (3, .int (iI (w1))), (0, .ref (x)), (1, .int (v1)), (2, .int (v2))]) E.1 E.2.1 dL_acts_125 hl (by decide) rfl (fun ls hl => ?_)
                  refine lv_iload E.1 E.2.1 dL_acts_127 (lv_at hl 0 rfl) ?_
                  refine lv_iload E.1 E.2.1 dL_acts_129 (lv_at hl 3 rfl) ?_
                  refine r_const E dL_acts_131 ?_
                  refine r_icmp_ne (tgt := 140) E dL_acts_132 (by decide) (by omega) (by omega) (fun c132 => ?_) (fun c132 => absurd c132 (by omega))
                  refine lv_iload E.1 E.2.1 dL_acts_140 (lv_at hl 7 rfl) ?_
                  refine r_if_lt (tgt := 150) E dL_acts_142 (by decide) (by omega) (fun c142 => ?_) (fun c142 => absurd c142 (by omega))
                  refine lv_iload E.1 E.2.1 dL_acts_150 (lv_at hl 2 rfl) ?_
                  refine r_if_ne (tgt := 160) E dL_acts_152 (by decide) (by omega) (fun c152 => absurd c152 (by omega)) (fun c152 => ?_)
                  refine r_bipush E dL_acts_155 (by decide) ?_
                  refine lv_goto (tgt := 162) E.1 E.2.1 dL_acts_157 (by decide) ?_
                  refine r_icmp_ne (tgt := 273) E dL_acts_162 (by decide) (by omega) (by omega) (fun c162 => absurd c162 (by omega)) (fun c162 => ?_)
                  refine lv_iload E.1 E.2.1 dL_acts_165 (lv_at hl 0 rfl) ?_
                  refine r_if_lt (tgt := 269) E dL_acts_167 (by decide) (by omega) (fun c167 => ?_) (fun c167 => absurd c167 (by omega))
                  refine r_const E dL_acts_269 ?_
                  refine lv_goto (tgt := 274) E.1 E.2.1 dL_acts_270 (by decide) ?_
                  refine W.widen (k := 80) (n := 240) (Nat.le_of_ble_eq_true rfl) (Nat.le_of_ble_eq_true rfl) ?_
                  refine e_zret (rm := ({ frames := 8, cells := 80, slots := 240, locals := 189 } : Room)) (v := iI (1)) E hL rfl dL_acts_274 ?_
                  exact ⟨rfl, _, _, _, _, hV1, hD1, hT, fun _ => hC1, ⟨_, hE1, hX1⟩, hR1⟩
        refine lv_iload E.1 E.2.1 dL_acts_59 (lv_at hl 3 rfl) ?_
        refine r_bipush E dL_acts_61 (by decide) ?_
        refine r_icmp_ge (tgt := 90) E dL_acts_63 (by decide) (by omega) (by omega) (fun c63 => ?_) (fun c63 => ?_)
        · refine r_const E dL_acts_90 ?_
          exact J91_3 _ (by omega) ls locs (lv_sub hl [0, 1, 2, 3, 4, 5, 6, 7, 8] rfl) hL
        · refine lv_iload E.1 E.2.1 dL_acts_66 (lv_at hl 2 rfl) ?_
          refine lv_aload_n E.1 E.2.1 dL_acts_68 rfl (lv_at hl 6 rfl) ?_
          refine r_const E dL_acts_69 ?_
          refine kVRE (As := [.int (iI (0))]) E cw_L_19 (c_X5_setting G l x fb fl σ hs tx len hI hT hfx hgx (0) (by unfold okI; omega)) hP.1.1 ⟨_, _, rfl⟩ hP.1 hL hl.1 rfl rfl (Nat.le_of_ble_eq_true rfl) ⟨Nat.le_of_ble_eq_true rfl, Nat.le_of_ble_eq_true rfl⟩ ⟨rfl, rfl⟩ ⟨Nat.le_of_ble_eq_true rfl, Nat.le_of_ble_eq_true rfl⟩ dL_acts_70 (fun locs hL => ?_)
          rw [spSet_0 σ]
          refine r_add E dL_acts_73 ?_
          refine lv_aload_n E.1 E.2.1 dL_acts_74 rfl (lv_at hl 6 rfl) ?_
          refine r_const E dL_acts_75 ?_
          refine kVRE (As := [.int (iI (1))]) E cw_L_19 (c_X5_setting G l x fb fl σ hs tx len hI hT hfx hgx (1) (by unfold okI; omega)) hP.1.1 ⟨_, _, rfl⟩ hP.1 hL hl.1 rfl rfl (Nat.le_of_ble_eq_true rfl) ⟨Nat.le_of_ble_eq_true rfl, Nat.le_of_ble_eq_true rfl⟩ ⟨rfl, rfl⟩ ⟨Nat.le_of_ble_eq_true rfl, Nat.le_of_ble_eq_true rfl⟩ dL_acts_76 (fun locs hL => ?_)
          rw [spSet_1 σ]
          refine r_add E dL_acts_79 ?_
          refine r_sipush E dL_acts_80 (by decide) ?_
          refine r_icmp_gt (tgt := 90) E dL_acts_83 (by decide) (by omega) (by omega) (fun c83 => ?_) (fun c83 => ?_)
          · refine r_const E dL_acts_90 ?_
            exact J91_3 _ (by omega) ls locs (lv_sub hl [0, 1, 2, 3, 4, 5, 6, 7, 8] rfl) hL
          · refine r_const E dL_acts_86 ?_
            refine lv_goto (tgt := 91) E.1 E.2.1 dL_acts_87 (by decide) ?_
            exact J91_3 _ (by omega) ls locs (lv_sub hl [0, 1, 2, 3, 4, 5, 6, 7, 8] rfl) hL
      refine lv_iload_n E.1 E.2.1 dL_acts_37 rfl (lv_at hl 7 rfl) ?_
      refine r_bipush E dL_acts_38 (by decide) ?_
      refine lv_ishr E.1 E.2.1 dL_acts_40 ?_
      refine r_bipush E dL_acts_41 (by decide) ?_
      obtain ⟨w3, hw3⟩ : ∃ z : Int, lowI (((v2) >>> ((iI (9)) &&& 31))) (7) = z := ⟨_, rfl⟩
      have hw3b : 0 ≤ w3 ∧ w3 < (7) := by rw [← hw3]; exact low_b _ (by omega)
      have hw3c := c_L_low G l (((v2) >>> ((iI (9)) &&& 31))) (7) (by omega)
      rw [hw3] at hw3c
      refine kSRE (As := [.int (((v2) >>> ((iI (9)) &&& 31))), .int (iI (7))]) E cw_L_72 hw3c trivial hL hl.1 rfl rfl (Nat.le_of_ble_eq_true rfl) ⟨Nat.le_of_ble_eq_true rfl, Nat.le_of_ble_eq_true rfl⟩ ⟨rfl, rfl⟩ ⟨Nat.le_of_ble_eq_true rfl, Nat.le_of_ble_eq_true rfl⟩ dL_acts_43 (fun locs hL => ?_)
      refine r_if_ne (tgt := 53) E dL_acts_46 (by decide) (by omega) (fun c46 => ?_) (fun c46 => ?_)
      · refine r_const E dL_acts_53 ?_
        exact J54_1 _ (by omega) ls locs (lv_sub hl [0, 1, 2, 3, 4, 5, 6, 7] rfl) hL
      · refine r_const E dL_acts_49 ?_
        refine lv_goto (tgt := 54) E.1 E.2.1 dL_acts_50 (by decide) ?_
        exact J54_1 _ (by omega) ls locs (lv_sub hl [0, 1, 2, 3, 4, 5, 6, 7] rfl) hL
  · rw [show oI (some n) = (n : Int) from rfl]
    have hn := opn_some hop
    have hnm : n < mn σ := by omega
    have hrow := hI.row hnm
    refine lv_istore (lv' := [(4, .int (iI ((n : Int)))), (3, .int (iI (w1))), (0, .ref (x)), (1, .int (v1)), (2, .int (v2))]) E.1 E.2.1 dL_acts_11 hl (by decide) rfl (fun ls hl => ?_)
    refine lv_aload_n E.1 E.2.1 dL_acts_13 rfl (lv_at hl 2 rfl) ?_
    refine kVRE (As := []) E cw_L_26 (c_X5_sessions G l x fb fl σ hs tx len hI hT hfx hgx  ) hP.1.1 ⟨_, _, rfl⟩ hP.1 hL hl.1 rfl rfl (Nat.le_of_ble_eq_true rfl) ⟨Nat.le_of_ble_eq_true rfl, Nat.le_of_ble_eq_true rfl⟩ ⟨rfl, rfl⟩ ⟨Nat.le_of_ble_eq_true rfl, Nat.le_of_ble_eq_true rfl⟩ dL_acts_14 (fun locs hL => ?_)
    refine lv_istore (lv' := [(5, .int (iI ((mn σ : Int)))), (4, .int (iI ((n : Int)))), (3, .int (iI (w1))), (0, .ref (x)), (1, .int (v1)), (2, .int (v2))]) E.1 E.2.1 dL_acts_17 hl (by decide) rfl (fun ls hl => ?_)
    refine lv_aload_n E.1 E.2.1 dL_acts_19 rfl (lv_at hl 3 rfl) ?_
    refine kVRE (As := []) E cw_L_13 (c_X5_next G l x fb fl σ hs tx len hI hT hfx hgx  ) hP.1.1 ⟨_, _, rfl⟩ hP.1 hL hl.1 rfl rfl (Nat.le_of_ble_eq_true rfl) ⟨Nat.le_of_ble_eq_true rfl, Nat.le_of_ble_eq_true rfl⟩ ⟨rfl, rfl⟩ ⟨Nat.le_of_ble_eq_true rfl, Nat.le_of_ble_eq_true rfl⟩ dL_acts_20 (fun locs hL => ?_)
    refine lv_istore (lv' := [(6, .int (iI ((nx σ : Int)))), (5, .int (iI ((mn σ : Int)))), (4, .int (iI ((n : Int)))), (3, .int (iI (w1))), (0, .ref (x)), (1, .int (v1)), (2, .int (v2))]) E.1 E.2.1 dL_acts_23 hl (by decide) rfl (fun ls hl => ?_)
    obtain ⟨sv, hsv⟩ : ∃ a, spValid σ = a := ⟨_, rfl⟩
    have hsv2 : oI (validD σ (dm σ)) = sv := hsv
    have hvb := oI_b (o := validD σ (dm σ)) (N := 12) (fun n h => Nat.lt_of_lt_of_le (validD_lt h) i1)
    rw [hsv2] at hvb
    refine lv_aload_n E.1 E.2.1 dL_acts_25 rfl (lv_at hl 4 rfl) ?_
    refine kVRE (As := []) E cw_L_55 (c_X5_valid G l x fb fl σ hs tx len hI hT hfx hgx  ) hP.1.1 ⟨_, _, rfl⟩ hP.1 hL hl.1 rfl rfl (Nat.le_of_ble_eq_true rfl) ⟨Nat.le_of_ble_eq_true rfl, Nat.le_of_ble_eq_true rfl⟩ ⟨rfl, rfl⟩ ⟨Nat.le_of_ble_eq_true rfl, Nat.le_of_ble_eq_true rfl⟩ dL_acts_26 (fun locs hL => ?_)
    rw [hsv]
    refine lv_istore (lv' := [(7, .int (iI (sv))), (6, .int (iI ((nx σ : Int)))), (5, .int (iI ((mn σ : Int)))), (4, .int (iI ((n : Int)))), (3, .int (iI (w1))), (0, .ref (x)), (1, .int (v1)), (2, .int (v2))]) E.1 E.2.1 dL_acts_29 hl (by decide) rfl (fun ls hl => ?_)
    refine lv_iload_n E.1 E.2.1 dL_acts_31 rfl (lv_at hl 4 rfl) ?_
    refine r_const E dL_acts_32 ?_
    refine r_icmp_ge (tgt := 275) E dL_acts_33 (by decide) (by omega) (by omega) (fun c33 => ?_) (fun c33 => ?_)
    · refine lv_iload_n E.1 E.2.1 dL_acts_275 rfl (lv_at hl 4 rfl) ?_
      refine r_bipush E dL_acts_276 (by decide) ?_
      refine r_icmp_ge (tgt := 308) E dL_acts_278 (by decide) (by omega) (by omega) (fun c278 => ?_) (fun c278 => ?_)
      · refine lv_iload_n E.1 E.2.1 dL_acts_308 rfl (lv_at hl 4 rfl) ?_
        refine r_bipush E dL_acts_309 (by decide) ?_
        refine r_icmp_ge (tgt := 414) E dL_acts_311 (by decide) (by omega) (by omega) (fun c311 => ?_) (fun c311 => ?_)
        · refine lv_iload_n E.1 E.2.1 dL_acts_414 rfl (lv_at hl 4 rfl) ?_
          refine r_bipush E dL_acts_415 (by decide) ?_
          refine r_icmp_ne (tgt := 477) E dL_acts_417 (by decide) (by omega) (by omega) (fun c417 => ?_) (fun c417 => ?_)
          · refine lv_iload_n E.1 E.2.1 dL_acts_477 rfl (lv_at hl 4 rfl) ?_
            refine r_bipush E dL_acts_478 (by decide) ?_
            refine r_icmp_ge (tgt := 636) E dL_acts_480 (by decide) (by omega) (by omega) (fun c480 => ?_) (fun c480 => ?_)
            · refine lv_iload_n E.1 E.2.1 dL_acts_636 rfl (lv_at hl 4 rfl) ?_
              refine r_bipush E dL_acts_637 (by decide) ?_
              refine r_icmp_ge (tgt := 812) E dL_acts_639 (by decide) (by omega) (by omega) (fun c639 => ?_) (fun c639 => ?_)
              · refine lv_iload_n E.1 E.2.1 dL_acts_812 rfl (lv_at hl 4 rfl) ?_
                refine r_bipush E dL_acts_813 (by decide) ?_
                refine r_icmp_ne (tgt := 948) E dL_acts_815 (by decide) (by omega) (by omega) (fun c815 => ?_) (fun c815 => ?_)
                · refine lv_aload_n E.1 E.2.1 dL_acts_948 rfl (lv_at hl 5 rfl) ?_
                  refine lv_iload_n E.1 E.2.1 dL_acts_949 rfl (lv_at hl 7 rfl) ?_
                  refine kSWE (As := [.ref (x), .int (v2)]) E cw_L_149 (c_L_runs G l x fb fl σ hs tx len hS hH hT hfx hgx v2) ⟨hP.1, hP.2⟩ hL hl.1 rfl rfl (Nat.le_of_ble_eq_true rfl) ⟨Nat.le_of_ble_eq_true rfl, Nat.le_of_ble_eq_true rfl⟩ ⟨Nat.le_of_ble_eq_true rfl, Nat.le_of_ble_eq_true rfl⟩ dL_acts_950 (fun H2 locs hL hw_ => ?_)
                  obtain ⟨τ, hs1, tx1, len1, hV1, hD1, hT1, -, ⟨fl1, hE1, hX1⟩, hR1⟩ := hw_
                  refine W.widen (k := 80) (n := 240) (Nat.le_of_ble_eq_true rfl) (Nat.le_of_ble_eq_true rfl) ?_
                  refine e_zret (rm := ({ frames := 8, cells := 80, slots := 240, locals := 189 } : Room)) (v := iI (1)) E hL rfl dL_acts_953 ?_
                  exact ⟨rfl, _, _, _, _, hV1, hD1, hT1, fun h9 => absurd (by rw [hw1] at h9; exact h9) (by omega), ⟨_, hE1, hX1⟩, hR1⟩
                · refine lv_iload_n E.1 E.2.1 dL_acts_818 rfl (lv_at hl 7 rfl) ?_
                  refine r_const E dL_acts_819 ?_
                  obtain ⟨w2, hw2⟩ : ∃ z : Int, lowI (v2) (3) = z := ⟨_, rfl⟩
                  have hw2b : 0 ≤ w2 ∧ w2 < (3) := by rw [← hw2]; exact low_b _ (by omega)
                  have hw2c := c_L_low G l (v2) (3) (by omega)
                  rw [hw2] at hw2c
                  refine kSRE (As := [.int (v2), .int (iI (3))]) E cw_L_72 hw2c trivial hL hl.1 rfl rfl (Nat.le_of_ble_eq_true rfl) ⟨Nat.le_of_ble_eq_true rfl, Nat.le_of_ble_eq_true rfl⟩ ⟨rfl, rfl⟩ ⟨Nat.le_of_ble_eq_true rfl, Nat.le_of_ble_eq_true rfl⟩ dL_acts_820 (fun locs hL => ?_)
                  refine lv_istore (lv' := [(8, .int (iI (w2))), (7, .int (iI (sv))), (6, .int (iI ((nx σ : Int)))), (5, .int (iI ((mn σ : Int)))), (4, .int (iI ((n : Int)))), (3, .int (iI (w1))), (0, .ref (x)), (1, .int (v1)), (2, .int (v2))]) E.1 E.2.1 dL_acts_823 hl (by decide) rfl (fun ls hl => ?_)
                  refine lv_iload_n E.1 E.2.1 dL_acts_825 rfl (lv_at hl 8 rfl) ?_
                  refine r_const E dL_acts_826 ?_
                  refine lv_ishr E.1 E.2.1 dL_acts_827 ?_
                  refine r_bipush E dL_acts_828 (by decide) ?_
                  obtain ⟨w3, hw3⟩ : ∃ z : Int, lowI (((v2) >>> ((iI (2)) &&& 31))) (11) = z := ⟨_, rfl⟩
                  have hw3b : 0 ≤ w3 ∧ w3 < (11) := by rw [← hw3]; exact low_b _ (by omega)
                  have hw3c := c_L_low G l (((v2) >>> ((iI (2)) &&& 31))) (11) (by omega)
                  rw [hw3] at hw3c
                  refine kSRE (As := [.int (((v2) >>> ((iI (2)) &&& 31))), .int (iI (11))]) E cw_L_72 hw3c trivial hL hl.1 rfl rfl (Nat.le_of_ble_eq_true rfl) ⟨Nat.le_of_ble_eq_true rfl, Nat.le_of_ble_eq_true rfl⟩ ⟨rfl, rfl⟩ ⟨Nat.le_of_ble_eq_true rfl, Nat.le_of_ble_eq_true rfl⟩ dL_acts_830 (fun locs hL => ?_)
                  refine lv_istore (lv' := [(9, .int (iI (w3))), (8, .int (iI (w2))), (7, .int (iI (sv))), (6, .int (iI ((nx σ : Int)))), (5, .int (iI ((mn σ : Int)))), (4, .int (iI ((n : Int)))), (3, .int (iI (w1))), (0, .ref (x)), (1, .int (v1)), (2, .int (v2))]) E.1 E.2.1 dL_acts_833 hl (by decide) rfl (fun ls hl => ?_)
                  rcases (show w2 = 0 ∨ w2 = 1 ∨ w2 = 2 by omega) with rfl | rfl | rfl
                  · refine lv_iload E.1 E.2.1 dL_acts_835 (lv_at hl 1 rfl) ?_
                    refine r_const E dL_acts_837 ?_
                    refine r_icmp_ne (tgt := 845) E dL_acts_838 (by decide) (by omega) (by omega) (fun c838 => ?_) (fun c838 => absurd c838 (by omega))
                    refine lv_aload_n E.1 E.2.1 dL_acts_845 rfl (lv_at hl 7 rfl) ?_
                    refine lv_iload E.1 E.2.1 dL_acts_846 (lv_at hl 1 rfl) ?_
                    refine kVRE (As := [.int (iI (0))]) E cw_L_19 (c_X5_setting G l x fb fl σ hs tx len hI hT hfx hgx (0) (by unfold okI; omega)) hP.1.1 ⟨_, _, rfl⟩ hP.1 hL hl.1 rfl rfl (Nat.le_of_ble_eq_true rfl) ⟨Nat.le_of_ble_eq_true rfl, Nat.le_of_ble_eq_true rfl⟩ ⟨rfl, rfl⟩ ⟨Nat.le_of_ble_eq_true rfl, Nat.le_of_ble_eq_true rfl⟩ dL_acts_848 (fun locs hL => ?_)
                    rw [spSet_0 σ]
                    refine lv_istore (lv' := [(10, .int (iI ((s0 σ : Int)))), (9, .int (iI (w3))), (8, .int (iI (0))), (7, .int (iI (sv))), (6, .int (iI ((nx σ : Int)))), (5, .int (iI ((mn σ : Int)))), (4, .int (iI ((n : Int)))), (3, .int (iI (w1))), (0, .ref (x)), (1, .int (v1)), (2, .int (v2))]) E.1 E.2.1 dL_acts_851 hl (by decide) rfl (fun ls hl => ?_)
                    have J880_3 : ∀ (v880 : Int) (hv880 : (v880 = 1 ∧ (w3 < 2 ∨ 9 < w3)) ∨ (v880 = 0 ∧ 2 ≤ w3 ∧ w3 ≤ 9)) (ls : Array Slot) (locs : List Loc) (hl : lv_has ls 12 [(10, .int (iI ((s0 σ : Int)))), (9, .int (iI (w3))), (8, .int (iI (0))), (7, .int (iI (sv))), (6, .int (iI ((nx σ : Int)))), (5, .int (iI ((mn σ : Int)))), (4, .int (iI ((n : Int)))), (3, .int (iI (w1))), (0, .ref (x)), (1, .int (v1)), (2, .int (v2))]) (hL : Lk G locs), W p l e ({ frames := 8, cells := 80, slots := 240, locals := 189 } : Room) s m args below meth c s.heap locs 0 0 (QQ G below args s ({ frames := 8, cells := 80, slots := 240, locals := 189 } : Room) (WE (iI 1) (fun H H1 => ∃ τ hs1 tx1 len1, VS τ ∧ VH hs1 ∧ TxOk tx1 len1 ∧ (lowI v1 30 ≤ 26 → AC σ hs τ hs1) ∧ XP G x fb fl τ hs1 tx1 len1 H H1))) (F0 m 880 ls [.int (iI (v880))]) := by
                      intro v880 hv880 ls locs hl hL
                      refine lv_istore (lv' := [(11, .int (iI (v880))), (10, .int (iI ((s0 σ : Int)))), (9, .int (iI (w3))), (8, .int (iI (0))), (7, .int (iI (sv))), (6, .int (iI ((nx σ : Int)))), (5, .int (iI ((mn σ : Int)))), (4, .int (iI ((n : Int)))), (3, .int (iI (w1))), (0, .ref (x)), (1, .int (v1)), (2, .int (v2))]) E.1 E.2.1 dL_acts_880 hl (by decide) rfl (fun ls hl => ?_)
                      rcases hv880 with ⟨hb8, hb9⟩ | ⟨hb8, hb9⟩
                      · have hsp : (spSet σ 0 w3) = (-2, σ) := st_0b (by omega)
                        refine lv_aload_n E.1 E.2.1 dL_acts_882 rfl (lv_at hl 9 rfl) ?_
                        refine lv_iload E.1 E.2.1 dL_acts_883 (lv_at hl 3 rfl) ?_
                        refine lv_iload E.1 E.2.1 dL_acts_885 (lv_at hl 2 rfl) ?_
                        refine kVWE (As := [.int (iI (0)), .int (iI (w3))]) E cw_L_146 (c_X5_set G l x fb fl σ hs tx len hI hT hfx hgx (0) (w3) (by unfold okI; omega) (by unfold okI; omega)) hP.1.1 ⟨_, _, rfl⟩ ⟨hP.1, hP.2⟩ hL hl.1 rfl rfl (Nat.le_of_ble_eq_true rfl) ⟨Nat.le_of_ble_eq_true rfl, Nat.le_of_ble_eq_true rfl⟩ ⟨Nat.le_of_ble_eq_true rfl, Nat.le_of_ble_eq_true rfl⟩ dL_acts_887 (fun H5 locs hL hw_ => ?_)
                        obtain ⟨⟨fl1, hE1, hX1⟩, hR1⟩ := hw_
                        have hV1 : VS (spSet σ (0) (w3)).2 := hS.set (0) (w3)
                        have hC1 : AC σ hs (spSet σ (0) (w3)).2 (hsA σ hs (spSet σ (0) (w3)).1) := ac_of (spSet_b hI (0) (w3)).2.2
                        have hD1 : VH (hsA σ hs (spSet σ (0) (w3)).1) := VH.hs1 hS hH
                        generalize hsA σ hs (spSet σ (0) (w3)).1 = hs1 at hX1 hC1 hD1
                        have hte : (spSet σ 0 w3).2 = σ := by rw [hsp]
                        have hr1 : (spSet σ (0) (w3)).1 = (-2) := by rw [hsp]
                        rw [hr1]
                        generalize (spSet σ (0) (w3)).2 = τ at hX1 hV1 hC1 hte
                        have hI1 := hV1.1
                        have hz1 := FrR.size hR1 hP.2
                        have hg9 : s0 τ = s0 σ := by rw [hte]
                        refine lv_iload E.1 E.2.1 dL_acts_890 (lv_at hl 3 rfl) ?_
                        refine r_const E dL_acts_892 ?_
                        refine r_icmp_ne (tgt := 900) E dL_acts_893 (by decide) (by omega) (by omega) (fun c893 => ?_) (fun c893 => absurd c893 (by omega))
                        refine lv_iload E.1 E.2.1 dL_acts_900 (lv_at hl 0 rfl) ?_
                        refine r_if_eq (tgt := 910) E dL_acts_902 (by decide) (by omega) (fun c902 => absurd c902 (by omega)) (fun c902 => ?_)
                        refine r_bipush E dL_acts_905 (by decide) ?_
                        refine lv_goto (tgt := 912) E.1 E.2.1 dL_acts_907 (by decide) ?_
                        refine r_icmp_ne (tgt := 946) E dL_acts_912 (by decide) (by omega) (by omega) (fun c912 => absurd c912 (by omega)) (fun c912 => ?_)
                        refine lv_iload E.1 E.2.1 dL_acts_915 (lv_at hl 3 rfl) ?_
                        refine r_const E dL_acts_917 ?_
                        refine r_icmp_eq (tgt := 942) E dL_acts_918 (by decide) (by omega) (by omega) (fun c918 => absurd c918 (by omega)) (fun c918 => ?_)
                        refine lv_aload_n E.1 E.2.1 dL_acts_921 rfl (lv_at hl 9 rfl) ?_
                        refine lv_iload E.1 E.2.1 dL_acts_922 (lv_at hl 3 rfl) ?_
                        refine kVRE (As := [.int (iI (0))]) E cw_L_19 (c_X5_setting G l x fb fl1 τ hs1 tx len hI1 hT hfx hgx (0) (by unfold okI; omega)) hX1.1 ⟨_, _, rfl⟩ hX1 hL hl.1 rfl rfl (Nat.le_of_ble_eq_true rfl) ⟨Nat.le_of_ble_eq_true rfl, Nat.le_of_ble_eq_true rfl⟩ ⟨rfl, rfl⟩ ⟨Nat.le_of_ble_eq_true rfl, Nat.le_of_ble_eq_true rfl⟩ dL_acts_924 (fun locs hL => ?_)
                        rw [spSet_0 τ]
                        refine lv_iload E.1 E.2.1 dL_acts_927 (lv_at hl 0 rfl) ?_
                        refine r_if_eq (tgt := 937) E dL_acts_929 (by decide) (by omega) (fun c929 => absurd c929 (by omega)) (fun c929 => ?_)
                        refine lv_iload E.1 E.2.1 dL_acts_932 (lv_at hl 1 rfl) ?_
                        refine lv_goto (tgt := 939) E.1 E.2.1 dL_acts_934 (by decide) ?_
                        refine r_icmp_ne (tgt := 946) E dL_acts_939 (by decide) (by omega) (by omega) (fun c939 => absurd c939 (by omega)) (fun c939 => ?_)
                        refine r_const E dL_acts_942 ?_
                        refine lv_goto (tgt := 947) E.1 E.2.1 dL_acts_943 (by decide) ?_
                        refine W.widen (k := 80) (n := 240) (Nat.le_of_ble_eq_true rfl) (Nat.le_of_ble_eq_true rfl) ?_
                        refine e_zret (rm := ({ frames := 8, cells := 80, slots := 240, locals := 189 } : Room)) (v := iI (1)) E hL rfl dL_acts_947 ?_
                        exact ⟨rfl, _, _, _, _, hV1, hD1, hT, fun _ => hC1, ⟨_, hE1, hX1⟩, hR1⟩
                      · refine lv_aload_n E.1 E.2.1 dL_acts_882 rfl (lv_at hl 9 rfl) ?_
                        refine lv_iload E.1 E.2.1 dL_acts_883 (lv_at hl 3 rfl) ?_
                        refine lv_iload E.1 E.2.1 dL_acts_885 (lv_at hl 2 rfl) ?_
                        refine kVWE (As := [.int (iI (0)), .int (iI (w3))]) E cw_L_146 (c_X5_set G l x fb fl σ hs tx len hI hT hfx hgx (0) (w3) (by unfold okI; omega) (by unfold okI; omega)) hP.1.1 ⟨_, _, rfl⟩ ⟨hP.1, hP.2⟩ hL hl.1 rfl rfl (Nat.le_of_ble_eq_true rfl) ⟨Nat.le_of_ble_eq_true rfl, Nat.le_of_ble_eq_true rfl⟩ ⟨Nat.le_of_ble_eq_true rfl, Nat.le_of_ble_eq_true rfl⟩ dL_acts_887 (fun H5 locs hL hw_ => ?_)
                        obtain ⟨⟨fl1, hE1, hX1⟩, hR1⟩ := hw_
                        have hV1 : VS (spSet σ (0) (w3)).2 := hS.set (0) (w3)
                        have hC1 : AC σ hs (spSet σ (0) (w3)).2 (hsA σ hs (spSet σ (0) (w3)).1) := ac_of (spSet_b hI (0) (w3)).2.2
                        have hD1 : VH (hsA σ hs (spSet σ (0) (w3)).1) := VH.hs1 hS hH
                        generalize hsA σ hs (spSet σ (0) (w3)).1 = hs1 at hX1 hC1 hD1
                        have hok := st_0 (σ := σ) hb9
                        have hg9 := hok.2
                        have hr1 : (spSet σ (0) (w3)).1 = (s0 σ : Int) := hok.1
                        rw [hr1]
                        generalize (spSet σ (0) (w3)).2 = τ at hX1 hV1 hC1 hg9
                        have hI1 := hV1.1
                        have hz1 := FrR.size hR1 hP.2
                        refine lv_iload E.1 E.2.1 dL_acts_890 (lv_at hl 3 rfl) ?_
                        refine r_const E dL_acts_892 ?_
                        refine r_icmp_ne (tgt := 900) E dL_acts_893 (by decide) (by omega) (by omega) (fun c893 => ?_) (fun c893 => absurd c893 (by omega))
                        refine lv_iload E.1 E.2.1 dL_acts_900 (lv_at hl 0 rfl) ?_
                        refine r_if_eq (tgt := 910) E dL_acts_902 (by decide) (by omega) (fun c902 => ?_) (fun c902 => absurd c902 (by omega))
                        refine lv_iload E.1 E.2.1 dL_acts_910 (lv_at hl 1 rfl) ?_
                        refine r_icmp_ne (tgt := 946) E dL_acts_912 (by decide) (by omega) (by omega) (fun c912 => absurd c912 (by omega)) (fun c912 => ?_)
                        refine lv_iload E.1 E.2.1 dL_acts_915 (lv_at hl 3 rfl) ?_
                        refine r_const E dL_acts_917 ?_
                        refine r_icmp_eq (tgt := 942) E dL_acts_918 (by decide) (by omega) (by omega) (fun c918 => absurd c918 (by omega)) (fun c918 => ?_)
                        refine lv_aload_n E.1 E.2.1 dL_acts_921 rfl (lv_at hl 9 rfl) ?_
                        refine lv_iload E.1 E.2.1 dL_acts_922 (lv_at hl 3 rfl) ?_
                        refine kVRE (As := [.int (iI (0))]) E cw_L_19 (c_X5_setting G l x fb fl1 τ hs1 tx len hI1 hT hfx hgx (0) (by unfold okI; omega)) hX1.1 ⟨_, _, rfl⟩ hX1 hL hl.1 rfl rfl (Nat.le_of_ble_eq_true rfl) ⟨Nat.le_of_ble_eq_true rfl, Nat.le_of_ble_eq_true rfl⟩ ⟨rfl, rfl⟩ ⟨Nat.le_of_ble_eq_true rfl, Nat.le_of_ble_eq_true rfl⟩ dL_acts_924 (fun locs hL => ?_)
                        rw [spSet_0 τ]
                        refine lv_iload E.1 E.2.1 dL_acts_927 (lv_at hl 0 rfl) ?_
                        refine r_if_eq (tgt := 937) E dL_acts_929 (by decide) (by omega) (fun c929 => ?_) (fun c929 => absurd c929 (by omega))
                        refine lv_iload E.1 E.2.1 dL_acts_937 (lv_at hl 2 rfl) ?_
                        refine r_icmp_ne (tgt := 946) E dL_acts_939 (by decide) (by omega) (by omega) (fun c939 => absurd c939 (by omega)) (fun c939 => ?_)
                        refine r_const E dL_acts_942 ?_
                        refine lv_goto (tgt := 947) E.1 E.2.1 dL_acts_943 (by decide) ?_
                        refine W.widen (k := 80) (n := 240) (Nat.le_of_ble_eq_true rfl) (Nat.le_of_ble_eq_true rfl) ?_
                        refine e_zret (rm := ({ frames := 8, cells := 80, slots := 240, locals := 189 } : Room)) (v := iI (1)) E hL rfl dL_acts_947 ?_
                        exact ⟨rfl, _, _, _, _, hV1, hD1, hT, fun _ => hC1, ⟨_, hE1, hX1⟩, hR1⟩
                    refine lv_iload E.1 E.2.1 dL_acts_853 (lv_at hl 1 rfl) ?_
                    refine lv_iload E.1 E.2.1 dL_acts_855 (lv_at hl 2 rfl) ?_
                    refine r_if_ne (tgt := 864) E dL_acts_857 (by decide) (by omega) (fun c857 => absurd c857 (by omega)) (fun c857 => ?_)
                    refine r_const E dL_acts_860 ?_
                    refine lv_goto (tgt := 865) E.1 E.2.1 dL_acts_861 (by decide) ?_
                    refine r_icmp_lt (tgt := 875) E dL_acts_865 (by decide) (by omega) (by omega) (fun c865 => ?_) (fun c865 => ?_)
                    · refine r_const E dL_acts_875 ?_
                      refine lv_goto (tgt := 880) E.1 E.2.1 dL_acts_876 (by decide) ?_
                      exact J880_3 _ (by omega) ls locs (lv_sub hl [0, 1, 2, 3, 4, 5, 6, 7, 8, 9, 10] rfl) hL
                    · refine lv_iload E.1 E.2.1 dL_acts_868 (lv_at hl 1 rfl) ?_
                      refine r_bipush E dL_acts_870 (by decide) ?_
                      refine r_icmp_le (tgt := 879) E dL_acts_872 (by decide) (by omega) (by omega) (fun c872 => ?_) (fun c872 => ?_)
                      · refine r_const E dL_acts_879 ?_
                        exact J880_3 _ (by omega) ls locs (lv_sub hl [0, 1, 2, 3, 4, 5, 6, 7, 8, 9, 10] rfl) hL
                      · refine r_const E dL_acts_875 ?_
                        refine lv_goto (tgt := 880) E.1 E.2.1 dL_acts_876 (by decide) ?_
                        exact J880_3 _ (by omega) ls locs (lv_sub hl [0, 1, 2, 3, 4, 5, 6, 7, 8, 9, 10] rfl) hL
                  · refine lv_iload E.1 E.2.1 dL_acts_835 (lv_at hl 1 rfl) ?_
                    refine r_const E dL_acts_837 ?_
                    refine r_icmp_ne (tgt := 845) E dL_acts_838 (by decide) (by omega) (by omega) (fun c838 => ?_) (fun c838 => absurd c838 (by omega))
                    refine lv_aload_n E.1 E.2.1 dL_acts_845 rfl (lv_at hl 7 rfl) ?_
                    refine lv_iload E.1 E.2.1 dL_acts_846 (lv_at hl 1 rfl) ?_
                    refine kVRE (As := [.int (iI (1))]) E cw_L_19 (c_X5_setting G l x fb fl σ hs tx len hI hT hfx hgx (1) (by unfold okI; omega)) hP.1.1 ⟨_, _, rfl⟩ hP.1 hL hl.1 rfl rfl (Nat.le_of_ble_eq_true rfl) ⟨Nat.le_of_ble_eq_true rfl, Nat.le_of_ble_eq_true rfl⟩ ⟨rfl, rfl⟩ ⟨Nat.le_of_ble_eq_true rfl, Nat.le_of_ble_eq_true rfl⟩ dL_acts_848 (fun locs hL => ?_)
                    rw [spSet_1 σ]
                    refine lv_istore (lv' := [(10, .int (iI ((s1 σ : Int)))), (9, .int (iI (w3))), (8, .int (iI (1))), (7, .int (iI (sv))), (6, .int (iI ((nx σ : Int)))), (5, .int (iI ((mn σ : Int)))), (4, .int (iI ((n : Int)))), (3, .int (iI (w1))), (0, .ref (x)), (1, .int (v1)), (2, .int (v2))]) E.1 E.2.1 dL_acts_851 hl (by decide) rfl (fun ls hl => ?_)
                    have J880_3 : ∀ (v880 : Int) (hv880 : (v880 = 1 ∧ (w3 < 1 ∨ 9 < w3)) ∨ (v880 = 0 ∧ 1 ≤ w3 ∧ w3 ≤ 9)) (ls : Array Slot) (locs : List Loc) (hl : lv_has ls 12 [(10, .int (iI ((s1 σ : Int)))), (9, .int (iI (w3))), (8, .int (iI (1))), (7, .int (iI (sv))), (6, .int (iI ((nx σ : Int)))), (5, .int (iI ((mn σ : Int)))), (4, .int (iI ((n : Int)))), (3, .int (iI (w1))), (0, .ref (x)), (1, .int (v1)), (2, .int (v2))]) (hL : Lk G locs), W p l e ({ frames := 8, cells := 80, slots := 240, locals := 189 } : Room) s m args below meth c s.heap locs 0 0 (QQ G below args s ({ frames := 8, cells := 80, slots := 240, locals := 189 } : Room) (WE (iI 1) (fun H H1 => ∃ τ hs1 tx1 len1, VS τ ∧ VH hs1 ∧ TxOk tx1 len1 ∧ (lowI v1 30 ≤ 26 → AC σ hs τ hs1) ∧ XP G x fb fl τ hs1 tx1 len1 H H1))) (F0 m 880 ls [.int (iI (v880))]) := by
                      intro v880 hv880 ls locs hl hL
                      refine lv_istore (lv' := [(11, .int (iI (v880))), (10, .int (iI ((s1 σ : Int)))), (9, .int (iI (w3))), (8, .int (iI (1))), (7, .int (iI (sv))), (6, .int (iI ((nx σ : Int)))), (5, .int (iI ((mn σ : Int)))), (4, .int (iI ((n : Int)))), (3, .int (iI (w1))), (0, .ref (x)), (1, .int (v1)), (2, .int (v2))]) E.1 E.2.1 dL_acts_880 hl (by decide) rfl (fun ls hl => ?_)
                      rcases hv880 with ⟨hb8, hb9⟩ | ⟨hb8, hb9⟩
                      · have hsp : (spSet σ 1 w3) = (-2, σ) := st_1b (by omega)
                        refine lv_aload_n E.1 E.2.1 dL_acts_882 rfl (lv_at hl 9 rfl) ?_
                        refine lv_iload E.1 E.2.1 dL_acts_883 (lv_at hl 3 rfl) ?_
                        refine lv_iload E.1 E.2.1 dL_acts_885 (lv_at hl 2 rfl) ?_
                        refine kVWE (As := [.int (iI (1)), .int (iI (w3))]) E cw_L_146 (c_X5_set G l x fb fl σ hs tx len hI hT hfx hgx (1) (w3) (by unfold okI; omega) (by unfold okI; omega)) hP.1.1 ⟨_, _, rfl⟩ ⟨hP.1, hP.2⟩ hL hl.1 rfl rfl (Nat.le_of_ble_eq_true rfl) ⟨Nat.le_of_ble_eq_true rfl, Nat.le_of_ble_eq_true rfl⟩ ⟨Nat.le_of_ble_eq_true rfl, Nat.le_of_ble_eq_true rfl⟩ dL_acts_887 (fun H5 locs hL hw_ => ?_)
                        obtain ⟨⟨fl1, hE1, hX1⟩, hR1⟩ := hw_
                        have hV1 : VS (spSet σ (1) (w3)).2 := hS.set (1) (w3)
                        have hC1 : AC σ hs (spSet σ (1) (w3)).2 (hsA σ hs (spSet σ (1) (w3)).1) := ac_of (spSet_b hI (1) (w3)).2.2
                        have hD1 : VH (hsA σ hs (spSet σ (1) (w3)).1) := VH.hs1 hS hH
                        generalize hsA σ hs (spSet σ (1) (w3)).1 = hs1 at hX1 hC1 hD1
                        have hte : (spSet σ 1 w3).2 = σ := by rw [hsp]
                        have hr1 : (spSet σ (1) (w3)).1 = (-2) := by rw [hsp]
                        rw [hr1]
                        generalize (spSet σ (1) (w3)).2 = τ at hX1 hV1 hC1 hte
                        have hI1 := hV1.1
                        have hz1 := FrR.size hR1 hP.2
                        have hg9 : s1 τ = s1 σ := by rw [hte]
                        refine lv_iload E.1 E.2.1 dL_acts_890 (lv_at hl 3 rfl) ?_
                        refine r_const E dL_acts_892 ?_
                        refine r_icmp_ne (tgt := 900) E dL_acts_893 (by decide) (by omega) (by omega) (fun c893 => ?_) (fun c893 => absurd c893 (by omega))
                        refine lv_iload E.1 E.2.1 dL_acts_900 (lv_at hl 0 rfl) ?_
                        refine r_if_eq (tgt := 910) E dL_acts_902 (by decide) (by omega) (fun c902 => absurd c902 (by omega)) (fun c902 => ?_)
                        refine r_bipush E dL_acts_905 (by decide) ?_
                        refine lv_goto (tgt := 912) E.1 E.2.1 dL_acts_907 (by decide) ?_
                        refine r_icmp_ne (tgt := 946) E dL_acts_912 (by decide) (by omega) (by omega) (fun c912 => absurd c912 (by omega)) (fun c912 => ?_)
                        refine lv_iload E.1 E.2.1 dL_acts_915 (lv_at hl 3 rfl) ?_
                        refine r_const E dL_acts_917 ?_
                        refine r_icmp_eq (tgt := 942) E dL_acts_918 (by decide) (by omega) (by omega) (fun c918 => absurd c918 (by omega)) (fun c918 => ?_)
                        refine lv_aload_n E.1 E.2.1 dL_acts_921 rfl (lv_at hl 9 rfl) ?_
                        refine lv_iload E.1 E.2.1 dL_acts_922 (lv_at hl 3 rfl) ?_
                        refine kVRE (As := [.int (iI (1))]) E cw_L_19 (c_X5_setting G l x fb fl1 τ hs1 tx len hI1 hT hfx hgx (1) (by unfold okI; omega)) hX1.1 ⟨_, _, rfl⟩ hX1 hL hl.1 rfl rfl (Nat.le_of_ble_eq_true rfl) ⟨Nat.le_of_ble_eq_true rfl, Nat.le_of_ble_eq_true rfl⟩ ⟨rfl, rfl⟩ ⟨Nat.le_of_ble_eq_true rfl, Nat.le_of_ble_eq_true rfl⟩ dL_acts_924 (fun locs hL => ?_)
                        rw [spSet_1 τ]
                        refine lv_iload E.1 E.2.1 dL_acts_927 (lv_at hl 0 rfl) ?_
                        refine r_if_eq (tgt := 937) E dL_acts_929 (by decide) (by omega) (fun c929 => absurd c929 (by omega)) (fun c929 => ?_)
                        refine lv_iload E.1 E.2.1 dL_acts_932 (lv_at hl 1 rfl) ?_
                        refine lv_goto (tgt := 939) E.1 E.2.1 dL_acts_934 (by decide) ?_
                        refine r_icmp_ne (tgt := 946) E dL_acts_939 (by decide) (by omega) (by omega) (fun c939 => absurd c939 (by omega)) (fun c939 => ?_)
                        refine r_const E dL_acts_942 ?_
                        refine lv_goto (tgt := 947) E.1 E.2.1 dL_acts_943 (by decide) ?_
                        refine W.widen (k := 80) (n := 240) (Nat.le_of_ble_eq_true rfl) (Nat.le_of_ble_eq_true rfl) ?_
                        refine e_zret (rm := ({ frames := 8, cells := 80, slots := 240, locals := 189 } : Room)) (v := iI (1)) E hL rfl dL_acts_947 ?_
                        exact ⟨rfl, _, _, _, _, hV1, hD1, hT, fun _ => hC1, ⟨_, hE1, hX1⟩, hR1⟩
                      · refine lv_aload_n E.1 E.2.1 dL_acts_882 rfl (lv_at hl 9 rfl) ?_
                        refine lv_iload E.1 E.2.1 dL_acts_883 (lv_at hl 3 rfl) ?_
                        refine lv_iload E.1 E.2.1 dL_acts_885 (lv_at hl 2 rfl) ?_
                        refine kVWE (As := [.int (iI (1)), .int (iI (w3))]) E cw_L_146 (c_X5_set G l x fb fl σ hs tx len hI hT hfx hgx (1) (w3) (by unfold okI; omega) (by unfold okI; omega)) hP.1.1 ⟨_, _, rfl⟩ ⟨hP.1, hP.2⟩ hL hl.1 rfl rfl (Nat.le_of_ble_eq_true rfl) ⟨Nat.le_of_ble_eq_true rfl, Nat.le_of_ble_eq_true rfl⟩ ⟨Nat.le_of_ble_eq_true rfl, Nat.le_of_ble_eq_true rfl⟩ dL_acts_887 (fun H5 locs hL hw_ => ?_)
                        obtain ⟨⟨fl1, hE1, hX1⟩, hR1⟩ := hw_
                        have hV1 : VS (spSet σ (1) (w3)).2 := hS.set (1) (w3)
                        have hC1 : AC σ hs (spSet σ (1) (w3)).2 (hsA σ hs (spSet σ (1) (w3)).1) := ac_of (spSet_b hI (1) (w3)).2.2
                        have hD1 : VH (hsA σ hs (spSet σ (1) (w3)).1) := VH.hs1 hS hH
                        generalize hsA σ hs (spSet σ (1) (w3)).1 = hs1 at hX1 hC1 hD1
                        have hok := st_1 (σ := σ) hb9
                        have hg9 := hok.2
                        have hr1 : (spSet σ (1) (w3)).1 = (s1 σ : Int) := hok.1
                        rw [hr1]
                        generalize (spSet σ (1) (w3)).2 = τ at hX1 hV1 hC1 hg9
                        have hI1 := hV1.1
                        have hz1 := FrR.size hR1 hP.2
                        refine lv_iload E.1 E.2.1 dL_acts_890 (lv_at hl 3 rfl) ?_
                        refine r_const E dL_acts_892 ?_
                        refine r_icmp_ne (tgt := 900) E dL_acts_893 (by decide) (by omega) (by omega) (fun c893 => ?_) (fun c893 => absurd c893 (by omega))
                        refine lv_iload E.1 E.2.1 dL_acts_900 (lv_at hl 0 rfl) ?_
                        refine r_if_eq (tgt := 910) E dL_acts_902 (by decide) (by omega) (fun c902 => ?_) (fun c902 => absurd c902 (by omega))
                        refine lv_iload E.1 E.2.1 dL_acts_910 (lv_at hl 1 rfl) ?_
                        refine r_icmp_ne (tgt := 946) E dL_acts_912 (by decide) (by omega) (by omega) (fun c912 => absurd c912 (by omega)) (fun c912 => ?_)
                        refine lv_iload E.1 E.2.1 dL_acts_915 (lv_at hl 3 rfl) ?_
                        refine r_const E dL_acts_917 ?_
                        refine r_icmp_eq (tgt := 942) E dL_acts_918 (by decide) (by omega) (by omega) (fun c918 => absurd c918 (by omega)) (fun c918 => ?_)
                        refine lv_aload_n E.1 E.2.1 dL_acts_921 rfl (lv_at hl 9 rfl) ?_
                        refine lv_iload E.1 E.2.1 dL_acts_922 (lv_at hl 3 rfl) ?_
                        refine kVRE (As := [.int (iI (1))]) E cw_L_19 (c_X5_setting G l x fb fl1 τ hs1 tx len hI1 hT hfx hgx (1) (by unfold okI; omega)) hX1.1 ⟨_, _, rfl⟩ hX1 hL hl.1 rfl rfl (Nat.le_of_ble_eq_true rfl) ⟨Nat.le_of_ble_eq_true rfl, Nat.le_of_ble_eq_true rfl⟩ ⟨rfl, rfl⟩ ⟨Nat.le_of_ble_eq_true rfl, Nat.le_of_ble_eq_true rfl⟩ dL_acts_924 (fun locs hL => ?_)
                        rw [spSet_1 τ]
                        refine lv_iload E.1 E.2.1 dL_acts_927 (lv_at hl 0 rfl) ?_
                        refine r_if_eq (tgt := 937) E dL_acts_929 (by decide) (by omega) (fun c929 => ?_) (fun c929 => absurd c929 (by omega))
                        refine lv_iload E.1 E.2.1 dL_acts_937 (lv_at hl 2 rfl) ?_
                        refine r_icmp_ne (tgt := 946) E dL_acts_939 (by decide) (by omega) (by omega) (fun c939 => absurd c939 (by omega)) (fun c939 => ?_)
                        refine r_const E dL_acts_942 ?_
                        refine lv_goto (tgt := 947) E.1 E.2.1 dL_acts_943 (by decide) ?_
                        refine W.widen (k := 80) (n := 240) (Nat.le_of_ble_eq_true rfl) (Nat.le_of_ble_eq_true rfl) ?_
                        refine e_zret (rm := ({ frames := 8, cells := 80, slots := 240, locals := 189 } : Room)) (v := iI (1)) E hL rfl dL_acts_947 ?_
                        exact ⟨rfl, _, _, _, _, hV1, hD1, hT, fun _ => hC1, ⟨_, hE1, hX1⟩, hR1⟩
                    refine lv_iload E.1 E.2.1 dL_acts_853 (lv_at hl 1 rfl) ?_
                    refine lv_iload E.1 E.2.1 dL_acts_855 (lv_at hl 2 rfl) ?_
                    refine r_if_ne (tgt := 864) E dL_acts_857 (by decide) (by omega) (fun c857 => ?_) (fun c857 => absurd c857 (by omega))
                    refine r_const E dL_acts_864 ?_
                    refine r_icmp_lt (tgt := 875) E dL_acts_865 (by decide) (by omega) (by omega) (fun c865 => ?_) (fun c865 => ?_)
                    · refine r_const E dL_acts_875 ?_
                      refine lv_goto (tgt := 880) E.1 E.2.1 dL_acts_876 (by decide) ?_
                      exact J880_3 _ (by omega) ls locs (lv_sub hl [0, 1, 2, 3, 4, 5, 6, 7, 8, 9, 10] rfl) hL
                    · refine lv_iload E.1 E.2.1 dL_acts_868 (lv_at hl 1 rfl) ?_
                      refine r_bipush E dL_acts_870 (by decide) ?_
                      refine r_icmp_le (tgt := 879) E dL_acts_872 (by decide) (by omega) (by omega) (fun c872 => ?_) (fun c872 => ?_)
                      · refine r_const E dL_acts_879 ?_
                        exact J880_3 _ (by omega) ls locs (lv_sub hl [0, 1, 2, 3, 4, 5, 6, 7, 8, 9, 10] rfl) hL
                      · refine r_const E dL_acts_875 ?_
                        refine lv_goto (tgt := 880) E.1 E.2.1 dL_acts_876 (by decide) ?_
                        exact J880_3 _ (by omega) ls locs (lv_sub hl [0, 1, 2, 3, 4, 5, 6, 7, 8, 9, 10] rfl) hL
                  · refine lv_iload E.1 E.2.1 dL_acts_835 (lv_at hl 1 rfl) ?_
                    refine r_const E dL_acts_837 ?_
                    refine r_icmp_ne (tgt := 845) E dL_acts_838 (by decide) (by omega) (by omega) (fun c838 => absurd c838 (by omega)) (fun c838 => ?_)
                    refine r_const E dL_acts_841 ?_
                    refine lv_goto (tgt := 851) E.1 E.2.1 dL_acts_842 (by decide) ?_
                    refine lv_istore (lv' := [(10, .int (iI (0))), (9, .int (iI (w3))), (8, .int (iI (2))), (7, .int (iI (sv))), (6, .int (iI ((nx σ : Int)))), (5, .int (iI ((mn σ : Int)))), (4, .int (iI ((n : Int)))), (3, .int (iI (w1))), (0, .ref (x)), (1, .int (v1)), (2, .int (v2))]) E.1 E.2.1 dL_acts_851 hl (by decide) rfl (fun ls hl => ?_)
                    have J880_3 : ∀ (v880 : Int) (hv880 : (v880 = 1 ∧ (w3 < 1 ∨ 9 < w3)) ∨ (v880 = 0 ∧ 1 ≤ w3 ∧ w3 ≤ 9)) (ls : Array Slot) (locs : List Loc) (hl : lv_has ls 12 [(10, .int (iI (0))), (9, .int (iI (w3))), (8, .int (iI (2))), (7, .int (iI (sv))), (6, .int (iI ((nx σ : Int)))), (5, .int (iI ((mn σ : Int)))), (4, .int (iI ((n : Int)))), (3, .int (iI (w1))), (0, .ref (x)), (1, .int (v1)), (2, .int (v2))]) (hL : Lk G locs), W p l e ({ frames := 8, cells := 80, slots := 240, locals := 189 } : Room) s m args below meth c s.heap locs 0 0 (QQ G below args s ({ frames := 8, cells := 80, slots := 240, locals := 189 } : Room) (WE (iI 1) (fun H H1 => ∃ τ hs1 tx1 len1, VS τ ∧ VH hs1 ∧ TxOk tx1 len1 ∧ (lowI v1 30 ≤ 26 → AC σ hs τ hs1) ∧ XP G x fb fl τ hs1 tx1 len1 H H1))) (F0 m 880 ls [.int (iI (v880))]) := by
                      intro v880 hv880 ls locs hl hL
                      refine lv_istore (lv' := [(11, .int (iI (v880))), (10, .int (iI (0))), (9, .int (iI (w3))), (8, .int (iI (2))), (7, .int (iI (sv))), (6, .int (iI ((nx σ : Int)))), (5, .int (iI ((mn σ : Int)))), (4, .int (iI ((n : Int)))), (3, .int (iI (w1))), (0, .ref (x)), (1, .int (v1)), (2, .int (v2))]) E.1 E.2.1 dL_acts_880 hl (by decide) rfl (fun ls hl => ?_)
                      have hsp : (spSet σ 2 w3) = (-1, σ) := st_e1
                      refine lv_aload_n E.1 E.2.1 dL_acts_882 rfl (lv_at hl 9 rfl) ?_
                      refine lv_iload E.1 E.2.1 dL_acts_883 (lv_at hl 3 rfl) ?_
                      refine lv_iload E.1 E.2.1 dL_acts_885 (lv_at hl 2 rfl) ?_
                      refine kVWE (As := [.int (iI (2)), .int (iI (w3))]) E cw_L_146 (c_X5_set G l x fb fl σ hs tx len hI hT hfx hgx (2) (w3) (by unfold okI; omega) (by unfold okI; omega)) hP.1.1 ⟨_, _, rfl⟩ ⟨hP.1, hP.2⟩ hL hl.1 rfl rfl (Nat.le_of_ble_eq_true rfl) ⟨Nat.le_of_ble_eq_true rfl, Nat.le_of_ble_eq_true rfl⟩ ⟨Nat.le_of_ble_eq_true rfl, Nat.le_of_ble_eq_true rfl⟩ dL_acts_887 (fun H5 locs hL hw_ => ?_)
                      obtain ⟨⟨fl1, hE1, hX1⟩, hR1⟩ := hw_
                      have hV1 : VS (spSet σ (2) (w3)).2 := hS.set (2) (w3)
                      have hC1 : AC σ hs (spSet σ (2) (w3)).2 (hsA σ hs (spSet σ (2) (w3)).1) := ac_of (spSet_b hI (2) (w3)).2.2
                      have hD1 : VH (hsA σ hs (spSet σ (2) (w3)).1) := VH.hs1 hS hH
                      generalize hsA σ hs (spSet σ (2) (w3)).1 = hs1 at hX1 hC1 hD1
                      have hte : (spSet σ 2 w3).2 = σ := by rw [hsp]
                      have hr1 : (spSet σ (2) (w3)).1 = (-1) := by rw [hsp]
                      rw [hr1]
                      generalize (spSet σ (2) (w3)).2 = τ at hX1 hV1 hC1 hte
                      have hI1 := hV1.1
                      have hz1 := FrR.size hR1 hP.2
                      refine lv_iload E.1 E.2.1 dL_acts_890 (lv_at hl 3 rfl) ?_
                      refine r_const E dL_acts_892 ?_
                      refine r_icmp_ne (tgt := 900) E dL_acts_893 (by decide) (by omega) (by omega) (fun c893 => absurd c893 (by omega)) (fun c893 => ?_)
                      refine r_const E dL_acts_896 ?_
                      refine lv_goto (tgt := 912) E.1 E.2.1 dL_acts_897 (by decide) ?_
                      refine r_icmp_ne (tgt := 946) E dL_acts_912 (by decide) (by omega) (by omega) (fun c912 => absurd c912 (by omega)) (fun c912 => ?_)
                      refine lv_iload E.1 E.2.1 dL_acts_915 (lv_at hl 3 rfl) ?_
                      refine r_const E dL_acts_917 ?_
                      refine r_icmp_eq (tgt := 942) E dL_acts_918 (by decide) (by omega) (by omega) (fun c918 => ?_) (fun c918 => absurd c918 (by omega))
                      refine r_const E dL_acts_942 ?_
                      refine lv_goto (tgt := 947) E.1 E.2.1 dL_acts_943 (by decide) ?_
                      refine W.widen (k := 80) (n := 240) (Nat.le_of_ble_eq_true rfl) (Nat.le_of_ble_eq_true rfl) ?_
                      refine e_zret (rm := ({ frames := 8, cells := 80, slots := 240, locals := 189 } : Room)) (v := iI (1)) E hL rfl dL_acts_947 ?_
                      exact ⟨rfl, _, _, _, _, hV1, hD1, hT, fun _ => hC1, ⟨_, hE1, hX1⟩, hR1⟩
                    refine lv_iload E.1 E.2.1 dL_acts_853 (lv_at hl 1 rfl) ?_
                    refine lv_iload E.1 E.2.1 dL_acts_855 (lv_at hl 2 rfl) ?_
                    refine r_if_ne (tgt := 864) E dL_acts_857 (by decide) (by omega) (fun c857 => ?_) (fun c857 => absurd c857 (by omega))
                    refine r_const E dL_acts_864 ?_
                    refine r_icmp_lt (tgt := 875) E dL_acts_865 (by decide) (by omega) (by omega) (fun c865 => ?_) (fun c865 => ?_)
                    · refine r_const E dL_acts_875 ?_
                      refine lv_goto (tgt := 880) E.1 E.2.1 dL_acts_876 (by decide) ?_
                      exact J880_3 _ (by omega) ls locs (lv_sub hl [0, 1, 2, 3, 4, 5, 6, 7, 8, 9, 10] rfl) hL
                    · refine lv_iload E.1 E.2.1 dL_acts_868 (lv_at hl 1 rfl) ?_
                      refine r_bipush E dL_acts_870 (by decide) ?_
                      refine r_icmp_le (tgt := 879) E dL_acts_872 (by decide) (by omega) (by omega) (fun c872 => ?_) (fun c872 => ?_)
                      · refine r_const E dL_acts_879 ?_
                        exact J880_3 _ (by omega) ls locs (lv_sub hl [0, 1, 2, 3, 4, 5, 6, 7, 8, 9, 10] rfl) hL
                      · refine r_const E dL_acts_875 ?_
                        refine lv_goto (tgt := 880) E.1 E.2.1 dL_acts_876 (by decide) ?_
                        exact J880_3 _ (by omega) ls locs (lv_sub hl [0, 1, 2, 3, 4, 5, 6, 7, 8, 9, 10] rfl) hL
              · refine lv_iload_n E.1 E.2.1 dL_acts_642 rfl (lv_at hl 7 rfl) ?_
                have J685_1 : ∀ (v685 : Int) (hv685 : 1 ≤ v685 ∧ v685 ≤ 241) (ls : Array Slot) (locs : List Loc) (hl : lv_has ls 12 [(7, .int (iI (sv))), (6, .int (iI ((nx σ : Int)))), (5, .int (iI ((mn σ : Int)))), (4, .int (iI ((n : Int)))), (3, .int (iI (w1))), (0, .ref (x)), (1, .int (v1)), (2, .int (v2))]) (hL : Lk G locs), W p l e ({ frames := 8, cells := 80, slots := 240, locals := 189 } : Room) s m args below meth c s.heap locs 0 0 (QQ G below args s ({ frames := 8, cells := 80, slots := 240, locals := 189 } : Room) (WE (iI 1) (fun H H1 => ∃ τ hs1 tx1 len1, VS τ ∧ VH hs1 ∧ TxOk tx1 len1 ∧ (lowI v1 30 ≤ 26 → AC σ hs τ hs1) ∧ XP G x fb fl τ hs1 tx1 len1 H H1))) (F0 m 685 ls [.int (iI (v685)), .int (v2)]) := by
                  intro v685 hv685 ls locs hl hL
                  obtain ⟨w3, hw3⟩ : ∃ z : Int, lowI (v2) (v685) = z := ⟨_, rfl⟩
                  have hw3b : 0 ≤ w3 ∧ w3 < (v685) := by rw [← hw3]; exact low_b _ (by omega)
                  have hw3c := c_L_low G l (v2) (v685) (by omega)
                  rw [hw3] at hw3c
                  refine kSRE (As := [.int (v2), .int (iI (v685))]) E cw_L_72 hw3c trivial hL hl.1 rfl rfl (Nat.le_of_ble_eq_true rfl) ⟨Nat.le_of_ble_eq_true rfl, Nat.le_of_ble_eq_true rfl⟩ ⟨rfl, rfl⟩ ⟨Nat.le_of_ble_eq_true rfl, Nat.le_of_ble_eq_true rfl⟩ dL_acts_685 (fun locs hL => ?_)
                  refine lv_istore (lv' := [(8, .int (iI (w3))), (7, .int (iI (sv))), (6, .int (iI ((nx σ : Int)))), (5, .int (iI ((mn σ : Int)))), (4, .int (iI ((n : Int)))), (3, .int (iI (w1))), (0, .ref (x)), (1, .int (v1)), (2, .int (v2))]) E.1 E.2.1 dL_acts_688 hl (by decide) rfl (fun ls hl => ?_)
                  obtain ⟨q9, hq9e⟩ : ∃ k : Nat, w3 = (k : Int) := ⟨w3.toNat, by omega⟩
                  subst hq9e
                  obtain ⟨fi, hfi⟩ : ∃ z, spIntactFiles σ = z := ⟨_, rfl⟩
                  have hfb : 0 ≤ fi ∧ fi ≤ 20 := by have h9 := cntIntact_le σ (dm σ); rw [← hfi]; show 0 ≤ ((cntIntact σ (dm σ) : Nat) : Int) ∧ ((cntIntact σ (dm σ) : Nat) : Int) ≤ 20; omega
                  rcases (show q9 = 240 ∨ q9 < 240 by omega) with hq9 | hq9
                  · have hsp : (spDamage σ (q9 : Int)) = (-1, σ) := dg_e (by omega)
                    refine lv_iload E.1 E.2.1 dL_acts_690 (lv_at hl 0 rfl) ?_
                    refine r_sipush E dL_acts_692 (by decide) ?_
                    refine r_icmp_ne (tgt := 702) E dL_acts_695 (by decide) (by omega) (by omega) (fun c695 => ?_) (fun c695 => ?_)
                    · refine lv_aload_n E.1 E.2.1 dL_acts_702 rfl (lv_at hl 6 rfl) ?_
                      refine lv_iload E.1 E.2.1 dL_acts_703 (lv_at hl 0 rfl) ?_
                      refine kVRE (As := [.int (iI ((q9 : Int)))]) E cw_L_81 (c_X5_validIf G l x fb fl σ hs tx len hI hT hfx hgx ((q9 : Int)) (by unfold okI; omega)) hP.1.1 ⟨_, _, rfl⟩ hP.1 hL hl.1 rfl rfl (Nat.le_of_ble_eq_true rfl) ⟨Nat.le_of_ble_eq_true rfl, Nat.le_of_ble_eq_true rfl⟩ ⟨rfl, rfl⟩ ⟨Nat.le_of_ble_eq_true rfl, Nat.le_of_ble_eq_true rfl⟩ dL_acts_705 (fun locs hL => ?_)
                      refine lv_istore (lv' := [(9, .int (iI (spValidIf σ ((q9 : Int))))), (8, .int (iI ((q9 : Int)))), (7, .int (iI (sv))), (6, .int (iI ((nx σ : Int)))), (5, .int (iI ((mn σ : Int)))), (4, .int (iI ((n : Int)))), (3, .int (iI (w1))), (0, .ref (x)), (1, .int (v1)), (2, .int (v2))]) E.1 E.2.1 dL_acts_708 hl (by decide) rfl (fun ls hl => ?_)
                      refine lv_aload_n E.1 E.2.1 dL_acts_710 rfl (lv_at hl 7 rfl) ?_
                      refine kVRE (As := []) E cw_L_58 (c_X5_intactFiles G l x fb fl σ hs tx len hI hT hfx hgx  ) hP.1.1 ⟨_, _, rfl⟩ hP.1 hL hl.1 rfl rfl (Nat.le_of_ble_eq_true rfl) ⟨Nat.le_of_ble_eq_true rfl, Nat.le_of_ble_eq_true rfl⟩ ⟨rfl, rfl⟩ ⟨Nat.le_of_ble_eq_true rfl, Nat.le_of_ble_eq_true rfl⟩ dL_acts_711 (fun locs hL => ?_)
                      rw [hfi]
                      refine lv_istore (lv' := [(10, .int (iI (fi))), (9, .int (iI (spValidIf σ ((q9 : Int))))), (8, .int (iI ((q9 : Int)))), (7, .int (iI (sv))), (6, .int (iI ((nx σ : Int)))), (5, .int (iI ((mn σ : Int)))), (4, .int (iI ((n : Int)))), (3, .int (iI (w1))), (0, .ref (x)), (1, .int (v1)), (2, .int (v2))]) E.1 E.2.1 dL_acts_714 hl (by decide) rfl (fun ls hl => ?_)
                      refine lv_aload_n E.1 E.2.1 dL_acts_716 rfl (lv_at hl 8 rfl) ?_
                      refine lv_iload E.1 E.2.1 dL_acts_717 (lv_at hl 2 rfl) ?_
                      refine kVWE (As := [.int (iI ((q9 : Int)))]) E cw_L_143 (c_X5_damage G l x fb fl σ hs tx len hI hT hfx hgx ((q9 : Int)) (by unfold okI; omega)) hP.1.1 ⟨_, _, rfl⟩ ⟨hP.1, hP.2⟩ hL hl.1 rfl rfl (Nat.le_of_ble_eq_true rfl) ⟨Nat.le_of_ble_eq_true rfl, Nat.le_of_ble_eq_true rfl⟩ ⟨Nat.le_of_ble_eq_true rfl, Nat.le_of_ble_eq_true rfl⟩ dL_acts_719 (fun H4 locs hL hw_ => ?_)
                      obtain ⟨⟨fl1, hE1, hX1⟩, hR1⟩ := hw_
                      have hV1 : VS (spDamage σ ((q9 : Int))).2 := hS.damage ((q9 : Int))
                      have hC1 : AC σ hs (spDamage σ ((q9 : Int))).2 (hsA σ hs (spDamage σ ((q9 : Int))).1) := ac_of (spDamage_b ((q9 : Int))).2.2
                      have hD1 : VH (hsA σ hs (spDamage σ ((q9 : Int))).1) := VH.hs1 hS hH
                      generalize hsA σ hs (spDamage σ ((q9 : Int))).1 = hs1 at hX1 hC1 hD1
                      have hte : (spDamage σ (q9 : Int)).2 = σ := by rw [hsp]
                      have hr1 : (spDamage σ ((q9 : Int))).1 = (-1) := by rw [hsp]
                      rw [hr1]
                      generalize (spDamage σ ((q9 : Int))).2 = τ at hX1 hV1 hC1 hte
                      have hI1 := hV1.1
                      have hz1 := FrR.size hR1 hP.2
                      refine lv_istore (lv' := [(11, .int (iI ((-1)))), (10, .int (iI (fi))), (9, .int (iI (spValidIf σ ((q9 : Int))))), (8, .int (iI ((q9 : Int)))), (7, .int (iI (sv))), (6, .int (iI ((nx σ : Int)))), (5, .int (iI ((mn σ : Int)))), (4, .int (iI ((n : Int)))), (3, .int (iI (w1))), (0, .ref (x)), (1, .int (v1)), (2, .int (v2))]) E.1 E.2.1 dL_acts_722 hl (by decide) rfl (fun ls hl => ?_)
                      refine lv_iload E.1 E.2.1 dL_acts_724 (lv_at hl 3 rfl) ?_
                      refine r_sipush E dL_acts_726 (by decide) ?_
                      refine r_icmp_ne (tgt := 746) E dL_acts_729 (by decide) (by omega) (by omega) (fun c729 => absurd c729 (by omega)) (fun c729 => ?_)
                      refine lv_iload E.1 E.2.1 dL_acts_732 (lv_at hl 0 rfl) ?_
                      refine r_const E dL_acts_734 ?_
                      refine r_icmp_ne (tgt := 742) E dL_acts_735 (by decide) (by omega) (by omega) (fun c735 => absurd c735 (by omega)) (fun c735 => ?_)
                      refine r_const E dL_acts_738 ?_
                      refine lv_goto (tgt := 811) E.1 E.2.1 dL_acts_739 (by decide) ?_
                      refine W.widen (k := 80) (n := 240) (Nat.le_of_ble_eq_true rfl) (Nat.le_of_ble_eq_true rfl) ?_
                      refine e_zret (rm := ({ frames := 8, cells := 80, slots := 240, locals := 189 } : Room)) (v := iI (1)) E hL rfl dL_acts_811 ?_
                      exact ⟨rfl, _, _, _, _, hV1, hD1, hT, fun _ => hC1, ⟨_, hE1, hX1⟩, hR1⟩
                    · refine r_const E dL_acts_698 ?_
                      refine lv_goto (tgt := 708) E.1 E.2.1 dL_acts_699 (by decide) ?_
                      refine lv_istore (lv' := [(9, .int (iI ((-1)))), (8, .int (iI ((q9 : Int)))), (7, .int (iI (sv))), (6, .int (iI ((nx σ : Int)))), (5, .int (iI ((mn σ : Int)))), (4, .int (iI ((n : Int)))), (3, .int (iI (w1))), (0, .ref (x)), (1, .int (v1)), (2, .int (v2))]) E.1 E.2.1 dL_acts_708 hl (by decide) rfl (fun ls hl => ?_)
                      refine lv_aload_n E.1 E.2.1 dL_acts_710 rfl (lv_at hl 7 rfl) ?_
                      refine kVRE (As := []) E cw_L_58 (c_X5_intactFiles G l x fb fl σ hs tx len hI hT hfx hgx  ) hP.1.1 ⟨_, _, rfl⟩ hP.1 hL hl.1 rfl rfl (Nat.le_of_ble_eq_true rfl) ⟨Nat.le_of_ble_eq_true rfl, Nat.le_of_ble_eq_true rfl⟩ ⟨rfl, rfl⟩ ⟨Nat.le_of_ble_eq_true rfl, Nat.le_of_ble_eq_true rfl⟩ dL_acts_711 (fun locs hL => ?_)
                      rw [hfi]
                      refine lv_istore (lv' := [(10, .int (iI (fi))), (9, .int (iI ((-1)))), (8, .int (iI ((q9 : Int)))), (7, .int (iI (sv))), (6, .int (iI ((nx σ : Int)))), (5, .int (iI ((mn σ : Int)))), (4, .int (iI ((n : Int)))), (3, .int (iI (w1))), (0, .ref (x)), (1, .int (v1)), (2, .int (v2))]) E.1 E.2.1 dL_acts_714 hl (by decide) rfl (fun ls hl => ?_)
                      refine lv_aload_n E.1 E.2.1 dL_acts_716 rfl (lv_at hl 8 rfl) ?_
                      refine lv_iload E.1 E.2.1 dL_acts_717 (lv_at hl 2 rfl) ?_
                      refine kVWE (As := [.int (iI ((q9 : Int)))]) E cw_L_143 (c_X5_damage G l x fb fl σ hs tx len hI hT hfx hgx ((q9 : Int)) (by unfold okI; omega)) hP.1.1 ⟨_, _, rfl⟩ ⟨hP.1, hP.2⟩ hL hl.1 rfl rfl (Nat.le_of_ble_eq_true rfl) ⟨Nat.le_of_ble_eq_true rfl, Nat.le_of_ble_eq_true rfl⟩ ⟨Nat.le_of_ble_eq_true rfl, Nat.le_of_ble_eq_true rfl⟩ dL_acts_719 (fun H4 locs hL hw_ => ?_)
                      obtain ⟨⟨fl1, hE1, hX1⟩, hR1⟩ := hw_
                      have hV1 : VS (spDamage σ ((q9 : Int))).2 := hS.damage ((q9 : Int))
                      have hC1 : AC σ hs (spDamage σ ((q9 : Int))).2 (hsA σ hs (spDamage σ ((q9 : Int))).1) := ac_of (spDamage_b ((q9 : Int))).2.2
                      have hD1 : VH (hsA σ hs (spDamage σ ((q9 : Int))).1) := VH.hs1 hS hH
                      generalize hsA σ hs (spDamage σ ((q9 : Int))).1 = hs1 at hX1 hC1 hD1
                      have hte : (spDamage σ (q9 : Int)).2 = σ := by rw [hsp]
                      have hr1 : (spDamage σ ((q9 : Int))).1 = (-1) := by rw [hsp]
                      rw [hr1]
                      generalize (spDamage σ ((q9 : Int))).2 = τ at hX1 hV1 hC1 hte
                      have hI1 := hV1.1
                      have hz1 := FrR.size hR1 hP.2
                      refine lv_istore (lv' := [(11, .int (iI ((-1)))), (10, .int (iI (fi))), (9, .int (iI ((-1)))), (8, .int (iI ((q9 : Int)))), (7, .int (iI (sv))), (6, .int (iI ((nx σ : Int)))), (5, .int (iI ((mn σ : Int)))), (4, .int (iI ((n : Int)))), (3, .int (iI (w1))), (0, .ref (x)), (1, .int (v1)), (2, .int (v2))]) E.1 E.2.1 dL_acts_722 hl (by decide) rfl (fun ls hl => ?_)
                      refine lv_iload E.1 E.2.1 dL_acts_724 (lv_at hl 3 rfl) ?_
                      refine r_sipush E dL_acts_726 (by decide) ?_
                      refine r_icmp_ne (tgt := 746) E dL_acts_729 (by decide) (by omega) (by omega) (fun c729 => absurd c729 (by omega)) (fun c729 => ?_)
                      refine lv_iload E.1 E.2.1 dL_acts_732 (lv_at hl 0 rfl) ?_
                      refine r_const E dL_acts_734 ?_
                      refine r_icmp_ne (tgt := 742) E dL_acts_735 (by decide) (by omega) (by omega) (fun c735 => absurd c735 (by omega)) (fun c735 => ?_)
                      refine r_const E dL_acts_738 ?_
                      refine lv_goto (tgt := 811) E.1 E.2.1 dL_acts_739 (by decide) ?_
                      refine W.widen (k := 80) (n := 240) (Nat.le_of_ble_eq_true rfl) (Nat.le_of_ble_eq_true rfl) ?_
                      refine e_zret (rm := ({ frames := 8, cells := 80, slots := 240, locals := 189 } : Room)) (v := iI (1)) E hL rfl dL_acts_811 ?_
                      exact ⟨rfl, _, _, _, _, hV1, hD1, hT, fun _ => hC1, ⟨_, hE1, hX1⟩, hR1⟩
                  · have hdg := dg_ok hI hq9
                    obtain ⟨vi, hvi⟩ : ∃ z, spValidIf σ (q9 : Int) = z := ⟨_, rfl⟩
                    rw [hvi, hsv, hfi] at hdg
                    have hvib : -6 ≤ vi ∧ vi < 13 := by rw [← hvi, vif_in σ hq9]; exact oI_b (o := validD σ (dmH σ (q9 : Int))) (N := 12) (fun n h => Nat.lt_of_lt_of_le (validD_lt h) i1)
                    obtain ⟨dr, hdr⟩ : ∃ z, (spDamage σ (q9 : Int)).1 = z := ⟨_, rfl⟩
                    rw [hdr] at hdg
                    refine lv_iload E.1 E.2.1 dL_acts_690 (lv_at hl 0 rfl) ?_
                    refine r_sipush E dL_acts_692 (by decide) ?_
                    refine r_icmp_ne (tgt := 702) E dL_acts_695 (by decide) (by omega) (by omega) (fun c695 => ?_) (fun c695 => ?_)
                    · refine lv_aload_n E.1 E.2.1 dL_acts_702 rfl (lv_at hl 6 rfl) ?_
                      refine lv_iload E.1 E.2.1 dL_acts_703 (lv_at hl 0 rfl) ?_
                      refine kVRE (As := [.int (iI ((q9 : Int)))]) E cw_L_81 (c_X5_validIf G l x fb fl σ hs tx len hI hT hfx hgx ((q9 : Int)) (by unfold okI; omega)) hP.1.1 ⟨_, _, rfl⟩ hP.1 hL hl.1 rfl rfl (Nat.le_of_ble_eq_true rfl) ⟨Nat.le_of_ble_eq_true rfl, Nat.le_of_ble_eq_true rfl⟩ ⟨rfl, rfl⟩ ⟨Nat.le_of_ble_eq_true rfl, Nat.le_of_ble_eq_true rfl⟩ dL_acts_705 (fun locs hL => ?_)
                      rw [hvi]
                      refine lv_istore (lv' := [(9, .int (iI (vi))), (8, .int (iI ((q9 : Int)))), (7, .int (iI (sv))), (6, .int (iI ((nx σ : Int)))), (5, .int (iI ((mn σ : Int)))), (4, .int (iI ((n : Int)))), (3, .int (iI (w1))), (0, .ref (x)), (1, .int (v1)), (2, .int (v2))]) E.1 E.2.1 dL_acts_708 hl (by decide) rfl (fun ls hl => ?_)
                      refine lv_aload_n E.1 E.2.1 dL_acts_710 rfl (lv_at hl 7 rfl) ?_
                      refine kVRE (As := []) E cw_L_58 (c_X5_intactFiles G l x fb fl σ hs tx len hI hT hfx hgx  ) hP.1.1 ⟨_, _, rfl⟩ hP.1 hL hl.1 rfl rfl (Nat.le_of_ble_eq_true rfl) ⟨Nat.le_of_ble_eq_true rfl, Nat.le_of_ble_eq_true rfl⟩ ⟨rfl, rfl⟩ ⟨Nat.le_of_ble_eq_true rfl, Nat.le_of_ble_eq_true rfl⟩ dL_acts_711 (fun locs hL => ?_)
                      rw [hfi]
                      refine lv_istore (lv' := [(10, .int (iI (fi))), (9, .int (iI (vi))), (8, .int (iI ((q9 : Int)))), (7, .int (iI (sv))), (6, .int (iI ((nx σ : Int)))), (5, .int (iI ((mn σ : Int)))), (4, .int (iI ((n : Int)))), (3, .int (iI (w1))), (0, .ref (x)), (1, .int (v1)), (2, .int (v2))]) E.1 E.2.1 dL_acts_714 hl (by decide) rfl (fun ls hl => ?_)
                      refine lv_aload_n E.1 E.2.1 dL_acts_716 rfl (lv_at hl 8 rfl) ?_
                      refine lv_iload E.1 E.2.1 dL_acts_717 (lv_at hl 2 rfl) ?_
                      refine kVWE (As := [.int (iI ((q9 : Int)))]) E cw_L_143 (c_X5_damage G l x fb fl σ hs tx len hI hT hfx hgx ((q9 : Int)) (by unfold okI; omega)) hP.1.1 ⟨_, _, rfl⟩ ⟨hP.1, hP.2⟩ hL hl.1 rfl rfl (Nat.le_of_ble_eq_true rfl) ⟨Nat.le_of_ble_eq_true rfl, Nat.le_of_ble_eq_true rfl⟩ ⟨Nat.le_of_ble_eq_true rfl, Nat.le_of_ble_eq_true rfl⟩ dL_acts_719 (fun H4 locs hL hw_ => ?_)
                      obtain ⟨⟨fl1, hE1, hX1⟩, hR1⟩ := hw_
                      have hV1 : VS (spDamage σ ((q9 : Int))).2 := hS.damage ((q9 : Int))
                      have hC1 : AC σ hs (spDamage σ ((q9 : Int))).2 (hsA σ hs (spDamage σ ((q9 : Int))).1) := ac_of (spDamage_b ((q9 : Int))).2.2
                      have hD1 : VH (hsA σ hs (spDamage σ ((q9 : Int))).1) := VH.hs1 hS hH
                      generalize hsA σ hs (spDamage σ ((q9 : Int))).1 = hs1 at hX1 hC1 hD1
                      have hd1 := hdg.1
                      have hd2 := hdg.2.1
                      have hd3 := hdg.2.2.1
                      have hd4 := hdg.2.2.2
                      have hr1 : (spDamage σ ((q9 : Int))).1 = dr := hdr
                      rw [hr1]
                      generalize (spDamage σ ((q9 : Int))).2 = τ at hX1 hV1 hC1 hd2 hd3 hd4 hdr hdg
                      have hI1 := hV1.1
                      have hz1 := FrR.size hR1 hP.2
                      obtain ⟨fj, hfi2⟩ : ∃ z, spIntactFiles τ = z := ⟨_, rfl⟩
                      rw [hfi2] at hd4
                      have hfb2 : 0 ≤ fj ∧ fj ≤ 20 := by have h9 := cntIntact_le τ (dm τ); rw [← hfi2]; show 0 ≤ ((cntIntact τ (dm τ) : Nat) : Int) ∧ ((cntIntact τ (dm τ) : Nat) : Int) ≤ 20; omega
                      refine lv_istore (lv' := [(11, .int (iI (dr))), (10, .int (iI (fi))), (9, .int (iI (vi))), (8, .int (iI ((q9 : Int)))), (7, .int (iI (sv))), (6, .int (iI ((nx σ : Int)))), (5, .int (iI ((mn σ : Int)))), (4, .int (iI ((n : Int)))), (3, .int (iI (w1))), (0, .ref (x)), (1, .int (v1)), (2, .int (v2))]) E.1 E.2.1 dL_acts_722 hl (by decide) rfl (fun ls hl => ?_)
                      refine lv_iload E.1 E.2.1 dL_acts_724 (lv_at hl 3 rfl) ?_
                      refine r_sipush E dL_acts_726 (by decide) ?_
                      refine r_icmp_ne (tgt := 746) E dL_acts_729 (by decide) (by omega) (by omega) (fun c729 => ?_) (fun c729 => absurd c729 (by omega))
                      refine lv_iload E.1 E.2.1 dL_acts_746 (lv_at hl 0 rfl) ?_
                      refine r_const E dL_acts_748 ?_
                      refine r_icmp_lt (tgt := 810) E dL_acts_749 (by decide) (by omega) (by omega) (fun c749 => absurd c749 (by omega)) (fun c749 => ?_)
                      refine lv_iload E.1 E.2.1 dL_acts_752 (lv_at hl 0 rfl) ?_
                      refine r_sipush E dL_acts_754 (by decide) ?_
                      refine r_icmp_gt (tgt := 810) E dL_acts_757 (by decide) (by omega) (by omega) (fun c757 => absurd c757 (by omega)) (fun c757 => ?_)
                      refine lv_aload_n E.1 E.2.1 dL_acts_760 rfl (lv_at hl 9 rfl) ?_
                      refine lv_iload E.1 E.2.1 dL_acts_761 (lv_at hl 3 rfl) ?_
                      refine kVRE (As := [.int (iI ((q9 : Int)))]) E cw_L_23 (c_X5_damaged G l x fb fl1 τ hs1 tx len hI1 hT hfx hgx ((q9 : Int)) (by unfold okI; omega)) hX1.1 ⟨_, _, rfl⟩ hX1 hL hl.1 rfl rfl (Nat.le_of_ble_eq_true rfl) ⟨Nat.le_of_ble_eq_true rfl, Nat.le_of_ble_eq_true rfl⟩ ⟨rfl, rfl⟩ ⟨Nat.le_of_ble_eq_true rfl, Nat.le_of_ble_eq_true rfl⟩ dL_acts_763 (fun locs hL => ?_)
                      rw [hd2]
                      refine r_const E dL_acts_766 ?_
                      refine r_icmp_ne (tgt := 810) E dL_acts_767 (by decide) (by omega) (by omega) (fun c767 => absurd c767 (by omega)) (fun c767 => ?_)
                      refine lv_aload_n E.1 E.2.1 dL_acts_770 rfl (lv_at hl 9 rfl) ?_
                      refine kVRE (As := []) E cw_L_55 (c_X5_valid G l x fb fl1 τ hs1 tx len hI1 hT hfx hgx  ) hX1.1 ⟨_, _, rfl⟩ hX1 hL hl.1 rfl rfl (Nat.le_of_ble_eq_true rfl) ⟨Nat.le_of_ble_eq_true rfl, Nat.le_of_ble_eq_true rfl⟩ ⟨rfl, rfl⟩ ⟨Nat.le_of_ble_eq_true rfl, Nat.le_of_ble_eq_true rfl⟩ dL_acts_771 (fun locs hL => ?_)
                      rw [hd3]
                      refine lv_iload E.1 E.2.1 dL_acts_774 (lv_at hl 2 rfl) ?_
                      refine r_icmp_ne (tgt := 810) E dL_acts_776 (by decide) (by omega) (by omega) (fun c776 => absurd c776 (by omega)) (fun c776 => ?_)
                      refine lv_iload E.1 E.2.1 dL_acts_779 (lv_at hl 2 rfl) ?_
                      refine lv_iload E.1 E.2.1 dL_acts_781 (lv_at hl 4 rfl) ?_
                      refine r_icmp_ne (tgt := 806) E dL_acts_783 (by decide) (by omega) (by omega) (fun c783 => ?_) (fun c783 => ?_)
                      · refine r_const E dL_acts_806 ?_
                        refine lv_goto (tgt := 811) E.1 E.2.1 dL_acts_807 (by decide) ?_
                        refine W.widen (k := 80) (n := 240) (Nat.le_of_ble_eq_true rfl) (Nat.le_of_ble_eq_true rfl) ?_
                        refine e_zret (rm := ({ frames := 8, cells := 80, slots := 240, locals := 189 } : Room)) (v := iI (1)) E hL rfl dL_acts_811 ?_
                        exact ⟨rfl, _, _, _, _, hV1, hD1, hT, fun _ => hC1, ⟨_, hE1, hX1⟩, hR1⟩
                      · refine lv_aload_n E.1 E.2.1 dL_acts_786 rfl (lv_at hl 9 rfl) ?_
                        refine kVRE (As := []) E cw_L_58 (c_X5_intactFiles G l x fb fl1 τ hs1 tx len hI1 hT hfx hgx  ) hX1.1 ⟨_, _, rfl⟩ hX1 hL hl.1 rfl rfl (Nat.le_of_ble_eq_true rfl) ⟨Nat.le_of_ble_eq_true rfl, Nat.le_of_ble_eq_true rfl⟩ ⟨rfl, rfl⟩ ⟨Nat.le_of_ble_eq_true rfl, Nat.le_of_ble_eq_true rfl⟩ dL_acts_787 (fun locs hL => ?_)
                        rw [hfi2]
                        refine lv_iload E.1 E.2.1 dL_acts_790 (lv_at hl 1 rfl) ?_
                        refine r_icmp_gt (tgt := 810) E dL_acts_792 (by decide) (by omega) (by omega) (fun c792 => absurd c792 (by omega)) (fun c792 => ?_)
                        refine lv_aload_n E.1 E.2.1 dL_acts_795 rfl (lv_at hl 9 rfl) ?_
                        refine kVRE (As := []) E cw_L_58 (c_X5_intactFiles G l x fb fl1 τ hs1 tx len hI1 hT hfx hgx  ) hX1.1 ⟨_, _, rfl⟩ hX1 hL hl.1 rfl rfl (Nat.le_of_ble_eq_true rfl) ⟨Nat.le_of_ble_eq_true rfl, Nat.le_of_ble_eq_true rfl⟩ ⟨rfl, rfl⟩ ⟨Nat.le_of_ble_eq_true rfl, Nat.le_of_ble_eq_true rfl⟩ dL_acts_796 (fun locs hL => ?_)
                        rw [hfi2]
                        refine lv_iload E.1 E.2.1 dL_acts_799 (lv_at hl 1 rfl) ?_
                        refine r_const E dL_acts_801 ?_
                        refine r_sub E dL_acts_802 ?_
                        refine r_icmp_lt (tgt := 810) E dL_acts_803 (by decide) (by omega) (by omega) (fun c803 => absurd c803 (by omega)) (fun c803 => ?_)
                        refine r_const E dL_acts_806 ?_
                        refine lv_goto (tgt := 811) E.1 E.2.1 dL_acts_807 (by decide) ?_
                        refine W.widen (k := 80) (n := 240) (Nat.le_of_ble_eq_true rfl) (Nat.le_of_ble_eq_true rfl) ?_
                        refine e_zret (rm := ({ frames := 8, cells := 80, slots := 240, locals := 189 } : Room)) (v := iI (1)) E hL rfl dL_acts_811 ?_
                        exact ⟨rfl, _, _, _, _, hV1, hD1, hT, fun _ => hC1, ⟨_, hE1, hX1⟩, hR1⟩
                    · refine r_const E dL_acts_698 ?_
                      refine lv_goto (tgt := 708) E.1 E.2.1 dL_acts_699 (by decide) ?_
                      refine lv_istore (lv' := [(9, .int (iI ((-1)))), (8, .int (iI ((q9 : Int)))), (7, .int (iI (sv))), (6, .int (iI ((nx σ : Int)))), (5, .int (iI ((mn σ : Int)))), (4, .int (iI ((n : Int)))), (3, .int (iI (w1))), (0, .ref (x)), (1, .int (v1)), (2, .int (v2))]) E.1 E.2.1 dL_acts_708 hl (by decide) rfl (fun ls hl => ?_)
                      refine lv_aload_n E.1 E.2.1 dL_acts_710 rfl (lv_at hl 7 rfl) ?_
                      refine kVRE (As := []) E cw_L_58 (c_X5_intactFiles G l x fb fl σ hs tx len hI hT hfx hgx  ) hP.1.1 ⟨_, _, rfl⟩ hP.1 hL hl.1 rfl rfl (Nat.le_of_ble_eq_true rfl) ⟨Nat.le_of_ble_eq_true rfl, Nat.le_of_ble_eq_true rfl⟩ ⟨rfl, rfl⟩ ⟨Nat.le_of_ble_eq_true rfl, Nat.le_of_ble_eq_true rfl⟩ dL_acts_711 (fun locs hL => ?_)
                      rw [hfi]
                      refine lv_istore (lv' := [(10, .int (iI (fi))), (9, .int (iI ((-1)))), (8, .int (iI ((q9 : Int)))), (7, .int (iI (sv))), (6, .int (iI ((nx σ : Int)))), (5, .int (iI ((mn σ : Int)))), (4, .int (iI ((n : Int)))), (3, .int (iI (w1))), (0, .ref (x)), (1, .int (v1)), (2, .int (v2))]) E.1 E.2.1 dL_acts_714 hl (by decide) rfl (fun ls hl => ?_)
                      refine lv_aload_n E.1 E.2.1 dL_acts_716 rfl (lv_at hl 8 rfl) ?_
                      refine lv_iload E.1 E.2.1 dL_acts_717 (lv_at hl 2 rfl) ?_
                      refine kVWE (As := [.int (iI ((q9 : Int)))]) E cw_L_143 (c_X5_damage G l x fb fl σ hs tx len hI hT hfx hgx ((q9 : Int)) (by unfold okI; omega)) hP.1.1 ⟨_, _, rfl⟩ ⟨hP.1, hP.2⟩ hL hl.1 rfl rfl (Nat.le_of_ble_eq_true rfl) ⟨Nat.le_of_ble_eq_true rfl, Nat.le_of_ble_eq_true rfl⟩ ⟨Nat.le_of_ble_eq_true rfl, Nat.le_of_ble_eq_true rfl⟩ dL_acts_719 (fun H4 locs hL hw_ => ?_)
                      obtain ⟨⟨fl1, hE1, hX1⟩, hR1⟩ := hw_
                      have hV1 : VS (spDamage σ ((q9 : Int))).2 := hS.damage ((q9 : Int))
                      have hC1 : AC σ hs (spDamage σ ((q9 : Int))).2 (hsA σ hs (spDamage σ ((q9 : Int))).1) := ac_of (spDamage_b ((q9 : Int))).2.2
                      have hD1 : VH (hsA σ hs (spDamage σ ((q9 : Int))).1) := VH.hs1 hS hH
                      generalize hsA σ hs (spDamage σ ((q9 : Int))).1 = hs1 at hX1 hC1 hD1
                      have hd1 := hdg.1
                      have hd2 := hdg.2.1
                      have hd3 := hdg.2.2.1
                      have hd4 := hdg.2.2.2
                      have hr1 : (spDamage σ ((q9 : Int))).1 = dr := hdr
                      rw [hr1]
                      generalize (spDamage σ ((q9 : Int))).2 = τ at hX1 hV1 hC1 hd2 hd3 hd4 hdr hdg
                      have hI1 := hV1.1
                      have hz1 := FrR.size hR1 hP.2
                      obtain ⟨fj, hfi2⟩ : ∃ z, spIntactFiles τ = z := ⟨_, rfl⟩
                      rw [hfi2] at hd4
                      have hfb2 : 0 ≤ fj ∧ fj ≤ 20 := by have h9 := cntIntact_le τ (dm τ); rw [← hfi2]; show 0 ≤ ((cntIntact τ (dm τ) : Nat) : Int) ∧ ((cntIntact τ (dm τ) : Nat) : Int) ≤ 20; omega
                      refine lv_istore (lv' := [(11, .int (iI (dr))), (10, .int (iI (fi))), (9, .int (iI ((-1)))), (8, .int (iI ((q9 : Int)))), (7, .int (iI (sv))), (6, .int (iI ((nx σ : Int)))), (5, .int (iI ((mn σ : Int)))), (4, .int (iI ((n : Int)))), (3, .int (iI (w1))), (0, .ref (x)), (1, .int (v1)), (2, .int (v2))]) E.1 E.2.1 dL_acts_722 hl (by decide) rfl (fun ls hl => ?_)
                      refine lv_iload E.1 E.2.1 dL_acts_724 (lv_at hl 3 rfl) ?_
                      refine r_sipush E dL_acts_726 (by decide) ?_
                      refine r_icmp_ne (tgt := 746) E dL_acts_729 (by decide) (by omega) (by omega) (fun c729 => ?_) (fun c729 => absurd c729 (by omega))
                      refine lv_iload E.1 E.2.1 dL_acts_746 (lv_at hl 0 rfl) ?_
                      refine r_const E dL_acts_748 ?_
                      refine r_icmp_lt (tgt := 810) E dL_acts_749 (by decide) (by omega) (by omega) (fun c749 => absurd c749 (by omega)) (fun c749 => ?_)
                      refine lv_iload E.1 E.2.1 dL_acts_752 (lv_at hl 0 rfl) ?_
                      refine r_sipush E dL_acts_754 (by decide) ?_
                      refine r_icmp_gt (tgt := 810) E dL_acts_757 (by decide) (by omega) (by omega) (fun c757 => absurd c757 (by omega)) (fun c757 => ?_)
                      refine lv_aload_n E.1 E.2.1 dL_acts_760 rfl (lv_at hl 9 rfl) ?_
                      refine lv_iload E.1 E.2.1 dL_acts_761 (lv_at hl 3 rfl) ?_
                      refine kVRE (As := [.int (iI ((q9 : Int)))]) E cw_L_23 (c_X5_damaged G l x fb fl1 τ hs1 tx len hI1 hT hfx hgx ((q9 : Int)) (by unfold okI; omega)) hX1.1 ⟨_, _, rfl⟩ hX1 hL hl.1 rfl rfl (Nat.le_of_ble_eq_true rfl) ⟨Nat.le_of_ble_eq_true rfl, Nat.le_of_ble_eq_true rfl⟩ ⟨rfl, rfl⟩ ⟨Nat.le_of_ble_eq_true rfl, Nat.le_of_ble_eq_true rfl⟩ dL_acts_763 (fun locs hL => ?_)
                      rw [hd2]
                      refine r_const E dL_acts_766 ?_
                      refine r_icmp_ne (tgt := 810) E dL_acts_767 (by decide) (by omega) (by omega) (fun c767 => absurd c767 (by omega)) (fun c767 => ?_)
                      refine lv_aload_n E.1 E.2.1 dL_acts_770 rfl (lv_at hl 9 rfl) ?_
                      refine kVRE (As := []) E cw_L_55 (c_X5_valid G l x fb fl1 τ hs1 tx len hI1 hT hfx hgx  ) hX1.1 ⟨_, _, rfl⟩ hX1 hL hl.1 rfl rfl (Nat.le_of_ble_eq_true rfl) ⟨Nat.le_of_ble_eq_true rfl, Nat.le_of_ble_eq_true rfl⟩ ⟨rfl, rfl⟩ ⟨Nat.le_of_ble_eq_true rfl, Nat.le_of_ble_eq_true rfl⟩ dL_acts_771 (fun locs hL => ?_)
                      rw [hd3]
                      refine lv_iload E.1 E.2.1 dL_acts_774 (lv_at hl 2 rfl) ?_
                      refine r_icmp_ne (tgt := 810) E dL_acts_776 (by decide) (by omega) (by omega) (fun c776 => absurd c776 (by omega)) (fun c776 => ?_)
                      refine lv_iload E.1 E.2.1 dL_acts_779 (lv_at hl 2 rfl) ?_
                      refine lv_iload E.1 E.2.1 dL_acts_781 (lv_at hl 4 rfl) ?_
                      refine r_icmp_ne (tgt := 806) E dL_acts_783 (by decide) (by omega) (by omega) (fun c783 => ?_) (fun c783 => ?_)
                      · refine r_const E dL_acts_806 ?_
                        refine lv_goto (tgt := 811) E.1 E.2.1 dL_acts_807 (by decide) ?_
                        refine W.widen (k := 80) (n := 240) (Nat.le_of_ble_eq_true rfl) (Nat.le_of_ble_eq_true rfl) ?_
                        refine e_zret (rm := ({ frames := 8, cells := 80, slots := 240, locals := 189 } : Room)) (v := iI (1)) E hL rfl dL_acts_811 ?_
                        exact ⟨rfl, _, _, _, _, hV1, hD1, hT, fun _ => hC1, ⟨_, hE1, hX1⟩, hR1⟩
                      · refine lv_aload_n E.1 E.2.1 dL_acts_786 rfl (lv_at hl 9 rfl) ?_
                        refine kVRE (As := []) E cw_L_58 (c_X5_intactFiles G l x fb fl1 τ hs1 tx len hI1 hT hfx hgx  ) hX1.1 ⟨_, _, rfl⟩ hX1 hL hl.1 rfl rfl (Nat.le_of_ble_eq_true rfl) ⟨Nat.le_of_ble_eq_true rfl, Nat.le_of_ble_eq_true rfl⟩ ⟨rfl, rfl⟩ ⟨Nat.le_of_ble_eq_true rfl, Nat.le_of_ble_eq_true rfl⟩ dL_acts_787 (fun locs hL => ?_)
                        rw [hfi2]
                        refine lv_iload E.1 E.2.1 dL_acts_790 (lv_at hl 1 rfl) ?_
                        refine r_icmp_gt (tgt := 810) E dL_acts_792 (by decide) (by omega) (by omega) (fun c792 => absurd c792 (by omega)) (fun c792 => ?_)
                        refine lv_aload_n E.1 E.2.1 dL_acts_795 rfl (lv_at hl 9 rfl) ?_
                        refine kVRE (As := []) E cw_L_58 (c_X5_intactFiles G l x fb fl1 τ hs1 tx len hI1 hT hfx hgx  ) hX1.1 ⟨_, _, rfl⟩ hX1 hL hl.1 rfl rfl (Nat.le_of_ble_eq_true rfl) ⟨Nat.le_of_ble_eq_true rfl, Nat.le_of_ble_eq_true rfl⟩ ⟨rfl, rfl⟩ ⟨Nat.le_of_ble_eq_true rfl, Nat.le_of_ble_eq_true rfl⟩ dL_acts_796 (fun locs hL => ?_)
                        rw [hfi2]
                        refine lv_iload E.1 E.2.1 dL_acts_799 (lv_at hl 1 rfl) ?_
                        refine r_const E dL_acts_801 ?_
                        refine r_sub E dL_acts_802 ?_
                        refine r_icmp_lt (tgt := 810) E dL_acts_803 (by decide) (by omega) (by omega) (fun c803 => absurd c803 (by omega)) (fun c803 => ?_)
                        refine r_const E dL_acts_806 ?_
                        refine lv_goto (tgt := 811) E.1 E.2.1 dL_acts_807 (by decide) ?_
                        refine W.widen (k := 80) (n := 240) (Nat.le_of_ble_eq_true rfl) (Nat.le_of_ble_eq_true rfl) ?_
                        refine e_zret (rm := ({ frames := 8, cells := 80, slots := 240, locals := 189 } : Room)) (v := iI (1)) E hL rfl dL_acts_811 ?_
                        exact ⟨rfl, _, _, _, _, hV1, hD1, hT, fun _ => hC1, ⟨_, hE1, hX1⟩, hR1⟩
                refine lv_iload_n E.1 E.2.1 dL_acts_643 rfl (lv_at hl 7 rfl) ?_
                refine r_bipush E dL_acts_644 (by decide) ?_
                refine lv_ishr E.1 E.2.1 dL_acts_646 ?_
                refine r_bipush E dL_acts_647 (by decide) ?_
                obtain ⟨w3, hw3⟩ : ∃ z : Int, lowI (((v2) >>> ((iI (12)) &&& 31))) (6) = z := ⟨_, rfl⟩
                have hw3b : 0 ≤ w3 ∧ w3 < (6) := by rw [← hw3]; exact low_b _ (by omega)
                have hw3c := c_L_low G l (((v2) >>> ((iI (12)) &&& 31))) (6) (by omega)
                rw [hw3] at hw3c
                refine kSRE (As := [.int (((v2) >>> ((iI (12)) &&& 31))), .int (iI (6))]) E cw_L_72 hw3c trivial hL hl.1 rfl rfl (Nat.le_of_ble_eq_true rfl) ⟨Nat.le_of_ble_eq_true rfl, Nat.le_of_ble_eq_true rfl⟩ ⟨rfl, rfl⟩ ⟨Nat.le_of_ble_eq_true rfl, Nat.le_of_ble_eq_true rfl⟩ dL_acts_649 (fun locs hL => ?_)
                refine r_if_ne (tgt := 661) E dL_acts_652 (by decide) (by omega) (fun c652 => ?_) (fun c652 => ?_)
                · refine lv_iload E.1 E.2.1 dL_acts_661 (lv_at hl 1 rfl) ?_
                  refine r_if_le (tgt := 682) E dL_acts_663 (by decide) (by omega) (fun c663 => ?_) (fun c663 => ?_)
                  · refine r_sipush E dL_acts_682 (by decide) ?_
                    exact J685_1 _ (by omega) ls locs (lv_sub hl [0, 1, 2, 3, 4, 5, 6, 7] rfl) hL
                  · refine lv_iload_n E.1 E.2.1 dL_acts_666 rfl (lv_at hl 7 rfl) ?_
                    refine r_bipush E dL_acts_667 (by decide) ?_
                    refine lv_ishr E.1 E.2.1 dL_acts_669 ?_
                    refine r_const E dL_acts_670 ?_
                    obtain ⟨w4, hw4⟩ : ∃ z : Int, lowI (((v2) >>> ((iI (11)) &&& 31))) (2) = z := ⟨_, rfl⟩
                    have hw4b : 0 ≤ w4 ∧ w4 < (2) := by rw [← hw4]; exact low_b _ (by omega)
                    have hw4c := c_L_low G l (((v2) >>> ((iI (11)) &&& 31))) (2) (by omega)
                    rw [hw4] at hw4c
                    refine kSRE (As := [.int (((v2) >>> ((iI (11)) &&& 31))), .int (iI (2))]) E cw_L_72 hw4c trivial hL hl.1 rfl rfl (Nat.le_of_ble_eq_true rfl) ⟨Nat.le_of_ble_eq_true rfl, Nat.le_of_ble_eq_true rfl⟩ ⟨rfl, rfl⟩ ⟨Nat.le_of_ble_eq_true rfl, Nat.le_of_ble_eq_true rfl⟩ dL_acts_671 (fun locs hL => ?_)
                    refine r_if_ne (tgt := 682) E dL_acts_674 (by decide) (by omega) (fun c674 => ?_) (fun c674 => ?_)
                    · refine r_sipush E dL_acts_682 (by decide) ?_
                      exact J685_1 _ (by omega) ls locs (lv_sub hl [0, 1, 2, 3, 4, 5, 6, 7] rfl) hL
                    · refine lv_iload E.1 E.2.1 dL_acts_677 (lv_at hl 1 rfl) ?_
                      refine lv_goto (tgt := 685) E.1 E.2.1 dL_acts_679 (by decide) ?_
                      exact J685_1 _ (by omega) ls locs (lv_sub hl [0, 1, 2, 3, 4, 5, 6, 7] rfl) hL
                · refine r_sipush E dL_acts_655 (by decide) ?_
                  refine lv_goto (tgt := 685) E.1 E.2.1 dL_acts_658 (by decide) ?_
                  exact J685_1 _ (by omega) ls locs (lv_sub hl [0, 1, 2, 3, 4, 5, 6, 7] rfl) hL
            · refine lv_iload_n E.1 E.2.1 dL_acts_483 rfl (lv_at hl 7 rfl) ?_
              refine lv_iload E.1 E.2.1 dL_acts_484 (lv_at hl 2 rfl) ?_
              refine r_const E dL_acts_486 ?_
              refine r_add E dL_acts_487 ?_
              obtain ⟨w2, hw2⟩ : ∃ z : Int, lowI (v2) ((mn σ : Int) + 1) = z := ⟨_, rfl⟩
              have hw2b : 0 ≤ w2 ∧ w2 < ((mn σ : Int) + 1) := by rw [← hw2]; exact low_b _ (by omega)
              have hw2c := c_L_low G l (v2) ((mn σ : Int) + 1) (by omega)
              rw [hw2] at hw2c
              refine kSRE (As := [.int (v2), .int (iI ((mn σ : Int) + 1))]) E cw_L_72 hw2c trivial hL hl.1 rfl rfl (Nat.le_of_ble_eq_true rfl) ⟨Nat.le_of_ble_eq_true rfl, Nat.le_of_ble_eq_true rfl⟩ ⟨rfl, rfl⟩ ⟨Nat.le_of_ble_eq_true rfl, Nat.le_of_ble_eq_true rfl⟩ dL_acts_488 (fun locs hL => ?_)
              refine lv_istore (lv' := [(8, .int (iI (w2))), (7, .int (iI (sv))), (6, .int (iI ((nx σ : Int)))), (5, .int (iI ((mn σ : Int)))), (4, .int (iI ((n : Int)))), (3, .int (iI (w1))), (0, .ref (x)), (1, .int (v1)), (2, .int (v2))]) E.1 E.2.1 dL_acts_491 hl (by decide) rfl (fun ls hl => ?_)
              obtain ⟨m9, hm9e⟩ : ∃ k : Nat, w2 = (k : Int) := ⟨w2.toNat, by omega⟩
              subst hm9e
              rcases (show m9 = mn σ ∨ m9 < mn σ by omega) with hm9 | hm9
              · have hsp : (spRepair σ (m9 : Int)) = (-1, σ) := rp_e1 (by omega)
                refine lv_iload E.1 E.2.1 dL_acts_493 (lv_at hl 0 rfl) ?_
                refine lv_iload E.1 E.2.1 dL_acts_495 (lv_at hl 3 rfl) ?_
                refine r_icmp_ge (tgt := 545) E dL_acts_497 (by decide) (by omega) (by omega) (fun c497 => ?_) (fun c497 => absurd c497 (by omega))
                refine r_const E dL_acts_545 ?_
                refine lv_istore (lv' := [(9, .int (iI (0))), (8, .int (iI ((m9 : Int)))), (7, .int (iI (sv))), (6, .int (iI ((nx σ : Int)))), (5, .int (iI ((mn σ : Int)))), (4, .int (iI ((n : Int)))), (3, .int (iI (w1))), (0, .ref (x)), (1, .int (v1)), (2, .int (v2))]) E.1 E.2.1 dL_acts_546 hl (by decide) rfl (fun ls hl => ?_)
                refine lv_iload E.1 E.2.1 dL_acts_548 (lv_at hl 0 rfl) ?_
                refine r_if_eq (tgt := 563) E dL_acts_550 (by decide) (by omega) (fun c550 => ?_) (fun c550 => absurd c550 (by omega))
                refine r_const E dL_acts_563 ?_
                refine lv_istore (lv' := [(10, .int (iI (0))), (9, .int (iI (0))), (8, .int (iI ((m9 : Int)))), (7, .int (iI (sv))), (6, .int (iI ((nx σ : Int)))), (5, .int (iI ((mn σ : Int)))), (4, .int (iI ((n : Int)))), (3, .int (iI (w1))), (0, .ref (x)), (1, .int (v1)), (2, .int (v2))]) E.1 E.2.1 dL_acts_564 hl (by decide) rfl (fun ls hl => ?_)
                refine lv_aload_n E.1 E.2.1 dL_acts_566 rfl (lv_at hl 8 rfl) ?_
                refine lv_iload E.1 E.2.1 dL_acts_567 (lv_at hl 2 rfl) ?_
                refine kVWE (As := [.int (iI ((m9 : Int)))]) E cw_L_140 (c_X5_repair G l x fb fl σ hs tx len hI hT hfx hgx ((m9 : Int)) (by unfold okI; omega)) hP.1.1 ⟨_, _, rfl⟩ ⟨hP.1, hP.2⟩ hL hl.1 rfl rfl (Nat.le_of_ble_eq_true rfl) ⟨Nat.le_of_ble_eq_true rfl, Nat.le_of_ble_eq_true rfl⟩ ⟨Nat.le_of_ble_eq_true rfl, Nat.le_of_ble_eq_true rfl⟩ dL_acts_569 (fun H3 locs hL hw_ => ?_)
                obtain ⟨⟨fl1, hE1, hX1⟩, hR1⟩ := hw_
                have hV1 : VS (spRepair σ ((m9 : Int))).2 := hS.repair ((m9 : Int))
                have hC1 : AC σ hs (spRepair σ ((m9 : Int))).2 (hsA σ hs (spRepair σ ((m9 : Int))).1) := ac_of (spRepair_b hI ((m9 : Int))).2.2
                have hD1 : VH (hsA σ hs (spRepair σ ((m9 : Int))).1) := VH.hs1 hS hH
                generalize hsA σ hs (spRepair σ ((m9 : Int))).1 = hs1 at hX1 hC1 hD1
                have hte : (spRepair σ (m9 : Int)).2 = σ := by rw [hsp]
                have hr1 : (spRepair σ ((m9 : Int))).1 = (-1) := by rw [hsp]
                rw [hr1]
                generalize (spRepair σ ((m9 : Int))).2 = τ at hX1 hV1 hC1 hte
                have hI1 := hV1.1
                have hz1 := FrR.size hR1 hP.2
                refine lv_istore (lv' := [(11, .int (iI ((-1)))), (10, .int (iI (0))), (9, .int (iI (0))), (8, .int (iI ((m9 : Int)))), (7, .int (iI (sv))), (6, .int (iI ((nx σ : Int)))), (5, .int (iI ((mn σ : Int)))), (4, .int (iI ((n : Int)))), (3, .int (iI (w1))), (0, .ref (x)), (1, .int (v1)), (2, .int (v2))]) E.1 E.2.1 dL_acts_572 hl (by decide) rfl (fun ls hl => ?_)
                refine lv_iload E.1 E.2.1 dL_acts_574 (lv_at hl 0 rfl) ?_
                refine lv_iload E.1 E.2.1 dL_acts_576 (lv_at hl 3 rfl) ?_
                refine lv_iload E.1 E.2.1 dL_acts_578 (lv_at hl 6 rfl) ?_
                refine r_icmp_ne (tgt := 587) E dL_acts_580 (by decide) (by omega) (by omega) (fun c580 => absurd c580 (by omega)) (fun c580 => ?_)
                refine r_const E dL_acts_583 ?_
                refine lv_goto (tgt := 602) E.1 E.2.1 dL_acts_584 (by decide) ?_
                refine r_icmp_ne (tgt := 634) E dL_acts_602 (by decide) (by omega) (by omega) (fun c602 => absurd c602 (by omega)) (fun c602 => ?_)
                refine lv_iload E.1 E.2.1 dL_acts_605 (lv_at hl 2 rfl) ?_
                refine r_if_eq (tgt := 630) E dL_acts_607 (by decide) (by omega) (fun c607 => ?_) (fun c607 => absurd c607 (by omega))
                refine r_const E dL_acts_630 ?_
                refine lv_goto (tgt := 635) E.1 E.2.1 dL_acts_631 (by decide) ?_
                refine W.widen (k := 80) (n := 240) (Nat.le_of_ble_eq_true rfl) (Nat.le_of_ble_eq_true rfl) ?_
                refine e_zret (rm := ({ frames := 8, cells := 80, slots := 240, locals := 189 } : Room)) (v := iI (1)) E hL rfl dL_acts_635 ?_
                exact ⟨rfl, _, _, _, _, hV1, hD1, hT, fun _ => hC1, ⟨_, hE1, hX1⟩, hR1⟩
              · have hr9 := hI.row hm9
                by_cases hl9 : m9 + 1 = mn σ
                · by_cases h29 : se σ m9 0 = 2
                  · rcases hw9 : wholeB (dm σ) (se σ m9 1) (se σ m9 3) with _ | _
                    · have hsp : (spRepair σ (m9 : Int)) = (-5, σ) := rp_e2 hm9 (fun h => by rw [hw9] at h; cases h.2.2)
                      refine lv_iload E.1 E.2.1 dL_acts_493 (lv_at hl 0 rfl) ?_
                      refine lv_iload E.1 E.2.1 dL_acts_495 (lv_at hl 3 rfl) ?_
                      refine r_icmp_ge (tgt := 545) E dL_acts_497 (by decide) (by omega) (by omega) (fun c497 => absurd c497 (by omega)) (fun c497 => ?_)
                      refine lv_iload E.1 E.2.1 dL_acts_500 (lv_at hl 0 rfl) ?_
                      refine lv_iload E.1 E.2.1 dL_acts_502 (lv_at hl 3 rfl) ?_
                      refine r_const E dL_acts_504 ?_
                      refine r_sub E dL_acts_505 ?_
                      refine r_icmp_ne (tgt := 545) E dL_acts_506 (by decide) (by omega) (by omega) (fun c506 => absurd c506 (by omega)) (fun c506 => ?_)
                      refine lv_aload_n E.1 E.2.1 dL_acts_509 rfl (lv_at hl 6 rfl) ?_
                      refine lv_iload E.1 E.2.1 dL_acts_510 (lv_at hl 0 rfl) ?_
                      refine r_const E dL_acts_512 ?_
                      refine kVRE (As := [.int (iI ((m9 : Int))), .int (iI (0))]) E cw_L_29 (c_X5_session G l x fb fl σ hs tx len hI hT hfx hgx ((m9 : Int)) (0) (by unfold okI; omega) (by unfold okI; omega)) hP.1.1 ⟨_, _, rfl⟩ hP.1 hL hl.1 rfl rfl (Nat.le_of_ble_eq_true rfl) ⟨Nat.le_of_ble_eq_true rfl, Nat.le_of_ble_eq_true rfl⟩ ⟨rfl, rfl⟩ ⟨Nat.le_of_ble_eq_true rfl, Nat.le_of_ble_eq_true rfl⟩ dL_acts_513 (fun locs hL => ?_)
                      rw [spSes0 hm9]
                      refine r_const E dL_acts_516 ?_
                      refine r_icmp_ne (tgt := 545) E dL_acts_517 (by decide) (by omega) (by omega) (fun c517 => absurd c517 (by omega)) (fun c517 => ?_)
                      refine lv_aload_n E.1 E.2.1 dL_acts_520 rfl (lv_at hl 6 rfl) ?_
                      refine lv_aload_n E.1 E.2.1 dL_acts_521 rfl (lv_at hl 6 rfl) ?_
                      refine lv_iload E.1 E.2.1 dL_acts_522 (lv_at hl 0 rfl) ?_
                      refine r_const E dL_acts_524 ?_
                      refine kVRE (As := [.int (iI ((m9 : Int))), .int (iI (1))]) E cw_L_29 (c_X5_session G l x fb fl σ hs tx len hI hT hfx hgx ((m9 : Int)) (1) (by unfold okI; omega) (by unfold okI; omega)) hP.1.1 ⟨_, _, rfl⟩ hP.1 hL hl.1 rfl rfl (Nat.le_of_ble_eq_true rfl) ⟨Nat.le_of_ble_eq_true rfl, Nat.le_of_ble_eq_true rfl⟩ ⟨rfl, rfl⟩ ⟨Nat.le_of_ble_eq_true rfl, Nat.le_of_ble_eq_true rfl⟩ dL_acts_525 (fun locs hL => ?_)
                      rw [spSes1 hm9]
                      refine lv_aload_n E.1 E.2.1 dL_acts_528 rfl (lv_at hl 6 rfl) ?_
                      refine lv_iload E.1 E.2.1 dL_acts_529 (lv_at hl 0 rfl) ?_
                      refine r_const E dL_acts_531 ?_
                      refine kVRE (As := [.int (iI ((m9 : Int))), .int (iI (3))]) E cw_L_29 (c_X5_session G l x fb fl σ hs tx len hI hT hfx hgx ((m9 : Int)) (3) (by unfold okI; omega) (by unfold okI; omega)) hP.1.1 ⟨_, _, rfl⟩ hP.1 hL hl.1 rfl rfl (Nat.le_of_ble_eq_true rfl) ⟨Nat.le_of_ble_eq_true rfl, Nat.le_of_ble_eq_true rfl⟩ ⟨rfl, rfl⟩ ⟨Nat.le_of_ble_eq_true rfl, Nat.le_of_ble_eq_true rfl⟩ dL_acts_532 (fun locs hL => ?_)
                      rw [spSes3 hm9]
                      refine kSRE (As := [.ref (x), .int (iI ((se σ m9 1 : Int))), .int (iI ((se σ m9 3 : Int)))]) E cw_L_42 (c_L_whole G l x fb fl σ hs tx len hI hT hfx hgx (se σ m9 1) (se σ m9 3) (by omega)) hP.1 hL hl.1 rfl rfl (Nat.le_of_ble_eq_true rfl) ⟨Nat.le_of_ble_eq_true rfl, Nat.le_of_ble_eq_true rfl⟩ ⟨rfl, rfl⟩ ⟨Nat.le_of_ble_eq_true rfl, Nat.le_of_ble_eq_true rfl⟩ dL_acts_535 (fun locs hL => ?_)
                      rw [hw9, show b2i false = iI 0 from rfl]
                      refine r_if_eq (tgt := 545) E dL_acts_538 (by decide) (by omega) (fun c538 => ?_) (fun c538 => absurd c538 (by omega))
                      refine r_const E dL_acts_545 ?_
                      refine lv_istore (lv' := [(9, .int (iI (0))), (8, .int (iI ((m9 : Int)))), (7, .int (iI (sv))), (6, .int (iI ((nx σ : Int)))), (5, .int (iI ((mn σ : Int)))), (4, .int (iI ((n : Int)))), (3, .int (iI (w1))), (0, .ref (x)), (1, .int (v1)), (2, .int (v2))]) E.1 E.2.1 dL_acts_546 hl (by decide) rfl (fun ls hl => ?_)
                      refine lv_iload E.1 E.2.1 dL_acts_548 (lv_at hl 0 rfl) ?_
                      refine r_if_eq (tgt := 563) E dL_acts_550 (by decide) (by omega) (fun c550 => ?_) (fun c550 => absurd c550 (by omega))
                      refine r_const E dL_acts_563 ?_
                      refine lv_istore (lv' := [(10, .int (iI (0))), (9, .int (iI (0))), (8, .int (iI ((m9 : Int)))), (7, .int (iI (sv))), (6, .int (iI ((nx σ : Int)))), (5, .int (iI ((mn σ : Int)))), (4, .int (iI ((n : Int)))), (3, .int (iI (w1))), (0, .ref (x)), (1, .int (v1)), (2, .int (v2))]) E.1 E.2.1 dL_acts_564 hl (by decide) rfl (fun ls hl => ?_)
                      refine lv_aload_n E.1 E.2.1 dL_acts_566 rfl (lv_at hl 8 rfl) ?_
                      refine lv_iload E.1 E.2.1 dL_acts_567 (lv_at hl 2 rfl) ?_
                      refine kVWE (As := [.int (iI ((m9 : Int)))]) E cw_L_140 (c_X5_repair G l x fb fl σ hs tx len hI hT hfx hgx ((m9 : Int)) (by unfold okI; omega)) hP.1.1 ⟨_, _, rfl⟩ ⟨hP.1, hP.2⟩ hL hl.1 rfl rfl (Nat.le_of_ble_eq_true rfl) ⟨Nat.le_of_ble_eq_true rfl, Nat.le_of_ble_eq_true rfl⟩ ⟨Nat.le_of_ble_eq_true rfl, Nat.le_of_ble_eq_true rfl⟩ dL_acts_569 (fun H3 locs hL hw_ => ?_)
                      obtain ⟨⟨fl1, hE1, hX1⟩, hR1⟩ := hw_
                      have hV1 : VS (spRepair σ ((m9 : Int))).2 := hS.repair ((m9 : Int))
                      have hC1 : AC σ hs (spRepair σ ((m9 : Int))).2 (hsA σ hs (spRepair σ ((m9 : Int))).1) := ac_of (spRepair_b hI ((m9 : Int))).2.2
                      have hD1 : VH (hsA σ hs (spRepair σ ((m9 : Int))).1) := VH.hs1 hS hH
                      generalize hsA σ hs (spRepair σ ((m9 : Int))).1 = hs1 at hX1 hC1 hD1
                      have hte : (spRepair σ (m9 : Int)).2 = σ := by rw [hsp]
                      have hr1 : (spRepair σ ((m9 : Int))).1 = (-5) := by rw [hsp]
                      rw [hr1]
                      generalize (spRepair σ ((m9 : Int))).2 = τ at hX1 hV1 hC1 hte
                      have hI1 := hV1.1
                      have hz1 := FrR.size hR1 hP.2
                      refine lv_istore (lv' := [(11, .int (iI ((-5)))), (10, .int (iI (0))), (9, .int (iI (0))), (8, .int (iI ((m9 : Int)))), (7, .int (iI (sv))), (6, .int (iI ((nx σ : Int)))), (5, .int (iI ((mn σ : Int)))), (4, .int (iI ((n : Int)))), (3, .int (iI (w1))), (0, .ref (x)), (1, .int (v1)), (2, .int (v2))]) E.1 E.2.1 dL_acts_572 hl (by decide) rfl (fun ls hl => ?_)
                      refine lv_iload E.1 E.2.1 dL_acts_574 (lv_at hl 0 rfl) ?_
                      refine lv_iload E.1 E.2.1 dL_acts_576 (lv_at hl 3 rfl) ?_
                      refine lv_iload E.1 E.2.1 dL_acts_578 (lv_at hl 6 rfl) ?_
                      refine r_icmp_ne (tgt := 587) E dL_acts_580 (by decide) (by omega) (by omega) (fun c580 => ?_) (fun c580 => absurd c580 (by omega))
                      refine lv_iload E.1 E.2.1 dL_acts_587 (lv_at hl 2 rfl) ?_
                      refine r_if_eq (tgt := 600) E dL_acts_589 (by decide) (by omega) (fun c589 => ?_) (fun c589 => absurd c589 (by omega))
                      refine r_bipush E dL_acts_600 (by decide) ?_
                      refine r_icmp_ne (tgt := 634) E dL_acts_602 (by decide) (by omega) (by omega) (fun c602 => absurd c602 (by omega)) (fun c602 => ?_)
                      refine lv_iload E.1 E.2.1 dL_acts_605 (lv_at hl 2 rfl) ?_
                      refine r_if_eq (tgt := 630) E dL_acts_607 (by decide) (by omega) (fun c607 => ?_) (fun c607 => absurd c607 (by omega))
                      refine r_const E dL_acts_630 ?_
                      refine lv_goto (tgt := 635) E.1 E.2.1 dL_acts_631 (by decide) ?_
                      refine W.widen (k := 80) (n := 240) (Nat.le_of_ble_eq_true rfl) (Nat.le_of_ble_eq_true rfl) ?_
                      refine e_zret (rm := ({ frames := 8, cells := 80, slots := 240, locals := 189 } : Room)) (v := iI (1)) E hL rfl dL_acts_635 ?_
                      exact ⟨rfl, _, _, _, _, hV1, hD1, hT, fun _ => hC1, ⟨_, hE1, hX1⟩, hR1⟩
                    · have hrow7 := hr9.2.2.2.2.2.2.1 hl9 (by omega)
                      refine lv_iload E.1 E.2.1 dL_acts_493 (lv_at hl 0 rfl) ?_
                      refine lv_iload E.1 E.2.1 dL_acts_495 (lv_at hl 3 rfl) ?_
                      refine r_icmp_ge (tgt := 545) E dL_acts_497 (by decide) (by omega) (by omega) (fun c497 => absurd c497 (by omega)) (fun c497 => ?_)
                      refine lv_iload E.1 E.2.1 dL_acts_500 (lv_at hl 0 rfl) ?_
                      refine lv_iload E.1 E.2.1 dL_acts_502 (lv_at hl 3 rfl) ?_
                      refine r_const E dL_acts_504 ?_
                      refine r_sub E dL_acts_505 ?_
                      refine r_icmp_ne (tgt := 545) E dL_acts_506 (by decide) (by omega) (by omega) (fun c506 => absurd c506 (by omega)) (fun c506 => ?_)
                      refine lv_aload_n E.1 E.2.1 dL_acts_509 rfl (lv_at hl 6 rfl) ?_
                      refine lv_iload E.1 E.2.1 dL_acts_510 (lv_at hl 0 rfl) ?_
                      refine r_const E dL_acts_512 ?_
                      refine kVRE (As := [.int (iI ((m9 : Int))), .int (iI (0))]) E cw_L_29 (c_X5_session G l x fb fl σ hs tx len hI hT hfx hgx ((m9 : Int)) (0) (by unfold okI; omega) (by unfold okI; omega)) hP.1.1 ⟨_, _, rfl⟩ hP.1 hL hl.1 rfl rfl (Nat.le_of_ble_eq_true rfl) ⟨Nat.le_of_ble_eq_true rfl, Nat.le_of_ble_eq_true rfl⟩ ⟨rfl, rfl⟩ ⟨Nat.le_of_ble_eq_true rfl, Nat.le_of_ble_eq_true rfl⟩ dL_acts_513 (fun locs hL => ?_)
                      rw [spSes0 hm9]
                      refine r_const E dL_acts_516 ?_
                      refine r_icmp_ne (tgt := 545) E dL_acts_517 (by decide) (by omega) (by omega) (fun c517 => absurd c517 (by omega)) (fun c517 => ?_)
                      refine lv_aload_n E.1 E.2.1 dL_acts_520 rfl (lv_at hl 6 rfl) ?_
                      refine lv_aload_n E.1 E.2.1 dL_acts_521 rfl (lv_at hl 6 rfl) ?_
                      refine lv_iload E.1 E.2.1 dL_acts_522 (lv_at hl 0 rfl) ?_
                      refine r_const E dL_acts_524 ?_
                      refine kVRE (As := [.int (iI ((m9 : Int))), .int (iI (1))]) E cw_L_29 (c_X5_session G l x fb fl σ hs tx len hI hT hfx hgx ((m9 : Int)) (1) (by unfold okI; omega) (by unfold okI; omega)) hP.1.1 ⟨_, _, rfl⟩ hP.1 hL hl.1 rfl rfl (Nat.le_of_ble_eq_true rfl) ⟨Nat.le_of_ble_eq_true rfl, Nat.le_of_ble_eq_true rfl⟩ ⟨rfl, rfl⟩ ⟨Nat.le_of_ble_eq_true rfl, Nat.le_of_ble_eq_true rfl⟩ dL_acts_525 (fun locs hL => ?_)
                      rw [spSes1 hm9]
                      refine lv_aload_n E.1 E.2.1 dL_acts_528 rfl (lv_at hl 6 rfl) ?_
                      refine lv_iload E.1 E.2.1 dL_acts_529 (lv_at hl 0 rfl) ?_
                      refine r_const E dL_acts_531 ?_
                      refine kVRE (As := [.int (iI ((m9 : Int))), .int (iI (3))]) E cw_L_29 (c_X5_session G l x fb fl σ hs tx len hI hT hfx hgx ((m9 : Int)) (3) (by unfold okI; omega) (by unfold okI; omega)) hP.1.1 ⟨_, _, rfl⟩ hP.1 hL hl.1 rfl rfl (Nat.le_of_ble_eq_true rfl) ⟨Nat.le_of_ble_eq_true rfl, Nat.le_of_ble_eq_true rfl⟩ ⟨rfl, rfl⟩ ⟨Nat.le_of_ble_eq_true rfl, Nat.le_of_ble_eq_true rfl⟩ dL_acts_532 (fun locs hL => ?_)
                      rw [spSes3 hm9]
                      refine kSRE (As := [.ref (x), .int (iI ((se σ m9 1 : Int))), .int (iI ((se σ m9 3 : Int)))]) E cw_L_42 (c_L_whole G l x fb fl σ hs tx len hI hT hfx hgx (se σ m9 1) (se σ m9 3) (by omega)) hP.1 hL hl.1 rfl rfl (Nat.le_of_ble_eq_true rfl) ⟨Nat.le_of_ble_eq_true rfl, Nat.le_of_ble_eq_true rfl⟩ ⟨rfl, rfl⟩ ⟨Nat.le_of_ble_eq_true rfl, Nat.le_of_ble_eq_true rfl⟩ dL_acts_535 (fun locs hL => ?_)
                      rw [hw9, show b2i true = iI 1 from rfl]
                      refine r_if_eq (tgt := 545) E dL_acts_538 (by decide) (by omega) (fun c538 => absurd c538 (by omega)) (fun c538 => ?_)
                      refine r_const E dL_acts_541 ?_
                      refine lv_goto (tgt := 546) E.1 E.2.1 dL_acts_542 (by decide) ?_
                      refine lv_istore (lv' := [(9, .int (iI (1))), (8, .int (iI ((m9 : Int)))), (7, .int (iI (sv))), (6, .int (iI ((nx σ : Int)))), (5, .int (iI ((mn σ : Int)))), (4, .int (iI ((n : Int)))), (3, .int (iI (w1))), (0, .ref (x)), (1, .int (v1)), (2, .int (v2))]) E.1 E.2.1 dL_acts_546 hl (by decide) rfl (fun ls hl => ?_)
                      refine lv_iload E.1 E.2.1 dL_acts_548 (lv_at hl 0 rfl) ?_
                      refine r_if_eq (tgt := 563) E dL_acts_550 (by decide) (by omega) (fun c550 => absurd c550 (by omega)) (fun c550 => ?_)
                      refine lv_aload_n E.1 E.2.1 dL_acts_553 rfl (lv_at hl 7 rfl) ?_
                      refine lv_iload E.1 E.2.1 dL_acts_554 (lv_at hl 1 rfl) ?_
                      refine r_const E dL_acts_556 ?_
                      refine kVRE (As := [.int (iI ((m9 : Int))), .int (iI (4))]) E cw_L_29 (c_X5_session G l x fb fl σ hs tx len hI hT hfx hgx ((m9 : Int)) (4) (by unfold okI; omega) (by unfold okI; omega)) hP.1.1 ⟨_, _, rfl⟩ hP.1 hL hl.1 rfl rfl (Nat.le_of_ble_eq_true rfl) ⟨Nat.le_of_ble_eq_true rfl, Nat.le_of_ble_eq_true rfl⟩ ⟨rfl, rfl⟩ ⟨Nat.le_of_ble_eq_true rfl, Nat.le_of_ble_eq_true rfl⟩ dL_acts_557 (fun locs hL => ?_)
                      rw [spSes4 hm9]
                      refine lv_goto (tgt := 564) E.1 E.2.1 dL_acts_560 (by decide) ?_
                      refine lv_istore (lv' := [(10, .int (iI ((se σ m9 4 : Int)))), (9, .int (iI (1))), (8, .int (iI ((m9 : Int)))), (7, .int (iI (sv))), (6, .int (iI ((nx σ : Int)))), (5, .int (iI ((mn σ : Int)))), (4, .int (iI ((n : Int)))), (3, .int (iI (w1))), (0, .ref (x)), (1, .int (v1)), (2, .int (v2))]) E.1 E.2.1 dL_acts_564 hl (by decide) rfl (fun ls hl => ?_)
                      refine lv_aload_n E.1 E.2.1 dL_acts_566 rfl (lv_at hl 8 rfl) ?_
                      refine lv_iload E.1 E.2.1 dL_acts_567 (lv_at hl 2 rfl) ?_
                      refine kVWE (As := [.int (iI ((m9 : Int)))]) E cw_L_140 (c_X5_repair G l x fb fl σ hs tx len hI hT hfx hgx ((m9 : Int)) (by unfold okI; omega)) hP.1.1 ⟨_, _, rfl⟩ ⟨hP.1, hP.2⟩ hL hl.1 rfl rfl (Nat.le_of_ble_eq_true rfl) ⟨Nat.le_of_ble_eq_true rfl, Nat.le_of_ble_eq_true rfl⟩ ⟨Nat.le_of_ble_eq_true rfl, Nat.le_of_ble_eq_true rfl⟩ dL_acts_569 (fun H3 locs hL hw_ => ?_)
                      obtain ⟨⟨fl1, hE1, hX1⟩, hR1⟩ := hw_
                      have hV1 : VS (spRepair σ ((m9 : Int))).2 := hS.repair ((m9 : Int))
                      have hC1 : AC σ hs (spRepair σ ((m9 : Int))).2 (hsA σ hs (spRepair σ ((m9 : Int))).1) := ac_of (spRepair_b hI ((m9 : Int))).2.2
                      have hD1 : VH (hsA σ hs (spRepair σ ((m9 : Int))).1) := VH.hs1 hS hH
                      generalize hsA σ hs (spRepair σ ((m9 : Int))).1 = hs1 at hX1 hC1 hD1
                      have hok := lo_ok (σ := σ) hl9
                      have hrb : readB (leadOut σ m9).2 (dm (leadOut σ m9).2) m9 = true := (hok.2.2.2.2.1 _).trans (by rw [hok.2.2.2.2.2]; exact hw9)
                      rw [← rp_ok hl9 h29 hw9] at hok hrb
                      have hm1 := hok.2.1
                      have hx1 := hok.2.2.1
                      have hq0 := hok.2.2.2.1
                      have hvm := (valid_last (by rw [hm1]; exact hl9)).mpr hrb
                      have hr1 : (spRepair σ ((m9 : Int))).1 = ((nx σ : Int) + (se σ m9 4 : Int)) := hok.1
                      rw [hr1]
                      generalize (spRepair σ ((m9 : Int))).2 = τ at hX1 hV1 hC1 hm1 hx1 hq0 hvm
                      have hI1 := hV1.1
                      have hz1 := FrR.size hR1 hP.2
                      refine lv_istore (lv' := [(11, .int (iI (((nx σ : Int) + (se σ m9 4 : Int))))), (10, .int (iI ((se σ m9 4 : Int)))), (9, .int (iI (1))), (8, .int (iI ((m9 : Int)))), (7, .int (iI (sv))), (6, .int (iI ((nx σ : Int)))), (5, .int (iI ((mn σ : Int)))), (4, .int (iI ((n : Int)))), (3, .int (iI (w1))), (0, .ref (x)), (1, .int (v1)), (2, .int (v2))]) E.1 E.2.1 dL_acts_572 hl (by decide) rfl (fun ls hl => ?_)
                      refine lv_iload E.1 E.2.1 dL_acts_574 (lv_at hl 0 rfl) ?_
                      refine lv_iload E.1 E.2.1 dL_acts_576 (lv_at hl 3 rfl) ?_
                      refine lv_iload E.1 E.2.1 dL_acts_578 (lv_at hl 6 rfl) ?_
                      refine r_icmp_ne (tgt := 587) E dL_acts_580 (by decide) (by omega) (by omega) (fun c580 => ?_) (fun c580 => absurd c580 (by omega))
                      refine lv_iload E.1 E.2.1 dL_acts_587 (lv_at hl 2 rfl) ?_
                      refine r_if_eq (tgt := 600) E dL_acts_589 (by decide) (by omega) (fun c589 => absurd c589 (by omega)) (fun c589 => ?_)
                      refine lv_iload E.1 E.2.1 dL_acts_592 (lv_at hl 5 rfl) ?_
                      refine lv_iload E.1 E.2.1 dL_acts_594 (lv_at hl 1 rfl) ?_
                      refine r_add E dL_acts_596 ?_
                      refine lv_goto (tgt := 602) E.1 E.2.1 dL_acts_597 (by decide) ?_
                      refine r_icmp_ne (tgt := 634) E dL_acts_602 (by decide) (by omega) (by omega) (fun c602 => absurd c602 (by omega)) (fun c602 => ?_)
                      refine lv_iload E.1 E.2.1 dL_acts_605 (lv_at hl 2 rfl) ?_
                      refine r_if_eq (tgt := 630) E dL_acts_607 (by decide) (by omega) (fun c607 => absurd c607 (by omega)) (fun c607 => ?_)
                      refine lv_aload_n E.1 E.2.1 dL_acts_610 rfl (lv_at hl 9 rfl) ?_
                      refine kVRE (As := []) E cw_L_55 (c_X5_valid G l x fb fl1 τ hs1 tx len hI1 hT hfx hgx  ) hX1.1 ⟨_, _, rfl⟩ hX1 hL hl.1 rfl rfl (Nat.le_of_ble_eq_true rfl) ⟨Nat.le_of_ble_eq_true rfl, Nat.le_of_ble_eq_true rfl⟩ ⟨rfl, rfl⟩ ⟨Nat.le_of_ble_eq_true rfl, Nat.le_of_ble_eq_true rfl⟩ dL_acts_611 (fun locs hL => ?_)
                      rw [hvm]
                      refine lv_iload E.1 E.2.1 dL_acts_614 (lv_at hl 3 rfl) ?_
                      refine r_icmp_ne (tgt := 634) E dL_acts_616 (by decide) (by omega) (by omega) (fun c616 => absurd c616 (by omega)) (fun c616 => ?_)
                      refine lv_aload_n E.1 E.2.1 dL_acts_619 rfl (lv_at hl 9 rfl) ?_
                      refine lv_iload E.1 E.2.1 dL_acts_620 (lv_at hl 3 rfl) ?_
                      refine r_const E dL_acts_622 ?_
                      refine kVRE (As := [.int (iI ((m9 : Int))), .int (iI (0))]) E cw_L_29 (c_X5_session G l x fb fl1 τ hs1 tx len hI1 hT hfx hgx ((m9 : Int)) (0) (by unfold okI; omega) (by unfold okI; omega)) hX1.1 ⟨_, _, rfl⟩ hX1 hL hl.1 rfl rfl (Nat.le_of_ble_eq_true rfl) ⟨Nat.le_of_ble_eq_true rfl, Nat.le_of_ble_eq_true rfl⟩ ⟨rfl, rfl⟩ ⟨Nat.le_of_ble_eq_true rfl, Nat.le_of_ble_eq_true rfl⟩ dL_acts_623 (fun locs hL => ?_)
                      rw [spSes0 (by omega)]
                      refine r_const E dL_acts_626 ?_
                      refine r_icmp_ne (tgt := 634) E dL_acts_627 (by decide) (by omega) (by omega) (fun c627 => absurd c627 (by omega)) (fun c627 => ?_)
                      refine r_const E dL_acts_630 ?_
                      refine lv_goto (tgt := 635) E.1 E.2.1 dL_acts_631 (by decide) ?_
                      refine W.widen (k := 80) (n := 240) (Nat.le_of_ble_eq_true rfl) (Nat.le_of_ble_eq_true rfl) ?_
                      refine e_zret (rm := ({ frames := 8, cells := 80, slots := 240, locals := 189 } : Room)) (v := iI (1)) E hL rfl dL_acts_635 ?_
                      exact ⟨rfl, _, _, _, _, hV1, hD1, hT, fun _ => hC1, ⟨_, hE1, hX1⟩, hR1⟩
                  · have hsp : (spRepair σ (m9 : Int)) = (-5, σ) := rp_e2 hm9 (fun h => h29 h.2.1)
                    refine lv_iload E.1 E.2.1 dL_acts_493 (lv_at hl 0 rfl) ?_
                    refine lv_iload E.1 E.2.1 dL_acts_495 (lv_at hl 3 rfl) ?_
                    refine r_icmp_ge (tgt := 545) E dL_acts_497 (by decide) (by omega) (by omega) (fun c497 => absurd c497 (by omega)) (fun c497 => ?_)
                    refine lv_iload E.1 E.2.1 dL_acts_500 (lv_at hl 0 rfl) ?_
                    refine lv_iload E.1 E.2.1 dL_acts_502 (lv_at hl 3 rfl) ?_
                    refine r_const E dL_acts_504 ?_
                    refine r_sub E dL_acts_505 ?_
                    refine r_icmp_ne (tgt := 545) E dL_acts_506 (by decide) (by omega) (by omega) (fun c506 => absurd c506 (by omega)) (fun c506 => ?_)
                    refine lv_aload_n E.1 E.2.1 dL_acts_509 rfl (lv_at hl 6 rfl) ?_
                    refine lv_iload E.1 E.2.1 dL_acts_510 (lv_at hl 0 rfl) ?_
                    refine r_const E dL_acts_512 ?_
                    refine kVRE (As := [.int (iI ((m9 : Int))), .int (iI (0))]) E cw_L_29 (c_X5_session G l x fb fl σ hs tx len hI hT hfx hgx ((m9 : Int)) (0) (by unfold okI; omega) (by unfold okI; omega)) hP.1.1 ⟨_, _, rfl⟩ hP.1 hL hl.1 rfl rfl (Nat.le_of_ble_eq_true rfl) ⟨Nat.le_of_ble_eq_true rfl, Nat.le_of_ble_eq_true rfl⟩ ⟨rfl, rfl⟩ ⟨Nat.le_of_ble_eq_true rfl, Nat.le_of_ble_eq_true rfl⟩ dL_acts_513 (fun locs hL => ?_)
                    rw [spSes0 hm9]
                    refine r_const E dL_acts_516 ?_
                    refine r_icmp_ne (tgt := 545) E dL_acts_517 (by decide) (by omega) (by omega) (fun c517 => ?_) (fun c517 => absurd c517 (by omega))
                    refine r_const E dL_acts_545 ?_
                    refine lv_istore (lv' := [(9, .int (iI (0))), (8, .int (iI ((m9 : Int)))), (7, .int (iI (sv))), (6, .int (iI ((nx σ : Int)))), (5, .int (iI ((mn σ : Int)))), (4, .int (iI ((n : Int)))), (3, .int (iI (w1))), (0, .ref (x)), (1, .int (v1)), (2, .int (v2))]) E.1 E.2.1 dL_acts_546 hl (by decide) rfl (fun ls hl => ?_)
                    refine lv_iload E.1 E.2.1 dL_acts_548 (lv_at hl 0 rfl) ?_
                    refine r_if_eq (tgt := 563) E dL_acts_550 (by decide) (by omega) (fun c550 => ?_) (fun c550 => absurd c550 (by omega))
                    refine r_const E dL_acts_563 ?_
                    refine lv_istore (lv' := [(10, .int (iI (0))), (9, .int (iI (0))), (8, .int (iI ((m9 : Int)))), (7, .int (iI (sv))), (6, .int (iI ((nx σ : Int)))), (5, .int (iI ((mn σ : Int)))), (4, .int (iI ((n : Int)))), (3, .int (iI (w1))), (0, .ref (x)), (1, .int (v1)), (2, .int (v2))]) E.1 E.2.1 dL_acts_564 hl (by decide) rfl (fun ls hl => ?_)
                    refine lv_aload_n E.1 E.2.1 dL_acts_566 rfl (lv_at hl 8 rfl) ?_
                    refine lv_iload E.1 E.2.1 dL_acts_567 (lv_at hl 2 rfl) ?_
                    refine kVWE (As := [.int (iI ((m9 : Int)))]) E cw_L_140 (c_X5_repair G l x fb fl σ hs tx len hI hT hfx hgx ((m9 : Int)) (by unfold okI; omega)) hP.1.1 ⟨_, _, rfl⟩ ⟨hP.1, hP.2⟩ hL hl.1 rfl rfl (Nat.le_of_ble_eq_true rfl) ⟨Nat.le_of_ble_eq_true rfl, Nat.le_of_ble_eq_true rfl⟩ ⟨Nat.le_of_ble_eq_true rfl, Nat.le_of_ble_eq_true rfl⟩ dL_acts_569 (fun H3 locs hL hw_ => ?_)
                    obtain ⟨⟨fl1, hE1, hX1⟩, hR1⟩ := hw_
                    have hV1 : VS (spRepair σ ((m9 : Int))).2 := hS.repair ((m9 : Int))
                    have hC1 : AC σ hs (spRepair σ ((m9 : Int))).2 (hsA σ hs (spRepair σ ((m9 : Int))).1) := ac_of (spRepair_b hI ((m9 : Int))).2.2
                    have hD1 : VH (hsA σ hs (spRepair σ ((m9 : Int))).1) := VH.hs1 hS hH
                    generalize hsA σ hs (spRepair σ ((m9 : Int))).1 = hs1 at hX1 hC1 hD1
                    have hte : (spRepair σ (m9 : Int)).2 = σ := by rw [hsp]
                    have hr1 : (spRepair σ ((m9 : Int))).1 = (-5) := by rw [hsp]
                    rw [hr1]
                    generalize (spRepair σ ((m9 : Int))).2 = τ at hX1 hV1 hC1 hte
                    have hI1 := hV1.1
                    have hz1 := FrR.size hR1 hP.2
                    refine lv_istore (lv' := [(11, .int (iI ((-5)))), (10, .int (iI (0))), (9, .int (iI (0))), (8, .int (iI ((m9 : Int)))), (7, .int (iI (sv))), (6, .int (iI ((nx σ : Int)))), (5, .int (iI ((mn σ : Int)))), (4, .int (iI ((n : Int)))), (3, .int (iI (w1))), (0, .ref (x)), (1, .int (v1)), (2, .int (v2))]) E.1 E.2.1 dL_acts_572 hl (by decide) rfl (fun ls hl => ?_)
                    refine lv_iload E.1 E.2.1 dL_acts_574 (lv_at hl 0 rfl) ?_
                    refine lv_iload E.1 E.2.1 dL_acts_576 (lv_at hl 3 rfl) ?_
                    refine lv_iload E.1 E.2.1 dL_acts_578 (lv_at hl 6 rfl) ?_
                    refine r_icmp_ne (tgt := 587) E dL_acts_580 (by decide) (by omega) (by omega) (fun c580 => ?_) (fun c580 => absurd c580 (by omega))
                    refine lv_iload E.1 E.2.1 dL_acts_587 (lv_at hl 2 rfl) ?_
                    refine r_if_eq (tgt := 600) E dL_acts_589 (by decide) (by omega) (fun c589 => ?_) (fun c589 => absurd c589 (by omega))
                    refine r_bipush E dL_acts_600 (by decide) ?_
                    refine r_icmp_ne (tgt := 634) E dL_acts_602 (by decide) (by omega) (by omega) (fun c602 => absurd c602 (by omega)) (fun c602 => ?_)
                    refine lv_iload E.1 E.2.1 dL_acts_605 (lv_at hl 2 rfl) ?_
                    refine r_if_eq (tgt := 630) E dL_acts_607 (by decide) (by omega) (fun c607 => ?_) (fun c607 => absurd c607 (by omega))
                    refine r_const E dL_acts_630 ?_
                    refine lv_goto (tgt := 635) E.1 E.2.1 dL_acts_631 (by decide) ?_
                    refine W.widen (k := 80) (n := 240) (Nat.le_of_ble_eq_true rfl) (Nat.le_of_ble_eq_true rfl) ?_
                    refine e_zret (rm := ({ frames := 8, cells := 80, slots := 240, locals := 189 } : Room)) (v := iI (1)) E hL rfl dL_acts_635 ?_
                    exact ⟨rfl, _, _, _, _, hV1, hD1, hT, fun _ => hC1, ⟨_, hE1, hX1⟩, hR1⟩
                · have hsp : (spRepair σ (m9 : Int)) = (-5, σ) := rp_e2 hm9 (fun h => hl9 h.1)
                  refine lv_iload E.1 E.2.1 dL_acts_493 (lv_at hl 0 rfl) ?_
                  refine lv_iload E.1 E.2.1 dL_acts_495 (lv_at hl 3 rfl) ?_
                  refine r_icmp_ge (tgt := 545) E dL_acts_497 (by decide) (by omega) (by omega) (fun c497 => absurd c497 (by omega)) (fun c497 => ?_)
                  refine lv_iload E.1 E.2.1 dL_acts_500 (lv_at hl 0 rfl) ?_
                  refine lv_iload E.1 E.2.1 dL_acts_502 (lv_at hl 3 rfl) ?_
                  refine r_const E dL_acts_504 ?_
                  refine r_sub E dL_acts_505 ?_
                  refine r_icmp_ne (tgt := 545) E dL_acts_506 (by decide) (by omega) (by omega) (fun c506 => ?_) (fun c506 => absurd c506 (by omega))
                  refine r_const E dL_acts_545 ?_
                  refine lv_istore (lv' := [(9, .int (iI (0))), (8, .int (iI ((m9 : Int)))), (7, .int (iI (sv))), (6, .int (iI ((nx σ : Int)))), (5, .int (iI ((mn σ : Int)))), (4, .int (iI ((n : Int)))), (3, .int (iI (w1))), (0, .ref (x)), (1, .int (v1)), (2, .int (v2))]) E.1 E.2.1 dL_acts_546 hl (by decide) rfl (fun ls hl => ?_)
                  refine lv_iload E.1 E.2.1 dL_acts_548 (lv_at hl 0 rfl) ?_
                  refine r_if_eq (tgt := 563) E dL_acts_550 (by decide) (by omega) (fun c550 => ?_) (fun c550 => absurd c550 (by omega))
                  refine r_const E dL_acts_563 ?_
                  refine lv_istore (lv' := [(10, .int (iI (0))), (9, .int (iI (0))), (8, .int (iI ((m9 : Int)))), (7, .int (iI (sv))), (6, .int (iI ((nx σ : Int)))), (5, .int (iI ((mn σ : Int)))), (4, .int (iI ((n : Int)))), (3, .int (iI (w1))), (0, .ref (x)), (1, .int (v1)), (2, .int (v2))]) E.1 E.2.1 dL_acts_564 hl (by decide) rfl (fun ls hl => ?_)
                  refine lv_aload_n E.1 E.2.1 dL_acts_566 rfl (lv_at hl 8 rfl) ?_
                  refine lv_iload E.1 E.2.1 dL_acts_567 (lv_at hl 2 rfl) ?_
                  refine kVWE (As := [.int (iI ((m9 : Int)))]) E cw_L_140 (c_X5_repair G l x fb fl σ hs tx len hI hT hfx hgx ((m9 : Int)) (by unfold okI; omega)) hP.1.1 ⟨_, _, rfl⟩ ⟨hP.1, hP.2⟩ hL hl.1 rfl rfl (Nat.le_of_ble_eq_true rfl) ⟨Nat.le_of_ble_eq_true rfl, Nat.le_of_ble_eq_true rfl⟩ ⟨Nat.le_of_ble_eq_true rfl, Nat.le_of_ble_eq_true rfl⟩ dL_acts_569 (fun H3 locs hL hw_ => ?_)
                  obtain ⟨⟨fl1, hE1, hX1⟩, hR1⟩ := hw_
                  have hV1 : VS (spRepair σ ((m9 : Int))).2 := hS.repair ((m9 : Int))
                  have hC1 : AC σ hs (spRepair σ ((m9 : Int))).2 (hsA σ hs (spRepair σ ((m9 : Int))).1) := ac_of (spRepair_b hI ((m9 : Int))).2.2
                  have hD1 : VH (hsA σ hs (spRepair σ ((m9 : Int))).1) := VH.hs1 hS hH
                  generalize hsA σ hs (spRepair σ ((m9 : Int))).1 = hs1 at hX1 hC1 hD1
                  have hte : (spRepair σ (m9 : Int)).2 = σ := by rw [hsp]
                  have hr1 : (spRepair σ ((m9 : Int))).1 = (-5) := by rw [hsp]
                  rw [hr1]
                  generalize (spRepair σ ((m9 : Int))).2 = τ at hX1 hV1 hC1 hte
                  have hI1 := hV1.1
                  have hz1 := FrR.size hR1 hP.2
                  refine lv_istore (lv' := [(11, .int (iI ((-5)))), (10, .int (iI (0))), (9, .int (iI (0))), (8, .int (iI ((m9 : Int)))), (7, .int (iI (sv))), (6, .int (iI ((nx σ : Int)))), (5, .int (iI ((mn σ : Int)))), (4, .int (iI ((n : Int)))), (3, .int (iI (w1))), (0, .ref (x)), (1, .int (v1)), (2, .int (v2))]) E.1 E.2.1 dL_acts_572 hl (by decide) rfl (fun ls hl => ?_)
                  refine lv_iload E.1 E.2.1 dL_acts_574 (lv_at hl 0 rfl) ?_
                  refine lv_iload E.1 E.2.1 dL_acts_576 (lv_at hl 3 rfl) ?_
                  refine lv_iload E.1 E.2.1 dL_acts_578 (lv_at hl 6 rfl) ?_
                  refine r_icmp_ne (tgt := 587) E dL_acts_580 (by decide) (by omega) (by omega) (fun c580 => ?_) (fun c580 => absurd c580 (by omega))
                  refine lv_iload E.1 E.2.1 dL_acts_587 (lv_at hl 2 rfl) ?_
                  refine r_if_eq (tgt := 600) E dL_acts_589 (by decide) (by omega) (fun c589 => ?_) (fun c589 => absurd c589 (by omega))
                  refine r_bipush E dL_acts_600 (by decide) ?_
                  refine r_icmp_ne (tgt := 634) E dL_acts_602 (by decide) (by omega) (by omega) (fun c602 => absurd c602 (by omega)) (fun c602 => ?_)
                  refine lv_iload E.1 E.2.1 dL_acts_605 (lv_at hl 2 rfl) ?_
                  refine r_if_eq (tgt := 630) E dL_acts_607 (by decide) (by omega) (fun c607 => ?_) (fun c607 => absurd c607 (by omega))
                  refine r_const E dL_acts_630 ?_
                  refine lv_goto (tgt := 635) E.1 E.2.1 dL_acts_631 (by decide) ?_
                  refine W.widen (k := 80) (n := 240) (Nat.le_of_ble_eq_true rfl) (Nat.le_of_ble_eq_true rfl) ?_
                  refine e_zret (rm := ({ frames := 8, cells := 80, slots := 240, locals := 189 } : Room)) (v := iI (1)) E hL rfl dL_acts_635 ?_
                  exact ⟨rfl, _, _, _, _, hV1, hD1, hT, fun _ => hC1, ⟨_, hE1, hX1⟩, hR1⟩
          · refine lv_aload_n E.1 E.2.1 dL_acts_420 rfl (lv_at hl 5 rfl) ?_
            refine kVWE (As := []) E cw_L_137 (c_X5_eject G l x fb fl σ hs tx len hI hT hfx hgx  ) hP.1.1 ⟨_, _, rfl⟩ ⟨hP.1, hP.2⟩ hL hl.1 rfl rfl (Nat.le_of_ble_eq_true rfl) ⟨Nat.le_of_ble_eq_true rfl, Nat.le_of_ble_eq_true rfl⟩ ⟨Nat.le_of_ble_eq_true rfl, Nat.le_of_ble_eq_true rfl⟩ dL_acts_421 (fun H2 locs hL hw_ => ?_)
            obtain ⟨⟨fl1, hE1, hX1⟩, hR1⟩ := hw_
            have hV1 : VS (spEject σ).2 := hS.eject
            have hC1 : AC σ hs (spEject σ).2 (hsA σ hs (spEject σ).1) := ac_of (spEject_b).2.2
            have hD1 : VH (hsA σ hs (spEject σ).1) := VH.hs1 hS hH
            generalize hsA σ hs (spEject σ).1 = hs1 at hX1 hC1 hD1
            have hok := ej_ok hop
            have hm1 := hok.2.1
            have hx1 := hok.2.2.1
            have hq0 := hok.2.2.2.1
            have hve := hok.2.2.2.2.trans hsv
            have hr1 : (spEject σ).1 = 1 := hok.1
            rw [hr1]
            generalize (spEject σ).2 = τ at hX1 hV1 hC1 hm1 hx1 hq0 hve
            have hI1 := hV1.1
            have hz1 := FrR.size hR1 hP.2
            refine lv_iload E.1 E.2.1 dL_acts_424 (lv_at hl 3 rfl) ?_
            refine r_if_ge (tgt := 433) E dL_acts_426 (by decide) (by omega) (fun c426 => ?_) (fun c426 => absurd c426 (by omega))
            refine r_const E dL_acts_433 ?_
            refine r_icmp_ne (tgt := 475) E dL_acts_434 (by decide) (by omega) (by omega) (fun c434 => absurd c434 (by omega)) (fun c434 => ?_)
            refine lv_iload E.1 E.2.1 dL_acts_437 (lv_at hl 3 rfl) ?_
            refine r_if_lt (tgt := 453) E dL_acts_439 (by decide) (by omega) (fun c439 => absurd c439 (by omega)) (fun c439 => ?_)
            refine lv_aload_n E.1 E.2.1 dL_acts_442 rfl (lv_at hl 5 rfl) ?_
            refine lv_iload E.1 E.2.1 dL_acts_443 (lv_at hl 3 rfl) ?_
            refine r_const E dL_acts_445 ?_
            refine kVRE (As := [.int (iI ((n : Int))), .int (iI (0))]) E cw_L_29 (c_X5_session G l x fb fl1 τ hs1 tx len hI1 hT hfx hgx ((n : Int)) (0) (by unfold okI; omega) (by unfold okI; omega)) hX1.1 ⟨_, _, rfl⟩ hX1 hL hl.1 rfl rfl (Nat.le_of_ble_eq_true rfl) ⟨Nat.le_of_ble_eq_true rfl, Nat.le_of_ble_eq_true rfl⟩ ⟨rfl, rfl⟩ ⟨Nat.le_of_ble_eq_true rfl, Nat.le_of_ble_eq_true rfl⟩ dL_acts_446 (fun locs hL => ?_)
            rw [spSes0 (by omega)]
            refine r_const E dL_acts_449 ?_
            refine r_icmp_ne (tgt := 475) E dL_acts_450 (by decide) (by omega) (by omega) (fun c450 => absurd c450 (by omega)) (fun c450 => ?_)
            refine lv_aload_n E.1 E.2.1 dL_acts_453 rfl (lv_at hl 5 rfl) ?_
            refine kVRE (As := []) E cw_L_13 (c_X5_next G l x fb fl1 τ hs1 tx len hI1 hT hfx hgx  ) hX1.1 ⟨_, _, rfl⟩ hX1 hL hl.1 rfl rfl (Nat.le_of_ble_eq_true rfl) ⟨Nat.le_of_ble_eq_true rfl, Nat.le_of_ble_eq_true rfl⟩ ⟨rfl, rfl⟩ ⟨Nat.le_of_ble_eq_true rfl, Nat.le_of_ble_eq_true rfl⟩ dL_acts_454 (fun locs hL => ?_)
            refine lv_iload E.1 E.2.1 dL_acts_457 (lv_at hl 1 rfl) ?_
            refine r_icmp_ne (tgt := 475) E dL_acts_459 (by decide) (by omega) (by omega) (fun c459 => absurd c459 (by omega)) (fun c459 => ?_)
            refine lv_aload_n E.1 E.2.1 dL_acts_462 rfl (lv_at hl 5 rfl) ?_
            refine kVRE (As := []) E cw_L_55 (c_X5_valid G l x fb fl1 τ hs1 tx len hI1 hT hfx hgx  ) hX1.1 ⟨_, _, rfl⟩ hX1 hL hl.1 rfl rfl (Nat.le_of_ble_eq_true rfl) ⟨Nat.le_of_ble_eq_true rfl, Nat.le_of_ble_eq_true rfl⟩ ⟨rfl, rfl⟩ ⟨Nat.le_of_ble_eq_true rfl, Nat.le_of_ble_eq_true rfl⟩ dL_acts_463 (fun locs hL => ?_)
            rw [hve]
            refine lv_iload E.1 E.2.1 dL_acts_466 (lv_at hl 0 rfl) ?_
            refine r_icmp_ne (tgt := 475) E dL_acts_468 (by decide) (by omega) (by omega) (fun c468 => absurd c468 (by omega)) (fun c468 => ?_)
            refine r_const E dL_acts_471 ?_
            refine lv_goto (tgt := 476) E.1 E.2.1 dL_acts_472 (by decide) ?_
            refine W.widen (k := 80) (n := 240) (Nat.le_of_ble_eq_true rfl) (Nat.le_of_ble_eq_true rfl) ?_
            refine e_zret (rm := ({ frames := 8, cells := 80, slots := 240, locals := 189 } : Room)) (v := iI (1)) E hL rfl dL_acts_476 ?_
            exact ⟨rfl, _, _, _, _, hV1, hD1, hT, fun _ => hC1, ⟨_, hE1, hX1⟩, hR1⟩
        · refine lv_iload E.1 E.2.1 dL_acts_314 (lv_at hl 3 rfl) ?_
          refine r_if_ge (tgt := 323) E dL_acts_316 (by decide) (by omega) (fun c316 => ?_) (fun c316 => absurd c316 (by omega))
          refine lv_aload_n E.1 E.2.1 dL_acts_323 rfl (lv_at hl 5 rfl) ?_
          refine lv_iload E.1 E.2.1 dL_acts_324 (lv_at hl 3 rfl) ?_
          refine r_const E dL_acts_326 ?_
          refine kVRE (As := [.int (iI ((n : Int))), .int (iI (4))]) E cw_L_29 (c_X5_session G l x fb fl σ hs tx len hI hT hfx hgx ((n : Int)) (4) (by unfold okI; omega) (by unfold okI; omega)) hP.1.1 ⟨_, _, rfl⟩ hP.1 hL hl.1 rfl rfl (Nat.le_of_ble_eq_true rfl) ⟨Nat.le_of_ble_eq_true rfl, Nat.le_of_ble_eq_true rfl⟩ ⟨rfl, rfl⟩ ⟨Nat.le_of_ble_eq_true rfl, Nat.le_of_ble_eq_true rfl⟩ dL_acts_327 (fun locs hL => ?_)
          rw [spSes4 hnm]
          refine lv_istore (lv' := [(8, .int (iI ((se σ n 4 : Int)))), (7, .int (iI (sv))), (6, .int (iI ((nx σ : Int)))), (5, .int (iI ((mn σ : Int)))), (4, .int (iI ((n : Int)))), (3, .int (iI (w1))), (0, .ref (x)), (1, .int (v1)), (2, .int (v2))]) E.1 E.2.1 dL_acts_330 hl (by decide) rfl (fun ls hl => ?_)
          have hn1 := hn.1
          have hrow7 := hrow.2.2.2.2.2.2.1 hn1 (by rw [hn.2]; decide)
          refine lv_aload_n E.1 E.2.1 dL_acts_332 rfl (lv_at hl 6 rfl) ?_
          refine kVWE (As := []) E cw_L_134 (c_X5_close G l x fb fl σ hs tx len hI hT hfx hgx  ) hP.1.1 ⟨_, _, rfl⟩ ⟨hP.1, hP.2⟩ hL hl.1 rfl rfl (Nat.le_of_ble_eq_true rfl) ⟨Nat.le_of_ble_eq_true rfl, Nat.le_of_ble_eq_true rfl⟩ ⟨Nat.le_of_ble_eq_true rfl, Nat.le_of_ble_eq_true rfl⟩ dL_acts_333 (fun H2 locs hL hw_ => ?_)
          obtain ⟨⟨fl1, hE1, hX1⟩, hR1⟩ := hw_
          have hV1 : VS (spClose σ).2 := hS.close
          have hC1 : AC σ hs (spClose σ).2 (hsA σ hs (spClose σ).1) := ac_of (spClose_b hI).2.2
          have hD1 : VH (hsA σ hs (spClose σ).1) := VH.hs1 hS hH
          generalize hsA σ hs (spClose σ).1 = hs1 at hX1 hC1 hD1
          have hok := lo_ok (σ := σ) hn1
          rw [← cl_ok hop] at hok
          have hm1 := hok.2.1
          have hx1 := hok.2.2.1
          have hq0 := hok.2.2.2.1
          have hr1 : (spClose σ).1 = ((nx σ : Int) + (se σ n 4 : Int)) := hok.1
          rw [hr1]
          generalize (spClose σ).2 = τ at hX1 hV1 hC1 hm1 hx1 hq0
          have hI1 := hV1.1
          have hz1 := FrR.size hR1 hP.2
          refine lv_istore (lv' := [(9, .int (iI (((nx σ : Int) + (se σ n 4 : Int))))), (8, .int (iI ((se σ n 4 : Int)))), (7, .int (iI (sv))), (6, .int (iI ((nx σ : Int)))), (5, .int (iI ((mn σ : Int)))), (4, .int (iI ((n : Int)))), (3, .int (iI (w1))), (0, .ref (x)), (1, .int (v1)), (2, .int (v2))]) E.1 E.2.1 dL_acts_336 hl (by decide) rfl (fun ls hl => ?_)
          refine lv_iload E.1 E.2.1 dL_acts_338 (lv_at hl 0 rfl) ?_
          refine lv_iload E.1 E.2.1 dL_acts_340 (lv_at hl 5 rfl) ?_
          refine r_if_ge (tgt := 350) E dL_acts_342 (by decide) (by omega) (fun c342 => ?_) (fun c342 => absurd c342 (by omega))
          refine lv_iload E.1 E.2.1 dL_acts_350 (lv_at hl 3 rfl) ?_
          refine lv_iload E.1 E.2.1 dL_acts_352 (lv_at hl 1 rfl) ?_
          refine r_add E dL_acts_354 ?_
          refine r_icmp_ne (tgt := 412) E dL_acts_355 (by decide) (by omega) (by omega) (fun c355 => absurd c355 (by omega)) (fun c355 => ?_)
          refine lv_iload E.1 E.2.1 dL_acts_358 (lv_at hl 5 rfl) ?_
          refine r_if_lt (tgt := 408) E dL_acts_360 (by decide) (by omega) (fun c360 => absurd c360 (by omega)) (fun c360 => ?_)
          refine lv_aload_n E.1 E.2.1 dL_acts_363 rfl (lv_at hl 7 rfl) ?_
          refine lv_iload E.1 E.2.1 dL_acts_364 (lv_at hl 5 rfl) ?_
          refine r_const E dL_acts_366 ?_
          refine kVRE (As := [.int (iI ((n : Int))), .int (iI (0))]) E cw_L_29 (c_X5_session G l x fb fl1 τ hs1 tx len hI1 hT hfx hgx ((n : Int)) (0) (by unfold okI; omega) (by unfold okI; omega)) hX1.1 ⟨_, _, rfl⟩ hX1 hL hl.1 rfl rfl (Nat.le_of_ble_eq_true rfl) ⟨Nat.le_of_ble_eq_true rfl, Nat.le_of_ble_eq_true rfl⟩ ⟨rfl, rfl⟩ ⟨Nat.le_of_ble_eq_true rfl, Nat.le_of_ble_eq_true rfl⟩ dL_acts_367 (fun locs hL => ?_)
          rw [spSes0 (by omega)]
          refine r_const E dL_acts_370 ?_
          refine r_icmp_ne (tgt := 412) E dL_acts_371 (by decide) (by omega) (by omega) (fun c371 => absurd c371 (by omega)) (fun c371 => ?_)
          have hvl := valid_last (τ := τ) (n := n) (by omega)
          obtain ⟨u9, hu9⟩ : ∃ z, spValid τ = z := ⟨_, rfl⟩
          rw [hu9] at hvl
          have hm12 := hI1.mn12
          have hub := oI_b (o := validD τ (dm τ)) (N := 12) (fun n h => Nat.lt_of_lt_of_le (validD_lt h) hm12)
          rw [show oI (validD τ (dm τ)) = u9 from hu9] at hub
          rcases hrr : readB τ (dm τ) n with _ | _
          · have hune : ¬ u9 = (n : Int) := fun h => by have h8 := hvl.mp h; rw [hrr] at h8; cases h8
            refine lv_aload_n E.1 E.2.1 dL_acts_374 rfl (lv_at hl 7 rfl) ?_
            refine kVRE (As := []) E cw_L_55 (c_X5_valid G l x fb fl1 τ hs1 tx len hI1 hT hfx hgx  ) hX1.1 ⟨_, _, rfl⟩ hX1 hL hl.1 rfl rfl (Nat.le_of_ble_eq_true rfl) ⟨Nat.le_of_ble_eq_true rfl, Nat.le_of_ble_eq_true rfl⟩ ⟨rfl, rfl⟩ ⟨Nat.le_of_ble_eq_true rfl, Nat.le_of_ble_eq_true rfl⟩ dL_acts_375 (fun locs hL => ?_)
            rw [hu9]
            refine lv_iload E.1 E.2.1 dL_acts_378 (lv_at hl 5 rfl) ?_
            refine r_icmp_ne (tgt := 387) E dL_acts_380 (by decide) (by omega) (by omega) (fun c380 => ?_) (fun c380 => absurd c380 (by omega))
            refine r_const E dL_acts_387 ?_
            refine lv_aload_n E.1 E.2.1 dL_acts_388 rfl (lv_at hl 7 rfl) ?_
            refine lv_iload E.1 E.2.1 dL_acts_389 (lv_at hl 5 rfl) ?_
            refine r_bipush E dL_acts_391 (by decide) ?_
            refine kVRE (As := [.int (iI ((n : Int))), .int (iI (6))]) E cw_L_29 (c_X5_session G l x fb fl1 τ hs1 tx len hI1 hT hfx hgx ((n : Int)) (6) (by unfold okI; omega) (by unfold okI; omega)) hX1.1 ⟨_, _, rfl⟩ hX1 hL hl.1 rfl rfl (Nat.le_of_ble_eq_true rfl) ⟨Nat.le_of_ble_eq_true rfl, Nat.le_of_ble_eq_true rfl⟩ ⟨rfl, rfl⟩ ⟨Nat.le_of_ble_eq_true rfl, Nat.le_of_ble_eq_true rfl⟩ dL_acts_393 (fun locs hL => ?_)
            rw [spSes6 (by omega), hrr, if_neg (by decide)]
            refine r_const E dL_acts_396 ?_
            refine r_icmp_ne (tgt := 404) E dL_acts_397 (by decide) (by omega) (by omega) (fun c397 => ?_) (fun c397 => absurd c397 (by omega))
            refine r_const E dL_acts_404 ?_
            refine r_icmp_ne (tgt := 412) E dL_acts_405 (by decide) (by omega) (by omega) (fun c405 => absurd c405 (by omega)) (fun c405 => ?_)
            refine r_const E dL_acts_408 ?_
            refine lv_goto (tgt := 413) E.1 E.2.1 dL_acts_409 (by decide) ?_
            refine W.widen (k := 80) (n := 240) (Nat.le_of_ble_eq_true rfl) (Nat.le_of_ble_eq_true rfl) ?_
            refine e_zret (rm := ({ frames := 8, cells := 80, slots := 240, locals := 189 } : Room)) (v := iI (1)) E hL rfl dL_acts_413 ?_
            exact ⟨rfl, _, _, _, _, hV1, hD1, hT, fun _ => hC1, ⟨_, hE1, hX1⟩, hR1⟩
          · have hune : u9 = (n : Int) := hvl.mpr hrr
            refine lv_aload_n E.1 E.2.1 dL_acts_374 rfl (lv_at hl 7 rfl) ?_
            refine kVRE (As := []) E cw_L_55 (c_X5_valid G l x fb fl1 τ hs1 tx len hI1 hT hfx hgx  ) hX1.1 ⟨_, _, rfl⟩ hX1 hL hl.1 rfl rfl (Nat.le_of_ble_eq_true rfl) ⟨Nat.le_of_ble_eq_true rfl, Nat.le_of_ble_eq_true rfl⟩ ⟨rfl, rfl⟩ ⟨Nat.le_of_ble_eq_true rfl, Nat.le_of_ble_eq_true rfl⟩ dL_acts_375 (fun locs hL => ?_)
            rw [hu9]
            refine lv_iload E.1 E.2.1 dL_acts_378 (lv_at hl 5 rfl) ?_
            refine r_icmp_ne (tgt := 387) E dL_acts_380 (by decide) (by omega) (by omega) (fun c380 => absurd c380 (by omega)) (fun c380 => ?_)
            refine r_const E dL_acts_383 ?_
            refine lv_goto (tgt := 388) E.1 E.2.1 dL_acts_384 (by decide) ?_
            refine lv_aload_n E.1 E.2.1 dL_acts_388 rfl (lv_at hl 7 rfl) ?_
            refine lv_iload E.1 E.2.1 dL_acts_389 (lv_at hl 5 rfl) ?_
            refine r_bipush E dL_acts_391 (by decide) ?_
            refine kVRE (As := [.int (iI ((n : Int))), .int (iI (6))]) E cw_L_29 (c_X5_session G l x fb fl1 τ hs1 tx len hI1 hT hfx hgx ((n : Int)) (6) (by unfold okI; omega) (by unfold okI; omega)) hX1.1 ⟨_, _, rfl⟩ hX1 hL hl.1 rfl rfl (Nat.le_of_ble_eq_true rfl) ⟨Nat.le_of_ble_eq_true rfl, Nat.le_of_ble_eq_true rfl⟩ ⟨rfl, rfl⟩ ⟨Nat.le_of_ble_eq_true rfl, Nat.le_of_ble_eq_true rfl⟩ dL_acts_393 (fun locs hL => ?_)
            rw [spSes6 (by omega), hrr, if_pos rfl]
            refine r_const E dL_acts_396 ?_
            refine r_icmp_ne (tgt := 404) E dL_acts_397 (by decide) (by omega) (by omega) (fun c397 => absurd c397 (by omega)) (fun c397 => ?_)
            refine r_const E dL_acts_400 ?_
            refine lv_goto (tgt := 405) E.1 E.2.1 dL_acts_401 (by decide) ?_
            refine r_icmp_ne (tgt := 412) E dL_acts_405 (by decide) (by omega) (by omega) (fun c405 => absurd c405 (by omega)) (fun c405 => ?_)
            refine r_const E dL_acts_408 ?_
            refine lv_goto (tgt := 413) E.1 E.2.1 dL_acts_409 (by decide) ?_
            refine W.widen (k := 80) (n := 240) (Nat.le_of_ble_eq_true rfl) (Nat.le_of_ble_eq_true rfl) ?_
            refine e_zret (rm := ({ frames := 8, cells := 80, slots := 240, locals := 189 } : Room)) (v := iI (1)) E hL rfl dL_acts_413 ?_
            exact ⟨rfl, _, _, _, _, hV1, hD1, hT, fun _ => hC1, ⟨_, hE1, hX1⟩, hR1⟩
      · refine lv_aload_n E.1 E.2.1 dL_acts_281 rfl (lv_at hl 5 rfl) ?_
        refine lv_iload_n E.1 E.2.1 dL_acts_282 rfl (lv_at hl 4 rfl) ?_
        refine r_bipush E dL_acts_283 (by decide) ?_
        refine r_icmp_ge (tgt := 292) E dL_acts_285 (by decide) (by omega) (by omega) (fun c285 => ?_) (fun c285 => ?_)
        · refine lv_iload_n E.1 E.2.1 dL_acts_292 rfl (lv_at hl 4 rfl) ?_
          refine r_bipush E dL_acts_293 (by decide) ?_
          refine r_icmp_ge (tgt := 302) E dL_acts_295 (by decide) (by omega) (by omega) (fun c295 => ?_) (fun c295 => ?_)
          · refine r_const E dL_acts_302 ?_
            refine lv_iload_n E.1 E.2.1 dL_acts_303 rfl (lv_at hl 7 rfl) ?_
            refine kSWE (As := [.ref (x), .int (iI (2)), .int (v2)]) E cw_L_131 (c_L_files G l x fb fl σ hs tx len hS hH hT hfx hgx (2) (by omega) v2) ⟨hP.1, hP.2⟩ hL hl.1 rfl rfl (Nat.le_of_ble_eq_true rfl) ⟨Nat.le_of_ble_eq_true rfl, Nat.le_of_ble_eq_true rfl⟩ ⟨Nat.le_of_ble_eq_true rfl, Nat.le_of_ble_eq_true rfl⟩ dL_acts_304 (fun H2 locs hL hw_ => ?_)
            obtain ⟨τ, hs1, tx1, len1, hV1, hD1, hT1, hC1, ⟨fl1, hE1, hX1⟩, hR1⟩ := hw_
            refine W.widen (k := 80) (n := 240) (Nat.le_of_ble_eq_true rfl) (Nat.le_of_ble_eq_true rfl) ?_
            refine e_zret (rm := ({ frames := 8, cells := 80, slots := 240, locals := 189 } : Room)) (v := iI (1)) E hL rfl dL_acts_307 ?_
            exact ⟨rfl, _, _, _, _, hV1, hD1, hT1, fun _ => hC1, ⟨_, hE1, hX1⟩, hR1⟩
          · refine r_const E dL_acts_298 ?_
            refine lv_goto (tgt := 303) E.1 E.2.1 dL_acts_299 (by decide) ?_
            refine lv_iload_n E.1 E.2.1 dL_acts_303 rfl (lv_at hl 7 rfl) ?_
            refine kSWE (As := [.ref (x), .int (iI (1)), .int (v2)]) E cw_L_131 (c_L_files G l x fb fl σ hs tx len hS hH hT hfx hgx (1) (by omega) v2) ⟨hP.1, hP.2⟩ hL hl.1 rfl rfl (Nat.le_of_ble_eq_true rfl) ⟨Nat.le_of_ble_eq_true rfl, Nat.le_of_ble_eq_true rfl⟩ ⟨Nat.le_of_ble_eq_true rfl, Nat.le_of_ble_eq_true rfl⟩ dL_acts_304 (fun H2 locs hL hw_ => ?_)
            obtain ⟨τ, hs1, tx1, len1, hV1, hD1, hT1, hC1, ⟨fl1, hE1, hX1⟩, hR1⟩ := hw_
            refine W.widen (k := 80) (n := 240) (Nat.le_of_ble_eq_true rfl) (Nat.le_of_ble_eq_true rfl) ?_
            refine e_zret (rm := ({ frames := 8, cells := 80, slots := 240, locals := 189 } : Room)) (v := iI (1)) E hL rfl dL_acts_307 ?_
            exact ⟨rfl, _, _, _, _, hV1, hD1, hT1, fun _ => hC1, ⟨_, hE1, hX1⟩, hR1⟩
        · refine r_const E dL_acts_288 ?_
          refine lv_goto (tgt := 303) E.1 E.2.1 dL_acts_289 (by decide) ?_
          refine lv_iload_n E.1 E.2.1 dL_acts_303 rfl (lv_at hl 7 rfl) ?_
          refine kSWE (As := [.ref (x), .int (iI (0)), .int (v2)]) E cw_L_131 (c_L_files G l x fb fl σ hs tx len hS hH hT hfx hgx (0) (by omega) v2) ⟨hP.1, hP.2⟩ hL hl.1 rfl rfl (Nat.le_of_ble_eq_true rfl) ⟨Nat.le_of_ble_eq_true rfl, Nat.le_of_ble_eq_true rfl⟩ ⟨Nat.le_of_ble_eq_true rfl, Nat.le_of_ble_eq_true rfl⟩ dL_acts_304 (fun H2 locs hL hw_ => ?_)
          obtain ⟨τ, hs1, tx1, len1, hV1, hD1, hT1, hC1, ⟨fl1, hE1, hX1⟩, hR1⟩ := hw_
          refine W.widen (k := 80) (n := 240) (Nat.le_of_ble_eq_true rfl) (Nat.le_of_ble_eq_true rfl) ?_
          refine e_zret (rm := ({ frames := 8, cells := 80, slots := 240, locals := 189 } : Room)) (v := iI (1)) E hL rfl dL_acts_307 ?_
          exact ⟨rfl, _, _, _, _, hV1, hD1, hT1, fun _ => hC1, ⟨_, hE1, hX1⟩, hR1⟩
    · refine lv_iload_n E.1 E.2.1 dL_acts_36 rfl (lv_at hl 7 rfl) ?_
      have J54_1 : ∀ (v54 : Int) (hv54 : v54 = 3 ∨ v54 = 2) (ls : Array Slot) (locs : List Loc) (hl : lv_has ls 12 [(7, .int (iI (sv))), (6, .int (iI ((nx σ : Int)))), (5, .int (iI ((mn σ : Int)))), (4, .int (iI ((n : Int)))), (3, .int (iI (w1))), (0, .ref (x)), (1, .int (v1)), (2, .int (v2))]) (hL : Lk G locs), W p l e ({ frames := 8, cells := 80, slots := 240, locals := 189 } : Room) s m args below meth c s.heap locs 0 0 (QQ G below args s ({ frames := 8, cells := 80, slots := 240, locals := 189 } : Room) (WE (iI 1) (fun H H1 => ∃ τ hs1 tx1 len1, VS τ ∧ VH hs1 ∧ TxOk tx1 len1 ∧ (lowI v1 30 ≤ 26 → AC σ hs τ hs1) ∧ XP G x fb fl τ hs1 tx1 len1 H H1))) (F0 m 54 ls [.int (iI (v54)), .int (v2)]) := by
        intro v54 hv54 ls locs hl hL
        obtain ⟨w3, hw3⟩ : ∃ z : Int, lowI (v2) (v54) = z := ⟨_, rfl⟩
        have hw3b : 0 ≤ w3 ∧ w3 < (v54) := by rw [← hw3]; exact low_b _ (by omega)
        have hw3c := c_L_low G l (v2) (v54) (by omega)
        rw [hw3] at hw3c
        refine kSRE (As := [.int (v2), .int (iI (v54))]) E cw_L_72 hw3c trivial hL hl.1 rfl rfl (Nat.le_of_ble_eq_true rfl) ⟨Nat.le_of_ble_eq_true rfl, Nat.le_of_ble_eq_true rfl⟩ ⟨rfl, rfl⟩ ⟨Nat.le_of_ble_eq_true rfl, Nat.le_of_ble_eq_true rfl⟩ dL_acts_54 (fun locs hL => ?_)
        refine lv_istore (lv' := [(8, .int (iI (w3))), (7, .int (iI (sv))), (6, .int (iI ((nx σ : Int)))), (5, .int (iI ((mn σ : Int)))), (4, .int (iI ((n : Int)))), (3, .int (iI (w1))), (0, .ref (x)), (1, .int (v1)), (2, .int (v2))]) E.1 E.2.1 dL_acts_57 hl (by decide) rfl (fun ls hl => ?_)
        have J91_3 : ∀ (v91 : Int) (hv91 : (v91 = 1 ∧ ¬ (12 ≤ mn σ ∨ 240 < nx σ + s0 σ + s1 σ)) ∨ (v91 = 0 ∧ (12 ≤ mn σ ∨ 240 < nx σ + s0 σ + s1 σ))) (ls : Array Slot) (locs : List Loc) (hl : lv_has ls 12 [(8, .int (iI (w3))), (7, .int (iI (sv))), (6, .int (iI ((nx σ : Int)))), (5, .int (iI ((mn σ : Int)))), (4, .int (iI ((n : Int)))), (3, .int (iI (w1))), (0, .ref (x)), (1, .int (v1)), (2, .int (v2))]) (hL : Lk G locs), W p l e ({ frames := 8, cells := 80, slots := 240, locals := 189 } : Room) s m args below meth c s.heap locs 0 0 (QQ G below args s ({ frames := 8, cells := 80, slots := 240, locals := 189 } : Room) (WE (iI 1) (fun H H1 => ∃ τ hs1 tx1 len1, VS τ ∧ VH hs1 ∧ TxOk tx1 len1 ∧ (lowI v1 30 ≤ 26 → AC σ hs τ hs1) ∧ XP G x fb fl τ hs1 tx1 len1 H H1))) (F0 m 91 ls [.int (iI (v91))]) := by
          intro v91 hv91 ls locs hl hL
          refine lv_istore (lv' := [(9, .int (iI (v91))), (8, .int (iI (w3))), (7, .int (iI (sv))), (6, .int (iI ((nx σ : Int)))), (5, .int (iI ((mn σ : Int)))), (4, .int (iI ((n : Int)))), (3, .int (iI (w1))), (0, .ref (x)), (1, .int (v1)), (2, .int (v2))]) E.1 E.2.1 dL_acts_91 hl (by decide) rfl (fun ls hl => ?_)
          rcases hvd : validD σ (dm σ) with _ | v9
          · have hs9 : sv = -6 := by rw [← hsv2, hvd]; rfl
            refine lv_iload E.1 E.2.1 dL_acts_93 (lv_at hl 1 rfl) ?_
            refine r_const E dL_acts_95 ?_
            refine r_icmp_ne (tgt := 116) E dL_acts_96 (by decide) (by omega) (by omega) (fun c96 => ?_) (fun c96 => ?_)
            · refine r_const E dL_acts_116 ?_
              refine lv_istore (lv' := [(10, .int (iI (0))), (9, .int (iI (v91))), (8, .int (iI (w3))), (7, .int (iI (sv))), (6, .int (iI ((nx σ : Int)))), (5, .int (iI ((mn σ : Int)))), (4, .int (iI ((n : Int)))), (3, .int (iI (w1))), (0, .ref (x)), (1, .int (v1)), (2, .int (v2))]) E.1 E.2.1 dL_acts_117 hl (by decide) rfl (fun ls hl => ?_)
              rcases (show w3 = 2 ∨ (0 ≤ w3 ∧ w3 ≤ 1) by omega) with hm2 | hm2
              · have hsp : (spBegin σ w3) = (-2, σ) := bg_e1 hm2
                refine lv_aload_n E.1 E.2.1 dL_acts_119 rfl (lv_at hl 8 rfl) ?_
                refine lv_iload E.1 E.2.1 dL_acts_120 (lv_at hl 2 rfl) ?_
                refine kVWE (As := [.int (iI (w3))]) E cw_L_128 (c_X5_begin G l x fb fl σ hs tx len hI hT hfx hgx (w3) (by unfold okI; omega)) hP.1.1 ⟨_, _, rfl⟩ ⟨hP.1, hP.2⟩ hL hl.1 rfl rfl (Nat.le_of_ble_eq_true rfl) ⟨Nat.le_of_ble_eq_true rfl, Nat.le_of_ble_eq_true rfl⟩ ⟨Nat.le_of_ble_eq_true rfl, Nat.le_of_ble_eq_true rfl⟩ dL_acts_122 (fun H5 locs hL hw_ => ?_)
                obtain ⟨⟨fl1, hE1, hX1⟩, hR1⟩ := hw_
                have hV1 : VS (spBegin σ (w3)).2 := hS.begin (w3)
                have hC1 : AC σ hs (spBegin σ (w3)).2 (hsA σ hs (spBegin σ (w3)).1) := ac_of (spBegin_b hI (w3)).2.2
                have hD1 : VH (hsA σ hs (spBegin σ (w3)).1) := VH.hs1 hS hH
                generalize hsA σ hs (spBegin σ (w3)).1 = hs1 at hX1 hC1 hD1
                have hte : (spBegin σ w3).2 = σ := by rw [hsp]
                have hr1 : (spBegin σ (w3)).1 = (-2) := by rw [hsp]
                rw [hr1]
                generalize (spBegin σ (w3)).2 = τ at hX1 hV1 hC1 hte
                have hI1 := hV1.1
                have hz1 := FrR.size hR1 hP.2
                refine lv_istore (lv' := [(11, .int (iI ((-2)))), (10, .int (iI (0))), (9, .int (iI (v91))), (8, .int (iI (w3))), (7, .int (iI (sv))), (6, .int (iI ((nx σ : Int)))), (5, .int (iI ((mn σ : Int)))), (4, .int (iI ((n : Int)))), (3, .int (iI (w1))), (0, .ref (x)), (1, .int (v1)), (2, .int (v2))]) E.1 E.2.1 dL_acts_125 hl (by decide) rfl (fun ls hl => ?_)
                refine lv_iload E.1 E.2.1 dL_acts_127 (lv_at hl 0 rfl) ?_
                refine lv_iload E.1 E.2.1 dL_acts_129 (lv_at hl 3 rfl) ?_
                refine r_const E dL_acts_131 ?_
                refine r_icmp_ne (tgt := 140) E dL_acts_132 (by decide) (by omega) (by omega) (fun c132 => absurd c132 (by omega)) (fun c132 => ?_)
                refine r_bipush E dL_acts_135 (by decide) ?_
                refine lv_goto (tgt := 162) E.1 E.2.1 dL_acts_137 (by decide) ?_
                refine r_icmp_ne (tgt := 273) E dL_acts_162 (by decide) (by omega) (by omega) (fun c162 => absurd c162 (by omega)) (fun c162 => ?_)
                refine lv_iload E.1 E.2.1 dL_acts_165 (lv_at hl 0 rfl) ?_
                refine r_if_lt (tgt := 269) E dL_acts_167 (by decide) (by omega) (fun c167 => ?_) (fun c167 => absurd c167 (by omega))
                refine r_const E dL_acts_269 ?_
                refine lv_goto (tgt := 274) E.1 E.2.1 dL_acts_270 (by decide) ?_
                refine W.widen (k := 80) (n := 240) (Nat.le_of_ble_eq_true rfl) (Nat.le_of_ble_eq_true rfl) ?_
                refine e_zret (rm := ({ frames := 8, cells := 80, slots := 240, locals := 189 } : Room)) (v := iI (1)) E hL rfl dL_acts_274 ?_
                exact ⟨rfl, _, _, _, _, hV1, hD1, hT, fun _ => hC1, ⟨_, hE1, hX1⟩, hR1⟩
              · have hsp : (spBegin σ w3) = (-5, σ) := bg_e2 hm2 hop
                refine lv_aload_n E.1 E.2.1 dL_acts_119 rfl (lv_at hl 8 rfl) ?_
                refine lv_iload E.1 E.2.1 dL_acts_120 (lv_at hl 2 rfl) ?_
                refine kVWE (As := [.int (iI (w3))]) E cw_L_128 (c_X5_begin G l x fb fl σ hs tx len hI hT hfx hgx (w3) (by unfold okI; omega)) hP.1.1 ⟨_, _, rfl⟩ ⟨hP.1, hP.2⟩ hL hl.1 rfl rfl (Nat.le_of_ble_eq_true rfl) ⟨Nat.le_of_ble_eq_true rfl, Nat.le_of_ble_eq_true rfl⟩ ⟨Nat.le_of_ble_eq_true rfl, Nat.le_of_ble_eq_true rfl⟩ dL_acts_122 (fun H5 locs hL hw_ => ?_)
                obtain ⟨⟨fl1, hE1, hX1⟩, hR1⟩ := hw_
                have hV1 : VS (spBegin σ (w3)).2 := hS.begin (w3)
                have hC1 : AC σ hs (spBegin σ (w3)).2 (hsA σ hs (spBegin σ (w3)).1) := ac_of (spBegin_b hI (w3)).2.2
                have hD1 : VH (hsA σ hs (spBegin σ (w3)).1) := VH.hs1 hS hH
                generalize hsA σ hs (spBegin σ (w3)).1 = hs1 at hX1 hC1 hD1
                have hte : (spBegin σ w3).2 = σ := by rw [hsp]
                have hr1 : (spBegin σ (w3)).1 = (-5) := by rw [hsp]
                rw [hr1]
                generalize (spBegin σ (w3)).2 = τ at hX1 hV1 hC1 hte
                have hI1 := hV1.1
                have hz1 := FrR.size hR1 hP.2
                refine lv_istore (lv' := [(11, .int (iI ((-5)))), (10, .int (iI (0))), (9, .int (iI (v91))), (8, .int (iI (w3))), (7, .int (iI (sv))), (6, .int (iI ((nx σ : Int)))), (5, .int (iI ((mn σ : Int)))), (4, .int (iI ((n : Int)))), (3, .int (iI (w1))), (0, .ref (x)), (1, .int (v1)), (2, .int (v2))]) E.1 E.2.1 dL_acts_125 hl (by decide) rfl (fun ls hl => ?_)
                refine lv_iload E.1 E.2.1 dL_acts_127 (lv_at hl 0 rfl) ?_
                refine lv_iload E.1 E.2.1 dL_acts_129 (lv_at hl 3 rfl) ?_
                refine r_const E dL_acts_131 ?_
                refine r_icmp_ne (tgt := 140) E dL_acts_132 (by decide) (by omega) (by omega) (fun c132 => ?_) (fun c132 => absurd c132 (by omega))
                refine lv_iload E.1 E.2.1 dL_acts_140 (lv_at hl 7 rfl) ?_
                refine r_if_lt (tgt := 150) E dL_acts_142 (by decide) (by omega) (fun c142 => absurd c142 (by omega)) (fun c142 => ?_)
                refine r_bipush E dL_acts_145 (by decide) ?_
                refine lv_goto (tgt := 162) E.1 E.2.1 dL_acts_147 (by decide) ?_
                refine r_icmp_ne (tgt := 273) E dL_acts_162 (by decide) (by omega) (by omega) (fun c162 => absurd c162 (by omega)) (fun c162 => ?_)
                refine lv_iload E.1 E.2.1 dL_acts_165 (lv_at hl 0 rfl) ?_
                refine r_if_lt (tgt := 269) E dL_acts_167 (by decide) (by omega) (fun c167 => ?_) (fun c167 => absurd c167 (by omega))
                refine r_const E dL_acts_269 ?_
                refine lv_goto (tgt := 274) E.1 E.2.1 dL_acts_270 (by decide) ?_
                refine W.widen (k := 80) (n := 240) (Nat.le_of_ble_eq_true rfl) (Nat.le_of_ble_eq_true rfl) ?_
                refine e_zret (rm := ({ frames := 8, cells := 80, slots := 240, locals := 189 } : Room)) (v := iI (1)) E hL rfl dL_acts_274 ?_
                exact ⟨rfl, _, _, _, _, hV1, hD1, hT, fun _ => hC1, ⟨_, hE1, hX1⟩, hR1⟩
            · refine lv_iload E.1 E.2.1 dL_acts_99 (lv_at hl 2 rfl) ?_
              refine r_bipush E dL_acts_101 (by decide) ?_
              refine r_icmp_eq (tgt := 116) E dL_acts_103 (by decide) (by omega) (by omega) (fun c103 => ?_) (fun c103 => absurd c103 (by omega))
              refine r_const E dL_acts_116 ?_
              refine lv_istore (lv' := [(10, .int (iI (0))), (9, .int (iI (v91))), (8, .int (iI (w3))), (7, .int (iI (sv))), (6, .int (iI ((nx σ : Int)))), (5, .int (iI ((mn σ : Int)))), (4, .int (iI ((n : Int)))), (3, .int (iI (w1))), (0, .ref (x)), (1, .int (v1)), (2, .int (v2))]) E.1 E.2.1 dL_acts_117 hl (by decide) rfl (fun ls hl => ?_)
              rcases (show w3 = 2 ∨ (0 ≤ w3 ∧ w3 ≤ 1) by omega) with hm2 | hm2
              · have hsp : (spBegin σ w3) = (-2, σ) := bg_e1 hm2
                refine lv_aload_n E.1 E.2.1 dL_acts_119 rfl (lv_at hl 8 rfl) ?_
                refine lv_iload E.1 E.2.1 dL_acts_120 (lv_at hl 2 rfl) ?_
                refine kVWE (As := [.int (iI (w3))]) E cw_L_128 (c_X5_begin G l x fb fl σ hs tx len hI hT hfx hgx (w3) (by unfold okI; omega)) hP.1.1 ⟨_, _, rfl⟩ ⟨hP.1, hP.2⟩ hL hl.1 rfl rfl (Nat.le_of_ble_eq_true rfl) ⟨Nat.le_of_ble_eq_true rfl, Nat.le_of_ble_eq_true rfl⟩ ⟨Nat.le_of_ble_eq_true rfl, Nat.le_of_ble_eq_true rfl⟩ dL_acts_122 (fun H5 locs hL hw_ => ?_)
                obtain ⟨⟨fl1, hE1, hX1⟩, hR1⟩ := hw_
                have hV1 : VS (spBegin σ (w3)).2 := hS.begin (w3)
                have hC1 : AC σ hs (spBegin σ (w3)).2 (hsA σ hs (spBegin σ (w3)).1) := ac_of (spBegin_b hI (w3)).2.2
                have hD1 : VH (hsA σ hs (spBegin σ (w3)).1) := VH.hs1 hS hH
                generalize hsA σ hs (spBegin σ (w3)).1 = hs1 at hX1 hC1 hD1
                have hte : (spBegin σ w3).2 = σ := by rw [hsp]
                have hr1 : (spBegin σ (w3)).1 = (-2) := by rw [hsp]
                rw [hr1]
                generalize (spBegin σ (w3)).2 = τ at hX1 hV1 hC1 hte
                have hI1 := hV1.1
                have hz1 := FrR.size hR1 hP.2
                refine lv_istore (lv' := [(11, .int (iI ((-2)))), (10, .int (iI (0))), (9, .int (iI (v91))), (8, .int (iI (w3))), (7, .int (iI (sv))), (6, .int (iI ((nx σ : Int)))), (5, .int (iI ((mn σ : Int)))), (4, .int (iI ((n : Int)))), (3, .int (iI (w1))), (0, .ref (x)), (1, .int (v1)), (2, .int (v2))]) E.1 E.2.1 dL_acts_125 hl (by decide) rfl (fun ls hl => ?_)
                refine lv_iload E.1 E.2.1 dL_acts_127 (lv_at hl 0 rfl) ?_
                refine lv_iload E.1 E.2.1 dL_acts_129 (lv_at hl 3 rfl) ?_
                refine r_const E dL_acts_131 ?_
                refine r_icmp_ne (tgt := 140) E dL_acts_132 (by decide) (by omega) (by omega) (fun c132 => absurd c132 (by omega)) (fun c132 => ?_)
                refine r_bipush E dL_acts_135 (by decide) ?_
                refine lv_goto (tgt := 162) E.1 E.2.1 dL_acts_137 (by decide) ?_
                refine r_icmp_ne (tgt := 273) E dL_acts_162 (by decide) (by omega) (by omega) (fun c162 => absurd c162 (by omega)) (fun c162 => ?_)
                refine lv_iload E.1 E.2.1 dL_acts_165 (lv_at hl 0 rfl) ?_
                refine r_if_lt (tgt := 269) E dL_acts_167 (by decide) (by omega) (fun c167 => ?_) (fun c167 => absurd c167 (by omega))
                refine r_const E dL_acts_269 ?_
                refine lv_goto (tgt := 274) E.1 E.2.1 dL_acts_270 (by decide) ?_
                refine W.widen (k := 80) (n := 240) (Nat.le_of_ble_eq_true rfl) (Nat.le_of_ble_eq_true rfl) ?_
                refine e_zret (rm := ({ frames := 8, cells := 80, slots := 240, locals := 189 } : Room)) (v := iI (1)) E hL rfl dL_acts_274 ?_
                exact ⟨rfl, _, _, _, _, hV1, hD1, hT, fun _ => hC1, ⟨_, hE1, hX1⟩, hR1⟩
              · have hsp : (spBegin σ w3) = (-5, σ) := bg_e2 hm2 hop
                refine lv_aload_n E.1 E.2.1 dL_acts_119 rfl (lv_at hl 8 rfl) ?_
                refine lv_iload E.1 E.2.1 dL_acts_120 (lv_at hl 2 rfl) ?_
                refine kVWE (As := [.int (iI (w3))]) E cw_L_128 (c_X5_begin G l x fb fl σ hs tx len hI hT hfx hgx (w3) (by unfold okI; omega)) hP.1.1 ⟨_, _, rfl⟩ ⟨hP.1, hP.2⟩ hL hl.1 rfl rfl (Nat.le_of_ble_eq_true rfl) ⟨Nat.le_of_ble_eq_true rfl, Nat.le_of_ble_eq_true rfl⟩ ⟨Nat.le_of_ble_eq_true rfl, Nat.le_of_ble_eq_true rfl⟩ dL_acts_122 (fun H5 locs hL hw_ => ?_)
                obtain ⟨⟨fl1, hE1, hX1⟩, hR1⟩ := hw_
                have hV1 : VS (spBegin σ (w3)).2 := hS.begin (w3)
                have hC1 : AC σ hs (spBegin σ (w3)).2 (hsA σ hs (spBegin σ (w3)).1) := ac_of (spBegin_b hI (w3)).2.2
                have hD1 : VH (hsA σ hs (spBegin σ (w3)).1) := VH.hs1 hS hH
                generalize hsA σ hs (spBegin σ (w3)).1 = hs1 at hX1 hC1 hD1
                have hte : (spBegin σ w3).2 = σ := by rw [hsp]
                have hr1 : (spBegin σ (w3)).1 = (-5) := by rw [hsp]
                rw [hr1]
                generalize (spBegin σ (w3)).2 = τ at hX1 hV1 hC1 hte
                have hI1 := hV1.1
                have hz1 := FrR.size hR1 hP.2
                refine lv_istore (lv' := [(11, .int (iI ((-5)))), (10, .int (iI (0))), (9, .int (iI (v91))), (8, .int (iI (w3))), (7, .int (iI (sv))), (6, .int (iI ((nx σ : Int)))), (5, .int (iI ((mn σ : Int)))), (4, .int (iI ((n : Int)))), (3, .int (iI (w1))), (0, .ref (x)), (1, .int (v1)), (2, .int (v2))]) E.1 E.2.1 dL_acts_125 hl (by decide) rfl (fun ls hl => ?_)
                refine lv_iload E.1 E.2.1 dL_acts_127 (lv_at hl 0 rfl) ?_
                refine lv_iload E.1 E.2.1 dL_acts_129 (lv_at hl 3 rfl) ?_
                refine r_const E dL_acts_131 ?_
                refine r_icmp_ne (tgt := 140) E dL_acts_132 (by decide) (by omega) (by omega) (fun c132 => ?_) (fun c132 => absurd c132 (by omega))
                refine lv_iload E.1 E.2.1 dL_acts_140 (lv_at hl 7 rfl) ?_
                refine r_if_lt (tgt := 150) E dL_acts_142 (by decide) (by omega) (fun c142 => absurd c142 (by omega)) (fun c142 => ?_)
                refine r_bipush E dL_acts_145 (by decide) ?_
                refine lv_goto (tgt := 162) E.1 E.2.1 dL_acts_147 (by decide) ?_
                refine r_icmp_ne (tgt := 273) E dL_acts_162 (by decide) (by omega) (by omega) (fun c162 => absurd c162 (by omega)) (fun c162 => ?_)
                refine lv_iload E.1 E.2.1 dL_acts_165 (lv_at hl 0 rfl) ?_
                refine r_if_lt (tgt := 269) E dL_acts_167 (by decide) (by omega) (fun c167 => ?_) (fun c167 => absurd c167 (by omega))
                refine r_const E dL_acts_269 ?_
                refine lv_goto (tgt := 274) E.1 E.2.1 dL_acts_270 (by decide) ?_
                refine W.widen (k := 80) (n := 240) (Nat.le_of_ble_eq_true rfl) (Nat.le_of_ble_eq_true rfl) ?_
                refine e_zret (rm := ({ frames := 8, cells := 80, slots := 240, locals := 189 } : Room)) (v := iI (1)) E hL rfl dL_acts_274 ?_
                exact ⟨rfl, _, _, _, _, hV1, hD1, hT, fun _ => hC1, ⟨_, hE1, hX1⟩, hR1⟩
          · have hs9 : sv = (v9 : Int) := by rw [← hsv2, hvd]; rfl
            have hvm := validD_lt hvd
            have hel := entN_le σ v9
            refine lv_iload E.1 E.2.1 dL_acts_93 (lv_at hl 1 rfl) ?_
            refine r_const E dL_acts_95 ?_
            refine r_icmp_ne (tgt := 116) E dL_acts_96 (by decide) (by omega) (by omega) (fun c96 => ?_) (fun c96 => ?_)
            · refine r_const E dL_acts_116 ?_
              refine lv_istore (lv' := [(10, .int (iI (0))), (9, .int (iI (v91))), (8, .int (iI (w3))), (7, .int (iI (sv))), (6, .int (iI ((nx σ : Int)))), (5, .int (iI ((mn σ : Int)))), (4, .int (iI ((n : Int)))), (3, .int (iI (w1))), (0, .ref (x)), (1, .int (v1)), (2, .int (v2))]) E.1 E.2.1 dL_acts_117 hl (by decide) rfl (fun ls hl => ?_)
              rcases (show w3 = 2 ∨ (0 ≤ w3 ∧ w3 ≤ 1) by omega) with hm2 | hm2
              · have hsp : (spBegin σ w3) = (-2, σ) := bg_e1 hm2
                refine lv_aload_n E.1 E.2.1 dL_acts_119 rfl (lv_at hl 8 rfl) ?_
                refine lv_iload E.1 E.2.1 dL_acts_120 (lv_at hl 2 rfl) ?_
                refine kVWE (As := [.int (iI (w3))]) E cw_L_128 (c_X5_begin G l x fb fl σ hs tx len hI hT hfx hgx (w3) (by unfold okI; omega)) hP.1.1 ⟨_, _, rfl⟩ ⟨hP.1, hP.2⟩ hL hl.1 rfl rfl (Nat.le_of_ble_eq_true rfl) ⟨Nat.le_of_ble_eq_true rfl, Nat.le_of_ble_eq_true rfl⟩ ⟨Nat.le_of_ble_eq_true rfl, Nat.le_of_ble_eq_true rfl⟩ dL_acts_122 (fun H5 locs hL hw_ => ?_)
                obtain ⟨⟨fl1, hE1, hX1⟩, hR1⟩ := hw_
                have hV1 : VS (spBegin σ (w3)).2 := hS.begin (w3)
                have hC1 : AC σ hs (spBegin σ (w3)).2 (hsA σ hs (spBegin σ (w3)).1) := ac_of (spBegin_b hI (w3)).2.2
                have hD1 : VH (hsA σ hs (spBegin σ (w3)).1) := VH.hs1 hS hH
                generalize hsA σ hs (spBegin σ (w3)).1 = hs1 at hX1 hC1 hD1
                have hte : (spBegin σ w3).2 = σ := by rw [hsp]
                have hr1 : (spBegin σ (w3)).1 = (-2) := by rw [hsp]
                rw [hr1]
                generalize (spBegin σ (w3)).2 = τ at hX1 hV1 hC1 hte
                have hI1 := hV1.1
                have hz1 := FrR.size hR1 hP.2
                refine lv_istore (lv' := [(11, .int (iI ((-2)))), (10, .int (iI (0))), (9, .int (iI (v91))), (8, .int (iI (w3))), (7, .int (iI (sv))), (6, .int (iI ((nx σ : Int)))), (5, .int (iI ((mn σ : Int)))), (4, .int (iI ((n : Int)))), (3, .int (iI (w1))), (0, .ref (x)), (1, .int (v1)), (2, .int (v2))]) E.1 E.2.1 dL_acts_125 hl (by decide) rfl (fun ls hl => ?_)
                refine lv_iload E.1 E.2.1 dL_acts_127 (lv_at hl 0 rfl) ?_
                refine lv_iload E.1 E.2.1 dL_acts_129 (lv_at hl 3 rfl) ?_
                refine r_const E dL_acts_131 ?_
                refine r_icmp_ne (tgt := 140) E dL_acts_132 (by decide) (by omega) (by omega) (fun c132 => absurd c132 (by omega)) (fun c132 => ?_)
                refine r_bipush E dL_acts_135 (by decide) ?_
                refine lv_goto (tgt := 162) E.1 E.2.1 dL_acts_137 (by decide) ?_
                refine r_icmp_ne (tgt := 273) E dL_acts_162 (by decide) (by omega) (by omega) (fun c162 => absurd c162 (by omega)) (fun c162 => ?_)
                refine lv_iload E.1 E.2.1 dL_acts_165 (lv_at hl 0 rfl) ?_
                refine r_if_lt (tgt := 269) E dL_acts_167 (by decide) (by omega) (fun c167 => ?_) (fun c167 => absurd c167 (by omega))
                refine r_const E dL_acts_269 ?_
                refine lv_goto (tgt := 274) E.1 E.2.1 dL_acts_270 (by decide) ?_
                refine W.widen (k := 80) (n := 240) (Nat.le_of_ble_eq_true rfl) (Nat.le_of_ble_eq_true rfl) ?_
                refine e_zret (rm := ({ frames := 8, cells := 80, slots := 240, locals := 189 } : Room)) (v := iI (1)) E hL rfl dL_acts_274 ?_
                exact ⟨rfl, _, _, _, _, hV1, hD1, hT, fun _ => hC1, ⟨_, hE1, hX1⟩, hR1⟩
              · have hsp : (spBegin σ w3) = (-5, σ) := bg_e2 hm2 hop
                refine lv_aload_n E.1 E.2.1 dL_acts_119 rfl (lv_at hl 8 rfl) ?_
                refine lv_iload E.1 E.2.1 dL_acts_120 (lv_at hl 2 rfl) ?_
                refine kVWE (As := [.int (iI (w3))]) E cw_L_128 (c_X5_begin G l x fb fl σ hs tx len hI hT hfx hgx (w3) (by unfold okI; omega)) hP.1.1 ⟨_, _, rfl⟩ ⟨hP.1, hP.2⟩ hL hl.1 rfl rfl (Nat.le_of_ble_eq_true rfl) ⟨Nat.le_of_ble_eq_true rfl, Nat.le_of_ble_eq_true rfl⟩ ⟨Nat.le_of_ble_eq_true rfl, Nat.le_of_ble_eq_true rfl⟩ dL_acts_122 (fun H5 locs hL hw_ => ?_)
                obtain ⟨⟨fl1, hE1, hX1⟩, hR1⟩ := hw_
                have hV1 : VS (spBegin σ (w3)).2 := hS.begin (w3)
                have hC1 : AC σ hs (spBegin σ (w3)).2 (hsA σ hs (spBegin σ (w3)).1) := ac_of (spBegin_b hI (w3)).2.2
                have hD1 : VH (hsA σ hs (spBegin σ (w3)).1) := VH.hs1 hS hH
                generalize hsA σ hs (spBegin σ (w3)).1 = hs1 at hX1 hC1 hD1
                have hte : (spBegin σ w3).2 = σ := by rw [hsp]
                have hr1 : (spBegin σ (w3)).1 = (-5) := by rw [hsp]
                rw [hr1]
                generalize (spBegin σ (w3)).2 = τ at hX1 hV1 hC1 hte
                have hI1 := hV1.1
                have hz1 := FrR.size hR1 hP.2
                refine lv_istore (lv' := [(11, .int (iI ((-5)))), (10, .int (iI (0))), (9, .int (iI (v91))), (8, .int (iI (w3))), (7, .int (iI (sv))), (6, .int (iI ((nx σ : Int)))), (5, .int (iI ((mn σ : Int)))), (4, .int (iI ((n : Int)))), (3, .int (iI (w1))), (0, .ref (x)), (1, .int (v1)), (2, .int (v2))]) E.1 E.2.1 dL_acts_125 hl (by decide) rfl (fun ls hl => ?_)
                refine lv_iload E.1 E.2.1 dL_acts_127 (lv_at hl 0 rfl) ?_
                refine lv_iload E.1 E.2.1 dL_acts_129 (lv_at hl 3 rfl) ?_
                refine r_const E dL_acts_131 ?_
                refine r_icmp_ne (tgt := 140) E dL_acts_132 (by decide) (by omega) (by omega) (fun c132 => ?_) (fun c132 => absurd c132 (by omega))
                refine lv_iload E.1 E.2.1 dL_acts_140 (lv_at hl 7 rfl) ?_
                refine r_if_lt (tgt := 150) E dL_acts_142 (by decide) (by omega) (fun c142 => absurd c142 (by omega)) (fun c142 => ?_)
                refine r_bipush E dL_acts_145 (by decide) ?_
                refine lv_goto (tgt := 162) E.1 E.2.1 dL_acts_147 (by decide) ?_
                refine r_icmp_ne (tgt := 273) E dL_acts_162 (by decide) (by omega) (by omega) (fun c162 => absurd c162 (by omega)) (fun c162 => ?_)
                refine lv_iload E.1 E.2.1 dL_acts_165 (lv_at hl 0 rfl) ?_
                refine r_if_lt (tgt := 269) E dL_acts_167 (by decide) (by omega) (fun c167 => ?_) (fun c167 => absurd c167 (by omega))
                refine r_const E dL_acts_269 ?_
                refine lv_goto (tgt := 274) E.1 E.2.1 dL_acts_270 (by decide) ?_
                refine W.widen (k := 80) (n := 240) (Nat.le_of_ble_eq_true rfl) (Nat.le_of_ble_eq_true rfl) ?_
                refine e_zret (rm := ({ frames := 8, cells := 80, slots := 240, locals := 189 } : Room)) (v := iI (1)) E hL rfl dL_acts_274 ?_
                exact ⟨rfl, _, _, _, _, hV1, hD1, hT, fun _ => hC1, ⟨_, hE1, hX1⟩, hR1⟩
            · refine lv_iload E.1 E.2.1 dL_acts_99 (lv_at hl 2 rfl) ?_
              refine r_bipush E dL_acts_101 (by decide) ?_
              refine r_icmp_eq (tgt := 116) E dL_acts_103 (by decide) (by omega) (by omega) (fun c103 => absurd c103 (by omega)) (fun c103 => ?_)
              refine lv_aload_n E.1 E.2.1 dL_acts_106 rfl (lv_at hl 7 rfl) ?_
              refine lv_iload E.1 E.2.1 dL_acts_107 (lv_at hl 2 rfl) ?_
              rw [show ((sv : Int)) = (v9 : Int) by omega]
              refine r_const E dL_acts_109 ?_
              refine kVRE (As := [.int (iI ((v9 : Int))), .int (iI (5))]) E cw_L_29 (c_X5_session G l x fb fl σ hs tx len hI hT hfx hgx ((v9 : Int)) (5) (by unfold okI; omega) (by unfold okI; omega)) hP.1.1 ⟨_, _, rfl⟩ hP.1 hL hl.1 rfl rfl (Nat.le_of_ble_eq_true rfl) ⟨Nat.le_of_ble_eq_true rfl, Nat.le_of_ble_eq_true rfl⟩ ⟨rfl, rfl⟩ ⟨Nat.le_of_ble_eq_true rfl, Nat.le_of_ble_eq_true rfl⟩ dL_acts_110 (fun locs hL => ?_)
              rw [spSes5 hvm]
              refine lv_goto (tgt := 117) E.1 E.2.1 dL_acts_113 (by decide) ?_
              refine lv_istore (lv' := [(10, .int (iI ((entriesN σ v9 : Int)))), (9, .int (iI (v91))), (8, .int (iI (w3))), (7, .int (iI (sv))), (6, .int (iI ((nx σ : Int)))), (5, .int (iI ((mn σ : Int)))), (4, .int (iI ((n : Int)))), (3, .int (iI (w1))), (0, .ref (x)), (1, .int (v1)), (2, .int (v2))]) E.1 E.2.1 dL_acts_117 hl (by decide) rfl (fun ls hl => ?_)
              rcases (show w3 = 2 ∨ (0 ≤ w3 ∧ w3 ≤ 1) by omega) with hm2 | hm2
              · have hsp : (spBegin σ w3) = (-2, σ) := bg_e1 hm2
                refine lv_aload_n E.1 E.2.1 dL_acts_119 rfl (lv_at hl 8 rfl) ?_
                refine lv_iload E.1 E.2.1 dL_acts_120 (lv_at hl 2 rfl) ?_
                refine kVWE (As := [.int (iI (w3))]) E cw_L_128 (c_X5_begin G l x fb fl σ hs tx len hI hT hfx hgx (w3) (by unfold okI; omega)) hP.1.1 ⟨_, _, rfl⟩ ⟨hP.1, hP.2⟩ hL hl.1 rfl rfl (Nat.le_of_ble_eq_true rfl) ⟨Nat.le_of_ble_eq_true rfl, Nat.le_of_ble_eq_true rfl⟩ ⟨Nat.le_of_ble_eq_true rfl, Nat.le_of_ble_eq_true rfl⟩ dL_acts_122 (fun H5 locs hL hw_ => ?_)
                obtain ⟨⟨fl1, hE1, hX1⟩, hR1⟩ := hw_
                have hV1 : VS (spBegin σ (w3)).2 := hS.begin (w3)
                have hC1 : AC σ hs (spBegin σ (w3)).2 (hsA σ hs (spBegin σ (w3)).1) := ac_of (spBegin_b hI (w3)).2.2
                have hD1 : VH (hsA σ hs (spBegin σ (w3)).1) := VH.hs1 hS hH
                generalize hsA σ hs (spBegin σ (w3)).1 = hs1 at hX1 hC1 hD1
                have hte : (spBegin σ w3).2 = σ := by rw [hsp]
                have hr1 : (spBegin σ (w3)).1 = (-2) := by rw [hsp]
                rw [hr1]
                generalize (spBegin σ (w3)).2 = τ at hX1 hV1 hC1 hte
                have hI1 := hV1.1
                have hz1 := FrR.size hR1 hP.2
                refine lv_istore (lv' := [(11, .int (iI ((-2)))), (10, .int (iI ((entriesN σ v9 : Int)))), (9, .int (iI (v91))), (8, .int (iI (w3))), (7, .int (iI (sv))), (6, .int (iI ((nx σ : Int)))), (5, .int (iI ((mn σ : Int)))), (4, .int (iI ((n : Int)))), (3, .int (iI (w1))), (0, .ref (x)), (1, .int (v1)), (2, .int (v2))]) E.1 E.2.1 dL_acts_125 hl (by decide) rfl (fun ls hl => ?_)
                refine lv_iload E.1 E.2.1 dL_acts_127 (lv_at hl 0 rfl) ?_
                refine lv_iload E.1 E.2.1 dL_acts_129 (lv_at hl 3 rfl) ?_
                refine r_const E dL_acts_131 ?_
                refine r_icmp_ne (tgt := 140) E dL_acts_132 (by decide) (by omega) (by omega) (fun c132 => absurd c132 (by omega)) (fun c132 => ?_)
                refine r_bipush E dL_acts_135 (by decide) ?_
                refine lv_goto (tgt := 162) E.1 E.2.1 dL_acts_137 (by decide) ?_
                refine r_icmp_ne (tgt := 273) E dL_acts_162 (by decide) (by omega) (by omega) (fun c162 => absurd c162 (by omega)) (fun c162 => ?_)
                refine lv_iload E.1 E.2.1 dL_acts_165 (lv_at hl 0 rfl) ?_
                refine r_if_lt (tgt := 269) E dL_acts_167 (by decide) (by omega) (fun c167 => ?_) (fun c167 => absurd c167 (by omega))
                refine r_const E dL_acts_269 ?_
                refine lv_goto (tgt := 274) E.1 E.2.1 dL_acts_270 (by decide) ?_
                refine W.widen (k := 80) (n := 240) (Nat.le_of_ble_eq_true rfl) (Nat.le_of_ble_eq_true rfl) ?_
                refine e_zret (rm := ({ frames := 8, cells := 80, slots := 240, locals := 189 } : Room)) (v := iI (1)) E hL rfl dL_acts_274 ?_
                exact ⟨rfl, _, _, _, _, hV1, hD1, hT, fun _ => hC1, ⟨_, hE1, hX1⟩, hR1⟩
              · have hsp : (spBegin σ w3) = (-5, σ) := bg_e2 hm2 hop
                refine lv_aload_n E.1 E.2.1 dL_acts_119 rfl (lv_at hl 8 rfl) ?_
                refine lv_iload E.1 E.2.1 dL_acts_120 (lv_at hl 2 rfl) ?_
                refine kVWE (As := [.int (iI (w3))]) E cw_L_128 (c_X5_begin G l x fb fl σ hs tx len hI hT hfx hgx (w3) (by unfold okI; omega)) hP.1.1 ⟨_, _, rfl⟩ ⟨hP.1, hP.2⟩ hL hl.1 rfl rfl (Nat.le_of_ble_eq_true rfl) ⟨Nat.le_of_ble_eq_true rfl, Nat.le_of_ble_eq_true rfl⟩ ⟨Nat.le_of_ble_eq_true rfl, Nat.le_of_ble_eq_true rfl⟩ dL_acts_122 (fun H5 locs hL hw_ => ?_)
                obtain ⟨⟨fl1, hE1, hX1⟩, hR1⟩ := hw_
                have hV1 : VS (spBegin σ (w3)).2 := hS.begin (w3)
                have hC1 : AC σ hs (spBegin σ (w3)).2 (hsA σ hs (spBegin σ (w3)).1) := ac_of (spBegin_b hI (w3)).2.2
                have hD1 : VH (hsA σ hs (spBegin σ (w3)).1) := VH.hs1 hS hH
                generalize hsA σ hs (spBegin σ (w3)).1 = hs1 at hX1 hC1 hD1
                have hte : (spBegin σ w3).2 = σ := by rw [hsp]
                have hr1 : (spBegin σ (w3)).1 = (-5) := by rw [hsp]
                rw [hr1]
                generalize (spBegin σ (w3)).2 = τ at hX1 hV1 hC1 hte
                have hI1 := hV1.1
                have hz1 := FrR.size hR1 hP.2
                refine lv_istore (lv' := [(11, .int (iI ((-5)))), (10, .int (iI ((entriesN σ v9 : Int)))), (9, .int (iI (v91))), (8, .int (iI (w3))), (7, .int (iI (sv))), (6, .int (iI ((nx σ : Int)))), (5, .int (iI ((mn σ : Int)))), (4, .int (iI ((n : Int)))), (3, .int (iI (w1))), (0, .ref (x)), (1, .int (v1)), (2, .int (v2))]) E.1 E.2.1 dL_acts_125 hl (by decide) rfl (fun ls hl => ?_)
                refine lv_iload E.1 E.2.1 dL_acts_127 (lv_at hl 0 rfl) ?_
                refine lv_iload E.1 E.2.1 dL_acts_129 (lv_at hl 3 rfl) ?_
                refine r_const E dL_acts_131 ?_
                refine r_icmp_ne (tgt := 140) E dL_acts_132 (by decide) (by omega) (by omega) (fun c132 => ?_) (fun c132 => absurd c132 (by omega))
                refine lv_iload E.1 E.2.1 dL_acts_140 (lv_at hl 7 rfl) ?_
                refine r_if_lt (tgt := 150) E dL_acts_142 (by decide) (by omega) (fun c142 => absurd c142 (by omega)) (fun c142 => ?_)
                refine r_bipush E dL_acts_145 (by decide) ?_
                refine lv_goto (tgt := 162) E.1 E.2.1 dL_acts_147 (by decide) ?_
                refine r_icmp_ne (tgt := 273) E dL_acts_162 (by decide) (by omega) (by omega) (fun c162 => absurd c162 (by omega)) (fun c162 => ?_)
                refine lv_iload E.1 E.2.1 dL_acts_165 (lv_at hl 0 rfl) ?_
                refine r_if_lt (tgt := 269) E dL_acts_167 (by decide) (by omega) (fun c167 => ?_) (fun c167 => absurd c167 (by omega))
                refine r_const E dL_acts_269 ?_
                refine lv_goto (tgt := 274) E.1 E.2.1 dL_acts_270 (by decide) ?_
                refine W.widen (k := 80) (n := 240) (Nat.le_of_ble_eq_true rfl) (Nat.le_of_ble_eq_true rfl) ?_
                refine e_zret (rm := ({ frames := 8, cells := 80, slots := 240, locals := 189 } : Room)) (v := iI (1)) E hL rfl dL_acts_274 ?_
                exact ⟨rfl, _, _, _, _, hV1, hD1, hT, fun _ => hC1, ⟨_, hE1, hX1⟩, hR1⟩
        refine lv_iload E.1 E.2.1 dL_acts_59 (lv_at hl 3 rfl) ?_
        refine r_bipush E dL_acts_61 (by decide) ?_
        refine r_icmp_ge (tgt := 90) E dL_acts_63 (by decide) (by omega) (by omega) (fun c63 => ?_) (fun c63 => ?_)
        · refine r_const E dL_acts_90 ?_
          exact J91_3 _ (by omega) ls locs (lv_sub hl [0, 1, 2, 3, 4, 5, 6, 7, 8] rfl) hL
        · refine lv_iload E.1 E.2.1 dL_acts_66 (lv_at hl 2 rfl) ?_
          refine lv_aload_n E.1 E.2.1 dL_acts_68 rfl (lv_at hl 6 rfl) ?_
          refine r_const E dL_acts_69 ?_
          refine kVRE (As := [.int (iI (0))]) E cw_L_19 (c_X5_setting G l x fb fl σ hs tx len hI hT hfx hgx (0) (by unfold okI; omega)) hP.1.1 ⟨_, _, rfl⟩ hP.1 hL hl.1 rfl rfl (Nat.le_of_ble_eq_true rfl) ⟨Nat.le_of_ble_eq_true rfl, Nat.le_of_ble_eq_true rfl⟩ ⟨rfl, rfl⟩ ⟨Nat.le_of_ble_eq_true rfl, Nat.le_of_ble_eq_true rfl⟩ dL_acts_70 (fun locs hL => ?_)
          rw [spSet_0 σ]
          refine r_add E dL_acts_73 ?_
          refine lv_aload_n E.1 E.2.1 dL_acts_74 rfl (lv_at hl 6 rfl) ?_
          refine r_const E dL_acts_75 ?_
          refine kVRE (As := [.int (iI (1))]) E cw_L_19 (c_X5_setting G l x fb fl σ hs tx len hI hT hfx hgx (1) (by unfold okI; omega)) hP.1.1 ⟨_, _, rfl⟩ hP.1 hL hl.1 rfl rfl (Nat.le_of_ble_eq_true rfl) ⟨Nat.le_of_ble_eq_true rfl, Nat.le_of_ble_eq_true rfl⟩ ⟨rfl, rfl⟩ ⟨Nat.le_of_ble_eq_true rfl, Nat.le_of_ble_eq_true rfl⟩ dL_acts_76 (fun locs hL => ?_)
          rw [spSet_1 σ]
          refine r_add E dL_acts_79 ?_
          refine r_sipush E dL_acts_80 (by decide) ?_
          refine r_icmp_gt (tgt := 90) E dL_acts_83 (by decide) (by omega) (by omega) (fun c83 => ?_) (fun c83 => ?_)
          · refine r_const E dL_acts_90 ?_
            exact J91_3 _ (by omega) ls locs (lv_sub hl [0, 1, 2, 3, 4, 5, 6, 7, 8] rfl) hL
          · refine r_const E dL_acts_86 ?_
            refine lv_goto (tgt := 91) E.1 E.2.1 dL_acts_87 (by decide) ?_
            exact J91_3 _ (by omega) ls locs (lv_sub hl [0, 1, 2, 3, 4, 5, 6, 7, 8] rfl) hL
      refine lv_iload_n E.1 E.2.1 dL_acts_37 rfl (lv_at hl 7 rfl) ?_
      refine r_bipush E dL_acts_38 (by decide) ?_
      refine lv_ishr E.1 E.2.1 dL_acts_40 ?_
      refine r_bipush E dL_acts_41 (by decide) ?_
      obtain ⟨w3, hw3⟩ : ∃ z : Int, lowI (((v2) >>> ((iI (9)) &&& 31))) (7) = z := ⟨_, rfl⟩
      have hw3b : 0 ≤ w3 ∧ w3 < (7) := by rw [← hw3]; exact low_b _ (by omega)
      have hw3c := c_L_low G l (((v2) >>> ((iI (9)) &&& 31))) (7) (by omega)
      rw [hw3] at hw3c
      refine kSRE (As := [.int (((v2) >>> ((iI (9)) &&& 31))), .int (iI (7))]) E cw_L_72 hw3c trivial hL hl.1 rfl rfl (Nat.le_of_ble_eq_true rfl) ⟨Nat.le_of_ble_eq_true rfl, Nat.le_of_ble_eq_true rfl⟩ ⟨rfl, rfl⟩ ⟨Nat.le_of_ble_eq_true rfl, Nat.le_of_ble_eq_true rfl⟩ dL_acts_43 (fun locs hL => ?_)
      refine r_if_ne (tgt := 53) E dL_acts_46 (by decide) (by omega) (fun c46 => ?_) (fun c46 => ?_)
      · refine r_const E dL_acts_53 ?_
        exact J54_1 _ (by omega) ls locs (lv_sub hl [0, 1, 2, 3, 4, 5, 6, 7] rfl) hL
      · refine r_const E dL_acts_49 ?_
        refine lv_goto (tgt := 54) E.1 E.2.1 dL_acts_50 (by decide) ?_
        exact J54_1 _ (by omega) ls locs (lv_sub hl [0, 1, 2, 3, 4, 5, 6, 7] rfl) hL
