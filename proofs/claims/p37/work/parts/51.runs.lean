set_option maxHeartbeats 4000000 in
set_option maxRecDepth 100000 in
theorem c_L_runs (G : GG) (l : Launch) (x fb : Nat) (fl : Nat → Option Fil) (σ : St) (hs : List St) (tx : Nat → Int) (len : Nat) (hS : VS σ) (hH : VH hs) (hT : TxOk tx len) (hfx : x + 179 ≤ fb) (hgx : G.2.2 ≤ x) (v : Int32) : Ct G l yL_runs cL_runs 10 (some .boolean) ({ frames := 7, cells := 80, slots := 240, locals := 160 } : Room) [.ref (x), .int (v)] (fun H => XAt G x fb fl σ hs tx len H ∧ fb ≤ H.size) (WE (iI 1) (fun H H1 => ∃ τ hs1 tx1 len1, VS τ ∧ VH hs1 ∧ TxOk tx1 len1 ∧ True ∧ XP G x fb fl τ hs1 tx1 len1 H H1)) := by
  refine Ct.of (by decide +kernel) (Nat.le_of_ble_eq_true rfl) ?_
  intro p e s m args below meth c ls E hnm hP hl
  have hI := hS.1
  have hl : lv_has ls 10 [(0, .ref (x)), (1, .int (v))] := hl
  have hL : Lk G [] := Lk.nil
  generalize ([] : List Loc) = locs at hL ⊢
  refine lv_iload_n E.1 E.2.1 dL_runs_0 rfl (lv_at hl 1 rfl) ?_
  refine r_bipush E dL_runs_1 (by decide) ?_
  obtain ⟨w1, hw1⟩ : ∃ z : Int, lowI (v) (11) = z := ⟨_, rfl⟩
  have hw1b : 0 ≤ w1 ∧ w1 < (11) := by rw [← hw1]; exact low_b _ (by omega)
  have hw1c := c_L_low G l (v) (11) (by omega)
  rw [hw1] at hw1c
  refine kSRE (As := [.int (v), .int (iI (11))]) E cw_L_72 hw1c trivial hL hl.1 rfl rfl (Nat.le_of_ble_eq_true rfl) ⟨Nat.le_of_ble_eq_true rfl, Nat.le_of_ble_eq_true rfl⟩ ⟨rfl, rfl⟩ ⟨Nat.le_of_ble_eq_true rfl, Nat.le_of_ble_eq_true rfl⟩ dL_runs_3 (fun locs hL => ?_)
  refine lv_istore_n (lv' := [(2, .int (iI (w1))), (0, .ref (x)), (1, .int (v))]) E.1 E.2.1 dL_runs_6 rfl hl (by decide) rfl (fun ls hl => ?_)
  refine lv_aload_n E.1 E.2.1 dL_runs_7 rfl (lv_at hl 1 rfl) ?_
  refine kSRJ (As := [.ref (x)]) E cw_L_103 (c_L_look G l x fb fl σ hs tx len hI hT hfx hgx) hP.1 hL hl.1 rfl rfl (Nat.le_of_ble_eq_true rfl) ⟨Nat.le_of_ble_eq_true rfl, Nat.le_of_ble_eq_true rfl⟩ ⟨rfl, rfl⟩ ⟨Nat.le_of_ble_eq_true rfl, Nat.le_of_ble_eq_true rfl⟩ dL_runs_8 (fun locs hL => ?_)
  refine lv_lstore_n (lv' := [(3, .long (lookV σ)), (2, .int (iI (w1))), (0, .ref (x)), (1, .int (v))]) E.1 E.2.1 dL_runs_11 rfl hl (by decide) rfl (fun ls hl => ?_)
  refine lv_aload_n E.1 E.2.1 dL_runs_12 rfl (lv_at hl 2 rfl) ?_
  refine lv_iload_n E.1 E.2.1 dL_runs_13 rfl (lv_at hl 3 rfl) ?_
  refine kSWE (As := [.ref (x), .int (v)]) E cw_L_107 (c_L_types G l x fb fl σ hs tx len hI hT hfx hgx v) ⟨hP.1, hP.2⟩ hL hl.1 rfl rfl (Nat.le_of_ble_eq_true rfl) ⟨Nat.le_of_ble_eq_true rfl, Nat.le_of_ble_eq_true rfl⟩ ⟨Nat.le_of_ble_eq_true rfl, Nat.le_of_ble_eq_true rfl⟩ dL_runs_14 (fun H3 locs hL hw_ => ?_)
  obtain ⟨t1, l1, hT1, hTQ, ⟨fl1, hE1, hX1⟩, hR1⟩ := hw_
  have hz1 := FrR.size hR1 hP.2
  refine lv_istore (lv' := [(5, .int (iI (1))), (3, .long (lookV σ)), (2, .int (iI (w1))), (0, .ref (x)), (1, .int (v))]) E.1 E.2.1 dL_runs_17 hl (by decide) rfl (fun ls hl => ?_)
  refine lv_aload_n E.1 E.2.1 dL_runs_19 rfl (lv_at hl 3 rfl) ?_
  refine kVWE (As := []) E cw_L_110 (c_X5_fault G l x fb fl1 σ hs t1 l1 hI hT1 hfx hgx) hX1.1 ⟨_, _, rfl⟩ ⟨hX1, hz1⟩ hL hl.1 rfl rfl (Nat.le_of_ble_eq_true rfl) ⟨Nat.le_of_ble_eq_true rfl, Nat.le_of_ble_eq_true rfl⟩ ⟨Nat.le_of_ble_eq_true rfl, Nat.le_of_ble_eq_true rfl⟩ dL_runs_20 (fun H5 locs hL hw_ => ?_)
  obtain ⟨⟨fl3, hE3, hX3⟩, hR3⟩ := hw_
  have hfb := flt_b hT1 _ 0 rfl (Nat.zero_le _)
  obtain ⟨fa, hfa⟩ : ∃ z, pFlt t1 l1 0 = z := ⟨_, rfl⟩
  rw [hfa]
  rw [hfa] at hfb
  have htl := hT1.1
  have hz3 := FrR.size hR3 hz1
  have hR3 := hR1.trans hR3
  have hE3 := hE1.trans hE3
  refine lv_istore (lv' := [(6, .int (iI (fa))), (5, .int (iI (1))), (3, .long (lookV σ)), (2, .int (iI (w1))), (0, .ref (x)), (1, .int (v))]) E.1 E.2.1 dL_runs_23 hl (by decide) rfl (fun ls hl => ?_)
  refine lv_aload_n E.1 E.2.1 dL_runs_25 rfl (lv_at hl 4 rfl) ?_
  by_cases hff : fa = -6
  · have hsp : spRun σ hs t1 l1 = (((pRun t1 l1 σ 0 0).1 : Int), (pRun t1 l1 σ 0 0).2, recd hs σ) := by unfold spRun; rw [if_pos (hfa.trans hff)]
    have hvs := run_vs (tx := t1) (len := l1) hS hH
    refine kVWE (As := []) E cw_L_113 (c_X5_run G l x fb fl3 σ hs t1 l1 hI hT1 hfx hgx) hX3.1 ⟨_, _, rfl⟩ ⟨hX3, hz3⟩ hL hl.1 rfl rfl (Nat.le_of_ble_eq_true rfl) ⟨Nat.le_of_ble_eq_true rfl, Nat.le_of_ble_eq_true rfl⟩ ⟨Nat.le_of_ble_eq_true rfl, Nat.le_of_ble_eq_true rfl⟩ dL_runs_26 (fun H7 locs hL hw_ => ?_)
    rw [hsp] at hw_ hvs ⊢
    obtain ⟨⟨fl5, hE5, hX5⟩, hR5⟩ := hw_
    have htol := told_le hT1 hTQ (hfa.trans hff) σ
    have hX5 : XAt G x fb fl5 (pRun t1 l1 σ 0 0).2 (recd hs σ) t1 l1 H7 := hX5
    have hVt : VS (pRun t1 l1 σ 0 0).2 := hvs.1
    have hIt := hVt.1
    obtain ⟨τ, hτ⟩ : ∃ τ, (pRun t1 l1 σ 0 0).2 = τ := ⟨_, rfl⟩
    rw [hτ] at hX5 hVt hIt
    have hz5 := FrR.size hR5 hz3
    have hR5 := hR3.trans hR5
    have hE5 := hE3.trans hE5
    refine lv_istore (lv' := [(7, .int (iI (((pRun t1 l1 σ 0 0).1 : Int)))), (6, .int (iI (fa))), (5, .int (iI (1))), (3, .long (lookV σ)), (2, .int (iI (w1))), (0, .ref (x)), (1, .int (v))]) E.1 E.2.1 dL_runs_29 hl (by decide) rfl (fun ls hl => ?_)
    refine lv_aload_n E.1 E.2.1 dL_runs_31 rfl (lv_at hl 5 rfl) ?_
    refine kVWE (As := []) E cw_L_96 (c_X5_clearText G l x fb fl5 τ (recd hs σ) t1 l1 hIt hT1 hfx hgx) hX5.1 ⟨_, _, rfl⟩ ⟨hX5, hz5⟩ hL hl.1 rfl rfl (Nat.le_of_ble_eq_true rfl) ⟨Nat.le_of_ble_eq_true rfl, Nat.le_of_ble_eq_true rfl⟩ ⟨Nat.le_of_ble_eq_true rfl, Nat.le_of_ble_eq_true rfl⟩ dL_runs_32 (fun H9 locs hL hw_ => ?_)
    obtain ⟨⟨fl7, hE7, hX7⟩, hR7⟩ := hw_
    obtain ⟨t7, ht7⟩ : ∃ q, q = t1 := ⟨_, rfl⟩
    obtain ⟨l7, hll7⟩ : ∃ q : Nat, q = 0 := ⟨_, rfl⟩
    rw [← ht7, ← hll7] at hX7
    have hT7 : TxOk t7 l7 := by rw [hll7]; exact TxOk.zero
    clear ht7
    have hz7 := FrR.size hR7 hz5
    have hR7 := hR5.trans hR7
    have hE7 := hE5.trans hE7
    refine lv_istore (lv' := [(8, .int (iI (((l1 : Nat) : Int)))), (7, .int (iI (((pRun t1 l1 σ 0 0).1 : Int)))), (6, .int (iI (fa))), (5, .int (iI (1))), (3, .long (lookV σ)), (2, .int (iI (w1))), (0, .ref (x)), (1, .int (v))]) E.1 E.2.1 dL_runs_35 hl (by decide) rfl (fun ls hl => ?_)
    refine lv_iload E.1 E.2.1 dL_runs_37 (lv_at hl 3 rfl) ?_
    refine r_if_eq (tgt := 82) E dL_runs_39 (by decide) (by omega) (fun c39 => absurd c39 (by omega)) (fun c39 => ?_)
    refine lv_iload E.1 E.2.1 dL_runs_42 (lv_at hl 1 rfl) ?_
    refine r_bipush E dL_runs_44 (by decide) ?_
    refine r_icmp_ne (tgt := 53) E dL_runs_46 (by decide) (by omega) (by omega) (fun c46 => ?_) (fun c46 => absurd c46 (by omega))
    refine r_const E dL_runs_53 ?_
    refine lv_iload E.1 E.2.1 dL_runs_54 (lv_at hl 2 rfl) ?_
    refine r_bipush E dL_runs_56 (by decide) ?_
    refine r_icmp_eq (tgt := 65) E dL_runs_58 (by decide) (by omega) (by omega) (fun c58 => ?_) (fun c58 => absurd c58 (by omega))
    refine r_const E dL_runs_65 ?_
    refine r_icmp_ne (tgt := 82) E dL_runs_66 (by decide) (by omega) (by omega) (fun c66 => absurd c66 (by omega)) (fun c66 => ?_)
    have htp := hTQ.pos
    have J83_9 : ∀ (v83 : Int) (hv83 : v83 = 1) (ls : Array Slot) (locs : List Loc) (hl : lv_has ls 10 [(8, .int (iI (((l1 : Nat) : Int)))), (7, .int (iI (((pRun t1 l1 σ 0 0).1 : Int)))), (6, .int (iI (fa))), (5, .int (iI (1))), (3, .long (lookV σ)), (2, .int (iI (w1))), (0, .ref (x)), (1, .int (v))]) (hL : Lk G locs), W p l e ({ frames := 7, cells := 80, slots := 240, locals := 160 } : Room) s m args below meth c H9 locs (0 + 80) (0 + 240) (QQ G below args s ({ frames := 7, cells := 80, slots := 240, locals := 160 } : Room) (WE (iI 1) (fun H H1 => ∃ τ hs1 tx1 len1, VS τ ∧ VH hs1 ∧ TxOk tx1 len1 ∧ True ∧ XP G x fb fl τ hs1 tx1 len1 H H1))) (F0 m 83 ls [.int (iI (v83))]) := by
      intro v83 hv83 ls locs hl hL
      refine lv_istore (lv' := [(9, .int (iI (v83))), (8, .int (iI (((l1 : Nat) : Int)))), (7, .int (iI (((pRun t1 l1 σ 0 0).1 : Int)))), (6, .int (iI (fa))), (5, .int (iI (1))), (3, .long (lookV σ)), (2, .int (iI (w1))), (0, .ref (x)), (1, .int (v))]) E.1 E.2.1 dL_runs_83 hl (by decide) rfl (fun ls hl => ?_)
      refine lv_iload E.1 E.2.1 dL_runs_85 (lv_at hl 0 rfl) ?_
      refine r_if_eq (tgt := 152) E dL_runs_87 (by decide) (by omega) (fun c87 => absurd c87 (by omega)) (fun c87 => ?_)
      refine lv_iload E.1 E.2.1 dL_runs_90 (lv_at hl 3 rfl) ?_
      refine r_bipush E dL_runs_92 (by decide) ?_
      refine r_icmp_eq (tgt := 121) E dL_runs_94 (by decide) (by omega) (by omega) (fun c94 => ?_) (fun c94 => absurd c94 (by omega))
      refine lv_iload E.1 E.2.1 dL_runs_121 (lv_at hl 2 rfl) ?_
      refine r_if_lt (tgt := 152) E dL_runs_123 (by decide) (by omega) (fun c123 => absurd c123 (by omega)) (fun c123 => ?_)
      refine lv_iload E.1 E.2.1 dL_runs_126 (lv_at hl 2 rfl) ?_
      refine lv_iload_n E.1 E.2.1 dL_runs_128 rfl (lv_at hl 6 rfl) ?_
      refine r_icmp_gt (tgt := 152) E dL_runs_129 (by decide) (by omega) (by omega) (fun c129 => absurd c129 (by omega)) (fun c129 => ?_)
      refine lv_aload_n E.1 E.2.1 dL_runs_132 rfl (lv_at hl 7 rfl) ?_
      have hun := undo_recd (σ := σ) (τ := τ) hH.2
      have hVd := VH.drop (VH.rec1 hS hH)
      refine kVWE (As := []) E cw_L_116 (c_X5_undo G l x fb fl7 τ (recd hs σ) t7 l7 hIt hT7 hfx hgx (VH.rec1 hS hH).inv) hX7.1 ⟨_, _, rfl⟩ ⟨hX7, hz7⟩ hL hl.1 rfl rfl (Nat.le_of_ble_eq_true rfl) ⟨Nat.le_of_ble_eq_true rfl, Nat.le_of_ble_eq_true rfl⟩ ⟨Nat.le_of_ble_eq_true rfl, Nat.le_of_ble_eq_true rfl⟩ dL_runs_133 (fun H12 locs hL hw_ => ?_)
      rw [hun.2.2.1, hun.2.2.2] at hw_
      obtain ⟨⟨fl10, hE10, hX10⟩, hR10⟩ := hw_
      obtain ⟨un, hune⟩ : ∃ z, (spUndo τ (recd hs σ)).1 = z := ⟨_, rfl⟩
      rw [hune]
      rw [hune] at hun
      have hz10 := FrR.size hR10 hz7
      have hR10 := hR7.trans hR10
      have hE10 := hE7.trans hE10
      refine r_if_lt (tgt := 152) E dL_runs_136 (by decide) (by omega) (fun c136 => absurd c136 (by omega)) (fun c136 => ?_)
      refine lv_aload_n E.1 E.2.1 dL_runs_139 rfl (lv_at hl 7 rfl) ?_
      refine kSRJ (As := [.ref (x)]) E cw_L_103 (c_L_look G l x fb fl10 σ ((recd hs σ).dropLast) t7 l7 hI hT7 hfx hgx) hX10 hL hl.1 rfl rfl (Nat.le_of_ble_eq_true rfl) ⟨Nat.le_of_ble_eq_true rfl, Nat.le_of_ble_eq_true rfl⟩ ⟨rfl, rfl⟩ ⟨Nat.le_of_ble_eq_true rfl, Nat.le_of_ble_eq_true rfl⟩ dL_runs_140 (fun locs hL => ?_)
      refine lv_lload_n E.1 E.2.1 dL_runs_143 rfl (lv_at hl 5 rfl) ?_
      refine r_lcmp E dL_runs_144 (fun z13 hz13a hz13b hz13 => ?_)
      have hz0 : z13 = 0 := hz13.mpr rfl
      refine r_if_ne (tgt := 152) E dL_runs_145 (by decide) (by omega) (fun c145 => absurd c145 (by omega)) (fun c145 => ?_)
      refine r_const E dL_runs_148 ?_
      refine lv_goto (tgt := 153) E.1 E.2.1 dL_runs_149 (by decide) ?_
      refine W.widen (k := 80) (n := 240) (Nat.le_of_ble_eq_true rfl) (Nat.le_of_ble_eq_true rfl) ?_
      refine e_zret (rm := ({ frames := 7, cells := 80, slots := 240, locals := 160 } : Room)) (v := iI (1)) E hL rfl dL_runs_153 ?_
      exact ⟨rfl, _, _, _, _, hS, hVd, hT7, trivial, ⟨_, hE10, hX10⟩, hR10⟩
    refine lv_iload E.1 E.2.1 dL_runs_69 (lv_at hl 0 rfl) ?_
    refine r_if_gt (tgt := 78) E dL_runs_71 (by decide) (by omega) (fun c71 => ?_) (fun c71 => ?_)
    · refine r_const E dL_runs_78 ?_
      refine lv_goto (tgt := 83) E.1 E.2.1 dL_runs_79 (by decide) ?_
      exact J83_9 _ (by omega) ls locs (lv_sub hl [0, 1, 2, 3, 4, 5, 6, 7] rfl) hL
    · refine lv_iload_n E.1 E.2.1 dL_runs_74 rfl (lv_at hl 5 rfl) ?_
      refine r_if_ne (tgt := 82) E dL_runs_75 (by decide) (by omega) (fun c75 => absurd c75 (by omega)) (fun c75 => ?_)
      refine r_const E dL_runs_78 ?_
      refine lv_goto (tgt := 83) E.1 E.2.1 dL_runs_79 (by decide) ?_
      exact J83_9 _ (by omega) ls locs (lv_sub hl [0, 1, 2, 3, 4, 5, 6, 7] rfl) hL
  · have hsp : spRun σ hs t1 l1 = (-3, σ, hs) := by unfold spRun; rw [if_neg (by rw [hfa]; exact hff)]
    have hvs := run_vs (tx := t1) (len := l1) hS hH
    refine kVWE (As := []) E cw_L_113 (c_X5_run G l x fb fl3 σ hs t1 l1 hI hT1 hfx hgx) hX3.1 ⟨_, _, rfl⟩ ⟨hX3, hz3⟩ hL hl.1 rfl rfl (Nat.le_of_ble_eq_true rfl) ⟨Nat.le_of_ble_eq_true rfl, Nat.le_of_ble_eq_true rfl⟩ ⟨Nat.le_of_ble_eq_true rfl, Nat.le_of_ble_eq_true rfl⟩ dL_runs_26 (fun H7 locs hL hw_ => ?_)
    rw [hsp] at hw_ hvs ⊢
    obtain ⟨⟨fl5, hE5, hX5⟩, hR5⟩ := hw_
    have hX5 : XAt G x fb fl5 σ hs t1 l1 H7 := hX5
    have hz5 := FrR.size hR5 hz3
    have hR5 := hR3.trans hR5
    have hE5 := hE3.trans hE5
    refine lv_istore (lv' := [(7, .int (iI ((-3)))), (6, .int (iI (fa))), (5, .int (iI (1))), (3, .long (lookV σ)), (2, .int (iI (w1))), (0, .ref (x)), (1, .int (v))]) E.1 E.2.1 dL_runs_29 hl (by decide) rfl (fun ls hl => ?_)
    refine lv_aload_n E.1 E.2.1 dL_runs_31 rfl (lv_at hl 5 rfl) ?_
    refine kVWE (As := []) E cw_L_96 (c_X5_clearText G l x fb fl5 σ hs t1 l1 hI hT1 hfx hgx) hX5.1 ⟨_, _, rfl⟩ ⟨hX5, hz5⟩ hL hl.1 rfl rfl (Nat.le_of_ble_eq_true rfl) ⟨Nat.le_of_ble_eq_true rfl, Nat.le_of_ble_eq_true rfl⟩ ⟨Nat.le_of_ble_eq_true rfl, Nat.le_of_ble_eq_true rfl⟩ dL_runs_32 (fun H9 locs hL hw_ => ?_)
    obtain ⟨⟨fl7, hE7, hX7⟩, hR7⟩ := hw_
    obtain ⟨t7, ht7⟩ : ∃ q, q = t1 := ⟨_, rfl⟩
    obtain ⟨l7, hll7⟩ : ∃ q : Nat, q = 0 := ⟨_, rfl⟩
    rw [← ht7, ← hll7] at hX7
    have hT7 : TxOk t7 l7 := by rw [hll7]; exact TxOk.zero
    clear ht7
    have hz7 := FrR.size hR7 hz5
    have hR7 := hR5.trans hR7
    have hE7 := hE5.trans hE7
    refine lv_istore (lv' := [(8, .int (iI (((l1 : Nat) : Int)))), (7, .int (iI ((-3)))), (6, .int (iI (fa))), (5, .int (iI (1))), (3, .long (lookV σ)), (2, .int (iI (w1))), (0, .ref (x)), (1, .int (v))]) E.1 E.2.1 dL_runs_35 hl (by decide) rfl (fun ls hl => ?_)
    refine lv_iload E.1 E.2.1 dL_runs_37 (lv_at hl 3 rfl) ?_
    refine r_if_eq (tgt := 82) E dL_runs_39 (by decide) (by omega) (fun c39 => absurd c39 (by omega)) (fun c39 => ?_)
    refine lv_iload E.1 E.2.1 dL_runs_42 (lv_at hl 1 rfl) ?_
    refine r_bipush E dL_runs_44 (by decide) ?_
    refine r_icmp_ne (tgt := 53) E dL_runs_46 (by decide) (by omega) (by omega) (fun c46 => absurd c46 (by omega)) (fun c46 => ?_)
    refine r_const E dL_runs_49 ?_
    refine lv_goto (tgt := 54) E.1 E.2.1 dL_runs_50 (by decide) ?_
    refine lv_iload E.1 E.2.1 dL_runs_54 (lv_at hl 2 rfl) ?_
    refine r_bipush E dL_runs_56 (by decide) ?_
    refine r_icmp_eq (tgt := 65) E dL_runs_58 (by decide) (by omega) (by omega) (fun c58 => absurd c58 (by omega)) (fun c58 => ?_)
    refine r_const E dL_runs_61 ?_
    refine lv_goto (tgt := 66) E.1 E.2.1 dL_runs_62 (by decide) ?_
    refine r_icmp_ne (tgt := 82) E dL_runs_66 (by decide) (by omega) (by omega) (fun c66 => absurd c66 (by omega)) (fun c66 => ?_)
    have htp := hTQ.pos
    have J83_9 : ∀ (v83 : Int) (hv83 : v83 = 1) (ls : Array Slot) (locs : List Loc) (hl : lv_has ls 10 [(8, .int (iI (((l1 : Nat) : Int)))), (7, .int (iI ((-3)))), (6, .int (iI (fa))), (5, .int (iI (1))), (3, .long (lookV σ)), (2, .int (iI (w1))), (0, .ref (x)), (1, .int (v))]) (hL : Lk G locs), W p l e ({ frames := 7, cells := 80, slots := 240, locals := 160 } : Room) s m args below meth c H9 locs (0 + 80) (0 + 240) (QQ G below args s ({ frames := 7, cells := 80, slots := 240, locals := 160 } : Room) (WE (iI 1) (fun H H1 => ∃ τ hs1 tx1 len1, VS τ ∧ VH hs1 ∧ TxOk tx1 len1 ∧ True ∧ XP G x fb fl τ hs1 tx1 len1 H H1))) (F0 m 83 ls [.int (iI (v83))]) := by
      intro v83 hv83 ls locs hl hL
      refine lv_istore (lv' := [(9, .int (iI (v83))), (8, .int (iI (((l1 : Nat) : Int)))), (7, .int (iI ((-3)))), (6, .int (iI (fa))), (5, .int (iI (1))), (3, .long (lookV σ)), (2, .int (iI (w1))), (0, .ref (x)), (1, .int (v))]) E.1 E.2.1 dL_runs_83 hl (by decide) rfl (fun ls hl => ?_)
      refine lv_iload E.1 E.2.1 dL_runs_85 (lv_at hl 0 rfl) ?_
      refine r_if_eq (tgt := 152) E dL_runs_87 (by decide) (by omega) (fun c87 => absurd c87 (by omega)) (fun c87 => ?_)
      refine lv_iload E.1 E.2.1 dL_runs_90 (lv_at hl 3 rfl) ?_
      refine r_bipush E dL_runs_92 (by decide) ?_
      refine r_icmp_eq (tgt := 121) E dL_runs_94 (by decide) (by omega) (by omega) (fun c94 => absurd c94 (by omega)) (fun c94 => ?_)
      refine lv_iload E.1 E.2.1 dL_runs_97 (lv_at hl 3 rfl) ?_
      refine r_if_lt (tgt := 152) E dL_runs_99 (by decide) (by omega) (fun c99 => absurd c99 (by omega)) (fun c99 => ?_)
      refine lv_iload E.1 E.2.1 dL_runs_102 (lv_at hl 3 rfl) ?_
      refine lv_iload E.1 E.2.1 dL_runs_104 (lv_at hl 1 rfl) ?_
      refine r_icmp_gt (tgt := 152) E dL_runs_106 (by decide) (by omega) (by omega) (fun c106 => absurd c106 (by omega)) (fun c106 => ?_)
      refine lv_aload_n E.1 E.2.1 dL_runs_109 rfl (lv_at hl 7 rfl) ?_
      refine kSRJ (As := [.ref (x)]) E cw_L_103 (c_L_look G l x fb fl7 σ hs t7 l7 hI hT7 hfx hgx) hX7 hL hl.1 rfl rfl (Nat.le_of_ble_eq_true rfl) ⟨Nat.le_of_ble_eq_true rfl, Nat.le_of_ble_eq_true rfl⟩ ⟨rfl, rfl⟩ ⟨Nat.le_of_ble_eq_true rfl, Nat.le_of_ble_eq_true rfl⟩ dL_runs_110 (fun locs hL => ?_)
      refine lv_lload_n E.1 E.2.1 dL_runs_113 rfl (lv_at hl 5 rfl) ?_
      refine r_lcmp E dL_runs_114 (fun z11 hz11a hz11b hz11 => ?_)
      have hz0 : z11 = 0 := hz11.mpr rfl
      refine r_if_ne (tgt := 152) E dL_runs_115 (by decide) (by omega) (fun c115 => absurd c115 (by omega)) (fun c115 => ?_)
      refine lv_goto (tgt := 148) E.1 E.2.1 dL_runs_118 (by decide) ?_
      refine r_const E dL_runs_148 ?_
      refine lv_goto (tgt := 153) E.1 E.2.1 dL_runs_149 (by decide) ?_
      refine W.widen (k := 80) (n := 240) (Nat.le_of_ble_eq_true rfl) (Nat.le_of_ble_eq_true rfl) ?_
      refine e_zret (rm := ({ frames := 7, cells := 80, slots := 240, locals := 160 } : Room)) (v := iI (1)) E hL rfl dL_runs_153 ?_
      exact ⟨rfl, _, _, _, _, hS, hH, hT7, trivial, ⟨_, hE7, hX7⟩, hR7⟩
    refine lv_iload E.1 E.2.1 dL_runs_69 (lv_at hl 0 rfl) ?_
    refine r_if_gt (tgt := 78) E dL_runs_71 (by decide) (by omega) (fun c71 => ?_) (fun c71 => ?_)
    · refine r_const E dL_runs_78 ?_
      refine lv_goto (tgt := 83) E.1 E.2.1 dL_runs_79 (by decide) ?_
      exact J83_9 _ (by omega) ls locs (lv_sub hl [0, 1, 2, 3, 4, 5, 6, 7] rfl) hL
    · refine lv_iload_n E.1 E.2.1 dL_runs_74 rfl (lv_at hl 5 rfl) ?_
      refine r_if_ne (tgt := 82) E dL_runs_75 (by decide) (by omega) (fun c75 => absurd c75 (by omega)) (fun c75 => ?_)
      refine r_const E dL_runs_78 ?_
      refine lv_goto (tgt := 83) E.1 E.2.1 dL_runs_79 (by decide) ?_
      exact J83_9 _ (by omega) ls locs (lv_sub hl [0, 1, 2, 3, 4, 5, 6, 7] rfl) hL
