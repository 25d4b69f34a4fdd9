set_option maxHeartbeats 4000000 in
set_option maxRecDepth 100000 in
theorem c_X6_isName (G : GG) (l : Launch) (x : Int) (hx : okI x) : Ct G l yX6_isName cX6_isName 1 (some .boolean) ({ frames := 1, cells := 0, slots := 0, locals := 22 } : Room) [.int (iI (x))] (fun H => True) (RE (b2i (decide (0 ≤ x ∧ x < 20)))) := by
  refine Ct.of (by decide +kernel) (Nat.le_of_ble_eq_true rfl) ?_
  intro p e s m args below meth c ls E hnm hP hl
  obtain ⟨hx1, hx2⟩ := hx
  have hl : lv_has ls 1 [(0, .int (iI (x)))] := hl
  have hL : Lk G [] := Lk.nil
  generalize ([] : List Loc) = locs at hL ⊢
  refine lv_iload_n E.1 E.2.1 dX6_isName_0 rfl (lv_at hl 0 rfl) ?_
  refine r_const E dX6_isName_1 ?_
  refine r_bipush E dX6_isName_2 (by decide) ?_
  refine kSRE (As := [.int (iI (x)), .int (iI (0)), .int (iI (19))]) E cw_X6_30 (c_X6_in G l (x) (0) (19) (by unfold okI; omega) (by unfold okI; omega) (by unfold okI; omega)) trivial hL hl.1 rfl rfl (Nat.le_of_ble_eq_true rfl) ⟨Nat.le_of_ble_eq_true rfl, Nat.le_of_ble_eq_true rfl⟩ ⟨rfl, rfl⟩ ⟨Nat.le_of_ble_eq_true rfl, Nat.le_of_ble_eq_true rfl⟩ dX6_isName_4 (fun locs hL => ?_)
  refine e_zret (rm := ({ frames := 1, cells := 0, slots := 0, locals := 22 } : Room)) (v := b2i (decide ((0) ≤ (x) ∧ (x) ≤ (19)))) E hL (b2i_nar _) dX6_isName_7 ?_
  exact RE_b (decide_eq_decide.mpr (by omega))

set_option maxHeartbeats 4000000 in
set_option maxRecDepth 100000 in
theorem c_X6_isSector (G : GG) (l : Launch) (x : Int) (hx : okI x) : Ct G l yX6_isSector cX6_isSector 1 (some .boolean) ({ frames := 1, cells := 0, slots := 0, locals := 22 } : Room) [.int (iI (x))] (fun H => True) (RE (b2i (decide (0 ≤ x ∧ x < 240)))) := by
  refine Ct.of (by decide +kernel) (Nat.le_of_ble_eq_true rfl) ?_
  intro p e s m args below meth c ls E hnm hP hl
  obtain ⟨hx1, hx2⟩ := hx
  have hl : lv_has ls 1 [(0, .int (iI (x)))] := hl
  have hL : Lk G [] := Lk.nil
  generalize ([] : List Loc) = locs at hL ⊢
  refine lv_iload_n E.1 E.2.1 dX6_isSector_0 rfl (lv_at hl 0 rfl) ?_
  refine r_const E dX6_isSector_1 ?_
  refine r_sipush E dX6_isSector_2 (by decide) ?_
  refine kSRE (As := [.int (iI (x)), .int (iI (0)), .int (iI (239))]) E cw_X6_30 (c_X6_in G l (x) (0) (239) (by unfold okI; omega) (by unfold okI; omega) (by unfold okI; omega)) trivial hL hl.1 rfl rfl (Nat.le_of_ble_eq_true rfl) ⟨Nat.le_of_ble_eq_true rfl, Nat.le_of_ble_eq_true rfl⟩ ⟨rfl, rfl⟩ ⟨Nat.le_of_ble_eq_true rfl, Nat.le_of_ble_eq_true rfl⟩ dX6_isSector_5 (fun locs hL => ?_)
  refine e_zret (rm := ({ frames := 1, cells := 0, slots := 0, locals := 22 } : Room)) (v := b2i (decide ((0) ≤ (x) ∧ (x) ≤ (239)))) E hL (b2i_nar _) dX6_isSector_8 ?_
  exact RE_b (decide_eq_decide.mpr (by omega))

set_option maxHeartbeats 4000000 in
set_option maxRecDepth 100000 in
theorem c_X6_firstOf (G : GG) (l : Launch) (x : Int) (hx : 0 ≤ x ∧ x < 100000) : Ct G l yX6_firstOf cX6_firstOf 1 (some .int) ({ frames := 0, cells := 0, slots := 0, locals := 0 } : Room) [.int (iI (x))] (fun H => True) (RE (iI (x / 64 - 1))) := by
  refine Ct.of (by decide +kernel) (Nat.le_of_ble_eq_true rfl) ?_
  intro p e s m args below meth c ls E hnm hP hl
  obtain ⟨hx1, hx2⟩ := hx
  have hl : lv_has ls 1 [(0, .int (iI (x)))] := hl
  have hL : Lk G [] := Lk.nil
  generalize ([] : List Loc) = locs at hL ⊢
  refine lv_iload_n E.1 E.2.1 dX6_firstOf_0 rfl (lv_at hl 0 rfl) ?_
  refine r_bipush E dX6_firstOf_1 (by decide) ?_
  refine r_div E dX6_firstOf_3 (by omega) (by omega) (by omega) (by omega) ?_
  refine r_const E dX6_firstOf_4 ?_
  refine r_sub E dX6_firstOf_5 ?_
  refine e_iret (rm := ({ frames := 0, cells := 0, slots := 0, locals := 0 } : Room)) (v := iI (((x) / (64)) - 1)) E hL dX6_firstOf_6 ?_
  exact RE_i rfl

set_option maxHeartbeats 4000000 in
set_option maxRecDepth 100000 in
theorem c_X6_sizeOf (G : GG) (l : Launch) (x : Int) (hx : 0 ≤ x ∧ x < 100000) : Ct G l yX6_sizeOf cX6_sizeOf 1 (some .int) ({ frames := 0, cells := 0, slots := 0, locals := 0 } : Room) [.int (iI (x))] (fun H => True) (RE (iI (x % 64))) := by
  refine Ct.of (by decide +kernel) (Nat.le_of_ble_eq_true rfl) ?_
  intro p e s m args below meth c ls E hnm hP hl
  obtain ⟨hx1, hx2⟩ := hx
  have hl : lv_has ls 1 [(0, .int (iI (x)))] := hl
  have hL : Lk G [] := Lk.nil
  generalize ([] : List Loc) = locs at hL ⊢
  refine lv_iload_n E.1 E.2.1 dX6_sizeOf_0 rfl (lv_at hl 0 rfl) ?_
  refine r_bipush E dX6_sizeOf_1 (by decide) ?_
  refine r_rem E dX6_sizeOf_3 (by omega) (by omega) (by omega) (by omega) ?_
  refine e_iret (rm := ({ frames := 0, cells := 0, slots := 0, locals := 0 } : Room)) (v := iI ((x) % (64))) E hL dX6_sizeOf_4 ?_
  exact RE_i rfl

set_option maxHeartbeats 4000000 in
set_option maxRecDepth 100000 in
theorem c_X6_isSession (G : GG) (l : Launch) (g : Nat) (σ : St) (v3 v5 v6 v7 v8 v9 v10 : Int32) (hI : Inv σ) (x : Int) (hx : okI x) : Ct G l yX6_isSession cX6_isSession 2 (some .boolean) ({ frames := 1, cells := 0, slots := 0, locals := 22 } : Room) [.ref (g), .int (iI (x))] (fun H => MR G g σ v3 v5 v6 v7 v8 v9 v10 H) (RE (b2i (decide (0 ≤ x ∧ x < mn σ)))) := by
  refine Ct.of (by decide +kernel) (Nat.le_of_ble_eq_true rfl) ?_
  intro p e s m args below meth c ls E hnm hP hl
  obtain ⟨ho, ha⟩ := hP
  have i1 := hI.mn12
  have i2 := hI.nx240
  have i3 := hI.s0b
  have i4 := hI.s1b
  obtain ⟨hx1, hx2⟩ := hx
  have hl : lv_has ls 2 [(0, .ref (g)), (1, .int (iI (x)))] := hl
  have hL : Lk G [] := Lk.nil
  generalize ([] : List Loc) = locs at hL ⊢
  refine lv_iload_n E.1 E.2.1 dX6_isSession_0 rfl (lv_at hl 1 rfl) ?_
  refine r_const E dX6_isSession_1 ?_
  refine lv_aload_n E.1 E.2.1 dX6_isSession_2 rfl (lv_at hl 0 rfl) ?_
  refine m_get E ho fw_X6_7 rfl dX6_isSession_3 ?_
  refine r_const E dX6_isSession_6 ?_
  refine r_iald E ha (1) rfl (by decide) (by decide) dX6_isSession_7 ?_
  rw [show encI σ (1) = iI ((mn σ : Nat) : Int) from rfl]
  refine r_const E dX6_isSession_8 ?_
  refine r_sub E dX6_isSession_9 ?_
  refine kSRE (As := [.int (iI (x)), .int (iI (0)), .int (iI ((mn σ : Int) - 1))]) E cw_X6_30 (c_X6_in G l (x) (0) ((mn σ : Int) - 1) (by unfold okI; omega) (by unfold okI; omega) (by unfold okI; omega)) trivial hL hl.1 rfl rfl (Nat.le_of_ble_eq_true rfl) ⟨Nat.le_of_ble_eq_true rfl, Nat.le_of_ble_eq_true rfl⟩ ⟨rfl, rfl⟩ ⟨Nat.le_of_ble_eq_true rfl, Nat.le_of_ble_eq_true rfl⟩ dX6_isSession_10 (fun locs hL => ?_)
  refine e_zret (rm := ({ frames := 1, cells := 0, slots := 0, locals := 22 } : Room)) (v := b2i (decide ((0) ≤ (x) ∧ (x) ≤ ((mn σ : Int) - 1)))) E hL (b2i_nar _) dX6_isSession_13 ?_
  exact RE_b (decide_eq_decide.mpr (by omega))

set_option maxHeartbeats 4000000 in
set_option maxRecDepth 100000 in
theorem c_X6_of (G : GG) (l : Launch) (g : Nat) (σ : St) (v3 v5 v6 v7 v8 v9 v10 : Int32) (n k : Nat) (hn : n < 12) (hk : k < 6) : Ct G l yX6_of cX6_of 3 (some .int) ({ frames := 0, cells := 0, slots := 0, locals := 0 } : Room) [.ref (g), .int (iI ((n : Int))), .int (iI ((k : Int)))] (fun H => MR G g σ v3 v5 v6 v7 v8 v9 v10 H) (RE (iI (se σ n k))) := by
  refine Ct.of (by decide +kernel) (Nat.le_of_ble_eq_true rfl) ?_
  intro p e s m args below meth c ls E hnm hP hl
  obtain ⟨ho, ha⟩ := hP
  have hl : lv_has ls 3 [(0, .ref (g)), (1, .int (iI ((n : Int)))), (2, .int (iI ((k : Int))))] := hl
  have hL : Lk G [] := Lk.nil
  generalize ([] : List Loc) = locs at hL ⊢
  refine lv_aload_n E.1 E.2.1 dX6_of_0 rfl (lv_at hl 0 rfl) ?_
  refine m_get E ho fw_X6_7 rfl dX6_of_1 ?_
  refine r_bipush E dX6_of_4 (by decide) ?_
  refine r_bipush E dX6_of_6 (by decide) ?_
  refine lv_iload_n E.1 E.2.1 dX6_of_8 rfl (lv_at hl 1 rfl) ?_
  refine r_mul E dX6_of_9 ?_
  refine r_add E dX6_of_10 ?_
  refine lv_iload_n E.1 E.2.1 dX6_of_11 rfl (lv_at hl 2 rfl) ?_
  refine r_add E dX6_of_12 ?_
  refine r_iald E ha (32 + 6 * n + k) (by omega) (by omega) (by decide) dX6_of_13 ?_
  rw [show encI σ (32 + 6 * n + k) = iI ((se σ n k : Nat) : Int) from congrArg (fun z : Nat => iI (z : Int)) (enc_se (n := n) (w := k) hn hk)]
  refine e_iret (rm := ({ frames := 0, cells := 0, slots := 0, locals := 0 } : Room)) (v := iI ((se σ n k : Int))) E hL dX6_of_14 ?_
  exact RE_i rfl

set_option maxHeartbeats 4000000 in
set_option maxRecDepth 100000 in
theorem c_X6_entryOf (G : GG) (l : Launch) (g : Nat) (σ : St) (v3 v5 v6 v7 v8 v9 v10 : Int32) (n k : Nat) (hn : n < 12) (hk : k < 20) : Ct G l yX6_entryOf cX6_entryOf 3 (some .int) ({ frames := 0, cells := 0, slots := 0, locals := 0 } : Room) [.ref (g), .int (iI ((n : Int))), .int (iI ((k : Int)))] (fun H => MR G g σ v3 v5 v6 v7 v8 v9 v10 H) (RE (iI (encO (en σ n k) : Nat))) := by
  refine Ct.of (by decide +kernel) (Nat.le_of_ble_eq_true rfl) ?_
  intro p e s m args below meth c ls E hnm hP hl
  obtain ⟨ho, ha⟩ := hP
  have hl : lv_has ls 3 [(0, .ref (g)), (1, .int (iI ((n : Int)))), (2, .int (iI ((k : Int))))] := hl
  have hL : Lk G [] := Lk.nil
  generalize ([] : List Loc) = locs at hL ⊢
  refine lv_aload_n E.1 E.2.1 dX6_entryOf_0 rfl (lv_at hl 0 rfl) ?_
  refine m_get E ho fw_X6_7 rfl dX6_entryOf_1 ?_
  refine r_bipush E dX6_entryOf_4 (by decide) ?_
  refine r_bipush E dX6_entryOf_6 (by decide) ?_
  refine lv_iload_n E.1 E.2.1 dX6_entryOf_8 rfl (lv_at hl 1 rfl) ?_
  refine r_mul E dX6_entryOf_9 ?_
  refine r_add E dX6_entryOf_10 ?_
  refine lv_iload_n E.1 E.2.1 dX6_entryOf_11 rfl (lv_at hl 2 rfl) ?_
  refine r_add E dX6_entryOf_12 ?_
  refine r_iald E ha (104 + 20 * n + k) (by omega) (by omega) (by decide) dX6_entryOf_13 ?_
  rw [show encI σ (104 + 20 * n + k) = iI ((encO (en σ n k) : Nat) : Int) from congrArg (fun z : Nat => iI (z : Int)) (enc_en (n := n) (k := k) hk)]
  refine e_iret (rm := ({ frames := 0, cells := 0, slots := 0, locals := 0 } : Room)) (v := iI ((encO (en σ n k) : Int))) E hL dX6_entryOf_14 ?_
  exact RE_i rfl

set_option maxHeartbeats 4000000 in
set_option maxRecDepth 100000 in
theorem c_X6_openOne (G : GG) (l : Launch) (g : Nat) (σ : St) (v3 v5 v6 v7 v8 v9 v10 : Int32) (hI : Inv σ) : Ct G l yX6_openOne cX6_openOne 2 (some .int) ({ frames := 1, cells := 0, slots := 0, locals := 22 } : Room) [.ref (g)] (fun H => MR G g σ v3 v5 v6 v7 v8 v9 v10 H) (RE (iI (oI (opn σ)))) := by
  refine Ct.of (by decide +kernel) (Nat.le_of_ble_eq_true rfl) ?_
  intro p e s m args below meth c ls E hnm hP hl
  obtain ⟨ho, ha⟩ := hP
  have i1 := hI.mn12
  have i2 := hI.nx240
  have i3 := hI.s0b
  have i4 := hI.s1b
  have hl : lv_has ls 2 [(0, .ref (g))] := hl
  have hL : Lk G [] := Lk.nil
  generalize ([] : List Loc) = locs at hL ⊢
  refine lv_aload_n E.1 E.2.1 dX6_openOne_0 rfl (lv_at hl 0 rfl) ?_
  refine m_get E ho fw_X6_7 rfl dX6_openOne_1 ?_
  refine r_const E dX6_openOne_4 ?_
  refine r_iald E ha (1) rfl (by decide) (by decide) dX6_openOne_5 ?_
  rw [show encI σ (1) = iI ((mn σ : Nat) : Int) from rfl]
  refine r_const E dX6_openOne_6 ?_
  refine r_sub E dX6_openOne_7 ?_
  refine lv_istore_n (lv' := [(1, .int (iI ((mn σ : Int) - 1))), (0, .ref (g))]) E.1 E.2.1 dX6_openOne_8 rfl hl (by decide) rfl (fun ls hl => ?_)
  refine lv_iload_n E.1 E.2.1 dX6_openOne_9 rfl (lv_at hl 0 rfl) ?_
  refine r_if_lt (tgt := 26) E dX6_openOne_10 (by decide) (by omega) (fun c10 => ?_) (fun c10 => ?_)
  · refine r_bipush E dX6_openOne_26 (by decide) ?_
    refine e_iret (rm := ({ frames := 1, cells := 0, slots := 0, locals := 22 } : Room)) (v := iI ((-6))) E hL dX6_openOne_28 ?_
    exact RE_i (by rw [opn_0 (by omega)]; rfl)
  · obtain ⟨n, hn⟩ : ∃ n : Nat, (mn σ : Int) - 1 = (n : Int) := ⟨mn σ - 1, by omega⟩
    rw [hn] at hl
    have hrow := hI.row (n := n) (by omega)
    refine lv_aload_n E.1 E.2.1 dX6_openOne_13 rfl (lv_at hl 1 rfl) ?_
    refine lv_iload_n E.1 E.2.1 dX6_openOne_14 rfl (lv_at hl 0 rfl) ?_
    refine r_const E dX6_openOne_15 ?_
    refine kVRE (As := [.int (iI ((n : Int))), .int (iI (0))]) E cw_X6_34 (c_X6_of G l g σ _ _ _ _ _ _ _ (n) (0) (by omega) (by omega)) ho ⟨_, _, rfl⟩ ⟨ho, ha⟩ hL hl.1 rfl rfl (Nat.le_of_ble_eq_true rfl) ⟨Nat.le_of_ble_eq_true rfl, Nat.le_of_ble_eq_true rfl⟩ ⟨rfl, rfl⟩ ⟨Nat.le_of_ble_eq_true rfl, Nat.le_of_ble_eq_true rfl⟩ dX6_openOne_16 (fun locs hL => ?_)
    refine r_if_ne (tgt := 26) E dX6_openOne_19 (by decide) (by omega) (fun c19 => ?_) (fun c19 => ?_)
    · refine r_bipush E dX6_openOne_26 (by decide) ?_
      refine e_iret (rm := ({ frames := 1, cells := 0, slots := 0, locals := 22 } : Room)) (v := iI ((-6))) E hL dX6_openOne_28 ?_
      exact RE_i (by rw [opn_no (n := n) (by omega) (by omega)]; rfl)
    · refine lv_iload_n E.1 E.2.1 dX6_openOne_22 rfl (lv_at hl 0 rfl) ?_
      refine lv_goto (tgt := 28) E.1 E.2.1 dX6_openOne_23 (by decide) ?_
      refine e_iret (rm := ({ frames := 1, cells := 0, slots := 0, locals := 22 } : Room)) (v := iI ((n : Int))) E hL dX6_openOne_28 ?_
      exact RE_i (by rw [opn_of (n := n) (by omega) (by omega)]; rfl)

set_option maxHeartbeats 4000000 in
set_option maxRecDepth 100000 in
theorem c_X6_entries (G : GG) (l : Launch) (g : Nat) (σ : St) (v3 v5 v6 v7 v8 v9 v10 : Int32) (hI : Inv σ) (n : Nat) (hn : n < mn σ) : Ct G l yX6_entries cX6_entries 4 (some .int) ({ frames := 1, cells := 0, slots := 0, locals := 22 } : Room) [.ref (g), .int (iI ((n : Int)))] (fun H => MR G g σ v3 v5 v6 v7 v8 v9 v10 H) (RE (iI (entriesN σ n))) := by
  refine Ct.of (by decide +kernel) (Nat.le_of_ble_eq_true rfl) ?_
  intro p e s m args below meth c ls E hnm hP hl
  obtain ⟨ho, ha⟩ := hP
  have i1 := hI.mn12
  have i2 := hI.nx240
  have i3 := hI.s0b
  have i4 := hI.s1b
  have hl : lv_has ls 4 [(0, .ref (g)), (1, .int (iI ((n : Int))))] := hl
  have hL : Lk G [] := Lk.nil
  generalize ([] : List Loc) = locs at hL ⊢
  refine r_const E dX6_entries_0 ?_
  refine lv_istore_n (lv' := [(2, .int (iI (0))), (0, .ref (g)), (1, .int (iI ((n : Int))))]) E.1 E.2.1 dX6_entries_1 rfl hl (by decide) rfl (fun ls hl => ?_)
  refine r_const E dX6_entries_2 ?_
  refine lv_istore_n (lv' := [(3, .int (iI (0))), (2, .int (iI (0))), (0, .ref (g)), (1, .int (iI ((n : Int))))]) E.1 E.2.1 dX6_entries_3 rfl hl (by decide) rfl (fun ls hl => ?_)
  have LP4 : ∀ (kin4 : Nat) (k : Nat) (u v : Int) (ls : Array Slot) (locs : List Loc) (hk : k ≤ 20) (hu : u = (k : Int)) (hv : v = (cntB (fun k => (en σ n k).isSome) k : Nat)) (hkin4 : 20 - k = kin4) (hl : lv_has ls 4 [(3, .int (iI (u))), (2, .int (iI (v))), (0, .ref (g)), (1, .int (iI ((n : Int))))]) (hL : Lk G locs), W p l e ({ frames := 1, cells := 0, slots := 0, locals := 22 } : Room) s m args below meth c s.heap locs 0 0 (QQ G below args s ({ frames := 1, cells := 0, slots := 0, locals := 22 } : Room) (RE (iI (entriesN σ n)))) (F0 m 4 ls []) := by
    intro kin4
    induction kin4 using Nat.strongRecOn with
    | ind kin4 ihin4 =>
      intro k u v ls locs hk hu hv hkin4 hl hL
      refine lv_iload_n E.1 E.2.1 dX6_entries_4 rfl (lv_at hl 0 rfl) ?_
      refine r_bipush E dX6_entries_5 (by decide) ?_
      refine r_icmp_ge (tgt := 33) E dX6_entries_7 (by decide) (by omega) (by omega) (fun c7 => ?_) (fun c7 => ?_)
      · refine lv_iload_n E.1 E.2.1 dX6_entries_33 rfl (lv_at hl 1 rfl) ?_
        refine e_iret (rm := ({ frames := 1, cells := 0, slots := 0, locals := 22 } : Room)) (v := iI (v)) E hL dX6_entries_34 ?_
        have hk20 : k = 20 := by omega
        subst hk20
        exact RE_i hv
      · subst hu
        refine lv_iload_n E.1 E.2.1 dX6_entries_10 rfl (lv_at hl 1 rfl) ?_
        refine lv_aload_n E.1 E.2.1 dX6_entries_11 rfl (lv_at hl 2 rfl) ?_
        refine lv_iload_n E.1 E.2.1 dX6_entries_12 rfl (lv_at hl 3 rfl) ?_
        refine lv_iload_n E.1 E.2.1 dX6_entries_13 rfl (lv_at hl 0 rfl) ?_
        refine kVRE (As := [.int (iI ((n : Int))), .int (iI ((k : Int)))]) E cw_X6_38 (c_X6_entryOf G l g σ _ _ _ _ _ _ _ (n) (k) (by omega) (by omega)) ho ⟨_, _, rfl⟩ ⟨ho, ha⟩ hL hl.1 rfl rfl (Nat.le_of_ble_eq_true rfl) ⟨Nat.le_of_ble_eq_true rfl, Nat.le_of_ble_eq_true rfl⟩ ⟨rfl, rfl⟩ ⟨Nat.le_of_ble_eq_true rfl, Nat.le_of_ble_eq_true rfl⟩ dX6_entries_14 (fun locs hL => ?_)
        rcases he_ : en σ n k with _ | f
        · have he := he_.symm
          rw [show ((encO none : Nat) : Int) = 0 from rfl]
          refine r_if_le (tgt := 24) E dX6_entries_17 (by decide) (by omega) (fun c17 => ?_) (fun c17 => absurd c17 (by omega))
          refine r_const E dX6_entries_24 ?_
          refine r_add E dX6_entries_25 ?_
          refine lv_istore_n (lv' := [(2, .int (iI (v + 0))), (3, .int (iI ((k : Int)))), (0, .ref (g)), (1, .int (iI ((n : Int))))]) E.1 E.2.1 dX6_entries_26 rfl hl (by decide) rfl (fun ls hl => ?_)
          refine r_inc (lv' := [(3, .int (iI ((k : Int) + 1))), (2, .int (iI (v + 0))), (0, .ref (g)), (1, .int (iI ((n : Int))))]) E dX6_entries_27 hl (k := 1) rfl (by decide) rfl (fun ls hl => ?_)
          refine lv_goto (tgt := 4) E.1 E.2.1 dX6_entries_30 (by decide) ?_
          refine ihin4 _ ?_ (k + 1) ((k : Int) + 1) (v + 0) ls locs ?_ ?_ ?_ rfl (lv_sub hl [0, 1, 2, 3] rfl) hL
          · omega
          · omega
          · omega
          · rw [hv]; simp [cntB, ← he]
        · have he := he_.symm
          have hfb := hI.ent2 (n := n) (k := k) (by omega) (by omega) he_
          rw [show ((encO (some f) : Nat) : Int) = (64 * ((f.1 : Int) + 1) + (f.2.1 : Int)) by simp only [encO]; omega]
          refine r_if_le (tgt := 24) E dX6_entries_17 (by decide) (by omega) (fun c17 => absurd c17 (by omega)) (fun c17 => ?_)
          refine r_const E dX6_entries_20 ?_
          refine lv_goto (tgt := 25) E.1 E.2.1 dX6_entries_21 (by decide) ?_
          refine r_add E dX6_entries_25 ?_
          refine lv_istore_n (lv' := [(2, .int (iI (v + 1))), (3, .int (iI ((k : Int)))), (0, .ref (g)), (1, .int (iI ((n : Int))))]) E.1 E.2.1 dX6_entries_26 rfl hl (by decide) rfl (fun ls hl => ?_)
          refine r_inc (lv' := [(3, .int (iI ((k : Int) + 1))), (2, .int (iI (v + 1))), (0, .ref (g)), (1, .int (iI ((n : Int))))]) E dX6_entries_27 hl (k := 1) rfl (by decide) rfl (fun ls hl => ?_)
          refine lv_goto (tgt := 4) E.1 E.2.1 dX6_entries_30 (by decide) ?_
          refine ihin4 _ ?_ (k + 1) ((k : Int) + 1) (v + 1) ls locs ?_ ?_ ?_ rfl (lv_sub hl [0, 1, 2, 3] rfl) hL
          · omega
          · omega
          · omega
          · rw [hv]; simp [cntB, ← he]
  refine LP4 _ 0 0 0 ls locs ?_ ?_ ?_ rfl (lv_sub hl [0, 1, 2, 3] rfl) hL
  · omega
  · rfl
  · rfl

theorem i_hurt {σ : St} {k : Nat} : (iI ((bitsN (dm σ) (30 * (k / 30)) 30 : Nat) : Int) >>> (iI ((k : Int) % 30) &&& 31)) &&& iI 1 = iI (if dm σ k then 1 else 0) := by
  have h := i_bit (d := dm σ) (b := 30 * (k / 30)) (j := k % 30) (by omega)
  rw [show 30 * (k / 30) + k % 30 = k by omega] at h
  rw [show ((k : Int) % 30) = ((k % 30 : Nat) : Int) by omega]
  exact h
theorem i_hurt_t {σ : St} {k : Nat} (h : dm σ k = true) : (iI ((bitsN (dm σ) (30 * (k / 30)) 30 : Nat) : Int) >>> (iI ((k : Int) % 30) &&& 31)) &&& iI 1 = iI 1 := by rw [i_hurt, if_pos h]
theorem i_hurt_f {σ : St} {k : Nat} (h : ¬ dm σ k = true) : (iI ((bitsN (dm σ) (30 * (k / 30)) 30 : Nat) : Int) >>> (iI ((k : Int) % 30) &&& 31)) &&& iI 1 = iI 0 := by rw [i_hurt, if_neg h]
set_option maxHeartbeats 4000000 in
set_option maxRecDepth 100000 in
theorem c_X6_isHurt (G : GG) (l : Launch) (g : Nat) (σ : St) (v3 v5 v6 v7 v8 v9 v10 : Int32) (k : Nat) (hk : k < 240) : Ct G l yX6_isHurt cX6_isHurt 2 (some .boolean) ({ frames := 0, cells := 0, slots := 0, locals := 0 } : Room) [.ref (g), .int (iI ((k : Int)))] (fun H => MR G g σ v3 v5 v6 v7 v8 v9 v10 H) (RE (b2i (dm σ k))) := by
  refine Ct.of (by decide +kernel) (Nat.le_of_ble_eq_true rfl) ?_
  intro p e s m args below meth c ls E hnm hP hl
  obtain ⟨ho, ha⟩ := hP
  have hl : lv_has ls 2 [(0, .ref (g)), (1, .int (iI ((k : Int))))] := hl
  have hL : Lk G [] := Lk.nil
  generalize ([] : List Loc) = locs at hL ⊢
  refine lv_aload_n E.1 E.2.1 dX6_isHurt_0 rfl (lv_at hl 0 rfl) ?_
  refine m_get E ho fw_X6_7 rfl dX6_isHurt_1 ?_
  refine r_const E dX6_isHurt_4 ?_
  refine lv_iload_n E.1 E.2.1 dX6_isHurt_5 rfl (lv_at hl 1 rfl) ?_
  refine r_bipush E dX6_isHurt_6 (by decide) ?_
  refine r_div E dX6_isHurt_8 (by omega) (by omega) (by omega) (by omega) ?_
  refine r_add E dX6_isHurt_9 ?_
  refine r_iald E ha (4 + k / 30) (by omega) (by omega) (by decide) dX6_isHurt_10 ?_
  rw [show encI σ (4 + k / 30) = iI ((bitsN (dm σ) (30 * (k / 30)) 30 : Nat) : Int) from congrArg (fun z : Nat => iI (z : Int)) (enc_dm (w := k / 30) (by omega))]
  refine lv_iload_n E.1 E.2.1 dX6_isHurt_11 rfl (lv_at hl 1 rfl) ?_
  refine r_bipush E dX6_isHurt_12 (by decide) ?_
  refine r_rem E dX6_isHurt_14 (by omega) (by omega) (by omega) (by omega) ?_
  refine lv_ishr E.1 E.2.1 dX6_isHurt_15 ?_
  refine r_const E dX6_isHurt_16 ?_
  refine lv_iand E.1 E.2.1 dX6_isHurt_17 ?_
  by_cases hd : dm σ k = true
  · rw [i_hurt_t hd]
    refine r_const E dX6_isHurt_18 ?_
    refine r_icmp_ne (tgt := 26) E dX6_isHurt_19 (by decide) (by omega) (by omega) (fun c19 => absurd c19 (by omega)) (fun c19 => ?_)
    refine r_const E dX6_isHurt_22 ?_
    refine lv_goto (tgt := 27) E.1 E.2.1 dX6_isHurt_23 (by decide) ?_
    refine e_zret (rm := ({ frames := 0, cells := 0, slots := 0, locals := 0 } : Room)) (v := iI (1)) E hL rfl dX6_isHurt_27 ?_
    exact RE_t hd
  · rw [i_hurt_f hd]
    refine r_const E dX6_isHurt_18 ?_
    refine r_icmp_ne (tgt := 26) E dX6_isHurt_19 (by decide) (by omega) (by omega) (fun c19 => ?_) (fun c19 => absurd c19 (by omega))
    refine r_const E dX6_isHurt_26 ?_
    refine e_zret (rm := ({ frames := 0, cells := 0, slots := 0, locals := 0 } : Room)) (v := iI (0)) E hL rfl dX6_isHurt_27 ?_
    exact RE_f (Bool.eq_false_iff.mpr hd)

set_option maxHeartbeats 4000000 in
set_option maxRecDepth 100000 in
theorem c_X6_isWhole (G : GG) (l : Launch) (g : Nat) (σ : St) (v3 v5 v6 v7 v8 v9 v10 : Int32) (a n : Nat) (hk : a + n ≤ 240) : Ct G l yX6_isWhole cX6_isWhole 5 (some .boolean) ({ frames := 1, cells := 0, slots := 0, locals := 21 } : Room) [.ref (g), .int (iI ((a : Int))), .int (iI ((n : Int)))] (fun H => MR G g σ v3 v5 v6 v7 v8 v9 v10 H) (RE (b2i (wholeB (dm σ) a n))) := by
  refine Ct.of (by decide +kernel) (Nat.le_of_ble_eq_true rfl) ?_
  intro p e s m args below meth c ls E hnm hP hl
  obtain ⟨ho, ha⟩ := hP
  have hl : lv_has ls 5 [(0, .ref (g)), (1, .int (iI ((a : Int)))), (2, .int (iI ((n : Int))))] := hl
  have hL : Lk G [] := Lk.nil
  generalize ([] : List Loc) = locs at hL ⊢
  refine r_const E dX6_isWhole_0 ?_
  refine lv_istore_n (lv' := [(3, .int (iI (1))), (0, .ref (g)), (1, .int (iI ((a : Int)))), (2, .int (iI ((n : Int))))]) E.1 E.2.1 dX6_isWhole_1 rfl hl (by decide) rfl (fun ls hl => ?_)
  refine lv_iload_n E.1 E.2.1 dX6_isWhole_2 rfl (lv_at hl 2 rfl) ?_
  refine lv_istore (lv' := [(4, .int (iI ((a : Int)))), (3, .int (iI (1))), (0, .ref (g)), (1, .int (iI ((a : Int)))), (2, .int (iI ((n : Int))))]) E.1 E.2.1 dX6_isWhole_3 hl (by decide) rfl (fun ls hl => ?_)
  have LP5 : ∀ (kin5 : Nat) (t : Nat) (u v : Int) (ls : Array Slot) (locs : List Loc) (ht : t ≤ n) (hu : u = ((a + t : Nat) : Int)) (hv : (v = 1 ∧ wholeB (dm σ) a t = true) ∨ (v = 0 ∧ wholeB (dm σ) a t = false)) (hkin5 : n - t = kin5) (hl : lv_has ls 5 [(4, .int (iI (u))), (3, .int (iI (v))), (0, .ref (g)), (1, .int (iI ((a : Int)))), (2, .int (iI ((n : Int))))]) (hL : Lk G locs), W p l e ({ frames := 1, cells := 0, slots := 0, locals := 21 } : Room) s m args below meth c s.heap locs 0 0 (QQ G below args s ({ frames := 1, cells := 0, slots := 0, locals := 21 } : Room) (RE (b2i (wholeB (dm σ) a n)))) (F0 m 5 ls []) := by
    intro kin5
    induction kin5 using Nat.strongRecOn with
    | ind kin5 ihin5 =>
      intro t u v ls locs ht hu hv hkin5 hl hL
      refine lv_iload E.1 E.2.1 dX6_isWhole_5 (lv_at hl 0 rfl) ?_
      refine lv_iload_n E.1 E.2.1 dX6_isWhole_7 rfl (lv_at hl 3 rfl) ?_
      refine lv_iload_n E.1 E.2.1 dX6_isWhole_8 rfl (lv_at hl 4 rfl) ?_
      refine r_add E dX6_isWhole_9 ?_
      refine r_icmp_ge (tgt := 38) E dX6_isWhole_10 (by decide) (by omega) (by omega) (fun c10 => ?_) (fun c10 => ?_)
      · refine lv_iload_n E.1 E.2.1 dX6_isWhole_38 rfl (lv_at hl 1 rfl) ?_
        have htn : t = n := by omega
        subst htn
        rcases hv with ⟨hv, hv1⟩ | ⟨hv, hv1⟩
        · subst hv
          refine e_zret (rm := ({ frames := 1, cells := 0, slots := 0, locals := 21 } : Room)) (v := iI (1)) E hL rfl dX6_isWhole_39 ?_
          exact RE_t hv1
        · subst hv
          refine e_zret (rm := ({ frames := 1, cells := 0, slots := 0, locals := 21 } : Room)) (v := iI (0)) E hL rfl dX6_isWhole_39 ?_
          exact RE_f hv1
      · subst hu
        rcases hv with ⟨hv, hv1⟩ | ⟨hv, hv0⟩
        · subst hv
          refine lv_iload_n E.1 E.2.1 dX6_isWhole_13 rfl (lv_at hl 1 rfl) ?_
          refine r_if_eq (tgt := 30) E dX6_isWhole_14 (by decide) (by omega) (fun c14 => absurd c14 (by omega)) (fun c14 => ?_)
          refine lv_aload_n E.1 E.2.1 dX6_isWhole_17 rfl (lv_at hl 2 rfl) ?_
          refine lv_iload E.1 E.2.1 dX6_isWhole_18 (lv_at hl 0 rfl) ?_
          refine kVRE (As := [.int (iI (((a + t : Nat) : Int)))]) E cw_X6_41 (c_X6_isHurt G l g σ _ _ _ _ _ _ _ (a + t) (by omega)) ho ⟨_, _, rfl⟩ ⟨ho, ha⟩ hL hl.1 rfl rfl (Nat.le_of_ble_eq_true rfl) ⟨Nat.le_of_ble_eq_true rfl, Nat.le_of_ble_eq_true rfl⟩ ⟨rfl, rfl⟩ ⟨Nat.le_of_ble_eq_true rfl, Nat.le_of_ble_eq_true rfl⟩ dX6_isWhole_20 (fun locs hL => ?_)
          refine r_bif_ne (tgt := 30) E dX6_isWhole_23 (by decide)  (fun c23 => ?_) (fun c23 => ?_)
          · refine r_const E dX6_isWhole_30 ?_
            refine lv_istore_n (lv' := [(3, .int (iI (0))), (4, .int (iI (((a + t : Nat) : Int)))), (0, .ref (g)), (1, .int (iI ((a : Int)))), (2, .int (iI ((n : Int))))]) E.1 E.2.1 dX6_isWhole_31 rfl hl (by decide) rfl (fun ls hl => ?_)
            refine r_inc (lv' := [(4, .int (iI (((a + t : Nat) : Int) + 1))), (3, .int (iI (0))), (0, .ref (g)), (1, .int (iI ((a : Int)))), (2, .int (iI ((n : Int))))]) E dX6_isWhole_32 hl (k := 1) rfl (by decide) rfl (fun ls hl => ?_)
            refine lv_goto (tgt := 5) E.1 E.2.1 dX6_isWhole_35 (by decide) ?_
            refine ihin5 _ ?_ (t + 1) (((a + t : Nat) : Int) + 1) 0 ls locs ?_ ?_ ?_ rfl (lv_sub hl [0, 1, 2, 3, 4] rfl) hL
            · omega
            · omega
            · omega
            · first | exact Or.inr ⟨rfl, by rw [wholeB, c23, Bool.not_true, Bool.and_false]⟩ | exact Or.inr ⟨rfl, by rw [wholeB, hv0]; rfl⟩
          · refine r_const E dX6_isWhole_26 ?_
            refine lv_goto (tgt := 31) E.1 E.2.1 dX6_isWhole_27 (by decide) ?_
            refine lv_istore_n (lv' := [(3, .int (iI (1))), (4, .int (iI (((a + t : Nat) : Int)))), (0, .ref (g)), (1, .int (iI ((a : Int)))), (2, .int (iI ((n : Int))))]) E.1 E.2.1 dX6_isWhole_31 rfl hl (by decide) rfl (fun ls hl => ?_)
            refine r_inc (lv' := [(4, .int (iI (((a + t : Nat) : Int) + 1))), (3, .int (iI (1))), (0, .ref (g)), (1, .int (iI ((a : Int)))), (2, .int (iI ((n : Int))))]) E dX6_isWhole_32 hl (k := 1) rfl (by decide) rfl (fun ls hl => ?_)
            refine lv_goto (tgt := 5) E.1 E.2.1 dX6_isWhole_35 (by decide) ?_
            refine ihin5 _ ?_ (t + 1) (((a + t : Nat) : Int) + 1) 1 ls locs ?_ ?_ ?_ rfl (lv_sub hl [0, 1, 2, 3, 4] rfl) hL
            · omega
            · omega
            · omega
            · exact Or.inl ⟨rfl, by rw [wholeB, hv1, c23]; rfl⟩
        · subst hv
          refine lv_iload_n E.1 E.2.1 dX6_isWhole_13 rfl (lv_at hl 1 rfl) ?_
          refine r_if_eq (tgt := 30) E dX6_isWhole_14 (by decide) (by omega) (fun c14 => ?_) (fun c14 => absurd c14 (by omega))
          refine r_const E dX6_isWhole_30 ?_
          refine lv_istore_n (lv' := [(3, .int (iI (0))), (4, .int (iI (((a + t : Nat) : Int)))), (0, .ref (g)), (1, .int (iI ((a : Int)))), (2, .int (iI ((n : Int))))]) E.1 E.2.1 dX6_isWhole_31 rfl hl (by decide) rfl (fun ls hl => ?_)
          refine r_inc (lv' := [(4, .int (iI (((a + t : Nat) : Int) + 1))), (3, .int (iI (0))), (0, .ref (g)), (1, .int (iI ((a : Int)))), (2, .int (iI ((n : Int))))]) E dX6_isWhole_32 hl (k := 1) rfl (by decide) rfl (fun ls hl => ?_)
          refine lv_goto (tgt := 5) E.1 E.2.1 dX6_isWhole_35 (by decide) ?_
          refine ihin5 _ ?_ (t + 1) (((a + t : Nat) : Int) + 1) 0 ls locs ?_ ?_ ?_ rfl (lv_sub hl [0, 1, 2, 3, 4] rfl) hL
          · omega
          · omega
          · omega
          · first | exact Or.inr ⟨rfl, by rw [wholeB, c23, Bool.not_true, Bool.and_false]⟩ | exact Or.inr ⟨rfl, by rw [wholeB, hv0]; rfl⟩
  refine LP5 _ 0 ((a : Int)) 1 ls locs ?_ ?_ ?_ rfl (lv_sub hl [0, 1, 2, 3, 4] rfl) hL
  · omega
  · omega
  · exact Or.inl ⟨rfl, rfl⟩

set_option maxHeartbeats 4000000 in
set_option maxRecDepth 100000 in
theorem c_X6_isReadable (G : GG) (l : Launch) (g : Nat) (σ : St) (v3 v5 v6 v7 v8 v9 v10 : Int32) (hI : Inv σ) (n : Nat) (hn : n < mn σ) : Ct G l yX6_isReadable cX6_isReadable 2 (some .boolean) ({ frames := 2, cells := 0, slots := 0, locals := 45 } : Room) [.ref (g), .int (iI ((n : Int)))] (fun H => MR G g σ v3 v5 v6 v7 v8 v9 v10 H) (RE (b2i (readB σ (dm σ) n))) := by
  refine Ct.of (by decide +kernel) (Nat.le_of_ble_eq_true rfl) ?_
  intro p e s m args below meth c ls E hnm hP hl
  obtain ⟨ho, ha⟩ := hP
  have i1 := hI.mn12
  have i2 := hI.nx240
  have i3 := hI.s0b
  have i4 := hI.s1b
  have hrow := hI.row hn
  have hl : lv_has ls 2 [(0, .ref (g)), (1, .int (iI ((n : Int))))] := hl
  have hL : Lk G [] := Lk.nil
  generalize ([] : List Loc) = locs at hL ⊢
  refine lv_aload_n E.1 E.2.1 dX6_isReadable_0 rfl (lv_at hl 0 rfl) ?_
  refine lv_iload_n E.1 E.2.1 dX6_isReadable_1 rfl (lv_at hl 1 rfl) ?_
  refine r_const E dX6_isReadable_2 ?_
  refine kVRE (As := [.int (iI ((n : Int))), .int (iI (0))]) E cw_X6_34 (c_X6_of G l g σ _ _ _ _ _ _ _ (n) (0) (by omega) (by omega)) ho ⟨_, _, rfl⟩ ⟨ho, ha⟩ hL hl.1 rfl rfl (Nat.le_of_ble_eq_true rfl) ⟨Nat.le_of_ble_eq_true rfl, Nat.le_of_ble_eq_true rfl⟩ ⟨rfl, rfl⟩ ⟨Nat.le_of_ble_eq_true rfl, Nat.le_of_ble_eq_true rfl⟩ dX6_isReadable_3 (fun locs hL => ?_)
  refine r_const E dX6_isReadable_6 ?_
  refine r_icmp_ne (tgt := 33) E dX6_isReadable_7 (by decide) (by omega) (by omega) (fun c7 => ?_) (fun c7 => ?_)
  · refine r_const E dX6_isReadable_33 ?_
    refine e_zret (rm := ({ frames := 2, cells := 0, slots := 0, locals := 45 } : Room)) (v := iI (0)) E hL rfl dX6_isReadable_34 ?_
    first | exact RE_f (by unfold readB; rw [decide_eq_false (by omega)]; rfl) | exact RE_f (by unfold readB; rw [c26, Bool.and_false])
  · refine lv_aload_n E.1 E.2.1 dX6_isReadable_10 rfl (lv_at hl 0 rfl) ?_
    refine lv_aload_n E.1 E.2.1 dX6_isReadable_11 rfl (lv_at hl 0 rfl) ?_
    refine lv_iload_n E.1 E.2.1 dX6_isReadable_12 rfl (lv_at hl 1 rfl) ?_
    refine r_const E dX6_isReadable_13 ?_
    refine kVRE (As := [.int (iI ((n : Int))), .int (iI (1))]) E cw_X6_34 (c_X6_of G l g σ _ _ _ _ _ _ _ (n) (1) (by omega) (by omega)) ho ⟨_, _, rfl⟩ ⟨ho, ha⟩ hL hl.1 rfl rfl (Nat.le_of_ble_eq_true rfl) ⟨Nat.le_of_ble_eq_true rfl, Nat.le_of_ble_eq_true rfl⟩ ⟨rfl, rfl⟩ ⟨Nat.le_of_ble_eq_true rfl, Nat.le_of_ble_eq_true rfl⟩ dX6_isReadable_14 (fun locs hL => ?_)
    refine lv_aload_n E.1 E.2.1 dX6_isReadable_17 rfl (lv_at hl 0 rfl) ?_
    refine lv_iload_n E.1 E.2.1 dX6_isReadable_18 rfl (lv_at hl 1 rfl) ?_
    refine r_const E dX6_isReadable_19 ?_
    refine kVRE (As := [.int (iI ((n : Int))), .int (iI (3))]) E cw_X6_34 (c_X6_of G l g σ _ _ _ _ _ _ _ (n) (3) (by omega) (by omega)) ho ⟨_, _, rfl⟩ ⟨ho, ha⟩ hL hl.1 rfl rfl (Nat.le_of_ble_eq_true rfl) ⟨Nat.le_of_ble_eq_true rfl, Nat.le_of_ble_eq_true rfl⟩ ⟨rfl, rfl⟩ ⟨Nat.le_of_ble_eq_true rfl, Nat.le_of_ble_eq_true rfl⟩ dX6_isReadable_20 (fun locs hL => ?_)
    refine kVRE (As := [.int (iI ((se σ n 1 : Int))), .int (iI ((se σ n 3 : Int)))]) E cw_X6_45 (c_X6_isWhole G l g σ _ _ _ _ _ _ _ (se σ n 1) (se σ n 3) (by omega)) ho ⟨_, _, rfl⟩ ⟨ho, ha⟩ hL hl.1 rfl rfl (Nat.le_of_ble_eq_true rfl) ⟨Nat.le_of_ble_eq_true rfl, Nat.le_of_ble_eq_true rfl⟩ ⟨rfl, rfl⟩ ⟨Nat.le_of_ble_eq_true rfl, Nat.le_of_ble_eq_true rfl⟩ dX6_isReadable_23 (fun locs hL => ?_)
    refine r_bif_eq (tgt := 33) E dX6_isReadable_26 (by decide)  (fun c26 => ?_) (fun c26 => ?_)
    · refine r_const E dX6_isReadable_33 ?_
      refine e_zret (rm := ({ frames := 2, cells := 0, slots := 0, locals := 45 } : Room)) (v := iI (0)) E hL rfl dX6_isReadable_34 ?_
      first | exact RE_f (by unfold readB; rw [decide_eq_false (by omega)]; rfl) | exact RE_f (by unfold readB; rw [c26, Bool.and_false])
    · refine r_const E dX6_isReadable_29 ?_
      refine lv_goto (tgt := 34) E.1 E.2.1 dX6_isReadable_30 (by decide) ?_
      refine e_zret (rm := ({ frames := 2, cells := 0, slots := 0, locals := 45 } : Room)) (v := iI (1)) E hL rfl dX6_isReadable_34 ?_
      exact RE_t (by unfold readB; rw [decide_eq_true (by omega), c26]; rfl)

set_option maxHeartbeats 4000000 in
set_option maxRecDepth 100000 in
theorem c_X6_validOne (G : GG) (l : Launch) (g : Nat) (σ : St) (v3 v5 v6 v7 v8 v9 v10 : Int32) (hI : Inv σ) : Ct G l yX6_validOne cX6_validOne 2 (some .int) ({ frames := 3, cells := 0, slots := 0, locals := 66 } : Room) [.ref (g)] (fun H => MR G g σ v3 v5 v6 v7 v8 v9 v10 H) (RE (iI (oI (validD σ (dm σ))))) := by
  refine Ct.of (by decide +kernel) (Nat.le_of_ble_eq_true rfl) ?_
  intro p e s m args below meth c ls E hnm hP hl
  obtain ⟨ho, ha⟩ := hP
  have i1 := hI.mn12
  have i2 := hI.nx240
  have i3 := hI.s0b
  have i4 := hI.s1b
  have hl : lv_has ls 2 [(0, .ref (g))] := hl
  have hL : Lk G [] := Lk.nil
  generalize ([] : List Loc) = locs at hL ⊢
  refine lv_aload_n E.1 E.2.1 dX6_validOne_0 rfl (lv_at hl 0 rfl) ?_
  refine m_get E ho fw_X6_7 rfl dX6_validOne_1 ?_
  refine r_const E dX6_validOne_4 ?_
  refine r_iald E ha (1) rfl (by decide) (by decide) dX6_validOne_5 ?_
  rw [show encI σ (1) = iI ((mn σ : Nat) : Int) from rfl]
  refine r_const E dX6_validOne_6 ?_
  refine r_sub E dX6_validOne_7 ?_
  refine lv_istore_n (lv' := [(1, .int (iI ((mn σ : Int) - 1))), (0, .ref (g))]) E.1 E.2.1 dX6_validOne_8 rfl hl (by decide) rfl (fun ls hl => ?_)
  have LP9 : ∀ (kin9 : Nat) (j : Nat) (z : Int) (ls : Array Slot) (locs : List Loc) (hj : j ≤ mn σ) (hz : z = (j : Int) - 1) (he : validD σ (dm σ) = lastB (readB σ (dm σ)) j) (hkin9 : j = kin9) (hl : lv_has ls 2 [(1, .int (iI (z))), (0, .ref (g))]) (hL : Lk G locs), W p l e ({ frames := 3, cells := 0, slots := 0, locals := 66 } : Room) s m args below meth c s.heap locs 0 0 (QQ G below args s ({ frames := 3, cells := 0, slots := 0, locals := 66 } : Room) (RE (iI (oI (validD σ (dm σ)))))) (F0 m 9 ls []) := by
    intro kin9
    induction kin9 using Nat.strongRecOn with
    | ind kin9 ihin9 =>
      intro j z ls locs hj hz he hkin9 hl hL
      refine lv_iload_n E.1 E.2.1 dX6_validOne_9 rfl (lv_at hl 0 rfl) ?_
      refine r_if_lt (tgt := 27) E dX6_validOne_10 (by decide) (by omega) (fun c10 => ?_) (fun c10 => ?_)
      · refine lv_iload_n E.1 E.2.1 dX6_validOne_27 rfl (lv_at hl 0 rfl) ?_
        refine r_if_ge (tgt := 36) E dX6_validOne_28 (by decide) (by omega) (fun c28 => absurd c28 (by omega)) (fun c28 => ?_)
        refine r_bipush E dX6_validOne_31 (by decide) ?_
        refine lv_goto (tgt := 37) E.1 E.2.1 dX6_validOne_33 (by decide) ?_
        refine e_iret (rm := ({ frames := 3, cells := 0, slots := 0, locals := 66 } : Room)) (v := iI ((-6))) E hL dX6_validOne_37 ?_
        exact RE_i (by rw [he, show j = 0 by omega]; rfl)
      · obtain ⟨n, hn⟩ : ∃ n : Nat, z = (n : Int) := ⟨z.toNat, by omega⟩
        subst hn
        refine lv_aload_n E.1 E.2.1 dX6_validOne_13 rfl (lv_at hl 1 rfl) ?_
        refine lv_iload_n E.1 E.2.1 dX6_validOne_14 rfl (lv_at hl 0 rfl) ?_
        refine kVRE (As := [.int (iI ((n : Int)))]) E cw_X6_49 (c_X6_isReadable G l g σ _ _ _ _ _ _ _ hI (n) (by omega)) ho ⟨_, _, rfl⟩ ⟨ho, ha⟩ hL hl.1 rfl rfl (Nat.le_of_ble_eq_true rfl) ⟨Nat.le_of_ble_eq_true rfl, Nat.le_of_ble_eq_true rfl⟩ ⟨rfl, rfl⟩ ⟨Nat.le_of_ble_eq_true rfl, Nat.le_of_ble_eq_true rfl⟩ dX6_validOne_15 (fun locs hL => ?_)
        refine r_bif_ne (tgt := 27) E dX6_validOne_18 (by decide)  (fun c18 => ?_) (fun c18 => ?_)
        · refine lv_iload_n E.1 E.2.1 dX6_validOne_27 rfl (lv_at hl 0 rfl) ?_
          refine r_if_ge (tgt := 36) E dX6_validOne_28 (by decide) (by omega) (fun c28 => ?_) (fun c28 => absurd c28 (by omega))
          refine lv_iload_n E.1 E.2.1 dX6_validOne_36 rfl (lv_at hl 0 rfl) ?_
          refine e_iret (rm := ({ frames := 3, cells := 0, slots := 0, locals := 66 } : Room)) (v := iI ((n : Int))) E hL dX6_validOne_37 ?_
          exact RE_i (by rw [he, show j = n + 1 by omega, lastB, if_pos c18]; rfl)
        · refine r_inc (lv' := [(1, .int (iI ((n : Int) + (-1)))), (0, .ref (g))]) E dX6_validOne_21 hl (k := 0) rfl (by decide) rfl (fun ls hl => ?_)
          refine lv_goto (tgt := 9) E.1 E.2.1 dX6_validOne_24 (by decide) ?_
          refine ihin9 _ ?_ n ((n : Int) + (-1)) ls locs ?_ ?_ ?_ rfl (lv_sub hl [0, 1] rfl) hL
          · omega
          · omega
          · omega
          · rw [he, show j = n + 1 by omega, lastB, if_neg (by rw [c18]; decide)]
  refine LP9 _ (mn σ) ((mn σ : Int) - 1) ls locs ?_ ?_ ?_ rfl (lv_sub hl [0, 1] rfl) hL
  · omega
  · rfl
  · rfl

set_option maxHeartbeats 4000000 in
set_option maxRecDepth 100000 in
theorem c_X6_isIntact (G : GG) (l : Launch) (g : Nat) (σ : St) (v3 v5 v6 v7 v8 v9 v10 : Int32) (f : Fil) (hf : f.1 + f.2.1 ≤ 240 ∧ (1 ≤ f.2.1 ∧ f.2.1 ≤ 40)) : Ct G l yX6_isIntact cX6_isIntact 2 (some .boolean) ({ frames := 2, cells := 0, slots := 0, locals := 45 } : Room) [.ref (g), .int (iI ((64 * ((f.1 : Int) + 1) + (f.2.1 : Int))))] (fun H => MR G g σ v3 v5 v6 v7 v8 v9 v10 H) (RE (b2i (wholeB (dm σ) f.1 f.2.1))) := by
  refine Ct.of (by decide +kernel) (Nat.le_of_ble_eq_true rfl) ?_
  intro p e s m args below meth c ls E hnm hP hl
  obtain ⟨ho, ha⟩ := hP
  have hl : lv_has ls 2 [(0, .ref (g)), (1, .int (iI ((64 * ((f.1 : Int) + 1) + (f.2.1 : Int)))))] := hl
  have hL : Lk G [] := Lk.nil
  generalize ([] : List Loc) = locs at hL ⊢
  refine lv_aload_n E.1 E.2.1 dX6_isIntact_0 rfl (lv_at hl 0 rfl) ?_
  refine lv_iload_n E.1 E.2.1 dX6_isIntact_1 rfl (lv_at hl 1 rfl) ?_
  refine kSRE (As := [.int (iI ((64 * ((f.1 : Int) + 1) + (f.2.1 : Int))))]) E cw_X6_52 (c_X6_firstOf G l ((64 * ((f.1 : Int) + 1) + (f.2.1 : Int))) (by omega)) trivial hL hl.1 rfl rfl (Nat.le_of_ble_eq_true rfl) ⟨Nat.le_of_ble_eq_true rfl, Nat.le_of_ble_eq_true rfl⟩ ⟨rfl, rfl⟩ ⟨Nat.le_of_ble_eq_true rfl, Nat.le_of_ble_eq_true rfl⟩ dX6_isIntact_2 (fun locs hL => ?_)
  rw [show (((64 * ((f.1 : Int) + 1) + (f.2.1 : Int))) / 64 - 1 : Int) = (f.1 : Int) by omega]
  refine lv_iload_n E.1 E.2.1 dX6_isIntact_5 rfl (lv_at hl 1 rfl) ?_
  refine kSRE (As := [.int (iI ((64 * ((f.1 : Int) + 1) + (f.2.1 : Int))))]) E cw_X6_56 (c_X6_sizeOf G l ((64 * ((f.1 : Int) + 1) + (f.2.1 : Int))) (by omega)) trivial hL hl.1 rfl rfl (Nat.le_of_ble_eq_true rfl) ⟨Nat.le_of_ble_eq_true rfl, Nat.le_of_ble_eq_true rfl⟩ ⟨rfl, rfl⟩ ⟨Nat.le_of_ble_eq_true rfl, Nat.le_of_ble_eq_true rfl⟩ dX6_isIntact_6 (fun locs hL => ?_)
  rw [show (((64 * ((f.1 : Int) + 1) + (f.2.1 : Int))) % 64 : Int) = (f.2.1 : Int) by omega]
  refine kVRE (As := [.int (iI ((f.1 : Int))), .int (iI ((f.2.1 : Int)))]) E cw_X6_45 (c_X6_isWhole G l g σ _ _ _ _ _ _ _ (f.1) (f.2.1) (by omega)) ho ⟨_, _, rfl⟩ ⟨ho, ha⟩ hL hl.1 rfl rfl (Nat.le_of_ble_eq_true rfl) ⟨Nat.le_of_ble_eq_true rfl, Nat.le_of_ble_eq_true rfl⟩ ⟨rfl, rfl⟩ ⟨Nat.le_of_ble_eq_true rfl, Nat.le_of_ble_eq_true rfl⟩ dX6_isIntact_9 (fun locs hL => ?_)
  refine e_zret (rm := ({ frames := 2, cells := 0, slots := 0, locals := 45 } : Room)) (v := b2i (wholeB (dm σ) (f.1) (f.2.1))) E hL (b2i_nar _) dX6_isIntact_12 ?_
  exact RE_b rfl

set_option maxHeartbeats 4000000 in
set_option maxRecDepth 100000 in
theorem c_X6_sessionAt (G : GG) (l : Launch) (g : Nat) (σ : St) (v3 v5 v6 v7 v8 v9 v10 : Int32) (hI : Inv σ) (x : Nat) (hx : x < 240) : Ct G l yX6_sessionAt cX6_sessionAt 4 (some .int) ({ frames := 1, cells := 0, slots := 0, locals := 22 } : Room) [.ref (g), .int (iI ((x : Int)))] (fun H => MR G g σ v3 v5 v6 v7 v8 v9 v10 H) (RE (iI (oI (sesAt σ x)))) := by
  refine Ct.of (by decide +kernel) (Nat.le_of_ble_eq_true rfl) ?_
  intro p e s m args below meth c ls E hnm hP hl
  obtain ⟨ho, ha⟩ := hP
  have i1 := hI.mn12
  have i2 := hI.nx240
  have i3 := hI.s0b
  have i4 := hI.s1b
  have hl : lv_has ls 4 [(0, .ref (g)), (1, .int (iI ((x : Int))))] := hl
  have hL : Lk G [] := Lk.nil
  generalize ([] : List Loc) = locs at hL ⊢
  refine r_bipush E dX6_sessionAt_0 (by decide) ?_
  refine lv_istore_n (lv' := [(2, .int (iI ((-6)))), (0, .ref (g)), (1, .int (iI ((x : Int))))]) E.1 E.2.1 dX6_sessionAt_2 rfl hl (by decide) rfl (fun ls hl => ?_)
  refine r_const E dX6_sessionAt_3 ?_
  refine lv_istore_n (lv' := [(3, .int (iI (0))), (2, .int (iI ((-6)))), (0, .ref (g)), (1, .int (iI ((x : Int))))]) E.1 E.2.1 dX6_sessionAt_4 rfl hl (by decide) rfl (fun ls hl => ?_)
  have LP5 : ∀ (kin5 : Nat) (k : Nat) (u v : Int) (ls : Array Slot) (locs : List Loc) (hk : k ≤ mn σ) (hu : u = (k : Int)) (hv : v = oI (lastB (fun n => decide (se σ n 1 ≤ x ∧ x < se σ n 1 + se σ n 2)) k)) (hkin5 : mn σ - k = kin5) (hl : lv_has ls 4 [(3, .int (iI (u))), (2, .int (iI (v))), (0, .ref (g)), (1, .int (iI ((x : Int))))]) (hL : Lk G locs), W p l e ({ frames := 1, cells := 0, slots := 0, locals := 22 } : Room) s m args below meth c s.heap locs 0 0 (QQ G below args s ({ frames := 1, cells := 0, slots := 0, locals := 22 } : Room) (RE (iI (oI (sesAt σ x))))) (F0 m 5 ls []) := by
    intro kin5
    induction kin5 using Nat.strongRecOn with
    | ind kin5 ihin5 =>
      intro k u v ls locs hk hu hv hkin5 hl hL
      refine lv_iload_n E.1 E.2.1 dX6_sessionAt_5 rfl (lv_at hl 0 rfl) ?_
      refine lv_aload_n E.1 E.2.1 dX6_sessionAt_6 rfl (lv_at hl 2 rfl) ?_
      refine m_get E ho fw_X6_7 rfl dX6_sessionAt_7 ?_
      refine r_const E dX6_sessionAt_10 ?_
      refine r_iald E ha (1) rfl (by decide) (by decide) dX6_sessionAt_11 ?_
      rw [show encI σ (1) = iI ((mn σ : Nat) : Int) from rfl]
      refine r_icmp_ge (tgt := 55) E dX6_sessionAt_12 (by decide) (by omega) (by omega) (fun c12 => ?_) (fun c12 => ?_)
      · refine lv_iload_n E.1 E.2.1 dX6_sessionAt_55 rfl (lv_at hl 1 rfl) ?_
        refine e_iret (rm := ({ frames := 1, cells := 0, slots := 0, locals := 22 } : Room)) (v := iI (v)) E hL dX6_sessionAt_56 ?_
        have hkn : k = mn σ := by omega
        subst hkn
        exact RE_i hv
      · subst hu
        have hrow := hI.row (n := k) (by omega)
        refine lv_iload_n E.1 E.2.1 dX6_sessionAt_15 rfl (lv_at hl 3 rfl) ?_
        refine lv_aload_n E.1 E.2.1 dX6_sessionAt_16 rfl (lv_at hl 2 rfl) ?_
        refine lv_iload_n E.1 E.2.1 dX6_sessionAt_17 rfl (lv_at hl 0 rfl) ?_
        refine r_const E dX6_sessionAt_18 ?_
        refine kVRE (As := [.int (iI ((k : Int))), .int (iI (1))]) E cw_X6_34 (c_X6_of G l g σ _ _ _ _ _ _ _ (k) (1) (by omega) (by omega)) ho ⟨_, _, rfl⟩ ⟨ho, ha⟩ hL hl.1 rfl rfl (Nat.le_of_ble_eq_true rfl) ⟨Nat.le_of_ble_eq_true rfl, Nat.le_of_ble_eq_true rfl⟩ ⟨rfl, rfl⟩ ⟨Nat.le_of_ble_eq_true rfl, Nat.le_of_ble_eq_true rfl⟩ dX6_sessionAt_19 (fun locs hL => ?_)
        refine lv_aload_n E.1 E.2.1 dX6_sessionAt_22 rfl (lv_at hl 2 rfl) ?_
        refine lv_iload_n E.1 E.2.1 dX6_sessionAt_23 rfl (lv_at hl 0 rfl) ?_
        refine r_const E dX6_sessionAt_24 ?_
        refine kVRE (As := [.int (iI ((k : Int))), .int (iI (1))]) E cw_X6_34 (c_X6_of G l g σ _ _ _ _ _ _ _ (k) (1) (by omega) (by omega)) ho ⟨_, _, rfl⟩ ⟨ho, ha⟩ hL hl.1 rfl rfl (Nat.le_of_ble_eq_true rfl) ⟨Nat.le_of_ble_eq_true rfl, Nat.le_of_ble_eq_true rfl⟩ ⟨rfl, rfl⟩ ⟨Nat.le_of_ble_eq_true rfl, Nat.le_of_ble_eq_true rfl⟩ dX6_sessionAt_25 (fun locs hL => ?_)
        refine lv_aload_n E.1 E.2.1 dX6_sessionAt_28 rfl (lv_at hl 2 rfl) ?_
        refine lv_iload_n E.1 E.2.1 dX6_sessionAt_29 rfl (lv_at hl 0 rfl) ?_
        refine r_const E dX6_sessionAt_30 ?_
        refine kVRE (As := [.int (iI ((k : Int))), .int (iI (2))]) E cw_X6_34 (c_X6_of G l g σ _ _ _ _ _ _ _ (k) (2) (by omega) (by omega)) ho ⟨_, _, rfl⟩ ⟨ho, ha⟩ hL hl.1 rfl rfl (Nat.le_of_ble_eq_true rfl) ⟨Nat.le_of_ble_eq_true rfl, Nat.le_of_ble_eq_true rfl⟩ ⟨rfl, rfl⟩ ⟨Nat.le_of_ble_eq_true rfl, Nat.le_of_ble_eq_true rfl⟩ dX6_sessionAt_31 (fun locs hL => ?_)
        refine r_add E dX6_sessionAt_34 ?_
        refine r_const E dX6_sessionAt_35 ?_
        refine r_sub E dX6_sessionAt_36 ?_
        refine kSRE (As := [.int (iI ((x : Int))), .int (iI ((se σ k 1 : Int))), .int (iI (((se σ k 1 : Int) + (se σ k 2 : Int)) - 1))]) E cw_X6_30 (c_X6_in G l ((x : Int)) ((se σ k 1 : Int)) (((se σ k 1 : Int) + (se σ k 2 : Int)) - 1) (by unfold okI; omega) (by unfold okI; omega) (by unfold okI; omega)) trivial hL hl.1 rfl rfl (Nat.le_of_ble_eq_true rfl) ⟨Nat.le_of_ble_eq_true rfl, Nat.le_of_ble_eq_true rfl⟩ ⟨rfl, rfl⟩ ⟨Nat.le_of_ble_eq_true rfl, Nat.le_of_ble_eq_true rfl⟩ dX6_sessionAt_37 (fun locs hL => ?_)
        refine r_bif_eq (tgt := 47) E dX6_sessionAt_40 (by decide)  (fun c40 => ?_) (fun c40 => ?_)
        · have c40 := of_decide_eq_false c40
          refine lv_iload_n E.1 E.2.1 dX6_sessionAt_47 rfl (lv_at hl 1 rfl) ?_
          refine lv_istore_n (lv' := [(2, .int (iI (v))), (3, .int (iI ((k : Int)))), (0, .ref (g)), (1, .int (iI ((x : Int))))]) E.1 E.2.1 dX6_sessionAt_48 rfl hl (by decide) rfl (fun ls hl => ?_)
          refine r_inc (lv' := [(3, .int (iI ((k : Int) + 1))), (2, .int (iI (v))), (0, .ref (g)), (1, .int (iI ((x : Int))))]) E dX6_sessionAt_49 hl (k := 1) rfl (by decide) rfl (fun ls hl => ?_)
          refine lv_goto (tgt := 5) E.1 E.2.1 dX6_sessionAt_52 (by decide) ?_
          refine ihin5 _ ?_ (k + 1) ((k : Int) + 1) v ls locs ?_ ?_ ?_ rfl (lv_sub hl [0, 1, 2, 3] rfl) hL
          · omega
          · omega
          · omega
          · rw [lastB, if_neg (by rw [decide_eq_true_eq]; omega)]; exact hv
        · have c40 := of_decide_eq_true c40
          refine lv_iload_n E.1 E.2.1 dX6_sessionAt_43 rfl (lv_at hl 0 rfl) ?_
          refine lv_goto (tgt := 48) E.1 E.2.1 dX6_sessionAt_44 (by decide) ?_
          refine lv_istore_n (lv' := [(2, .int (iI ((k : Int)))), (3, .int (iI ((k : Int)))), (0, .ref (g)), (1, .int (iI ((x : Int))))]) E.1 E.2.1 dX6_sessionAt_48 rfl hl (by decide) rfl (fun ls hl => ?_)
          refine r_inc (lv' := [(3, .int (iI ((k : Int) + 1))), (2, .int (iI ((k : Int)))), (0, .ref (g)), (1, .int (iI ((x : Int))))]) E dX6_sessionAt_49 hl (k := 1) rfl (by decide) rfl (fun ls hl => ?_)
          refine lv_goto (tgt := 5) E.1 E.2.1 dX6_sessionAt_52 (by decide) ?_
          refine ihin5 _ ?_ (k + 1) ((k : Int) + 1) ((k : Int)) ls locs ?_ ?_ ?_ rfl (lv_sub hl [0, 1, 2, 3] rfl) hL
          · omega
          · omega
          · omega
          · rw [lastB, if_pos (decide_eq_true (by omega))]; rfl
  refine LP5 _ 0 0 ((-6)) ls locs ?_ ?_ ?_ rfl (lv_sub hl [0, 1, 2, 3] rfl) hL
  · omega
  · omega
  · rfl
