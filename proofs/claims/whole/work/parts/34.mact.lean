set_option maxHeartbeats 4000000 in
set_option maxRecDepth 100000 in
theorem c_X6_lays (G : GG) (l : Launch) (g : Nat) (σ : St) (v3 v5 v6 v7 v8 v9 v10 : Int32) (n k v : Nat) (hn : n < 12) (hk : k < 6) (hga : G.2.2 ≤ g) : Ct G l yX6_lays cX6_lays 4 none ({ frames := 0, cells := 0, slots := 0, locals := 0 } : Room) [.ref (g), .int (iI ((n : Int))), .int (iI ((k : Int))), .int (iI ((v : Int)))] (fun H => MR G g σ v3 v5 v6 v7 v8 v9 v10 H) (WV (MW G g (sSe σ n k v) v3 v5 v6 v7 v8 v9 v10)) := by
  refine Ct.of (by decide +kernel) (Nat.le_of_ble_eq_true rfl) ?_
  intro p e s m args below meth c ls E hnm hP hl
  obtain ⟨ho, ha⟩ := hP
  have hS : FrS (g + 1) (g + 2) s.heap s.heap := FrS.rf
  have hl : lv_has ls 4 [(0, .ref (g)), (1, .int (iI ((n : Int)))), (2, .int (iI ((k : Int)))), (3, .int (iI ((v : Int))))] := hl
  have hL : Lk G [] := Lk.nil
  generalize ([] : List Loc) = locs at hL ⊢
  refine lv_aload_n E.1 E.2.1 dX6_lays_0 rfl (lv_at hl 0 rfl) ?_
  refine m_get E ho fw_X6_7 rfl dX6_lays_1 ?_
  refine r_bipush E dX6_lays_4 (by decide) ?_
  refine r_bipush E dX6_lays_6 (by decide) ?_
  refine lv_iload_n E.1 E.2.1 dX6_lays_8 rfl (lv_at hl 1 rfl) ?_
  refine r_mul E dX6_lays_9 ?_
  refine r_add E dX6_lays_10 ?_
  refine lv_iload_n E.1 E.2.1 dX6_lays_11 rfl (lv_at hl 2 rfl) ?_
  refine r_add E dX6_lays_12 ?_
  refine lv_iload_n E.1 E.2.1 dX6_lays_13 rfl (lv_at hl 3 rfl) ?_
  refine r_iast E ha (32 + 6 * n + k) (by omega) (by omega) (by decide) hL (by omega) dX6_lays_14 (fun H1 locs hL hO_ hF_ => ?_)
  have ho := ho.kept (hF_.2 _ (by omega))
  have hS := hS.trans (FrS.of1 (lo := g + 1) (hi := g + 2) hF_ (by omega) (by omega))
  have ha : Ia G (g + 1) 0 344 (upd (encI σ) (32 + 6 * n + k) (iI ((v : Int)))) H1 := hO_
  clear hO_
  have ha : Ia G (g + 1) 0 344 (encI (sSe σ n k v)) H1 := ha.to (enc_to (up_se σ v hn hk) rfl)
  refine e_vret (rm := ({ frames := 0, cells := 0, slots := 0, locals := 0 } : Room)) E hL dX6_lays_15 ⟨rfl, ?_⟩
  exact ⟨⟨ho, ha⟩, hS⟩

set_option maxHeartbeats 4000000 in
set_option maxRecDepth 100000 in
theorem c_X6_takesSectors (G : GG) (l : Launch) (g : Nat) (σ : St) (v3 v5 v6 v7 v8 v9 v10 : Int32) (n y : Nat) (hn : n < 12) (hga : G.2.2 ≤ g) : Ct G l yX6_takesSectors cX6_takesSectors 3 none ({ frames := 1, cells := 0, slots := 0, locals := 23 } : Room) [.ref (g), .int (iI ((n : Int))), .int (iI ((y : Int)))] (fun H => MR G g σ v3 v5 v6 v7 v8 v9 v10 H) (WV (MW G g (tS σ n y) v3 v5 v6 v7 v8 v9 v10)) := by
  refine Ct.of (by decide +kernel) (Nat.le_of_ble_eq_true rfl) ?_
  intro p e s m args below meth c ls E hnm hP hl
  obtain ⟨ho, ha⟩ := hP
  have hS : FrS (g + 1) (g + 2) s.heap s.heap := FrS.rf
  have hl : lv_has ls 3 [(0, .ref (g)), (1, .int (iI ((n : Int)))), (2, .int (iI ((y : Int))))] := hl
  have hL : Lk G [] := Lk.nil
  generalize ([] : List Loc) = locs at hL ⊢
  refine lv_aload_n E.1 E.2.1 dX6_takesSectors_0 rfl (lv_at hl 0 rfl) ?_
  refine m_get E ho fw_X6_7 rfl dX6_takesSectors_1 ?_
  refine r_const E dX6_takesSectors_4 ?_
  refine lv_dup2_11 E.1 E.2.1 dX6_takesSectors_5 rfl rfl ?_
  refine r_iald E ha (0) rfl (by decide) (by decide) dX6_takesSectors_6 ?_
  rw [show encI σ (0) = iI ((nx σ : Nat) : Int) from rfl]
  refine lv_iload_n E.1 E.2.1 dX6_takesSectors_7 rfl (lv_at hl 2 rfl) ?_
  refine r_add E dX6_takesSectors_8 ?_
  refine r_iast E ha (0) rfl (by decide) (by decide) hL (by omega) dX6_takesSectors_9 (fun H1 locs hL hO_ hF_ => ?_)
  have ho := ho.kept (hF_.2 _ (by omega))
  have hS := hS.trans (FrS.of1 (lo := g + 1) (hi := g + 2) hF_ (by omega) (by omega))
  have ha : Ia G (g + 1) 0 344 (upd (encI σ) (0) (iI ((nx σ : Int) + (y : Int)))) H1 := hO_
  clear hO_
  have ha : Ia G (g + 1) 0 344 (encI (sNx σ (nx σ + y))) H1 := ha.to (enc_to (up_nx σ (nx σ + y)) (by omega))
  refine lv_aload_n E.1 E.2.1 dX6_takesSectors_10 rfl (lv_at hl 0 rfl) ?_
  refine lv_iload_n E.1 E.2.1 dX6_takesSectors_11 rfl (lv_at hl 1 rfl) ?_
  refine r_const E dX6_takesSectors_12 ?_
  refine lv_aload_n E.1 E.2.1 dX6_takesSectors_13 rfl (lv_at hl 0 rfl) ?_
  refine lv_iload_n E.1 E.2.1 dX6_takesSectors_14 rfl (lv_at hl 1 rfl) ?_
  refine r_const E dX6_takesSectors_15 ?_
  refine kVRE (As := [.int (iI ((n : Int))), .int (iI (2))]) E cw_X6_34 (c_X6_of G l g (sNx σ (nx σ + y)) _ _ _ _ _ _ _ (n) (2) (by omega) (by omega)) ho ⟨_, _, rfl⟩ ⟨ho, ha⟩ hL hl.1 rfl rfl (Nat.le_of_ble_eq_true rfl) ⟨Nat.le_of_ble_eq_true rfl, Nat.le_of_ble_eq_true rfl⟩ ⟨rfl, rfl⟩ ⟨Nat.le_of_ble_eq_true rfl, Nat.le_of_ble_eq_true rfl⟩ dX6_takesSectors_16 (fun locs hL => ?_)
  rw [show se (sNx σ (nx σ + y)) n 2 = se σ n 2 from rfl]
  refine lv_iload_n E.1 E.2.1 dX6_takesSectors_19 rfl (lv_at hl 2 rfl) ?_
  refine r_add E dX6_takesSectors_20 ?_
  rw [show ((se σ n 2 : Int) + (y : Int)) = ((se σ n 2 + y : Nat) : Int) by omega]
  refine kVWV (As := [.int (iI ((n : Int))), .int (iI (2)), .int (iI ((se σ n 2 + y : Nat)))]) E cw_X6_59 (c_X6_lays G l g (sNx σ (nx σ + y)) _ _ _ _ _ _ _ (n) (2) (se σ n 2 + y) (by omega) (by omega) hga) ho ⟨_, _, rfl⟩ ⟨ho, ha⟩ hL hl.1 rfl rfl (Nat.le_of_ble_eq_true rfl) ⟨Nat.le_of_ble_eq_true rfl, Nat.le_of_ble_eq_true rfl⟩ ⟨Nat.le_of_ble_eq_true rfl, Nat.le_of_ble_eq_true rfl⟩ dX6_takesSectors_21 (fun H2 locs hL hw_ => ?_)
  obtain ⟨⟨ho, ha⟩, hq⟩ := hw_
  have hS := hS.trans hq
  refine e_vret (rm := ({ frames := 1, cells := 0, slots := 0, locals := 23 } : Room)) E hL dX6_takesSectors_24 ⟨rfl, ?_⟩
  exact ⟨⟨ho, ha⟩, hS⟩

set_option maxHeartbeats 4000000 in
set_option maxRecDepth 100000 in
theorem c_X6_closes (G : GG) (l : Launch) (g : Nat) (σ : St) (v3 v5 v6 v7 v8 v9 v10 : Int32) (n : Nat) (hn : n < 12) (hga : G.2.2 ≤ g) : Ct G l yX6_closes cX6_closes 2 (some .int) ({ frames := 2, cells := 0, slots := 0, locals := 45 } : Room) [.ref (g), .int (iI ((n : Int)))] (fun H => MR G g σ v3 v5 v6 v7 v8 v9 v10 H) (WE (iI (leadOut σ n).1) (MW G g (leadOut σ n).2 v3 v5 v6 v7 v8 v9 v10)) := by
  refine Ct.of (by decide +kernel) (Nat.le_of_ble_eq_true rfl) ?_
  intro p e s m args below meth c ls E hnm hP hl
  obtain ⟨ho, ha⟩ := hP
  have hS : FrS (g + 1) (g + 2) s.heap s.heap := FrS.rf
  have hl : lv_has ls 2 [(0, .ref (g)), (1, .int (iI ((n : Int))))] := hl
  have hL : Lk G [] := Lk.nil
  generalize ([] : List Loc) = locs at hL ⊢
  refine lv_aload_n E.1 E.2.1 dX6_closes_0 rfl (lv_at hl 0 rfl) ?_
  refine lv_iload_n E.1 E.2.1 dX6_closes_1 rfl (lv_at hl 1 rfl) ?_
  refine lv_aload_n E.1 E.2.1 dX6_closes_2 rfl (lv_at hl 0 rfl) ?_
  refine lv_iload_n E.1 E.2.1 dX6_closes_3 rfl (lv_at hl 1 rfl) ?_
  refine r_const E dX6_closes_4 ?_
  refine kVRE (As := [.int (iI ((n : Int))), .int (iI (4))]) E cw_X6_34 (c_X6_of G l g σ _ _ _ _ _ _ _ (n) (4) (by omega) (by omega)) ho ⟨_, _, rfl⟩ ⟨ho, ha⟩ hL hl.1 rfl rfl (Nat.le_of_ble_eq_true rfl) ⟨Nat.le_of_ble_eq_true rfl, Nat.le_of_ble_eq_true rfl⟩ ⟨rfl, rfl⟩ ⟨Nat.le_of_ble_eq_true rfl, Nat.le_of_ble_eq_true rfl⟩ dX6_closes_5 (fun locs hL => ?_)
  refine kVWV (As := [.int (iI ((n : Int))), .int (iI ((se σ n 4 : Int)))]) E cw_X6_70 (c_X6_takesSectors G l g σ _ _ _ _ _ _ _ (n) (se σ n 4) (by omega) hga) ho ⟨_, _, rfl⟩ ⟨ho, ha⟩ hL hl.1 rfl rfl (Nat.le_of_ble_eq_true rfl) ⟨Nat.le_of_ble_eq_true rfl, Nat.le_of_ble_eq_true rfl⟩ ⟨Nat.le_of_ble_eq_true rfl, Nat.le_of_ble_eq_true rfl⟩ dX6_closes_8 (fun H1 locs hL hw_ => ?_)
  obtain ⟨⟨ho, ha⟩, hq⟩ := hw_
  have hS := hS.trans hq
  refine lv_aload_n E.1 E.2.1 dX6_closes_11 rfl (lv_at hl 0 rfl) ?_
  refine lv_iload_n E.1 E.2.1 dX6_closes_12 rfl (lv_at hl 1 rfl) ?_
  refine r_const E dX6_closes_13 ?_
  refine r_const E dX6_closes_14 ?_
  refine kVWV (As := [.int (iI ((n : Int))), .int (iI (0)), .int (iI (1))]) E cw_X6_59 (c_X6_lays G l g (tS σ (n) (se σ n 4)) _ _ _ _ _ _ _ (n) (0) (1) (by omega) (by omega) hga) ho ⟨_, _, rfl⟩ ⟨ho, ha⟩ hL hl.1 rfl rfl (Nat.le_of_ble_eq_true rfl) ⟨Nat.le_of_ble_eq_true rfl, Nat.le_of_ble_eq_true rfl⟩ ⟨Nat.le_of_ble_eq_true rfl, Nat.le_of_ble_eq_true rfl⟩ dX6_closes_15 (fun H2 locs hL hw_ => ?_)
  obtain ⟨⟨ho, ha⟩, hq⟩ := hw_
  have hS := hS.trans hq
  rw [show sSe (tS σ (n) (se σ n 4)) (n) (0) (1) = (leadOut σ n).2 from out_st] at ha
  refine lv_aload_n E.1 E.2.1 dX6_closes_18 rfl (lv_at hl 0 rfl) ?_
  refine m_get E ho fw_X6_7 rfl dX6_closes_19 ?_
  refine r_const E dX6_closes_22 ?_
  refine r_iald E ha (0) rfl (by decide) (by decide) dX6_closes_23 ?_
  rw [show encI (leadOut σ n).2 (0) = iI ((nx (leadOut σ n).2 : Nat) : Int) from rfl]
  refine e_iret (rm := ({ frames := 2, cells := 0, slots := 0, locals := 45 } : Room)) (v := iI ((nx (leadOut σ n).2 : Int))) E hL dX6_closes_24 ?_
  exact ⟨rfl, ⟨⟨ho, ha⟩, hS⟩⟩

set_option maxHeartbeats 4000000 in
set_option maxRecDepth 100000 in
theorem c_X6_goClose (G : GG) (l : Launch) (g : Nat) (σ : St) (v3 v5 v6 v7 v8 v9 v10 : Int32) (hI : Inv σ) (hga : G.2.2 ≤ g) : Ct G l yX6_goClose cX6_goClose 1 (some .int) ({ frames := 3, cells := 0, slots := 0, locals := 66 } : Room) [.ref (g)] (fun H => MR G g σ v3 v5 v6 v7 v8 v9 v10 H) (WE (iI (spClose σ).1) (MW G g (spClose σ).2 v3 v5 v6 v7 v8 v9 v10)) := by
  refine Ct.of (by decide +kernel) (Nat.le_of_ble_eq_true rfl) ?_
  intro p e s m args below meth c ls E hnm hP hl
  obtain ⟨ho, ha⟩ := hP
  have i1 := hI.mn12
  have i2 := hI.nx240
  have i3 := hI.s0b
  have i4 := hI.s1b
  have hS : FrS (g + 1) (g + 2) s.heap s.heap := FrS.rf
  have hl : lv_has ls 1 [(0, .ref (g))] := hl
  have hL : Lk G [] := Lk.nil
  generalize ([] : List Loc) = locs at hL ⊢
  refine lv_aload_n E.1 E.2.1 dX6_goClose_0 rfl (lv_at hl 0 rfl) ?_
  refine kVRE (As := []) E cw_X6_63 (c_X6_openOne G l g σ _ _ _ _ _ _ _ hI) ho ⟨_, _, rfl⟩ ⟨ho, ha⟩ hL hl.1 rfl rfl (Nat.le_of_ble_eq_true rfl) ⟨Nat.le_of_ble_eq_true rfl, Nat.le_of_ble_eq_true rfl⟩ ⟨rfl, rfl⟩ ⟨Nat.le_of_ble_eq_true rfl, Nat.le_of_ble_eq_true rfl⟩ dX6_goClose_1 (fun locs hL => ?_)
  rcases hop : opn σ with _ | n
  · rw [show oI none = -6 from rfl]
    refine r_if_ge (tgt := 12) E dX6_goClose_4 (by decide) (by omega) (fun c4 => absurd c4 (by omega)) (fun c4 => ?_)
    refine r_bipush E dX6_goClose_7 (by decide) ?_
    refine lv_goto (tgt := 20) E.1 E.2.1 dX6_goClose_9 (by decide) ?_
    refine e_iret (rm := ({ frames := 3, cells := 0, slots := 0, locals := 66 } : Room)) (v := iI ((-5))) E hL dX6_goClose_20 ?_
    have hsp : spClose σ = (-5, σ) := by unfold spClose; rw [hop]
    rw [hsp]
    exact ⟨rfl, ⟨⟨ho, ha⟩, hS⟩⟩
  · have hn := (opn_some hop).1
    have hn0 := (opn_some hop).2
    have hrow := hI.row (n := n) (by omega)
    rw [show oI (some n) = (n : Int) from rfl]
    refine r_if_ge (tgt := 12) E dX6_goClose_4 (by decide) (by omega) (fun c4 => ?_) (fun c4 => absurd c4 (by omega))
    refine lv_aload_n E.1 E.2.1 dX6_goClose_12 rfl (lv_at hl 0 rfl) ?_
    refine lv_aload_n E.1 E.2.1 dX6_goClose_13 rfl (lv_at hl 0 rfl) ?_
    refine kVRE (As := []) E cw_X6_63 (c_X6_openOne G l g σ _ _ _ _ _ _ _ hI) ho ⟨_, _, rfl⟩ ⟨ho, ha⟩ hL hl.1 rfl rfl (Nat.le_of_ble_eq_true rfl) ⟨Nat.le_of_ble_eq_true rfl, Nat.le_of_ble_eq_true rfl⟩ ⟨rfl, rfl⟩ ⟨Nat.le_of_ble_eq_true rfl, Nat.le_of_ble_eq_true rfl⟩ dX6_goClose_14 (fun locs hL => ?_)
    rw [show oI (opn σ) = (n : Int) by rw [hop]; rfl]
    refine kVWE (As := [.int (iI ((n : Int)))]) E cw_X6_83 (c_X6_closes G l g σ _ _ _ _ _ _ _ (n) (by omega) hga) ho ⟨_, _, rfl⟩ ⟨ho, ha⟩ hL hl.1 rfl rfl (Nat.le_of_ble_eq_true rfl) ⟨Nat.le_of_ble_eq_true rfl, Nat.le_of_ble_eq_true rfl⟩ ⟨Nat.le_of_ble_eq_true rfl, Nat.le_of_ble_eq_true rfl⟩ dX6_goClose_17 (fun H1 locs hL hw_ => ?_)
    obtain ⟨⟨ho, ha⟩, hq⟩ := hw_
    have hS := hS.trans hq
    refine e_iret (rm := ({ frames := 3, cells := 0, slots := 0, locals := 66 } : Room)) (v := iI ((leadOut σ n).1)) E hL dX6_goClose_20 ?_
    have hsp : spClose σ = leadOut σ n := by unfold spClose; rw [hop]
    rw [hsp]
    exact ⟨rfl, ⟨⟨ho, ha⟩, hS⟩⟩

set_option maxHeartbeats 4000000 in
set_option maxRecDepth 100000 in
theorem c_X6_goEject (G : GG) (l : Launch) (g : Nat) (σ : St) (v3 v5 v6 v7 v8 v9 v10 : Int32) (hI : Inv σ) (hga : G.2.2 ≤ g) : Ct G l yX6_goEject cX6_goEject 2 (some .int) ({ frames := 2, cells := 0, slots := 0, locals := 43 } : Room) [.ref (g)] (fun H => MR G g σ v3 v5 v6 v7 v8 v9 v10 H) (WE (iI (spEject σ).1) (MW G g (spEject σ).2 v3 v5 v6 v7 v8 v9 v10)) := by
  refine Ct.of (by decide +kernel) (Nat.le_of_ble_eq_true rfl) ?_
  intro p e s m args below meth c ls E hnm hP hl
  obtain ⟨ho, ha⟩ := hP
  have i1 := hI.mn12
  have i2 := hI.nx240
  have i3 := hI.s0b
  have i4 := hI.s1b
  have hS : FrS (g + 1) (g + 2) s.heap s.heap := FrS.rf
  have hl : lv_has ls 2 [(0, .ref (g))] := hl
  have hL : Lk G [] := Lk.nil
  generalize ([] : List Loc) = locs at hL ⊢
  refine lv_aload_n E.1 E.2.1 dX6_goEject_0 rfl (lv_at hl 0 rfl) ?_
  refine kVRE (As := []) E cw_X6_63 (c_X6_openOne G l g σ _ _ _ _ _ _ _ hI) ho ⟨_, _, rfl⟩ ⟨ho, ha⟩ hL hl.1 rfl rfl (Nat.le_of_ble_eq_true rfl) ⟨Nat.le_of_ble_eq_true rfl, Nat.le_of_ble_eq_true rfl⟩ ⟨rfl, rfl⟩ ⟨Nat.le_of_ble_eq_true rfl, Nat.le_of_ble_eq_true rfl⟩ dX6_goEject_1 (fun locs hL => ?_)
  rcases hop : opn σ with _ | n
  · rw [show oI none = -6 from rfl]
    refine lv_istore_n (lv' := [(1, .int (iI ((-6)))), (0, .ref (g))]) E.1 E.2.1 dX6_goEject_4 rfl hl (by decide) rfl (fun ls hl => ?_)
    refine lv_iload_n E.1 E.2.1 dX6_goEject_5 rfl (lv_at hl 0 rfl) ?_
    refine r_if_lt (tgt := 16) E dX6_goEject_6 (by decide) (by omega) (fun c6 => ?_) (fun c6 => absurd c6 (by omega))
    refine lv_iload_n E.1 E.2.1 dX6_goEject_16 rfl (lv_at hl 0 rfl) ?_
    refine r_if_ge (tgt := 24) E dX6_goEject_17 (by decide) (by omega) (fun c17 => absurd c17 (by omega)) (fun c17 => ?_)
    refine r_const E dX6_goEject_20 ?_
    refine lv_goto (tgt := 25) E.1 E.2.1 dX6_goEject_21 (by decide) ?_
    refine e_iret (rm := ({ frames := 2, cells := 0, slots := 0, locals := 43 } : Room)) (v := iI (0)) E hL dX6_goEject_25 ?_
    have hsp : spEject σ = (0, σ) := by unfold spEject; rw [hop]
    rw [hsp]
    exact ⟨rfl, ⟨⟨ho, ha⟩, hS⟩⟩
  · have hn := (opn_some hop).1
    have hn0 := (opn_some hop).2
    have hrow := hI.row (n := n) (by omega)
    rw [show oI (some n) = (n : Int) from rfl]
    refine lv_istore_n (lv' := [(1, .int (iI ((n : Int)))), (0, .ref (g))]) E.1 E.2.1 dX6_goEject_4 rfl hl (by decide) rfl (fun ls hl => ?_)
    refine lv_iload_n E.1 E.2.1 dX6_goEject_5 rfl (lv_at hl 0 rfl) ?_
    refine r_if_lt (tgt := 16) E dX6_goEject_6 (by decide) (by omega) (fun c6 => absurd c6 (by omega)) (fun c6 => ?_)
    refine lv_aload_n E.1 E.2.1 dX6_goEject_9 rfl (lv_at hl 1 rfl) ?_
    refine lv_iload_n E.1 E.2.1 dX6_goEject_10 rfl (lv_at hl 0 rfl) ?_
    refine r_const E dX6_goEject_11 ?_
    refine r_const E dX6_goEject_12 ?_
    refine kVWV (As := [.int (iI ((n : Int))), .int (iI (0)), .int (iI (2))]) E cw_X6_59 (c_X6_lays G l g σ _ _ _ _ _ _ _ (n) (0) (2) (by omega) (by omega) hga) ho ⟨_, _, rfl⟩ ⟨ho, ha⟩ hL hl.1 rfl rfl (Nat.le_of_ble_eq_true rfl) ⟨Nat.le_of_ble_eq_true rfl, Nat.le_of_ble_eq_true rfl⟩ ⟨Nat.le_of_ble_eq_true rfl, Nat.le_of_ble_eq_true rfl⟩ dX6_goEject_13 (fun H1 locs hL hw_ => ?_)
    obtain ⟨⟨ho, ha⟩, hq⟩ := hw_
    have hS := hS.trans hq
    refine lv_iload_n E.1 E.2.1 dX6_goEject_16 rfl (lv_at hl 0 rfl) ?_
    refine r_if_ge (tgt := 24) E dX6_goEject_17 (by decide) (by omega) (fun c17 => ?_) (fun c17 => absurd c17 (by omega))
    refine r_const E dX6_goEject_24 ?_
    refine e_iret (rm := ({ frames := 2, cells := 0, slots := 0, locals := 43 } : Room)) (v := iI (1)) E hL dX6_goEject_25 ?_
    have hsp : spEject σ = (1, sSe σ n 0 2) := by unfold spEject; rw [hop]; rfl
    rw [hsp]
    exact ⟨rfl, ⟨⟨ho, ha⟩, hS⟩⟩

set_option maxHeartbeats 4000000 in
set_option maxRecDepth 100000 in
theorem c_X6_goRepair (G : GG) (l : Launch) (g : Nat) (σ : St) (v3 v5 v6 v7 v8 v9 v10 : Int32) (hI : Inv σ) (y : Int) (hy : okI y) (hga : G.2.2 ≤ g) : Ct G l yX6_goRepair cX6_goRepair 3 (some .int) ({ frames := 3, cells := 0, slots := 0, locals := 66 } : Room) [.ref (g), .int (iI (y))] (fun H => MR G g σ v3 v5 v6 v7 v8 v9 v10 H) (WE (iI (spRepair σ y).1) (MW G g (spRepair σ y).2 v3 v5 v6 v7 v8 v9 v10)) := by
  refine Ct.of (by decide +kernel) (Nat.le_of_ble_eq_true rfl) ?_
  intro p e s m args below meth c ls E hnm hP hl
  obtain ⟨ho, ha⟩ := hP
  have i1 := hI.mn12
  have i2 := hI.nx240
  have i3 := hI.s0b
  have i4 := hI.s1b
  obtain ⟨hy1, hy2⟩ := hy
  have hS : FrS (g + 1) (g + 2) s.heap s.heap := FrS.rf
  have hl : lv_has ls 3 [(0, .ref (g)), (1, .int (iI (y)))] := hl
  have hL : Lk G [] := Lk.nil
  generalize ([] : List Loc) = locs at hL ⊢
  refine lv_aload_n E.1 E.2.1 dX6_goRepair_0 rfl (lv_at hl 0 rfl) ?_
  refine lv_iload_n E.1 E.2.1 dX6_goRepair_1 rfl (lv_at hl 1 rfl) ?_
  refine kVRE (As := [.int (iI (y))]) E cw_X6_80 (c_X6_isSession G l g σ _ _ _ _ _ _ _ hI (y) (by unfold okI; omega)) ho ⟨_, _, rfl⟩ ⟨ho, ha⟩ hL hl.1 rfl rfl (Nat.le_of_ble_eq_true rfl) ⟨Nat.le_of_ble_eq_true rfl, Nat.le_of_ble_eq_true rfl⟩ ⟨rfl, rfl⟩ ⟨Nat.le_of_ble_eq_true rfl, Nat.le_of_ble_eq_true rfl⟩ dX6_goRepair_2 (fun locs hL => ?_)
  refine r_bif_ne (tgt := 10) E dX6_goRepair_5 (by decide)  (fun c5 => ?_) (fun c5 => ?_)
  · have c5 := of_decide_eq_true c5
    obtain ⟨n, rfl⟩ : ∃ n : Nat, y = (n : Int) := ⟨y.toNat, by omega⟩
    have hrow := hI.row (n := n) (by omega)
    refine lv_aload_n E.1 E.2.1 dX6_goRepair_10 rfl (lv_at hl 0 rfl) ?_
    refine lv_iload_n E.1 E.2.1 dX6_goRepair_11 rfl (lv_at hl 1 rfl) ?_
    refine r_const E dX6_goRepair_12 ?_
    refine kVRE (As := [.int (iI ((n : Int))), .int (iI (0))]) E cw_X6_34 (c_X6_of G l g σ _ _ _ _ _ _ _ (n) (0) (by omega) (by omega)) ho ⟨_, _, rfl⟩ ⟨ho, ha⟩ hL hl.1 rfl rfl (Nat.le_of_ble_eq_true rfl) ⟨Nat.le_of_ble_eq_true rfl, Nat.le_of_ble_eq_true rfl⟩ ⟨rfl, rfl⟩ ⟨Nat.le_of_ble_eq_true rfl, Nat.le_of_ble_eq_true rfl⟩ dX6_goRepair_13 (fun locs hL => ?_)
    refine r_const E dX6_goRepair_16 ?_
    refine r_icmp_ne (tgt := 55) E dX6_goRepair_17 (by decide) (by omega) (by omega) (fun c17 => ?_) (fun c17 => ?_)
    · refine r_const E dX6_goRepair_55 ?_
      refine lv_istore_n (lv' := [(2, .int (iI (0))), (0, .ref (g)), (1, .int (iI ((n : Int))))]) E.1 E.2.1 dX6_goRepair_56 rfl hl (by decide) rfl (fun ls hl => ?_)
      refine lv_iload_n E.1 E.2.1 dX6_goRepair_57 rfl (lv_at hl 0 rfl) ?_
      refine r_if_eq (tgt := 69) E dX6_goRepair_58 (by decide) (by omega) (fun c58 => ?_) (fun c58 => absurd c58 (by omega))
      refine r_bipush E dX6_goRepair_69 (by decide) ?_
      refine e_iret (rm := ({ frames := 3, cells := 0, slots := 0, locals := 66 } : Room)) (v := iI ((-5))) E hL dX6_goRepair_71 ?_
      have hsp : spRepair σ (n : Int) = (-5, σ) := by unfold spRepair; rw [if_neg (by omega), Int.toNat_natCast, if_neg]; first | (rintro ⟨q1, q2, q3⟩; omega) | (rintro ⟨q1, q2, q3⟩; rw [c48] at q3; cases q3)
      rw [hsp]
      exact ⟨rfl, ⟨⟨ho, ha⟩, hS⟩⟩
    · refine lv_iload_n E.1 E.2.1 dX6_goRepair_20 rfl (lv_at hl 1 rfl) ?_
      refine lv_aload_n E.1 E.2.1 dX6_goRepair_21 rfl (lv_at hl 0 rfl) ?_
      refine m_get E ho fw_X6_7 rfl dX6_goRepair_22 ?_
      refine r_const E dX6_goRepair_25 ?_
      refine r_iald E ha (1) rfl (by decide) (by decide) dX6_goRepair_26 ?_
      rw [show encI σ (1) = iI ((mn σ : Nat) : Int) from rfl]
      refine r_const E dX6_goRepair_27 ?_
      refine r_sub E dX6_goRepair_28 ?_
      refine r_icmp_ne (tgt := 55) E dX6_goRepair_29 (by decide) (by omega) (by omega) (fun c29 => ?_) (fun c29 => ?_)
      · refine r_const E dX6_goRepair_55 ?_
        refine lv_istore_n (lv' := [(2, .int (iI (0))), (0, .ref (g)), (1, .int (iI ((n : Int))))]) E.1 E.2.1 dX6_goRepair_56 rfl hl (by decide) rfl (fun ls hl => ?_)
        refine lv_iload_n E.1 E.2.1 dX6_goRepair_57 rfl (lv_at hl 0 rfl) ?_
        refine r_if_eq (tgt := 69) E dX6_goRepair_58 (by decide) (by omega) (fun c58 => ?_) (fun c58 => absurd c58 (by omega))
        refine r_bipush E dX6_goRepair_69 (by decide) ?_
        refine e_iret (rm := ({ frames := 3, cells := 0, slots := 0, locals := 66 } : Room)) (v := iI ((-5))) E hL dX6_goRepair_71 ?_
        have hsp : spRepair σ (n : Int) = (-5, σ) := by unfold spRepair; rw [if_neg (by omega), Int.toNat_natCast, if_neg]; first | (rintro ⟨q1, q2, q3⟩; omega) | (rintro ⟨q1, q2, q3⟩; rw [c48] at q3; cases q3)
        rw [hsp]
        exact ⟨rfl, ⟨⟨ho, ha⟩, hS⟩⟩
      · refine lv_aload_n E.1 E.2.1 dX6_goRepair_32 rfl (lv_at hl 0 rfl) ?_
        refine lv_aload_n E.1 E.2.1 dX6_goRepair_33 rfl (lv_at hl 0 rfl) ?_
        refine lv_iload_n E.1 E.2.1 dX6_goRepair_34 rfl (lv_at hl 1 rfl) ?_
        refine r_const E dX6_goRepair_35 ?_
        refine kVRE (As := [.int (iI ((n : Int))), .int (iI (1))]) E cw_X6_34 (c_X6_of G l g σ _ _ _ _ _ _ _ (n) (1) (by omega) (by omega)) ho ⟨_, _, rfl⟩ ⟨ho, ha⟩ hL hl.1 rfl rfl (Nat.le_of_ble_eq_true rfl) ⟨Nat.le_of_ble_eq_true rfl, Nat.le_of_ble_eq_true rfl⟩ ⟨rfl, rfl⟩ ⟨Nat.le_of_ble_eq_true rfl, Nat.le_of_ble_eq_true rfl⟩ dX6_goRepair_36 (fun locs hL => ?_)
        refine lv_aload_n E.1 E.2.1 dX6_goRepair_39 rfl (lv_at hl 0 rfl) ?_
        refine lv_iload_n E.1 E.2.1 dX6_goRepair_40 rfl (lv_at hl 1 rfl) ?_
        refine r_const E dX6_goRepair_41 ?_
        refine kVRE (As := [.int (iI ((n : Int))), .int (iI (3))]) E cw_X6_34 (c_X6_of G l g σ _ _ _ _ _ _ _ (n) (3) (by omega) (by omega)) ho ⟨_, _, rfl⟩ ⟨ho, ha⟩ hL hl.1 rfl rfl (Nat.le_of_ble_eq_true rfl) ⟨Nat.le_of_ble_eq_true rfl, Nat.le_of_ble_eq_true rfl⟩ ⟨rfl, rfl⟩ ⟨Nat.le_of_ble_eq_true rfl, Nat.le_of_ble_eq_true rfl⟩ dX6_goRepair_42 (fun locs hL => ?_)
        refine kVRE (As := [.int (iI ((se σ n 1 : Int))), .int (iI ((se σ n 3 : Int)))]) E cw_X6_45 (c_X6_isWhole G l g σ _ _ _ _ _ _ _ (se σ n 1) (se σ n 3) (by omega)) ho ⟨_, _, rfl⟩ ⟨ho, ha⟩ hL hl.1 rfl rfl (Nat.le_of_ble_eq_true rfl) ⟨Nat.le_of_ble_eq_true rfl, Nat.le_of_ble_eq_true rfl⟩ ⟨rfl, rfl⟩ ⟨Nat.le_of_ble_eq_true rfl, Nat.le_of_ble_eq_true rfl⟩ dX6_goRepair_45 (fun locs hL => ?_)
        refine r_bif_eq (tgt := 55) E dX6_goRepair_48 (by decide)  (fun c48 => ?_) (fun c48 => ?_)
        · refine r_const E dX6_goRepair_55 ?_
          refine lv_istore_n (lv' := [(2, .int (iI (0))), (0, .ref (g)), (1, .int (iI ((n : Int))))]) E.1 E.2.1 dX6_goRepair_56 rfl hl (by decide) rfl (fun ls hl => ?_)
          refine lv_iload_n E.1 E.2.1 dX6_goRepair_57 rfl (lv_at hl 0 rfl) ?_
          refine r_if_eq (tgt := 69) E dX6_goRepair_58 (by decide) (by omega) (fun c58 => ?_) (fun c58 => absurd c58 (by omega))
          refine r_bipush E dX6_goRepair_69 (by decide) ?_
          refine e_iret (rm := ({ frames := 3, cells := 0, slots := 0, locals := 66 } : Room)) (v := iI ((-5))) E hL dX6_goRepair_71 ?_
          have hsp : spRepair σ (n : Int) = (-5, σ) := by unfold spRepair; rw [if_neg (by omega), Int.toNat_natCast, if_neg]; first | (rintro ⟨q1, q2, q3⟩; omega) | (rintro ⟨q1, q2, q3⟩; rw [c48] at q3; cases q3)
          rw [hsp]
          exact ⟨rfl, ⟨⟨ho, ha⟩, hS⟩⟩
        · refine r_const E dX6_goRepair_51 ?_
          refine lv_goto (tgt := 56) E.1 E.2.1 dX6_goRepair_52 (by decide) ?_
          refine lv_istore_n (lv' := [(2, .int (iI (1))), (0, .ref (g)), (1, .int (iI ((n : Int))))]) E.1 E.2.1 dX6_goRepair_56 rfl hl (by decide) rfl (fun ls hl => ?_)
          refine lv_iload_n E.1 E.2.1 dX6_goRepair_57 rfl (lv_at hl 0 rfl) ?_
          refine r_if_eq (tgt := 69) E dX6_goRepair_58 (by decide) (by omega) (fun c58 => absurd c58 (by omega)) (fun c58 => ?_)
          refine lv_aload_n E.1 E.2.1 dX6_goRepair_61 rfl (lv_at hl 1 rfl) ?_
          refine lv_iload_n E.1 E.2.1 dX6_goRepair_62 rfl (lv_at hl 2 rfl) ?_
          refine kVWE (As := [.int (iI ((n : Int)))]) E cw_X6_83 (c_X6_closes G l g σ _ _ _ _ _ _ _ (n) (by omega) hga) ho ⟨_, _, rfl⟩ ⟨ho, ha⟩ hL hl.1 rfl rfl (Nat.le_of_ble_eq_true rfl) ⟨Nat.le_of_ble_eq_true rfl, Nat.le_of_ble_eq_true rfl⟩ ⟨Nat.le_of_ble_eq_true rfl, Nat.le_of_ble_eq_true rfl⟩ dX6_goRepair_63 (fun H1 locs hL hw_ => ?_)
          obtain ⟨⟨ho, ha⟩, hq⟩ := hw_
          have hS := hS.trans hq
          refine lv_goto (tgt := 71) E.1 E.2.1 dX6_goRepair_66 (by decide) ?_
          refine e_iret (rm := ({ frames := 3, cells := 0, slots := 0, locals := 66 } : Room)) (v := iI ((leadOut σ n).1)) E hL dX6_goRepair_71 ?_
          have hsp : spRepair σ (n : Int) = leadOut σ n := by unfold spRepair; rw [if_neg (by omega), Int.toNat_natCast, if_pos ⟨by omega, by omega, c48⟩]
          rw [hsp]
          exact ⟨rfl, ⟨⟨ho, ha⟩, hS⟩⟩
  · have c5 := of_decide_eq_false c5
    refine r_const E dX6_goRepair_8 ?_
    refine e_iret (rm := ({ frames := 3, cells := 0, slots := 0, locals := 66 } : Room)) (v := iI ((-1))) E hL dX6_goRepair_9 ?_
    have hsp : spRepair σ y = (-1, σ) := by unfold spRepair; rw [if_pos (by omega)]
    rw [hsp]
    exact ⟨rfl, ⟨⟨ho, ha⟩, hS⟩⟩

set_option maxHeartbeats 4000000 in
set_option maxRecDepth 100000 in
theorem c_X6_damages (G : GG) (l : Launch) (g : Nat) (σ : St) (v3 v5 v6 v7 v8 v9 v10 : Int32) : Ct G l yX6_damages cX6_damages 3 (some .int) ({ frames := 1, cells := 0, slots := 0, locals := 21 } : Room) [.ref (g)] (fun H => MR G g σ v3 v5 v6 v7 v8 v9 v10 H) (RE (iI (cntB (dm σ) 240))) := by
  refine Ct.of (by decide +kernel) (Nat.le_of_ble_eq_true rfl) ?_
  intro p e s m args below meth c ls E hnm hP hl
  obtain ⟨ho, ha⟩ := hP
  have hl : lv_has ls 3 [(0, .ref (g))] := hl
  have hL : Lk G [] := Lk.nil
  generalize ([] : List Loc) = locs at hL ⊢
  refine r_const E dX6_damages_0 ?_
  refine lv_istore_n (lv' := [(1, .int (iI (0))), (0, .ref (g))]) E.1 E.2.1 dX6_damages_1 rfl hl (by decide) rfl (fun ls hl => ?_)
  refine r_const E dX6_damages_2 ?_
  refine lv_istore_n (lv' := [(2, .int (iI (0))), (1, .int (iI (0))), (0, .ref (g))]) E.1 E.2.1 dX6_damages_3 rfl hl (by decide) rfl (fun ls hl => ?_)
  have LP4 : ∀ (kin4 : Nat) (k : Nat) (u v : Int) (ls : Array Slot) (locs : List Loc) (hk : k ≤ 240) (hu : u = (k : Int)) (hv : v = (cntB (dm σ) k : Nat)) (hkin4 : 240 - k = kin4) (hl : lv_has ls 3 [(2, .int (iI (u))), (1, .int (iI (v))), (0, .ref (g))]) (hL : Lk G locs), W p l e ({ frames := 1, cells := 0, slots := 0, locals := 21 } : Room) s m args below meth c s.heap locs 0 0 (QQ G below args s ({ frames := 1, cells := 0, slots := 0, locals := 21 } : Room) (RE (iI (cntB (dm σ) 240)))) (F0 m 4 ls []) := by
    intro kin4
    induction kin4 using Nat.strongRecOn with
    | ind kin4 ihin4 =>
      intro k u v ls locs hk hu hv hkin4 hl hL
      refine lv_iload_n E.1 E.2.1 dX6_damages_4 rfl (lv_at hl 0 rfl) ?_
      refine r_sipush E dX6_damages_5 (by decide) ?_
      refine r_icmp_ge (tgt := 33) E dX6_damages_8 (by decide) (by omega) (by omega) (fun c8 => ?_) (fun c8 => ?_)
      · refine lv_iload_n E.1 E.2.1 dX6_damages_33 rfl (lv_at hl 1 rfl) ?_
        refine e_iret (rm := ({ frames := 1, cells := 0, slots := 0, locals := 21 } : Room)) (v := iI (v)) E hL dX6_damages_34 ?_
        have hk20 : k = 240 := by omega
        subst hk20
        exact RE_i hv
      · subst hu
        refine lv_iload_n E.1 E.2.1 dX6_damages_11 rfl (lv_at hl 1 rfl) ?_
        refine lv_aload_n E.1 E.2.1 dX6_damages_12 rfl (lv_at hl 2 rfl) ?_
        refine lv_iload_n E.1 E.2.1 dX6_damages_13 rfl (lv_at hl 0 rfl) ?_
        refine kVRE (As := [.int (iI ((k : Int)))]) E cw_X6_41 (c_X6_isHurt G l g σ _ _ _ _ _ _ _ (k) (by omega)) ho ⟨_, _, rfl⟩ ⟨ho, ha⟩ hL hl.1 rfl rfl (Nat.le_of_ble_eq_true rfl) ⟨Nat.le_of_ble_eq_true rfl, Nat.le_of_ble_eq_true rfl⟩ ⟨rfl, rfl⟩ ⟨Nat.le_of_ble_eq_true rfl, Nat.le_of_ble_eq_true rfl⟩ dX6_damages_14 (fun locs hL => ?_)
        refine r_bif_eq (tgt := 24) E dX6_damages_17 (by decide)  (fun c17 => ?_) (fun c17 => ?_)
        · refine r_const E dX6_damages_24 ?_
          refine r_add E dX6_damages_25 ?_
          refine lv_istore_n (lv' := [(1, .int (iI (v + 0))), (2, .int (iI ((k : Int)))), (0, .ref (g))]) E.1 E.2.1 dX6_damages_26 rfl hl (by decide) rfl (fun ls hl => ?_)
          refine r_inc (lv' := [(2, .int (iI ((k : Int) + 1))), (1, .int (iI (v + 0))), (0, .ref (g))]) E dX6_damages_27 hl (k := 1) rfl (by decide) rfl (fun ls hl => ?_)
          refine lv_goto (tgt := 4) E.1 E.2.1 dX6_damages_30 (by decide) ?_
          refine ihin4 _ ?_ (k + 1) ((k : Int) + 1) (v + 0) ls locs ?_ ?_ ?_ rfl (lv_sub hl [0, 1, 2] rfl) hL
          · omega
          · omega
          · omega
          · rw [hv]; simp [cntB, c17]
        · refine r_const E dX6_damages_20 ?_
          refine lv_goto (tgt := 25) E.1 E.2.1 dX6_damages_21 (by decide) ?_
          refine r_add E dX6_damages_25 ?_
          refine lv_istore_n (lv' := [(1, .int (iI (v + 1))), (2, .int (iI ((k : Int)))), (0, .ref (g))]) E.1 E.2.1 dX6_damages_26 rfl hl (by decide) rfl (fun ls hl => ?_)
          refine r_inc (lv' := [(2, .int (iI ((k : Int) + 1))), (1, .int (iI (v + 1))), (0, .ref (g))]) E dX6_damages_27 hl (k := 1) rfl (by decide) rfl (fun ls hl => ?_)
          refine lv_goto (tgt := 4) E.1 E.2.1 dX6_damages_30 (by decide) ?_
          refine ihin4 _ ?_ (k + 1) ((k : Int) + 1) (v + 1) ls locs ?_ ?_ ?_ rfl (lv_sub hl [0, 1, 2] rfl) hL
          · omega
          · omega
          · omega
          · rw [hv]; simp [cntB, c17]
  refine LP4 _ 0 0 0 ls locs ?_ ?_ ?_ rfl (lv_sub hl [0, 1, 2] rfl) hL
  · omega
  · rfl
  · rfl

set_option maxHeartbeats 4000000 in
set_option maxRecDepth 100000 in
theorem c_X6_hurtOf (G : GG) (l : Launch) (g : Nat) (σ : St) (v3 v5 v6 v7 v8 v9 v10 : Int32) (k : Nat) (hk : k < 240) (hga : G.2.2 ≤ g) : Ct G l yX6_hurtOf cX6_hurtOf 3 (some .int) ({ frames := 0, cells := 0, slots := 0, locals := 0 } : Room) [.ref (g), .int (iI ((k : Int)))] (fun H => MR G g σ v3 v5 v6 v7 v8 v9 v10 H) (WE (iI ((bitsN (dm σ) (30 * (k / 30)) 30) : Nat)) (MW G g (sDm σ k) v3 v5 v6 v7 v8 v9 v10)) := by
  refine Ct.of (by decide +kernel) (Nat.le_of_ble_eq_true rfl) ?_
  intro p e s m args below meth c ls E hnm hP hl
  obtain ⟨ho, ha⟩ := hP
  have hS : FrS (g + 1) (g + 2) s.heap s.heap := FrS.rf
  have hl : lv_has ls 3 [(0, .ref (g)), (1, .int (iI ((k : Int))))] := hl
  have hL : Lk G [] := Lk.nil
  generalize ([] : List Loc) = locs at hL ⊢
  refine lv_aload_n E.1 E.2.1 dX6_hurtOf_0 rfl (lv_at hl 0 rfl) ?_
  refine m_get E ho fw_X6_7 rfl dX6_hurtOf_1 ?_
  refine r_const E dX6_hurtOf_4 ?_
  refine lv_iload_n E.1 E.2.1 dX6_hurtOf_5 rfl (lv_at hl 1 rfl) ?_
  refine r_bipush E dX6_hurtOf_6 (by decide) ?_
  refine r_div E dX6_hurtOf_8 (by omega) (by omega) (by omega) (by omega) ?_
  refine r_add E dX6_hurtOf_9 ?_
  refine r_iald E ha (4 + k / 30) (by omega) (by omega) (by decide) dX6_hurtOf_10 ?_
  rw [show encI σ (4 + k / 30) = iI ((bitsN (dm σ) (30 * (k / 30)) 30 : Nat) : Int) from congrArg (fun z : Nat => iI (z : Int)) (enc_dm (w := k / 30) (by omega))]
  refine lv_istore_n (lv' := [(2, .int (iI ((bitsN (dm σ) (30 * (k / 30)) 30 : Int)))), (0, .ref (g)), (1, .int (iI ((k : Int))))]) E.1 E.2.1 dX6_hurtOf_11 rfl hl (by decide) rfl (fun ls hl => ?_)
  refine lv_aload_n E.1 E.2.1 dX6_hurtOf_12 rfl (lv_at hl 1 rfl) ?_
  refine m_get E ho fw_X6_7 rfl dX6_hurtOf_13 ?_
  refine r_const E dX6_hurtOf_16 ?_
  refine lv_iload_n E.1 E.2.1 dX6_hurtOf_17 rfl (lv_at hl 2 rfl) ?_
  refine r_bipush E dX6_hurtOf_18 (by decide) ?_
  refine r_div E dX6_hurtOf_20 (by omega) (by omega) (by omega) (by omega) ?_
  refine r_add E dX6_hurtOf_21 ?_
  refine lv_dup2_11 E.1 E.2.1 dX6_hurtOf_22 rfl rfl ?_
  refine r_iald E ha (4 + k / 30) (by omega) (by omega) (by decide) dX6_hurtOf_23 ?_
  rw [show encI σ (4 + k / 30) = iI ((bitsN (dm σ) (30 * (k / 30)) 30 : Nat) : Int) from congrArg (fun z : Nat => iI (z : Int)) (enc_dm (w := k / 30) (by omega))]
  refine r_const E dX6_hurtOf_24 ?_
  refine lv_iload_n E.1 E.2.1 dX6_hurtOf_25 rfl (lv_at hl 2 rfl) ?_
  refine r_bipush E dX6_hurtOf_26 (by decide) ?_
  refine r_rem E dX6_hurtOf_28 (by omega) (by omega) (by omega) (by omega) ?_
  refine lv_ishl E.1 E.2.1 dX6_hurtOf_29 ?_
  refine lv_ior E.1 E.2.1 dX6_hurtOf_30 ?_
  rw [i_setk]
  refine r_iast E ha (4 + k / 30) (by omega) (by omega) (by decide) hL (by omega) dX6_hurtOf_31 (fun H1 locs hL hO_ hF_ => ?_)
  have ho := ho.kept (hF_.2 _ (by omega))
  have hS := hS.trans (FrS.of1 (lo := g + 1) (hi := g + 2) hF_ (by omega) (by omega))
  have ha : Ia G (g + 1) 0 344 (upd (encI σ) (4 + k / 30) (iI (((bitsN (va_up (dm σ) k true) (30 * (k / 30)) 30 : Nat) : Int)))) H1 := hO_
  clear hO_
  have ha : Ia G (g + 1) 0 344 (encI (sDm σ k)) H1 := ha.to (enc_to (up_dmk σ (by omega)) rfl)
  refine lv_iload_n E.1 E.2.1 dX6_hurtOf_32 rfl (lv_at hl 0 rfl) ?_
  refine e_iret (rm := ({ frames := 0, cells := 0, slots := 0, locals := 0 } : Room)) (v := iI ((bitsN (dm σ) (30 * (k / 30)) 30 : Int))) E hL dX6_hurtOf_33 ?_
  exact ⟨rfl, ⟨⟨ho, ha⟩, hS⟩⟩

set_option maxHeartbeats 4000000 in
set_option maxRecDepth 100000 in
theorem c_X6_goDamage (G : GG) (l : Launch) (g : Nat) (σ : St) (v3 v5 v6 v7 v8 v9 v10 : Int32) (hI : Inv σ) (y : Int) (hy : okI y) (hga : G.2.2 ≤ g) : Ct G l yX6_goDamage cX6_goDamage 2 (some .int) ({ frames := 2, cells := 0, slots := 0, locals := 43 } : Room) [.ref (g), .int (iI (y))] (fun H => MR G g σ v3 v5 v6 v7 v8 v9 v10 H) (WE (iI (spDamage σ y).1) (MW G g (spDamage σ y).2 v3 v5 v6 v7 v8 v9 v10)) := by
  refine Ct.of (by decide +kernel) (Nat.le_of_ble_eq_true rfl) ?_
  intro p e s m args below meth c ls E hnm hP hl
  obtain ⟨ho, ha⟩ := hP
  have i1 := hI.mn12
  have i2 := hI.nx240
  have i3 := hI.s0b
  have i4 := hI.s1b
  obtain ⟨hy1, hy2⟩ := hy
  have hS : FrS (g + 1) (g + 2) s.heap s.heap := FrS.rf
  have hl : lv_has ls 2 [(0, .ref (g)), (1, .int (iI (y)))] := hl
  have hL : Lk G [] := Lk.nil
  generalize ([] : List Loc) = locs at hL ⊢
  refine lv_iload_n E.1 E.2.1 dX6_goDamage_0 rfl (lv_at hl 1 rfl) ?_
  refine kSRE (As := [.int (iI (y))]) E cw_X6_86 (c_X6_isSector G l (y) (by unfold okI; omega)) trivial hL hl.1 rfl rfl (Nat.le_of_ble_eq_true rfl) ⟨Nat.le_of_ble_eq_true rfl, Nat.le_of_ble_eq_true rfl⟩ ⟨rfl, rfl⟩ ⟨Nat.le_of_ble_eq_true rfl, Nat.le_of_ble_eq_true rfl⟩ dX6_goDamage_1 (fun locs hL => ?_)
  refine r_bif_ne (tgt := 9) E dX6_goDamage_4 (by decide)  (fun c4 => ?_) (fun c4 => ?_)
  · have c4 := of_decide_eq_true c4
    obtain ⟨k, rfl⟩ : ∃ k : Nat, y = (k : Int) := ⟨y.toNat, by omega⟩
    refine lv_aload_n E.1 E.2.1 dX6_goDamage_9 rfl (lv_at hl 0 rfl) ?_
    refine m_get E ho fw_X6_7 rfl dX6_goDamage_10 ?_
    refine r_const E dX6_goDamage_13 ?_
    refine lv_iload_n E.1 E.2.1 dX6_goDamage_14 rfl (lv_at hl 1 rfl) ?_
    refine r_bipush E dX6_goDamage_15 (by decide) ?_
    refine r_div E dX6_goDamage_17 (by omega) (by omega) (by omega) (by omega) ?_
    refine r_add E dX6_goDamage_18 ?_
    refine lv_dup2_11 E.1 E.2.1 dX6_goDamage_19 rfl rfl ?_
    refine r_iald E ha (4 + k / 30) (by omega) (by omega) (by decide) dX6_goDamage_20 ?_
    rw [show encI σ (4 + k / 30) = iI ((bitsN (dm σ) (30 * (k / 30)) 30 : Nat) : Int) from congrArg (fun z : Nat => iI (z : Int)) (enc_dm (w := k / 30) (by omega))]
    refine r_const E dX6_goDamage_21 ?_
    refine lv_iload_n E.1 E.2.1 dX6_goDamage_22 rfl (lv_at hl 1 rfl) ?_
    refine r_bipush E dX6_goDamage_23 (by decide) ?_
    refine r_rem E dX6_goDamage_25 (by omega) (by omega) (by omega) (by omega) ?_
    refine lv_ishl E.1 E.2.1 dX6_goDamage_26 ?_
    refine lv_ior E.1 E.2.1 dX6_goDamage_27 ?_
    rw [i_setk]
    refine r_iast E ha (4 + k / 30) (by omega) (by omega) (by decide) hL (by omega) dX6_goDamage_28 (fun H1 locs hL hO_ hF_ => ?_)
    have ho := ho.kept (hF_.2 _ (by omega))
    have hS := hS.trans (FrS.of1 (lo := g + 1) (hi := g + 2) hF_ (by omega) (by omega))
    have ha : Ia G (g + 1) 0 344 (upd (encI σ) (4 + k / 30) (iI (((bitsN (va_up (dm σ) k true) (30 * (k / 30)) 30 : Nat) : Int)))) H1 := hO_
    clear hO_
    have ha : Ia G (g + 1) 0 344 (encI (sDm σ k)) H1 := ha.to (enc_to (up_dmk σ (by omega)) rfl)
    refine lv_aload_n E.1 E.2.1 dX6_goDamage_29 rfl (lv_at hl 0 rfl) ?_
    refine kVRE (As := []) E cw_X6_89 (c_X6_damages G l g (sDm σ k) _ _ _ _ _ _ _ ) ho ⟨_, _, rfl⟩ ⟨ho, ha⟩ hL hl.1 rfl rfl (Nat.le_of_ble_eq_true rfl) ⟨Nat.le_of_ble_eq_true rfl, Nat.le_of_ble_eq_true rfl⟩ ⟨rfl, rfl⟩ ⟨Nat.le_of_ble_eq_true rfl, Nat.le_of_ble_eq_true rfl⟩ dX6_goDamage_30 (fun locs hL => ?_)
    refine e_iret (rm := ({ frames := 2, cells := 0, slots := 0, locals := 43 } : Room)) (v := iI ((cntB (dm (sDm σ k)) 240 : Int))) E hL dX6_goDamage_33 ?_
    have hsp : spDamage σ (k : Int) = ((cntB (dm (sDm σ k)) 240 : Int), sDm σ k) := by unfold spDamage; rw [if_neg (by omega), Int.toNat_natCast]; rfl
    rw [hsp]
    exact ⟨rfl, ⟨⟨ho, ha⟩, hS⟩⟩
  · have c4 := of_decide_eq_false c4
    refine r_const E dX6_goDamage_7 ?_
    refine e_iret (rm := ({ frames := 2, cells := 0, slots := 0, locals := 43 } : Room)) (v := iI ((-1))) E hL dX6_goDamage_8 ?_
    have hsp : spDamage σ y = (-1, σ) := by unfold spDamage; rw [if_pos (by omega)]
    rw [hsp]
    exact ⟨rfl, ⟨⟨ho, ha⟩, hS⟩⟩

set_option maxHeartbeats 4000000 in
set_option maxRecDepth 100000 in
theorem c_X6_goSet (G : GG) (l : Launch) (g : Nat) (σ : St) (v3 v5 v6 v7 v8 v9 v10 : Int32) (hI : Inv σ) (y z : Int) (hy : okI y) (hz : okI z) (hga : G.2.2 ≤ g) : Ct G l yX6_goSet cX6_goSet 4 (some .int) ({ frames := 1, cells := 0, slots := 0, locals := 22 } : Room) [.ref (g), .int (iI (y)), .int (iI (z))] (fun H => MR G g σ v3 v5 v6 v7 v8 v9 v10 H) (WE (iI (spSet σ y z).1) (MW G g (spSet σ y z).2 v3 v5 v6 v7 v8 v9 v10)) := by
  refine Ct.of (by decide +kernel) (Nat.le_of_ble_eq_true rfl) ?_
  intro p e s m args below meth c ls E hnm hP hl
  obtain ⟨ho, ha⟩ := hP
  have i1 := hI.mn12
  have i2 := hI.nx240
  have i3 := hI.s0b
  have i4 := hI.s1b
  obtain ⟨hy1, hy2⟩ := hy
  obtain ⟨hz1, hz2⟩ := hz
  have hS : FrS (g + 1) (g + 2) s.heap s.heap := FrS.rf
  have hl : lv_has ls 4 [(0, .ref (g)), (1, .int (iI (y))), (2, .int (iI (z)))] := hl
  have hL : Lk G [] := Lk.nil
  generalize ([] : List Loc) = locs at hL ⊢
  refine lv_iload_n E.1 E.2.1 dX6_goSet_0 rfl (lv_at hl 1 rfl) ?_
  refine r_const E dX6_goSet_1 ?_
  refine r_const E dX6_goSet_2 ?_
  refine kSRE (As := [.int (iI (y)), .int (iI (0)), .int (iI (1))]) E cw_X6_30 (c_X6_in G l (y) (0) (1) (by unfold okI; omega) (by unfold okI; omega) (by unfold okI; omega)) trivial hL hl.1 rfl rfl (Nat.le_of_ble_eq_true rfl) ⟨Nat.le_of_ble_eq_true rfl, Nat.le_of_ble_eq_true rfl⟩ ⟨rfl, rfl⟩ ⟨Nat.le_of_ble_eq_true rfl, Nat.le_of_ble_eq_true rfl⟩ dX6_goSet_3 (fun locs hL => ?_)
  refine r_bif_ne (tgt := 11) E dX6_goSet_6 (by decide)  (fun c6 => ?_) (fun c6 => ?_)
  · have c6 := of_decide_eq_true c6
    rcases (show y = 0 ∨ y = 1 by omega) with rfl | rfl
    · refine lv_iload_n E.1 E.2.1 dX6_goSet_11 rfl (lv_at hl 2 rfl) ?_
      refine lv_iload_n E.1 E.2.1 dX6_goSet_12 rfl (lv_at hl 1 rfl) ?_
      refine r_if_ne (tgt := 20) E dX6_goSet_13 (by decide) (by omega) (fun c13 => absurd c13 (by omega)) (fun c13 => ?_)
      refine r_const E dX6_goSet_16 ?_
      refine lv_goto (tgt := 21) E.1 E.2.1 dX6_goSet_17 (by decide) ?_
      refine r_bipush E dX6_goSet_21 (by decide) ?_
      refine kSRE (As := [.int (iI (z)), .int (iI (2)), .int (iI (9))]) E cw_X6_30 (c_X6_in G l (z) (2) (9) (by unfold okI; omega) (by unfold okI; omega) (by unfold okI; omega)) trivial hL hl.1 rfl rfl (Nat.le_of_ble_eq_true rfl) ⟨Nat.le_of_ble_eq_true rfl, Nat.le_of_ble_eq_true rfl⟩ ⟨rfl, rfl⟩ ⟨Nat.le_of_ble_eq_true rfl, Nat.le_of_ble_eq_true rfl⟩ dX6_goSet_23 (fun locs hL => ?_)
      refine r_bif_ne (tgt := 32) E dX6_goSet_26 (by decide)  (fun c26 => ?_) (fun c26 => ?_)
      · have c26 := of_decide_eq_true c26
        obtain ⟨v, rfl⟩ : ∃ v : Nat, z = (v : Int) := ⟨z.toNat, by omega⟩
        refine lv_aload_n E.1 E.2.1 dX6_goSet_32 rfl (lv_at hl 0 rfl) ?_
        refine m_get E ho fw_X6_7 rfl dX6_goSet_33 ?_
        refine r_const E dX6_goSet_36 ?_
        refine lv_iload_n E.1 E.2.1 dX6_goSet_37 rfl (lv_at hl 1 rfl) ?_
        refine r_add E dX6_goSet_38 ?_
        refine r_iald E ha (2) (by omega) (by decide) (by decide) dX6_goSet_39 ?_
        rw [show encI σ (2) = iI ((s0 σ : Nat) : Int) from rfl]
        refine lv_istore_n (lv' := [(3, .int (iI ((s0 σ : Int)))), (0, .ref (g)), (1, .int (iI (0))), (2, .int (iI ((v : Int))))]) E.1 E.2.1 dX6_goSet_40 rfl hl (by decide) rfl (fun ls hl => ?_)
        refine lv_aload_n E.1 E.2.1 dX6_goSet_41 rfl (lv_at hl 1 rfl) ?_
        refine m_get E ho fw_X6_7 rfl dX6_goSet_42 ?_
        refine r_const E dX6_goSet_45 ?_
        refine lv_iload_n E.1 E.2.1 dX6_goSet_46 rfl (lv_at hl 2 rfl) ?_
        refine r_add E dX6_goSet_47 ?_
        refine lv_iload_n E.1 E.2.1 dX6_goSet_48 rfl (lv_at hl 3 rfl) ?_
        refine r_iast E ha (2) (by omega) (by decide) (by decide) hL (by omega) dX6_goSet_49 (fun H1 locs hL hO_ hF_ => ?_)
        have ho := ho.kept (hF_.2 _ (by omega))
        have hS := hS.trans (FrS.of1 (lo := g + 1) (hi := g + 2) hF_ (by omega) (by omega))
        have ha : Ia G (g + 1) 0 344 (upd (encI σ) (2) (iI ((v : Int)))) H1 := hO_
        clear hO_
        have ha : Ia G (g + 1) 0 344 (encI (sS0 σ v)) H1 := ha.to (enc_to (up_s0 σ v) rfl)
        refine lv_iload_n E.1 E.2.1 dX6_goSet_50 rfl (lv_at hl 0 rfl) ?_
        refine e_iret (rm := ({ frames := 1, cells := 0, slots := 0, locals := 22 } : Room)) (v := iI ((s0 σ : Int))) E hL dX6_goSet_51 ?_
        have hsp : spSet σ 0 (v : Int) = ((s0 σ : Int), sS0 σ v) := by unfold spSet; rw [if_neg (by omega), if_pos rfl, if_pos (by omega), Int.toNat_natCast]; rfl
        rw [hsp]
        exact ⟨rfl, ⟨⟨ho, ha⟩, hS⟩⟩
      · have c26 := of_decide_eq_false c26
        refine r_bipush E dX6_goSet_29 (by decide) ?_
        refine e_iret (rm := ({ frames := 1, cells := 0, slots := 0, locals := 22 } : Room)) (v := iI ((-2))) E hL dX6_goSet_31 ?_
        have hsp : spSet σ 0 z = (-2, σ) := by unfold spSet; rw [if_neg (by omega), if_pos rfl, if_neg (by omega)]
        rw [hsp]
        exact ⟨rfl, ⟨⟨ho, ha⟩, hS⟩⟩
    · refine lv_iload_n E.1 E.2.1 dX6_goSet_11 rfl (lv_at hl 2 rfl) ?_
      refine lv_iload_n E.1 E.2.1 dX6_goSet_12 rfl (lv_at hl 1 rfl) ?_
      refine r_if_ne (tgt := 20) E dX6_goSet_13 (by decide) (by omega) (fun c13 => ?_) (fun c13 => absurd c13 (by omega))
      refine r_const E dX6_goSet_20 ?_
      refine r_bipush E dX6_goSet_21 (by decide) ?_
      refine kSRE (As := [.int (iI (z)), .int (iI (1)), .int (iI (9))]) E cw_X6_30 (c_X6_in G l (z) (1) (9) (by unfold okI; omega) (by unfold okI; omega) (by unfold okI; omega)) trivial hL hl.1 rfl rfl (Nat.le_of_ble_eq_true rfl) ⟨Nat.le_of_ble_eq_true rfl, Nat.le_of_ble_eq_true rfl⟩ ⟨rfl, rfl⟩ ⟨Nat.le_of_ble_eq_true rfl, Nat.le_of_ble_eq_true rfl⟩ dX6_goSet_23 (fun locs hL => ?_)
      refine r_bif_ne (tgt := 32) E dX6_goSet_26 (by decide)  (fun c26 => ?_) (fun c26 => ?_)
      · have c26 := of_decide_eq_true c26
        obtain ⟨v, rfl⟩ : ∃ v : Nat, z = (v : Int) := ⟨z.toNat, by omega⟩
        refine lv_aload_n E.1 E.2.1 dX6_goSet_32 rfl (lv_at hl 0 rfl) ?_
        refine m_get E ho fw_X6_7 rfl dX6_goSet_33 ?_
        refine r_const E dX6_goSet_36 ?_
        refine lv_iload_n E.1 E.2.1 dX6_goSet_37 rfl (lv_at hl 1 rfl) ?_
        refine r_add E dX6_goSet_38 ?_
        refine r_iald E ha (3) (by omega) (by decide) (by decide) dX6_goSet_39 ?_
        rw [show encI σ (3) = iI ((s1 σ : Nat) : Int) from rfl]
        refine lv_istore_n (lv' := [(3, .int (iI ((s1 σ : Int)))), (0, .ref (g)), (1, .int (iI (1))), (2, .int (iI ((v : Int))))]) E.1 E.2.1 dX6_goSet_40 rfl hl (by decide) rfl (fun ls hl => ?_)
        refine lv_aload_n E.1 E.2.1 dX6_goSet_41 rfl (lv_at hl 1 rfl) ?_
        refine m_get E ho fw_X6_7 rfl dX6_goSet_42 ?_
        refine r_const E dX6_goSet_45 ?_
        refine lv_iload_n E.1 E.2.1 dX6_goSet_46 rfl (lv_at hl 2 rfl) ?_
        refine r_add E dX6_goSet_47 ?_
        refine lv_iload_n E.1 E.2.1 dX6_goSet_48 rfl (lv_at hl 3 rfl) ?_
        refine r_iast E ha (3) (by omega) (by decide) (by decide) hL (by omega) dX6_goSet_49 (fun H1 locs hL hO_ hF_ => ?_)
        have ho := ho.kept (hF_.2 _ (by omega))
        have hS := hS.trans (FrS.of1 (lo := g + 1) (hi := g + 2) hF_ (by omega) (by omega))
        have ha : Ia G (g + 1) 0 344 (upd (encI σ) (3) (iI ((v : Int)))) H1 := hO_
        clear hO_
        have ha : Ia G (g + 1) 0 344 (encI (sS1 σ v)) H1 := ha.to (enc_to (up_s1 σ v) rfl)
        refine lv_iload_n E.1 E.2.1 dX6_goSet_50 rfl (lv_at hl 0 rfl) ?_
        refine e_iret (rm := ({ frames := 1, cells := 0, slots := 0, locals := 22 } : Room)) (v := iI ((s1 σ : Int))) E hL dX6_goSet_51 ?_
        have hsp : spSet σ 1 (v : Int) = ((s1 σ : Int), sS1 σ v) := by unfold spSet; rw [if_neg (by omega), if_neg (by omega), if_pos (by omega), Int.toNat_natCast]; rfl
        rw [hsp]
        exact ⟨rfl, ⟨⟨ho, ha⟩, hS⟩⟩
      · have c26 := of_decide_eq_false c26
        refine r_bipush E dX6_goSet_29 (by decide) ?_
        refine e_iret (rm := ({ frames := 1, cells := 0, slots := 0, locals := 22 } : Room)) (v := iI ((-2))) E hL dX6_goSet_31 ?_
        have hsp : spSet σ 1 z = (-2, σ) := by unfold spSet; rw [if_neg (by omega), if_neg (by omega), if_neg (by omega)]
        rw [hsp]
        exact ⟨rfl, ⟨⟨ho, ha⟩, hS⟩⟩
  · have c6 := of_decide_eq_false c6
    refine r_const E dX6_goSet_9 ?_
    refine e_iret (rm := ({ frames := 1, cells := 0, slots := 0, locals := 22 } : Room)) (v := iI ((-1))) E hL dX6_goSet_10 ?_
    have hsp : spSet σ y z = (-1, σ) := by unfold spSet; rw [if_pos (by omega)]
    rw [hsp]
    exact ⟨rfl, ⟨⟨ho, ha⟩, hS⟩⟩

set_option maxHeartbeats 4000000 in
set_option maxRecDepth 100000 in
theorem c_X6_validIf (G : GG) (l : Launch) (g : Nat) (σ : St) (v3 v5 v6 v7 v8 v9 v10 : Int32) (hI : Inv σ) (y : Int) (hy : okI y) (hga : G.2.2 ≤ g) : Ct G l yX6_validIf cX6_validIf 4 (some .int) ({ frames := 4, cells := 0, slots := 0, locals := 87 } : Room) [.ref (g), .int (iI (y))] (fun H => MR G g σ v3 v5 v6 v7 v8 v9 v10 H) (WE (iI (spValidIf σ y)) (MW G g σ v3 v5 v6 v7 v8 v9 v10)) := by
  refine Ct.of (by decide +kernel) (Nat.le_of_ble_eq_true rfl) ?_
  intro p e s m args below meth c ls E hnm hP hl
  obtain ⟨ho, ha⟩ := hP
  have i1 := hI.mn12
  have i2 := hI.nx240
  have i3 := hI.s0b
  have i4 := hI.s1b
  obtain ⟨hy1, hy2⟩ := hy
  have hS : FrS (g + 1) (g + 2) s.heap s.heap := FrS.rf
  have hl : lv_has ls 4 [(0, .ref (g)), (1, .int (iI (y)))] := hl
  have hL : Lk G [] := Lk.nil
  generalize ([] : List Loc) = locs at hL ⊢
  refine lv_iload_n E.1 E.2.1 dX6_validIf_0 rfl (lv_at hl 1 rfl) ?_
  refine kSRE (As := [.int (iI (y))]) E cw_X6_86 (c_X6_isSector G l (y) (by unfold okI; omega)) trivial hL hl.1 rfl rfl (Nat.le_of_ble_eq_true rfl) ⟨Nat.le_of_ble_eq_true rfl, Nat.le_of_ble_eq_true rfl⟩ ⟨rfl, rfl⟩ ⟨Nat.le_of_ble_eq_true rfl, Nat.le_of_ble_eq_true rfl⟩ dX6_validIf_1 (fun locs hL => ?_)
  refine r_bif_ne (tgt := 9) E dX6_validIf_4 (by decide)  (fun c4 => ?_) (fun c4 => ?_)
  · have c4 := of_decide_eq_true c4
    obtain ⟨k, rfl⟩ : ∃ k : Nat, y = (k : Int) := ⟨y.toNat, by omega⟩
    refine lv_aload_n E.1 E.2.1 dX6_validIf_9 rfl (lv_at hl 0 rfl) ?_
    refine lv_iload_n E.1 E.2.1 dX6_validIf_10 rfl (lv_at hl 1 rfl) ?_
    refine kVWE (As := [.int (iI ((k : Int)))]) E cw_X6_182 (c_X6_hurtOf G l g σ _ _ _ _ _ _ _ k (by omega) hga) ho ⟨_, _, rfl⟩ ⟨ho, ha⟩ hL hl.1 rfl rfl (Nat.le_of_ble_eq_true rfl) ⟨Nat.le_of_ble_eq_true rfl, Nat.le_of_ble_eq_true rfl⟩ ⟨Nat.le_of_ble_eq_true rfl, Nat.le_of_ble_eq_true rfl⟩ dX6_validIf_11 (fun H1 locs hL hw_ => ?_)
    obtain ⟨⟨ho, ha⟩, hq⟩ := hw_
    have hS := hS.trans hq
    refine lv_istore_n (lv' := [(2, .int (iI ((bitsN (dm σ) (30 * (k / 30)) 30 : Int)))), (0, .ref (g)), (1, .int (iI ((k : Int))))]) E.1 E.2.1 dX6_validIf_14 rfl hl (by decide) rfl (fun ls hl => ?_)
    refine lv_aload_n E.1 E.2.1 dX6_validIf_15 rfl (lv_at hl 1 rfl) ?_
    refine kVRE (As := []) E cw_X6_67 (c_X6_validOne G l g (sDm σ k) _ _ _ _ _ _ _ (hI.dmk k)) ho ⟨_, _, rfl⟩ ⟨ho, ha⟩ hL hl.1 rfl rfl (Nat.le_of_ble_eq_true rfl) ⟨Nat.le_of_ble_eq_true rfl, Nat.le_of_ble_eq_true rfl⟩ ⟨rfl, rfl⟩ ⟨Nat.le_of_ble_eq_true rfl, Nat.le_of_ble_eq_true rfl⟩ dX6_validIf_16 (fun locs hL => ?_)
    refine lv_istore_n (lv' := [(3, .int (iI (oI (validD (sDm σ k) (dm (sDm σ k)))))), (2, .int (iI ((bitsN (dm σ) (30 * (k / 30)) 30 : Int)))), (0, .ref (g)), (1, .int (iI ((k : Int))))]) E.1 E.2.1 dX6_validIf_19 rfl hl (by decide) rfl (fun ls hl => ?_)
    refine lv_aload_n E.1 E.2.1 dX6_validIf_20 rfl (lv_at hl 2 rfl) ?_
    refine m_get E ho fw_X6_7 rfl dX6_validIf_21 ?_
    refine r_const E dX6_validIf_24 ?_
    refine lv_iload_n E.1 E.2.1 dX6_validIf_25 rfl (lv_at hl 3 rfl) ?_
    refine r_bipush E dX6_validIf_26 (by decide) ?_
    refine r_div E dX6_validIf_28 (by omega) (by omega) (by omega) (by omega) ?_
    refine r_add E dX6_validIf_29 ?_
    refine lv_iload_n E.1 E.2.1 dX6_validIf_30 rfl (lv_at hl 1 rfl) ?_
    refine r_iast E ha (4 + k / 30) (by omega) (by omega) (by decide) hL (by omega) dX6_validIf_31 (fun H2 locs hL hO_ hF_ => ?_)
    have ho := ho.kept (hF_.2 _ (by omega))
    have hS := hS.trans (FrS.of1 (lo := g + 1) (hi := g + 2) hF_ (by omega) (by omega))
    have ha : Ia G (g + 1) 0 344 (upd (encI (sDm σ k)) (4 + k / 30) (iI ((bitsN (dm σ) (30 * (k / 30)) 30 : Int)))) H2 := hO_
    clear hO_
    have ha : Ia G (g + 1) 0 344 (encI σ) H2 := ha.to (enc_to (up_dmk0 σ (by omega)) rfl)
    refine lv_iload_n E.1 E.2.1 dX6_validIf_32 rfl (lv_at hl 0 rfl) ?_
    refine e_iret (rm := ({ frames := 4, cells := 0, slots := 0, locals := 87 } : Room)) (v := iI (oI (validD (sDm σ k) (dm (sDm σ k))))) E hL dX6_validIf_33 ?_
    have hsp : spValidIf σ (k : Int) = oI (validD σ (dmH σ (k : Int))) := by unfold spValidIf; rw [if_neg (by omega)]
    rw [hsp, validD_up]
    exact ⟨rfl, ⟨⟨ho, ha⟩, hS⟩⟩
  · have c4 := of_decide_eq_false c4
    refine r_const E dX6_validIf_7 ?_
    refine e_iret (rm := ({ frames := 4, cells := 0, slots := 0, locals := 87 } : Room)) (v := iI ((-1))) E hL dX6_validIf_8 ?_
    have hsp : spValidIf σ y = -1 := by unfold spValidIf; rw [if_pos (by omega)]
    rw [hsp]
    exact ⟨rfl, ⟨⟨ho, ha⟩, hS⟩⟩

theorem worstA_1 {f : Nat → Nat} {k c : Nat} (hc : f k = c) : worstA f (k + 1) = if c < (worstA f k).2 then (k, c) else worstA f k := by subst hc; rfl
theorem worstA_le (f : Nat → Nat) : ∀ k, (worstA f k).2 ≤ 21 ∧ (worstA f k).1 ≤ k
  | 0 => ⟨Nat.le_refl 21, Nat.le_refl 0⟩
  | k + 1 => by
    have h := worstA_le f k
    rw [worstA]
    split
    · exact ⟨by show f k ≤ 21; omega, by show k ≤ k + 1; omega⟩
    · exact ⟨h.1, by omega⟩
set_option maxHeartbeats 4000000 in
set_option maxRecDepth 100000 in
theorem c_X6_worstSector (G : GG) (l : Launch) (g : Nat) (σ : St) (v3 v5 v6 v7 v8 v9 v10 : Int32) (hI : Inv σ) (hga : G.2.2 ≤ g) : Ct G l yX6_worstSector cX6_worstSector 6 (some .int) ({ frames := 5, cells := 0, slots := 0, locals := 111 } : Room) [.ref (g)] (fun H => MR G g σ v3 v5 v6 v7 v8 v9 v10 H) (WE (iI (worstN σ : Nat)) (MW G g σ v3 v5 v6 v7 v8 v9 v10)) := by
  refine Ct.of (by decide +kernel) (Nat.le_of_ble_eq_true rfl) ?_
  intro p e s m args below meth c ls E hnm hP hl
  obtain ⟨ho, ha⟩ := hP
  have i1 := hI.mn12
  have i2 := hI.nx240
  have i3 := hI.s0b
  have i4 := hI.s1b
  have hS : FrS (g + 1) (g + 2) s.heap s.heap := FrS.rf
  have hl : lv_has ls 6 [(0, .ref (g))] := hl
  have hL : Lk G [] := Lk.nil
  generalize ([] : List Loc) = locs at hL ⊢
  refine r_const E dX6_worstSector_0 ?_
  refine lv_istore_n (lv' := [(1, .int (iI (0))), (0, .ref (g))]) E.1 E.2.1 dX6_worstSector_1 rfl hl (by decide) rfl (fun ls hl => ?_)
  refine r_bipush E dX6_worstSector_2 (by decide) ?_
  refine lv_istore_n (lv' := [(2, .int (iI (21))), (1, .int (iI (0))), (0, .ref (g))]) E.1 E.2.1 dX6_worstSector_4 rfl hl (by decide) rfl (fun ls hl => ?_)
  refine r_const E dX6_worstSector_5 ?_
  refine lv_istore_n (lv' := [(3, .int (iI (0))), (2, .int (iI (21))), (1, .int (iI (0))), (0, .ref (g))]) E.1 E.2.1 dX6_worstSector_6 rfl hl (by decide) rfl (fun ls hl => ?_)
  have LP7 : ∀ (kin7 : Nat) (k : Nat) (H : Heap) (u v z : Int) (ls : Array Slot) (locs : List Loc) (hk : k ≤ 240) (hu : u = (k : Int)) (hv : v = ((worstA (fun k => cntIntact σ (dmH σ (k : Int))) k).1 : Int)) (hz : z = ((worstA (fun k => cntIntact σ (dmH σ (k : Int))) k).2 : Int)) (ho : Ob G g 6 [.ref (g + 1), .ref (g + 2), .ref (g + 3), .int v3, .ref (g + 4), .int v5, .int v6, .int v7, .int v8, .int v9, .int v10] H) (ha : Ia G (g + 1) 0 344 (encI σ) H) (hS : FrS (g + 1) (g + 2) s.heap H) (hkin7 : 240 - k = kin7) (hl : lv_has ls 6 [(3, .int (iI (u))), (1, .int (iI (v))), (2, .int (iI (z))), (0, .ref (g))]) (hL : Lk G locs), W p l e ({ frames := 5, cells := 0, slots := 0, locals := 111 } : Room) s m args below meth c H locs 0 0 (QQ G below args s ({ frames := 5, cells := 0, slots := 0, locals := 111 } : Room) (WE (iI (worstN σ : Nat)) (MW G g σ v3 v5 v6 v7 v8 v9 v10))) (F0 m 7 ls []) := by
    intro kin7
    induction kin7 using Nat.strongRecOn with
    | ind kin7 ihin7 =>
      intro k H u v z ls locs hk hu hv hz ho ha hS hkin7 hl hL
      refine lv_iload_n E.1 E.2.1 dX6_worstSector_7 rfl (lv_at hl 0 rfl) ?_
      refine r_sipush E dX6_worstSector_8 (by decide) ?_
      refine r_icmp_ge (tgt := 71) E dX6_worstSector_11 (by decide) (by omega) (by omega) (fun c11 => ?_) (fun c11 => ?_)
      · refine lv_iload_n E.1 E.2.1 dX6_worstSector_71 rfl (lv_at hl 1 rfl) ?_
        refine e_iret (rm := ({ frames := 5, cells := 0, slots := 0, locals := 111 } : Room)) (v := iI (v)) E hL dX6_worstSector_72 ?_
        have hk9 : k = 240 := by omega
        subst hk9
        exact ⟨by rw [hv]; rfl, ⟨⟨ho, ha⟩, hS⟩⟩
      · subst hu
        have hwb := worstA_le (fun k => cntIntact σ (dmH σ (k : Int))) k
        refine lv_aload_n E.1 E.2.1 dX6_worstSector_14 rfl (lv_at hl 3 rfl) ?_
        refine lv_iload_n E.1 E.2.1 dX6_worstSector_15 rfl (lv_at hl 0 rfl) ?_
        refine kVWE (As := [.int (iI ((k : Int)))]) E cw_X6_182 (c_X6_hurtOf G l g σ _ _ _ _ _ _ _ k (by omega) hga) ho ⟨_, _, rfl⟩ ⟨ho, ha⟩ hL hl.1 rfl rfl (Nat.le_of_ble_eq_true rfl) ⟨Nat.le_of_ble_eq_true rfl, Nat.le_of_ble_eq_true rfl⟩ ⟨Nat.le_of_ble_eq_true rfl, Nat.le_of_ble_eq_true rfl⟩ dX6_worstSector_16 (fun H1 locs hL hw_ => ?_)
        obtain ⟨⟨ho, ha⟩, hq⟩ := hw_
        have hS := hS.trans hq
        refine lv_istore (lv' := [(4, .int (iI ((bitsN (dm σ) (30 * (k / 30)) 30 : Int)))), (3, .int (iI ((k : Int)))), (1, .int (iI (v))), (2, .int (iI (z))), (0, .ref (g))]) E.1 E.2.1 dX6_worstSector_19 hl (by decide) rfl (fun ls hl => ?_)
        refine lv_aload_n E.1 E.2.1 dX6_worstSector_21 rfl (lv_at hl 4 rfl) ?_
        refine kVRE (As := []) E cw_X6_173 (c_X6_wholeFiles G l g (sDm σ k) _ _ _ _ _ _ _ (hI.dmk k)) ho ⟨_, _, rfl⟩ ⟨ho, ha⟩ hL hl.1 rfl rfl (Nat.le_of_ble_eq_true rfl) ⟨Nat.le_of_ble_eq_true rfl, Nat.le_of_ble_eq_true rfl⟩ ⟨rfl, rfl⟩ ⟨Nat.le_of_ble_eq_true rfl, Nat.le_of_ble_eq_true rfl⟩ dX6_worstSector_22 (fun locs hL => ?_)
        have hcb := cntIntact_le σ (dmH σ (k : Int))
        rw [cnt_up]
        refine lv_istore (lv' := [(5, .int (iI ((cntIntact σ (dmH σ (k : Int)) : Int)))), (4, .int (iI ((bitsN (dm σ) (30 * (k / 30)) 30 : Int)))), (3, .int (iI ((k : Int)))), (1, .int (iI (v))), (2, .int (iI (z))), (0, .ref (g))]) E.1 E.2.1 dX6_worstSector_25 hl (by decide) rfl (fun ls hl => ?_)
        refine lv_aload_n E.1 E.2.1 dX6_worstSector_27 rfl (lv_at hl 5 rfl) ?_
        refine m_get E ho fw_X6_7 rfl dX6_worstSector_28 ?_
        refine r_const E dX6_worstSector_31 ?_
        refine lv_iload_n E.1 E.2.1 dX6_worstSector_32 rfl (lv_at hl 2 rfl) ?_
        refine r_bipush E dX6_worstSector_33 (by decide) ?_
        refine r_div E dX6_worstSector_35 (by omega) (by omega) (by omega) (by omega) ?_
        refine r_add E dX6_worstSector_36 ?_
        refine lv_iload E.1 E.2.1 dX6_worstSector_37 (lv_at hl 1 rfl) ?_
        refine r_iast E ha (4 + k / 30) (by omega) (by omega) (by decide) hL (by omega) dX6_worstSector_39 (fun H2 locs hL hO_ hF_ => ?_)
        have ho := ho.kept (hF_.2 _ (by omega))
        have hS := hS.trans (FrS.of1 (lo := g + 1) (hi := g + 2) hF_ (by omega) (by omega))
        have ha : Ia G (g + 1) 0 344 (upd (encI (sDm σ k)) (4 + k / 30) (iI ((bitsN (dm σ) (30 * (k / 30)) 30 : Int)))) H2 := hO_
        clear hO_
        have ha : Ia G (g + 1) 0 344 (encI σ) H2 := ha.to (enc_to (up_dmk0 σ (by omega)) rfl)
        refine lv_iload E.1 E.2.1 dX6_worstSector_40 (lv_at hl 0 rfl) ?_
        refine lv_iload_n E.1 E.2.1 dX6_worstSector_42 rfl (lv_at hl 4 rfl) ?_
        refine r_icmp_ge (tgt := 50) E dX6_worstSector_43 (by decide) (by omega) (by omega) (fun c43 => ?_) (fun c43 => ?_)
        · refine lv_iload_n E.1 E.2.1 dX6_worstSector_50 rfl (lv_at hl 3 rfl) ?_
          refine lv_istore_n (lv' := [(1, .int (iI (v))), (5, .int (iI ((cntIntact σ (dmH σ (k : Int)) : Int)))), (4, .int (iI ((bitsN (dm σ) (30 * (k / 30)) 30 : Int)))), (3, .int (iI ((k : Int)))), (2, .int (iI (z))), (0, .ref (g))]) E.1 E.2.1 dX6_worstSector_51 rfl hl (by decide) rfl (fun ls hl => ?_)
          refine lv_iload E.1 E.2.1 dX6_worstSector_52 (lv_at hl 1 rfl) ?_
          refine lv_iload_n E.1 E.2.1 dX6_worstSector_54 rfl (lv_at hl 4 rfl) ?_
          refine r_icmp_ge (tgt := 63) E dX6_worstSector_55 (by decide) (by omega) (by omega) (fun c55 => ?_) (fun c55 => ?_)
          · refine lv_iload_n E.1 E.2.1 dX6_worstSector_63 rfl (lv_at hl 4 rfl) ?_
            refine lv_istore_n (lv' := [(2, .int (iI (z))), (1, .int (iI (v))), (5, .int (iI ((cntIntact σ (dmH σ (k : Int)) : Int)))), (4, .int (iI ((bitsN (dm σ) (30 * (k / 30)) 30 : Int)))), (3, .int (iI ((k : Int)))), (0, .ref (g))]) E.1 E.2.1 dX6_worstSector_64 rfl hl (by decide) rfl (fun ls hl => ?_)
            refine r_inc (lv' := [(3, .int (iI ((k : Int) + 1))), (2, .int (iI (z))), (1, .int (iI (v))), (5, .int (iI ((cntIntact σ (dmH σ (k : Int)) : Int)))), (4, .int (iI ((bitsN (dm σ) (30 * (k / 30)) 30 : Int)))), (0, .ref (g))]) E dX6_worstSector_65 hl (k := 4) rfl (by decide) rfl (fun ls hl => ?_)
            refine lv_goto (tgt := 7) E.1 E.2.1 dX6_worstSector_68 (by decide) ?_
            refine ihin7 _ ?_ (k + 1) H2 ((k : Int) + 1) v z ls locs ?_ ?_ ?_ ?_ ?_ ?_ ?_ rfl (lv_sub hl [0, 2, 1, 5] rfl) hL
            · omega
            · omega
            · omega
            · rw [worstA_1 (c := cntIntact σ (dmH σ (k : Int))) rfl]; split <;> first | omega | (simp only []; omega)
            · rw [worstA_1 (c := cntIntact σ (dmH σ (k : Int))) rfl]; split <;> first | omega | (simp only []; omega)
            · exact ho
            · exact ha
            · exact hS
          · refine lv_iload E.1 E.2.1 dX6_worstSector_58 (lv_at hl 1 rfl) ?_
            refine lv_goto (tgt := 64) E.1 E.2.1 dX6_worstSector_60 (by decide) ?_
            refine lv_istore_n (lv' := [(2, .int (iI ((cntIntact σ (dmH σ (k : Int)) : Int)))), (1, .int (iI (v))), (5, .int (iI ((cntIntact σ (dmH σ (k : Int)) : Int)))), (4, .int (iI ((bitsN (dm σ) (30 * (k / 30)) 30 : Int)))), (3, .int (iI ((k : Int)))), (0, .ref (g))]) E.1 E.2.1 dX6_worstSector_64 rfl hl (by decide) rfl (fun ls hl => ?_)
            refine r_inc (lv' := [(3, .int (iI ((k : Int) + 1))), (2, .int (iI ((cntIntact σ (dmH σ (k : Int)) : Int)))), (1, .int (iI (v))), (5, .int (iI ((cntIntact σ (dmH σ (k : Int)) : Int)))), (4, .int (iI ((bitsN (dm σ) (30 * (k / 30)) 30 : Int)))), (0, .ref (g))]) E dX6_worstSector_65 hl (k := 4) rfl (by decide) rfl (fun ls hl => ?_)
            refine lv_goto (tgt := 7) E.1 E.2.1 dX6_worstSector_68 (by decide) ?_
            refine ihin7 _ ?_ (k + 1) H2 ((k : Int) + 1) v ((cntIntact σ (dmH σ (k : Int)) : Int)) ls locs ?_ ?_ ?_ ?_ ?_ ?_ ?_ rfl (lv_sub hl [0, 2, 1, 5] rfl) hL
            · omega
            · omega
            · omega
            · rw [worstA_1 (c := cntIntact σ (dmH σ (k : Int))) rfl]; split <;> first | omega | (simp only []; omega)
            · rw [worstA_1 (c := cntIntact σ (dmH σ (k : Int))) rfl]; split <;> first | omega | (simp only []; omega)
            · exact ho
            · exact ha
            · exact hS
        · refine lv_iload_n E.1 E.2.1 dX6_worstSector_46 rfl (lv_at hl 2 rfl) ?_
          refine lv_goto (tgt := 51) E.1 E.2.1 dX6_worstSector_47 (by decide) ?_
          refine lv_istore_n (lv' := [(1, .int (iI ((k : Int)))), (5, .int (iI ((cntIntact σ (dmH σ (k : Int)) : Int)))), (4, .int (iI ((bitsN (dm σ) (30 * (k / 30)) 30 : Int)))), (3, .int (iI ((k : Int)))), (2, .int (iI (z))), (0, .ref (g))]) E.1 E.2.1 dX6_worstSector_51 rfl hl (by decide) rfl (fun ls hl => ?_)
          refine lv_iload E.1 E.2.1 dX6_worstSector_52 (lv_at hl 1 rfl) ?_
          refine lv_iload_n E.1 E.2.1 dX6_worstSector_54 rfl (lv_at hl 4 rfl) ?_
          refine r_icmp_ge (tgt := 63) E dX6_worstSector_55 (by decide) (by omega) (by omega) (fun c55 => ?_) (fun c55 => ?_)
          · refine lv_iload_n E.1 E.2.1 dX6_worstSector_63 rfl (lv_at hl 4 rfl) ?_
            refine lv_istore_n (lv' := [(2, .int (iI (z))), (1, .int (iI ((k : Int)))), (5, .int (iI ((cntIntact σ (dmH σ (k : Int)) : Int)))), (4, .int (iI ((bitsN (dm σ) (30 * (k / 30)) 30 : Int)))), (3, .int (iI ((k : Int)))), (0, .ref (g))]) E.1 E.2.1 dX6_worstSector_64 rfl hl (by decide) rfl (fun ls hl => ?_)
            refine r_inc (lv' := [(3, .int (iI ((k : Int) + 1))), (2, .int (iI (z))), (1, .int (iI ((k : Int)))), (5, .int (iI ((cntIntact σ (dmH σ (k : Int)) : Int)))), (4, .int (iI ((bitsN (dm σ) (30 * (k / 30)) 30 : Int)))), (0, .ref (g))]) E dX6_worstSector_65 hl (k := 4) rfl (by decide) rfl (fun ls hl => ?_)
            refine lv_goto (tgt := 7) E.1 E.2.1 dX6_worstSector_68 (by decide) ?_
            refine ihin7 _ ?_ (k + 1) H2 ((k : Int) + 1) ((k : Int)) z ls locs ?_ ?_ ?_ ?_ ?_ ?_ ?_ rfl (lv_sub hl [0, 2, 1, 5] rfl) hL
            · omega
            · omega
            · omega
            · rw [worstA_1 (c := cntIntact σ (dmH σ (k : Int))) rfl]; split <;> first | omega | (simp only []; omega)
            · rw [worstA_1 (c := cntIntact σ (dmH σ (k : Int))) rfl]; split <;> first | omega | (simp only []; omega)
            · exact ho
            · exact ha
            · exact hS
          · refine lv_iload E.1 E.2.1 dX6_worstSector_58 (lv_at hl 1 rfl) ?_
            refine lv_goto (tgt := 64) E.1 E.2.1 dX6_worstSector_60 (by decide) ?_
            refine lv_istore_n (lv' := [(2, .int (iI ((cntIntact σ (dmH σ (k : Int)) : Int)))), (1, .int (iI ((k : Int)))), (5, .int (iI ((cntIntact σ (dmH σ (k : Int)) : Int)))), (4, .int (iI ((bitsN (dm σ) (30 * (k / 30)) 30 : Int)))), (3, .int (iI ((k : Int)))), (0, .ref (g))]) E.1 E.2.1 dX6_worstSector_64 rfl hl (by decide) rfl (fun ls hl => ?_)
            refine r_inc (lv' := [(3, .int (iI ((k : Int) + 1))), (2, .int (iI ((cntIntact σ (dmH σ (k : Int)) : Int)))), (1, .int (iI ((k : Int)))), (5, .int (iI ((cntIntact σ (dmH σ (k : Int)) : Int)))), (4, .int (iI ((bitsN (dm σ) (30 * (k / 30)) 30 : Int)))), (0, .ref (g))]) E dX6_worstSector_65 hl (k := 4) rfl (by decide) rfl (fun ls hl => ?_)
            refine lv_goto (tgt := 7) E.1 E.2.1 dX6_worstSector_68 (by decide) ?_
            refine ihin7 _ ?_ (k + 1) H2 ((k : Int) + 1) ((k : Int)) ((cntIntact σ (dmH σ (k : Int)) : Int)) ls locs ?_ ?_ ?_ ?_ ?_ ?_ ?_ rfl (lv_sub hl [0, 2, 1, 5] rfl) hL
            · omega
            · omega
            · omega
            · rw [worstA_1 (c := cntIntact σ (dmH σ (k : Int))) rfl]; split <;> first | omega | (simp only []; omega)
            · rw [worstA_1 (c := cntIntact σ (dmH σ (k : Int))) rfl]; split <;> first | omega | (simp only []; omega)
            · exact ho
            · exact ha
            · exact hS
  refine LP7 _ 0 s.heap 0 0 21 ls locs ?_ ?_ ?_ ?_ ?_ ?_ ?_ rfl (lv_sub hl [0, 2, 1, 3] rfl) hL
  · omega
  · rfl
  · rfl
  · rfl
  · exact ho
  · exact ha
  · exact hS
