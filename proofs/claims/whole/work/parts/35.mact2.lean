set_option maxHeartbeats 4000000 in
set_option maxRecDepth 100000 in
theorem c_X6_goRemove (G : GG) (l : Launch) (g : Nat) (σ : St) (v3 v5 v6 v7 v8 v9 v10 : Int32) (hI : Inv σ) (y : Int) (hy : okI y) (hga : G.2.2 ≤ g) : Ct G l yX6_goRemove cX6_goRemove 3 (some .int) ({ frames := 2, cells := 0, slots := 0, locals := 45 } : Room) [.ref (g), .int (iI (y))] (fun H => MR G g σ v3 v5 v6 v7 v8 v9 v10 H) (WE (iI (spRemove σ y).1) (MW G g (spRemove σ y).2 v3 v5 v6 v7 v8 v9 v10)) := by
  refine Ct.of (by decide +kernel) (Nat.le_of_ble_eq_true rfl) ?_
  intro p e s m args below meth c ls E hnm hP hl
  obtain ⟨ho, ha⟩ := hP
  have i1 := hI.mn12
  have i2 := hI.nx240
  have i3 := hI.s0b
  have i4 := hI.s1b
  obtain ⟨hy1, hy2⟩ := hy
  have hS : FrS (g + 1) (g + 2) s.heap s.heap := FrS.rf
  have hl : lv_has ls 3 [(0, .ref (g)), (1, .int (iI (y)))] := hl
  have hL : Lk G [] := Lk.nil
  generalize ([] : List Loc) = locs at hL ⊢
  refine lv_aload_n E.1 E.2.1 dX6_goRemove_0 rfl (lv_at hl 0 rfl) ?_
  refine kVRE (As := []) E cw_X6_63 (c_X6_openOne G l g σ _ _ _ _ _ _ _ hI) ho ⟨_, _, rfl⟩ ⟨ho, ha⟩ hL hl.1 rfl rfl (Nat.le_of_ble_eq_true rfl) ⟨Nat.le_of_ble_eq_true rfl, Nat.le_of_ble_eq_true rfl⟩ ⟨rfl, rfl⟩ ⟨Nat.le_of_ble_eq_true rfl, Nat.le_of_ble_eq_true rfl⟩ dX6_goRemove_1 (fun locs hL => ?_)
  rcases hop : opn σ with _ | n
  · rw [show oI none = -6 from rfl]
    refine lv_istore_n (lv' := [(2, .int (iI ((-6)))), (0, .ref (g)), (1, .int (iI (y)))]) E.1 E.2.1 dX6_goRemove_4 rfl hl (by decide) rfl (fun ls hl => ?_)
    refine lv_iload_n E.1 E.2.1 dX6_goRemove_5 rfl (lv_at hl 2 rfl) ?_
    refine kSRE (As := [.int (iI (y))]) E cw_X6_74 (c_X6_isName G l (y) (by unfold okI; omega)) trivial hL hl.1 rfl rfl (Nat.le_of_ble_eq_true rfl) ⟨Nat.le_of_ble_eq_true rfl, Nat.le_of_ble_eq_true rfl⟩ ⟨rfl, rfl⟩ ⟨Nat.le_of_ble_eq_true rfl, Nat.le_of_ble_eq_true rfl⟩ dX6_goRemove_6 (fun locs hL => ?_)
    refine r_bif_ne (tgt := 14) E dX6_goRemove_9 (by decide)  (fun c9 => ?_) (fun c9 => ?_)
    · have c9 := of_decide_eq_true c9
      obtain ⟨k, rfl⟩ : ∃ k : Nat, y = (k : Int) := ⟨y.toNat, by omega⟩
      refine lv_iload_n E.1 E.2.1 dX6_goRemove_14 rfl (lv_at hl 0 rfl) ?_
      refine r_if_lt (tgt := 27) E dX6_goRemove_15 (by decide) (by omega) (fun c15 => ?_) (fun c15 => absurd c15 (by omega))
      refine r_bipush E dX6_goRemove_27 (by decide) ?_
      refine e_iret (rm := ({ frames := 2, cells := 0, slots := 0, locals := 45 } : Room)) (v := iI ((-5))) E hL dX6_goRemove_29 ?_
      have hsp : spRemove σ (k : Int) = (-5, σ) := by unfold spRemove; rw [if_neg (by omega), hop]
      rw [hsp]
      exact ⟨rfl, ⟨⟨ho, ha⟩, hS⟩⟩
    · have c9 := of_decide_eq_false c9
      refine r_const E dX6_goRemove_12 ?_
      refine e_iret (rm := ({ frames := 2, cells := 0, slots := 0, locals := 45 } : Room)) (v := iI ((-1))) E hL dX6_goRemove_13 ?_
      have hsp : spRemove σ y = (-1, σ) := by unfold spRemove; rw [if_pos (by omega)]
      rw [hsp]
      exact ⟨rfl, ⟨⟨ho, ha⟩, hS⟩⟩
  · have hn := (opn_some hop).1
    have hn0 := (opn_some hop).2
    have hrow := hI.row (n := n) (by omega)
    rw [show oI (some n) = (n : Int) from rfl]
    refine lv_istore_n (lv' := [(2, .int (iI ((n : Int)))), (0, .ref (g)), (1, .int (iI (y)))]) E.1 E.2.1 dX6_goRemove_4 rfl hl (by decide) rfl (fun ls hl => ?_)
    refine lv_iload_n E.1 E.2.1 dX6_goRemove_5 rfl (lv_at hl 2 rfl) ?_
    refine kSRE (As := [.int (iI (y))]) E cw_X6_74 (c_X6_isName G l (y) (by unfold okI; omega)) trivial hL hl.1 rfl rfl (Nat.le_of_ble_eq_true rfl) ⟨Nat.le_of_ble_eq_true rfl, Nat.le_of_ble_eq_true rfl⟩ ⟨rfl, rfl⟩ ⟨Nat.le_of_ble_eq_true rfl, Nat.le_of_ble_eq_true rfl⟩ dX6_goRemove_6 (fun locs hL => ?_)
    refine r_bif_ne (tgt := 14) E dX6_goRemove_9 (by decide)  (fun c9 => ?_) (fun c9 => ?_)
    · have c9 := of_decide_eq_true c9
      obtain ⟨k, rfl⟩ : ∃ k : Nat, y = (k : Int) := ⟨y.toNat, by omega⟩
      refine lv_iload_n E.1 E.2.1 dX6_goRemove_14 rfl (lv_at hl 0 rfl) ?_
      refine r_if_lt (tgt := 27) E dX6_goRemove_15 (by decide) (by omega) (fun c15 => absurd c15 (by omega)) (fun c15 => ?_)
      refine lv_aload_n E.1 E.2.1 dX6_goRemove_18 rfl (lv_at hl 1 rfl) ?_
      refine lv_iload_n E.1 E.2.1 dX6_goRemove_19 rfl (lv_at hl 0 rfl) ?_
      refine lv_iload_n E.1 E.2.1 dX6_goRemove_20 rfl (lv_at hl 2 rfl) ?_
      refine kVRE (As := [.int (iI ((n : Int))), .int (iI ((k : Int)))]) E cw_X6_38 (c_X6_entryOf G l g σ _ _ _ _ _ _ _ (n) (k) (by omega) (by omega)) ho ⟨_, _, rfl⟩ ⟨ho, ha⟩ hL hl.1 rfl rfl (Nat.le_of_ble_eq_true rfl) ⟨Nat.le_of_ble_eq_true rfl, Nat.le_of_ble_eq_true rfl⟩ ⟨rfl, rfl⟩ ⟨Nat.le_of_ble_eq_true rfl, Nat.le_of_ble_eq_true rfl⟩ dX6_goRemove_21 (fun locs hL => ?_)
      rcases he_ : en σ n k with _ | f
      · have he := he_.symm
        rw [show ((encO none : Nat) : Int) = 0 from rfl]
        refine r_if_ne (tgt := 30) E dX6_goRemove_24 (by decide) (by omega) (fun c24 => absurd c24 (by omega)) (fun c24 => ?_)
        refine r_bipush E dX6_goRemove_27 (by decide) ?_
        refine e_iret (rm := ({ frames := 2, cells := 0, slots := 0, locals := 45 } : Room)) (v := iI ((-5))) E hL dX6_goRemove_29 ?_
        have hsp : spRemove σ (k : Int) = (-5, σ) := by unfold spRemove; rw [if_neg (by omega), hop]; simp only []; rw [Int.toNat_natCast, if_neg (by rw [← he]; decide)]
        rw [hsp]
        exact ⟨rfl, ⟨⟨ho, ha⟩, hS⟩⟩
      · have he := he_.symm
        have hfb := hI.ent2 (n := n) (k := k) (by omega) (by omega) he_
        rw [show ((encO (some f) : Nat) : Int) = (64 * ((f.1 : Int) + 1) + (f.2.1 : Int)) by simp only [encO]; omega]
        refine r_if_ne (tgt := 30) E dX6_goRemove_24 (by decide) (by omega) (fun c24 => ?_) (fun c24 => absurd c24 (by omega))
        refine lv_aload_n E.1 E.2.1 dX6_goRemove_30 rfl (lv_at hl 1 rfl) ?_
        refine m_get E ho fw_X6_7 rfl dX6_goRemove_31 ?_
        refine r_bipush E dX6_goRemove_34 (by decide) ?_
        refine r_bipush E dX6_goRemove_36 (by decide) ?_
        refine lv_iload_n E.1 E.2.1 dX6_goRemove_38 rfl (lv_at hl 0 rfl) ?_
        refine r_mul E dX6_goRemove_39 ?_
        refine r_add E dX6_goRemove_40 ?_
        refine lv_iload_n E.1 E.2.1 dX6_goRemove_41 rfl (lv_at hl 2 rfl) ?_
        refine r_add E dX6_goRemove_42 ?_
        refine r_const E dX6_goRemove_43 ?_
        refine r_iast E ha (104 + 20 * n + k) (by omega) (by omega) (by decide) hL (by omega) dX6_goRemove_44 (fun H1 locs hL hO_ hF_ => ?_)
        have ho := ho.kept (hF_.2 _ (by omega))
        have hS := hS.trans (FrS.of1 (lo := g + 1) (hi := g + 2) hF_ (by omega) (by omega))
        have ha : Ia G (g + 1) 0 344 (upd (encI σ) (104 + 20 * n + k) (iI (0))) H1 := hO_
        clear hO_
        have ha : Ia G (g + 1) 0 344 (encI (sEn σ n k none)) H1 := ha.to (enc_to (up_en σ (n := n) (k := k) none (by omega)) rfl)
        have hsp : spRemove σ (k : Int) = ((entriesN (sEn σ n k none) n : Int), sEn σ n k none) := by
          unfold spRemove
          rw [if_neg (by omega), hop]
          simp only []
          rw [Int.toNat_natCast, if_pos (by rw [← he]; rfl)]
          rfl
        have hI2 : Inv (sEn σ n k none) := by
          have h9 := hI.remove (k : Int)
          rwa [hsp] at h9
        refine lv_aload_n E.1 E.2.1 dX6_goRemove_45 rfl (lv_at hl 1 rfl) ?_
        refine lv_iload_n E.1 E.2.1 dX6_goRemove_46 rfl (lv_at hl 0 rfl) ?_
        refine kVRE (As := [.int (iI ((n : Int)))]) E cw_X6_77 (c_X6_entries G l g (sEn σ n k none) _ _ _ _ _ _ _ hI2 (n) (show n < mn σ by omega)) ho ⟨_, _, rfl⟩ ⟨ho, ha⟩ hL hl.1 rfl rfl (Nat.le_of_ble_eq_true rfl) ⟨Nat.le_of_ble_eq_true rfl, Nat.le_of_ble_eq_true rfl⟩ ⟨rfl, rfl⟩ ⟨Nat.le_of_ble_eq_true rfl, Nat.le_of_ble_eq_true rfl⟩ dX6_goRemove_47 (fun locs hL => ?_)
        refine e_iret (rm := ({ frames := 2, cells := 0, slots := 0, locals := 45 } : Room)) (v := iI ((entriesN (sEn σ n k none) n : Int))) E hL dX6_goRemove_50 ?_
        rw [hsp]
        exact ⟨rfl, ⟨⟨ho, ha⟩, hS⟩⟩
    · have c9 := of_decide_eq_false c9
      refine r_const E dX6_goRemove_12 ?_
      refine e_iret (rm := ({ frames := 2, cells := 0, slots := 0, locals := 45 } : Room)) (v := iI ((-1))) E hL dX6_goRemove_13 ?_
      have hsp : spRemove σ y = (-1, σ) := by unfold spRemove; rw [if_pos (by omega)]
      rw [hsp]
      exact ⟨rfl, ⟨⟨ho, ha⟩, hS⟩⟩

set_option maxHeartbeats 4000000 in
set_option maxRecDepth 100000 in
theorem c_X6_goKeep (G : GG) (l : Launch) (g : Nat) (σ : St) (v3 v5 v6 v7 v8 v9 v10 : Int32) (hI : Inv σ) (y z : Int) (hy : okI y) (hz : okI z) (hga : G.2.2 ≤ g) : Ct G l yX6_goKeep cX6_goKeep 4 (some .int) ({ frames := 3, cells := 0, slots := 0, locals := 66 } : Room) [.ref (g), .int (iI (y)), .int (iI (z))] (fun H => MR G g σ v3 v5 v6 v7 v8 v9 v10 H) (WE (iI (spKeep σ y z).1) (MW G g (spKeep σ y z).2 v3 v5 v6 v7 v8 v9 v10)) := by
  refine Ct.of (by decide +kernel) (Nat.le_of_ble_eq_true rfl) ?_
  intro p e s m args below meth c ls E hnm hP hl
  obtain ⟨ho, ha⟩ := hP
  have i1 := hI.mn12
  have i2 := hI.nx240
  have i3 := hI.s0b
  have i4 := hI.s1b
  obtain ⟨hy1, hy2⟩ := hy
  obtain ⟨hz1, hz2⟩ := hz
  have hS : FrS (g + 1) (g + 2) s.heap s.heap := FrS.rf
  have hl : lv_has ls 4 [(0, .ref (g)), (1, .int (iI (y))), (2, .int (iI (z)))] := hl
  have hL : Lk G [] := Lk.nil
  generalize ([] : List Loc) = locs at hL ⊢
  refine lv_aload_n E.1 E.2.1 dX6_goKeep_0 rfl (lv_at hl 0 rfl) ?_
  refine kVRE (As := []) E cw_X6_63 (c_X6_openOne G l g σ _ _ _ _ _ _ _ hI) ho ⟨_, _, rfl⟩ ⟨ho, ha⟩ hL hl.1 rfl rfl (Nat.le_of_ble_eq_true rfl) ⟨Nat.le_of_ble_eq_true rfl, Nat.le_of_ble_eq_true rfl⟩ ⟨rfl, rfl⟩ ⟨Nat.le_of_ble_eq_true rfl, Nat.le_of_ble_eq_true rfl⟩ dX6_goKeep_1 (fun locs hL => ?_)
  rcases hop : opn σ with _ | n
  · rw [show oI none = -6 from rfl]
    refine lv_istore_n (lv' := [(3, .int (iI ((-6)))), (0, .ref (g)), (1, .int (iI (y))), (2, .int (iI (z)))]) E.1 E.2.1 dX6_goKeep_4 rfl hl (by decide) rfl (fun ls hl => ?_)
    refine lv_iload_n E.1 E.2.1 dX6_goKeep_5 rfl (lv_at hl 2 rfl) ?_
    refine kSRE (As := [.int (iI (y))]) E cw_X6_74 (c_X6_isName G l (y) (by unfold okI; omega)) trivial hL hl.1 rfl rfl (Nat.le_of_ble_eq_true rfl) ⟨Nat.le_of_ble_eq_true rfl, Nat.le_of_ble_eq_true rfl⟩ ⟨rfl, rfl⟩ ⟨Nat.le_of_ble_eq_true rfl, Nat.le_of_ble_eq_true rfl⟩ dX6_goKeep_6 (fun locs hL => ?_)
    refine r_bif_eq (tgt := 20) E dX6_goKeep_9 (by decide)  (fun c9 => ?_) (fun c9 => ?_)
    · have c9 := of_decide_eq_false c9
      refine r_const E dX6_goKeep_20 ?_
      refine e_iret (rm := ({ frames := 3, cells := 0, slots := 0, locals := 66 } : Room)) (v := iI ((-1))) E hL dX6_goKeep_21 ?_
      have hsp : spKeep σ y z = (-1, σ) := by unfold spKeep; rw [if_pos (by omega)]
      rw [hsp]
      exact ⟨rfl, ⟨⟨ho, ha⟩, hS⟩⟩
    · have c9 := of_decide_eq_true c9
      refine lv_aload_n E.1 E.2.1 dX6_goKeep_12 rfl (lv_at hl 1 rfl) ?_
      refine lv_iload_n E.1 E.2.1 dX6_goKeep_13 rfl (lv_at hl 3 rfl) ?_
      refine kVRE (As := [.int (iI (z))]) E cw_X6_80 (c_X6_isSession G l g σ _ _ _ _ _ _ _ hI (z) (by unfold okI; omega)) ho ⟨_, _, rfl⟩ ⟨ho, ha⟩ hL hl.1 rfl rfl (Nat.le_of_ble_eq_true rfl) ⟨Nat.le_of_ble_eq_true rfl, Nat.le_of_ble_eq_true rfl⟩ ⟨rfl, rfl⟩ ⟨Nat.le_of_ble_eq_true rfl, Nat.le_of_ble_eq_true rfl⟩ dX6_goKeep_14 (fun locs hL => ?_)
      refine r_bif_ne (tgt := 22) E dX6_goKeep_17 (by decide)  (fun c17 => ?_) (fun c17 => ?_)
      · have c17 := of_decide_eq_true c17
        obtain ⟨k, rfl⟩ : ∃ k : Nat, y = (k : Int) := ⟨y.toNat, by omega⟩
        obtain ⟨j, rfl⟩ : ∃ j : Nat, z = (j : Int) := ⟨z.toNat, by omega⟩
        refine lv_iload_n E.1 E.2.1 dX6_goKeep_22 rfl (lv_at hl 0 rfl) ?_
        refine r_if_lt (tgt := 43) E dX6_goKeep_23 (by decide) (by omega) (fun c23 => ?_) (fun c23 => absurd c23 (by omega))
        refine r_bipush E dX6_goKeep_43 (by decide) ?_
        refine e_iret (rm := ({ frames := 3, cells := 0, slots := 0, locals := 66 } : Room)) (v := iI ((-5))) E hL dX6_goKeep_45 ?_
        have hsp : spKeep σ (k : Int) (j : Int) = (-5, σ) := by unfold spKeep; rw [if_neg (by omega), hop]
        rw [hsp]
        exact ⟨rfl, ⟨⟨ho, ha⟩, hS⟩⟩
      · have c17 := of_decide_eq_false c17
        refine r_const E dX6_goKeep_20 ?_
        refine e_iret (rm := ({ frames := 3, cells := 0, slots := 0, locals := 66 } : Room)) (v := iI ((-1))) E hL dX6_goKeep_21 ?_
        have hsp : spKeep σ y z = (-1, σ) := by unfold spKeep; rw [if_pos (by omega)]
        rw [hsp]
        exact ⟨rfl, ⟨⟨ho, ha⟩, hS⟩⟩
  · have hn := (opn_some hop).1
    have hn0 := (opn_some hop).2
    have hrow := hI.row (n := n) (by omega)
    rw [show oI (some n) = (n : Int) from rfl]
    refine lv_istore_n (lv' := [(3, .int (iI ((n : Int)))), (0, .ref (g)), (1, .int (iI (y))), (2, .int (iI (z)))]) E.1 E.2.1 dX6_goKeep_4 rfl hl (by decide) rfl (fun ls hl => ?_)
    refine lv_iload_n E.1 E.2.1 dX6_goKeep_5 rfl (lv_at hl 2 rfl) ?_
    refine kSRE (As := [.int (iI (y))]) E cw_X6_74 (c_X6_isName G l (y) (by unfold okI; omega)) trivial hL hl.1 rfl rfl (Nat.le_of_ble_eq_true rfl) ⟨Nat.le_of_ble_eq_true rfl, Nat.le_of_ble_eq_true rfl⟩ ⟨rfl, rfl⟩ ⟨Nat.le_of_ble_eq_true rfl, Nat.le_of_ble_eq_true rfl⟩ dX6_goKeep_6 (fun locs hL => ?_)
    refine r_bif_eq (tgt := 20) E dX6_goKeep_9 (by decide)  (fun c9 => ?_) (fun c9 => ?_)
    · have c9 := of_decide_eq_false c9
      refine r_const E dX6_goKeep_20 ?_
      refine e_iret (rm := ({ frames := 3, cells := 0, slots := 0, locals := 66 } : Room)) (v := iI ((-1))) E hL dX6_goKeep_21 ?_
      have hsp : spKeep σ y z = (-1, σ) := by unfold spKeep; rw [if_pos (by omega)]
      rw [hsp]
      exact ⟨rfl, ⟨⟨ho, ha⟩, hS⟩⟩
    · have c9 := of_decide_eq_true c9
      refine lv_aload_n E.1 E.2.1 dX6_goKeep_12 rfl (lv_at hl 1 rfl) ?_
      refine lv_iload_n E.1 E.2.1 dX6_goKeep_13 rfl (lv_at hl 3 rfl) ?_
      refine kVRE (As := [.int (iI (z))]) E cw_X6_80 (c_X6_isSession G l g σ _ _ _ _ _ _ _ hI (z) (by unfold okI; omega)) ho ⟨_, _, rfl⟩ ⟨ho, ha⟩ hL hl.1 rfl rfl (Nat.le_of_ble_eq_true rfl) ⟨Nat.le_of_ble_eq_true rfl, Nat.le_of_ble_eq_true rfl⟩ ⟨rfl, rfl⟩ ⟨Nat.le_of_ble_eq_true rfl, Nat.le_of_ble_eq_true rfl⟩ dX6_goKeep_14 (fun locs hL => ?_)
      refine r_bif_ne (tgt := 22) E dX6_goKeep_17 (by decide)  (fun c17 => ?_) (fun c17 => ?_)
      · have c17 := of_decide_eq_true c17
        obtain ⟨k, rfl⟩ : ∃ k : Nat, y = (k : Int) := ⟨y.toNat, by omega⟩
        obtain ⟨j, rfl⟩ : ∃ j : Nat, z = (j : Int) := ⟨z.toNat, by omega⟩
        refine lv_iload_n E.1 E.2.1 dX6_goKeep_22 rfl (lv_at hl 0 rfl) ?_
        refine r_if_lt (tgt := 43) E dX6_goKeep_23 (by decide) (by omega) (fun c23 => absurd c23 (by omega)) (fun c23 => ?_)
        refine lv_aload_n E.1 E.2.1 dX6_goKeep_26 rfl (lv_at hl 1 rfl) ?_
        refine lv_iload_n E.1 E.2.1 dX6_goKeep_27 rfl (lv_at hl 3 rfl) ?_
        refine kVRE (As := [.int (iI ((j : Int)))]) E cw_X6_49 (c_X6_isReadable G l g σ _ _ _ _ _ _ _ hI (j) (by omega)) ho ⟨_, _, rfl⟩ ⟨ho, ha⟩ hL hl.1 rfl rfl (Nat.le_of_ble_eq_true rfl) ⟨Nat.le_of_ble_eq_true rfl, Nat.le_of_ble_eq_true rfl⟩ ⟨rfl, rfl⟩ ⟨Nat.le_of_ble_eq_true rfl, Nat.le_of_ble_eq_true rfl⟩ dX6_goKeep_28 (fun locs hL => ?_)
        refine r_bif_eq (tgt := 43) E dX6_goKeep_31 (by decide)  (fun c31 => ?_) (fun c31 => ?_)
        · refine r_bipush E dX6_goKeep_43 (by decide) ?_
          refine e_iret (rm := ({ frames := 3, cells := 0, slots := 0, locals := 66 } : Room)) (v := iI ((-5))) E hL dX6_goKeep_45 ?_
          have hsp : spKeep σ (k : Int) (j : Int) = (-5, σ) := by
            unfold spKeep
            rw [if_neg (by omega), hop]
            simp only [Int.toNat_natCast]
            first
            | (rw [if_neg (by rw [c31]; decide)]; done)
            | (rw [if_pos c31, ← he]; done)
          rw [hsp]
          exact ⟨rfl, ⟨⟨ho, ha⟩, hS⟩⟩
        · refine lv_aload_n E.1 E.2.1 dX6_goKeep_34 rfl (lv_at hl 1 rfl) ?_
          refine lv_iload_n E.1 E.2.1 dX6_goKeep_35 rfl (lv_at hl 3 rfl) ?_
          refine lv_iload_n E.1 E.2.1 dX6_goKeep_36 rfl (lv_at hl 2 rfl) ?_
          refine kVRE (As := [.int (iI ((j : Int))), .int (iI ((k : Int)))]) E cw_X6_38 (c_X6_entryOf G l g σ _ _ _ _ _ _ _ (j) (k) (by omega) (by omega)) ho ⟨_, _, rfl⟩ ⟨ho, ha⟩ hL hl.1 rfl rfl (Nat.le_of_ble_eq_true rfl) ⟨Nat.le_of_ble_eq_true rfl, Nat.le_of_ble_eq_true rfl⟩ ⟨rfl, rfl⟩ ⟨Nat.le_of_ble_eq_true rfl, Nat.le_of_ble_eq_true rfl⟩ dX6_goKeep_37 (fun locs hL => ?_)
          rcases he_ : en σ j k with _ | f
          · have he := he_.symm
            rw [show ((encO none : Nat) : Int) = 0 from rfl]
            refine r_if_ne (tgt := 46) E dX6_goKeep_40 (by decide) (by omega) (fun c40 => absurd c40 (by omega)) (fun c40 => ?_)
            refine r_bipush E dX6_goKeep_43 (by decide) ?_
            refine e_iret (rm := ({ frames := 3, cells := 0, slots := 0, locals := 66 } : Room)) (v := iI ((-5))) E hL dX6_goKeep_45 ?_
            have hsp : spKeep σ (k : Int) (j : Int) = (-5, σ) := by
              unfold spKeep
              rw [if_neg (by omega), hop]
              simp only [Int.toNat_natCast]
              first
              | (rw [if_neg (by rw [c31]; decide)]; done)
              | (rw [if_pos c31, ← he]; done)
            rw [hsp]
            exact ⟨rfl, ⟨⟨ho, ha⟩, hS⟩⟩
          · have he := he_.symm
            have hfb := hI.ent2 (n := j) (k := k) (by omega) (by omega) he_
            rw [show ((encO (some f) : Nat) : Int) = (64 * ((f.1 : Int) + 1) + (f.2.1 : Int)) by simp only [encO]; omega]
            refine r_if_ne (tgt := 46) E dX6_goKeep_40 (by decide) (by omega) (fun c40 => ?_) (fun c40 => absurd c40 (by omega))
            refine lv_aload_n E.1 E.2.1 dX6_goKeep_46 rfl (lv_at hl 1 rfl) ?_
            refine m_get E ho fw_X6_7 rfl dX6_goKeep_47 ?_
            refine r_bipush E dX6_goKeep_50 (by decide) ?_
            refine r_bipush E dX6_goKeep_52 (by decide) ?_
            refine lv_iload_n E.1 E.2.1 dX6_goKeep_54 rfl (lv_at hl 0 rfl) ?_
            refine r_mul E dX6_goKeep_55 ?_
            refine r_add E dX6_goKeep_56 ?_
            refine lv_iload_n E.1 E.2.1 dX6_goKeep_57 rfl (lv_at hl 2 rfl) ?_
            refine r_add E dX6_goKeep_58 ?_
            refine lv_aload_n E.1 E.2.1 dX6_goKeep_59 rfl (lv_at hl 1 rfl) ?_
            refine lv_iload_n E.1 E.2.1 dX6_goKeep_60 rfl (lv_at hl 3 rfl) ?_
            refine lv_iload_n E.1 E.2.1 dX6_goKeep_61 rfl (lv_at hl 2 rfl) ?_
            refine kVRE (As := [.int (iI ((j : Int))), .int (iI ((k : Int)))]) E cw_X6_38 (c_X6_entryOf G l g σ _ _ _ _ _ _ _ (j) (k) (by omega) (by omega)) ho ⟨_, _, rfl⟩ ⟨ho, ha⟩ hL hl.1 rfl rfl (Nat.le_of_ble_eq_true rfl) ⟨Nat.le_of_ble_eq_true rfl, Nat.le_of_ble_eq_true rfl⟩ ⟨rfl, rfl⟩ ⟨Nat.le_of_ble_eq_true rfl, Nat.le_of_ble_eq_true rfl⟩ dX6_goKeep_62 (fun locs hL => ?_)
            rw [show ((encO (en σ j k) : Nat) : Int) = (64 * ((f.1 : Int) + 1) + (f.2.1 : Int)) by rw [← he]; simp only [encO]; omega]
            refine r_iast E ha (104 + 20 * n + k) (by omega) (by omega) (by decide) hL (by omega) dX6_goKeep_65 (fun H1 locs hL hO_ hF_ => ?_)
            have ho := ho.kept (hF_.2 _ (by omega))
            have hS := hS.trans (FrS.of1 (lo := g + 1) (hi := g + 2) hF_ (by omega) (by omega))
            have ha : Ia G (g + 1) 0 344 (upd (encI σ) (104 + 20 * n + k) (iI ((64 * ((f.1 : Int) + 1) + (f.2.1 : Int))))) H1 := hO_
            clear hO_
            have ha : Ia G (g + 1) 0 344 (encI (sEn σ n k (some f))) H1 := ha.to (enc_to (up_en σ (n := n) (k := k) (some f) (by omega)) (by simp only [encO]; omega))
            refine lv_aload_n E.1 E.2.1 dX6_goKeep_66 rfl (lv_at hl 1 rfl) ?_
            refine lv_iload_n E.1 E.2.1 dX6_goKeep_67 rfl (lv_at hl 0 rfl) ?_
            refine lv_iload_n E.1 E.2.1 dX6_goKeep_68 rfl (lv_at hl 2 rfl) ?_
            refine kVRE (As := [.int (iI ((n : Int))), .int (iI ((k : Int)))]) E cw_X6_38 (c_X6_entryOf G l g (sEn σ n k (some f)) _ _ _ _ _ _ _ (n) (k) (by omega) (by omega)) ho ⟨_, _, rfl⟩ ⟨ho, ha⟩ hL hl.1 rfl rfl (Nat.le_of_ble_eq_true rfl) ⟨Nat.le_of_ble_eq_true rfl, Nat.le_of_ble_eq_true rfl⟩ ⟨rfl, rfl⟩ ⟨Nat.le_of_ble_eq_true rfl, Nat.le_of_ble_eq_true rfl⟩ dX6_goKeep_69 (fun locs hL => ?_)
            rw [show ((encO (en (sEn σ n k (some f)) n k) : Nat) : Int) = (64 * ((f.1 : Int) + 1) + (f.2.1 : Int)) by rw [show en (sEn σ n k (some f)) n k = some f by simp [sEn, en_mk, va_up]]; simp only [encO]; omega]
            refine kSRE (As := [.int (iI ((64 * ((f.1 : Int) + 1) + (f.2.1 : Int))))]) E cw_X6_52 (c_X6_firstOf G l ((64 * ((f.1 : Int) + 1) + (f.2.1 : Int))) (by omega)) trivial hL hl.1 rfl rfl (Nat.le_of_ble_eq_true rfl) ⟨Nat.le_of_ble_eq_true rfl, Nat.le_of_ble_eq_true rfl⟩ ⟨rfl, rfl⟩ ⟨Nat.le_of_ble_eq_true rfl, Nat.le_of_ble_eq_true rfl⟩ dX6_goKeep_72 (fun locs hL => ?_)
            rw [show (((64 * ((f.1 : Int) + 1) + (f.2.1 : Int))) / 64 - 1 : Int) = (f.1 : Int) by omega]
            refine e_iret (rm := ({ frames := 3, cells := 0, slots := 0, locals := 66 } : Room)) (v := iI ((f.1 : Int))) E hL dX6_goKeep_75 ?_
            have hsp : spKeep σ (k : Int) (j : Int) = ((f.1 : Int), sEn σ n k (some f)) := by unfold spKeep; rw [if_neg (by omega), hop]; simp only [Int.toNat_natCast]; rw [if_pos c31, ← he]; rfl
            rw [hsp]
            exact ⟨rfl, ⟨⟨ho, ha⟩, hS⟩⟩
      · have c17 := of_decide_eq_false c17
        refine r_const E dX6_goKeep_20 ?_
        refine e_iret (rm := ({ frames := 3, cells := 0, slots := 0, locals := 66 } : Room)) (v := iI ((-1))) E hL dX6_goKeep_21 ?_
        have hsp : spKeep σ y z = (-1, σ) := by unfold spKeep; rw [if_pos (by omega)]
        rw [hsp]
        exact ⟨rfl, ⟨⟨ho, ha⟩, hS⟩⟩

set_option maxHeartbeats 4000000 in
set_option maxRecDepth 100000 in
theorem c_X6_goWrite (G : GG) (l : Launch) (g : Nat) (σ : St) (v3 v5 v6 v7 v8 v9 v10 : Int32) (hI : Inv σ) (y z : Int) (hy : okI y) (hz : okI z) (hga : G.2.2 ≤ g) : Ct G l yX6_goWrite cX6_goWrite 5 (some .int) ({ frames := 2, cells := 0, slots := 0, locals := 45 } : Room) [.ref (g), .int (iI (y)), .int (iI (z))] (fun H => MR G g σ v3 v5 v6 v7 v8 v9 v10 H) (WE (iI (spWrite σ y z).1) (MW G g (spWrite σ y z).2 v3 v5 v6 v7 v8 v9 v10)) := by
  refine Ct.of (by decide +kernel) (Nat.le_of_ble_eq_true rfl) ?_
  intro p e s m args below meth c ls E hnm hP hl
  obtain ⟨ho, ha⟩ := hP
  have i1 := hI.mn12
  have i2 := hI.nx240
  have i3 := hI.s0b
  have i4 := hI.s1b
  obtain ⟨hy1, hy2⟩ := hy
  obtain ⟨hz1, hz2⟩ := hz
  have hS : FrS (g + 1) (g + 2) s.heap s.heap := FrS.rf
  have hl : lv_has ls 5 [(0, .ref (g)), (1, .int (iI (y))), (2, .int (iI (z)))] := hl
  have hL : Lk G [] := Lk.nil
  generalize ([] : List Loc) = locs at hL ⊢
  refine lv_aload_n E.1 E.2.1 dX6_goWrite_0 rfl (lv_at hl 0 rfl) ?_
  refine kVRE (As := []) E cw_X6_63 (c_X6_openOne G l g σ _ _ _ _ _ _ _ hI) ho ⟨_, _, rfl⟩ ⟨ho, ha⟩ hL hl.1 rfl rfl (Nat.le_of_ble_eq_true rfl) ⟨Nat.le_of_ble_eq_true rfl, Nat.le_of_ble_eq_true rfl⟩ ⟨rfl, rfl⟩ ⟨Nat.le_of_ble_eq_true rfl, Nat.le_of_ble_eq_true rfl⟩ dX6_goWrite_1 (fun locs hL => ?_)
  rcases hop : opn σ with _ | n
  · rw [show oI none = -6 from rfl]
    refine lv_istore_n (lv' := [(3, .int (iI ((-6)))), (0, .ref (g)), (1, .int (iI (y))), (2, .int (iI (z)))]) E.1 E.2.1 dX6_goWrite_4 rfl hl (by decide) rfl (fun ls hl => ?_)
    refine lv_iload_n E.1 E.2.1 dX6_goWrite_5 rfl (lv_at hl 2 rfl) ?_
    refine kSRE (As := [.int (iI (y))]) E cw_X6_74 (c_X6_isName G l (y) (by unfold okI; omega)) trivial hL hl.1 rfl rfl (Nat.le_of_ble_eq_true rfl) ⟨Nat.le_of_ble_eq_true rfl, Nat.le_of_ble_eq_true rfl⟩ ⟨rfl, rfl⟩ ⟨Nat.le_of_ble_eq_true rfl, Nat.le_of_ble_eq_true rfl⟩ dX6_goWrite_6 (fun locs hL => ?_)
    refine r_bif_ne (tgt := 14) E dX6_goWrite_9 (by decide)  (fun c9 => ?_) (fun c9 => ?_)
    · have c9 := of_decide_eq_true c9
      refine lv_iload_n E.1 E.2.1 dX6_goWrite_14 rfl (lv_at hl 3 rfl) ?_
      refine r_const E dX6_goWrite_15 ?_
      refine r_bipush E dX6_goWrite_16 (by decide) ?_
      refine kSRE (As := [.int (iI (z)), .int (iI (1)), .int (iI (40))]) E cw_X6_30 (c_X6_in G l (z) (1) (40) (by unfold okI; omega) (by unfold okI; omega) (by unfold okI; omega)) trivial hL hl.1 rfl rfl (Nat.le_of_ble_eq_true rfl) ⟨Nat.le_of_ble_eq_true rfl, Nat.le_of_ble_eq_true rfl⟩ ⟨rfl, rfl⟩ ⟨Nat.le_of_ble_eq_true rfl, Nat.le_of_ble_eq_true rfl⟩ dX6_goWrite_18 (fun locs hL => ?_)
      refine r_bif_ne (tgt := 27) E dX6_goWrite_21 (by decide)  (fun c21 => ?_) (fun c21 => ?_)
      · have c21 := of_decide_eq_true c21
        refine lv_iload_n E.1 E.2.1 dX6_goWrite_27 rfl (lv_at hl 0 rfl) ?_
        refine r_if_ge (tgt := 34) E dX6_goWrite_28 (by decide) (by omega) (fun c28 => absurd c28 (by omega)) (fun c28 => ?_)
        refine r_bipush E dX6_goWrite_31 (by decide) ?_
        refine e_iret (rm := ({ frames := 2, cells := 0, slots := 0, locals := 45 } : Room)) (v := iI ((-5))) E hL dX6_goWrite_33 ?_
        have hsp : spWrite σ y z = (-5, σ) := by unfold spWrite; rw [if_neg (by omega), if_neg (by omega), hop]
        rw [hsp]
        exact ⟨rfl, ⟨⟨ho, ha⟩, hS⟩⟩
      · have c21 := of_decide_eq_false c21
        refine r_bipush E dX6_goWrite_24 (by decide) ?_
        refine e_iret (rm := ({ frames := 2, cells := 0, slots := 0, locals := 45 } : Room)) (v := iI ((-2))) E hL dX6_goWrite_26 ?_
        have hsp : spWrite σ y z = (-2, σ) := by unfold spWrite; rw [if_neg (by omega), if_pos (by omega)]
        rw [hsp]
        exact ⟨rfl, ⟨⟨ho, ha⟩, hS⟩⟩
    · have c9 := of_decide_eq_false c9
      refine r_const E dX6_goWrite_12 ?_
      refine e_iret (rm := ({ frames := 2, cells := 0, slots := 0, locals := 45 } : Room)) (v := iI ((-1))) E hL dX6_goWrite_13 ?_
      have hsp : spWrite σ y z = (-1, σ) := by unfold spWrite; rw [if_pos (by omega)]
      rw [hsp]
      exact ⟨rfl, ⟨⟨ho, ha⟩, hS⟩⟩
  · have hn := (opn_some hop).1
    have hn0 := (opn_some hop).2
    have hrow := hI.row (n := n) (by omega)
    rw [show oI (some n) = (n : Int) from rfl]
    refine lv_istore_n (lv' := [(3, .int (iI ((n : Int)))), (0, .ref (g)), (1, .int (iI (y))), (2, .int (iI (z)))]) E.1 E.2.1 dX6_goWrite_4 rfl hl (by decide) rfl (fun ls hl => ?_)
    refine lv_iload_n E.1 E.2.1 dX6_goWrite_5 rfl (lv_at hl 2 rfl) ?_
    refine kSRE (As := [.int (iI (y))]) E cw_X6_74 (c_X6_isName G l (y) (by unfold okI; omega)) trivial hL hl.1 rfl rfl (Nat.le_of_ble_eq_true rfl) ⟨Nat.le_of_ble_eq_true rfl, Nat.le_of_ble_eq_true rfl⟩ ⟨rfl, rfl⟩ ⟨Nat.le_of_ble_eq_true rfl, Nat.le_of_ble_eq_true rfl⟩ dX6_goWrite_6 (fun locs hL => ?_)
    refine r_bif_ne (tgt := 14) E dX6_goWrite_9 (by decide)  (fun c9 => ?_) (fun c9 => ?_)
    · have c9 := of_decide_eq_true c9
      refine lv_iload_n E.1 E.2.1 dX6_goWrite_14 rfl (lv_at hl 3 rfl) ?_
      refine r_const E dX6_goWrite_15 ?_
      refine r_bipush E dX6_goWrite_16 (by decide) ?_
      refine kSRE (As := [.int (iI (z)), .int (iI (1)), .int (iI (40))]) E cw_X6_30 (c_X6_in G l (z) (1) (40) (by unfold okI; omega) (by unfold okI; omega) (by unfold okI; omega)) trivial hL hl.1 rfl rfl (Nat.le_of_ble_eq_true rfl) ⟨Nat.le_of_ble_eq_true rfl, Nat.le_of_ble_eq_true rfl⟩ ⟨rfl, rfl⟩ ⟨Nat.le_of_ble_eq_true rfl, Nat.le_of_ble_eq_true rfl⟩ dX6_goWrite_18 (fun locs hL => ?_)
      refine r_bif_ne (tgt := 27) E dX6_goWrite_21 (by decide)  (fun c21 => ?_) (fun c21 => ?_)
      · have c21 := of_decide_eq_true c21
        refine lv_iload_n E.1 E.2.1 dX6_goWrite_27 rfl (lv_at hl 0 rfl) ?_
        refine r_if_ge (tgt := 34) E dX6_goWrite_28 (by decide) (by omega) (fun c28 => ?_) (fun c28 => absurd c28 (by omega))
        obtain ⟨k, rfl⟩ : ∃ k : Nat, y = (k : Int) := ⟨y.toNat, by omega⟩
        obtain ⟨j, rfl⟩ : ∃ j : Nat, z = (j : Int) := ⟨z.toNat, by omega⟩
        refine lv_aload_n E.1 E.2.1 dX6_goWrite_34 rfl (lv_at hl 1 rfl) ?_
        refine m_get E ho fw_X6_7 rfl dX6_goWrite_35 ?_
        refine r_const E dX6_goWrite_38 ?_
        refine r_iald E ha (0) rfl (by decide) (by decide) dX6_goWrite_39 ?_
        rw [show encI σ (0) = iI ((nx σ : Nat) : Int) from rfl]
        refine lv_iload_n E.1 E.2.1 dX6_goWrite_40 rfl (lv_at hl 3 rfl) ?_
        refine r_add E dX6_goWrite_41 ?_
        refine lv_aload_n E.1 E.2.1 dX6_goWrite_42 rfl (lv_at hl 1 rfl) ?_
        refine lv_iload_n E.1 E.2.1 dX6_goWrite_43 rfl (lv_at hl 0 rfl) ?_
        refine r_const E dX6_goWrite_44 ?_
        refine kVRE (As := [.int (iI ((n : Int))), .int (iI (4))]) E cw_X6_34 (c_X6_of G l g σ _ _ _ _ _ _ _ (n) (4) (by omega) (by omega)) ho ⟨_, _, rfl⟩ ⟨ho, ha⟩ hL hl.1 rfl rfl (Nat.le_of_ble_eq_true rfl) ⟨Nat.le_of_ble_eq_true rfl, Nat.le_of_ble_eq_true rfl⟩ ⟨rfl, rfl⟩ ⟨Nat.le_of_ble_eq_true rfl, Nat.le_of_ble_eq_true rfl⟩ dX6_goWrite_45 (fun locs hL => ?_)
        refine r_add E dX6_goWrite_48 ?_
        refine r_sipush E dX6_goWrite_49 (by decide) ?_
        refine r_icmp_le (tgt := 58) E dX6_goWrite_52 (by decide) (by omega) (by omega) (fun c52 => ?_) (fun c52 => ?_)
        · refine lv_aload_n E.1 E.2.1 dX6_goWrite_58 rfl (lv_at hl 1 rfl) ?_
          refine m_get E ho fw_X6_7 rfl dX6_goWrite_59 ?_
          refine r_const E dX6_goWrite_62 ?_
          refine r_iald E ha (0) rfl (by decide) (by decide) dX6_goWrite_63 ?_
          rw [show encI σ (0) = iI ((nx σ : Nat) : Int) from rfl]
          refine lv_istore (lv' := [(4, .int (iI ((nx σ : Int)))), (3, .int (iI ((n : Int)))), (0, .ref (g)), (1, .int (iI ((k : Int)))), (2, .int (iI ((j : Int))))]) E.1 E.2.1 dX6_goWrite_64 hl (by decide) rfl (fun ls hl => ?_)
          refine lv_aload_n E.1 E.2.1 dX6_goWrite_66 rfl (lv_at hl 2 rfl) ?_
          refine m_get E ho fw_X6_7 rfl dX6_goWrite_67 ?_
          refine r_bipush E dX6_goWrite_70 (by decide) ?_
          refine r_bipush E dX6_goWrite_72 (by decide) ?_
          refine lv_iload_n E.1 E.2.1 dX6_goWrite_74 rfl (lv_at hl 1 rfl) ?_
          refine r_mul E dX6_goWrite_75 ?_
          refine r_add E dX6_goWrite_76 ?_
          refine lv_iload_n E.1 E.2.1 dX6_goWrite_77 rfl (lv_at hl 3 rfl) ?_
          refine r_add E dX6_goWrite_78 ?_
          refine r_bipush E dX6_goWrite_79 (by decide) ?_
          refine lv_iload E.1 E.2.1 dX6_goWrite_81 (lv_at hl 0 rfl) ?_
          refine r_const E dX6_goWrite_83 ?_
          refine r_add E dX6_goWrite_84 ?_
          refine r_mul E dX6_goWrite_85 ?_
          refine lv_iload_n E.1 E.2.1 dX6_goWrite_86 rfl (lv_at hl 4 rfl) ?_
          refine r_add E dX6_goWrite_87 ?_
          refine r_iast E ha (104 + 20 * n + k) (by omega) (by omega) (by decide) hL (by omega) dX6_goWrite_88 (fun H1 locs hL hO_ hF_ => ?_)
          have ho := ho.kept (hF_.2 _ (by omega))
          have hS := hS.trans (FrS.of1 (lo := g + 1) (hi := g + 2) hF_ (by omega) (by omega))
          have ha : Ia G (g + 1) 0 344 (upd (encI σ) (104 + 20 * n + k) (iI ((64 * ((nx σ : Int) + 1)) + (j : Int)))) H1 := hO_
          clear hO_
          have ha : Ia G (g + 1) 0 344 (encI (sEn σ n k (some (nx σ, j, n)))) H1 := ha.to (enc_to (up_en σ (n := n) (k := k) (some (nx σ, j, n)) (by omega)) (by simp only [encO]; omega))
          refine lv_aload_n E.1 E.2.1 dX6_goWrite_89 rfl (lv_at hl 2 rfl) ?_
          refine m_get E ho fw_X6_7 rfl dX6_goWrite_90 ?_
          refine r_bipush E dX6_goWrite_93 (by decide) ?_
          refine lv_iload_n E.1 E.2.1 dX6_goWrite_95 rfl (lv_at hl 3 rfl) ?_
          refine r_add E dX6_goWrite_96 ?_
          refine lv_dup2_11 E.1 E.2.1 dX6_goWrite_97 rfl rfl ?_
          refine r_iald E ha (12 + k) (by omega) (by omega) (by decide) dX6_goWrite_98 ?_
          rw [show encI (sEn σ n k (some (nx σ, j, n))) (12 + k) = iI ((vr σ k : Nat) : Int) from congrArg (fun z : Nat => iI (z : Int)) (enc_vr (σ := (sEn σ n k (some (nx σ, j, n)))) (k := k) (by omega))]
          refine r_const E dX6_goWrite_99 ?_
          refine r_add E dX6_goWrite_100 ?_
          refine r_iast E ha (12 + k) (by omega) (by omega) (by decide) hL (by omega) dX6_goWrite_101 (fun H2 locs hL hO_ hF_ => ?_)
          have ho := ho.kept (hF_.2 _ (by omega))
          have hS := hS.trans (FrS.of1 (lo := g + 1) (hi := g + 2) hF_ (by omega) (by omega))
          have ha : Ia G (g + 1) 0 344 (upd (encI (sEn σ n k (some (nx σ, j, n)))) (12 + k) (iI ((vr σ k : Int) + 1))) H2 := hO_
          clear hO_
          have ha : Ia G (g + 1) 0 344 (encI (sVr (sEn σ n k (some (nx σ, j, n))) k (vr σ k + 1))) H2 := ha.to (enc_to (up_vr (sEn σ n k (some (nx σ, j, n))) (k := k) (vr σ k + 1) (by omega)) (by omega))
          refine lv_aload_n E.1 E.2.1 dX6_goWrite_102 rfl (lv_at hl 2 rfl) ?_
          refine lv_iload_n E.1 E.2.1 dX6_goWrite_103 rfl (lv_at hl 1 rfl) ?_
          refine r_const E dX6_goWrite_104 ?_
          refine lv_aload_n E.1 E.2.1 dX6_goWrite_105 rfl (lv_at hl 2 rfl) ?_
          refine lv_iload_n E.1 E.2.1 dX6_goWrite_106 rfl (lv_at hl 1 rfl) ?_
          refine r_const E dX6_goWrite_107 ?_
          refine kVRE (As := [.int (iI ((n : Int))), .int (iI (5))]) E cw_X6_34 (c_X6_of G l g (sVr (sEn σ n k (some (nx σ, j, n))) k (vr σ k + 1)) _ _ _ _ _ _ _ (n) (5) (by omega) (by omega)) ho ⟨_, _, rfl⟩ ⟨ho, ha⟩ hL hl.1 rfl rfl (Nat.le_of_ble_eq_true rfl) ⟨Nat.le_of_ble_eq_true rfl, Nat.le_of_ble_eq_true rfl⟩ ⟨rfl, rfl⟩ ⟨Nat.le_of_ble_eq_true rfl, Nat.le_of_ble_eq_true rfl⟩ dX6_goWrite_108 (fun locs hL => ?_)
          rw [show se (sVr (sEn σ n k (some (nx σ, j, n))) k (vr σ k + 1)) n 5 = se σ n 5 from rfl]
          refine r_const E dX6_goWrite_111 ?_
          refine r_add E dX6_goWrite_112 ?_
          rw [show ((se σ n 5 : Int) + 1) = ((se σ n 5 + 1 : Nat) : Int) by omega]
          refine kVWV (As := [.int (iI ((n : Int))), .int (iI (5)), .int (iI ((se σ n 5 + 1 : Nat)))]) E cw_X6_59 (c_X6_lays G l g (sVr (sEn σ n k (some (nx σ, j, n))) k (vr σ k + 1)) _ _ _ _ _ _ _ (n) (5) (se σ n 5 + 1) (by omega) (by omega) hga) ho ⟨_, _, rfl⟩ ⟨ho, ha⟩ hL hl.1 rfl rfl (Nat.le_of_ble_eq_true rfl) ⟨Nat.le_of_ble_eq_true rfl, Nat.le_of_ble_eq_true rfl⟩ ⟨Nat.le_of_ble_eq_true rfl, Nat.le_of_ble_eq_true rfl⟩ dX6_goWrite_113 (fun H3 locs hL hw_ => ?_)
          obtain ⟨⟨ho, ha⟩, hq⟩ := hw_
          have hS := hS.trans hq
          refine lv_aload_n E.1 E.2.1 dX6_goWrite_116 rfl (lv_at hl 2 rfl) ?_
          refine lv_iload_n E.1 E.2.1 dX6_goWrite_117 rfl (lv_at hl 1 rfl) ?_
          refine lv_iload_n E.1 E.2.1 dX6_goWrite_118 rfl (lv_at hl 4 rfl) ?_
          refine kVWV (As := [.int (iI ((n : Int))), .int (iI ((j : Int)))]) E cw_X6_70 (c_X6_takesSectors G l g (sSe (sVr (sEn σ n k (some (nx σ, j, n))) k (vr σ k + 1)) (n) (5) (se σ n 5 + 1)) _ _ _ _ _ _ _ (n) (j) (by omega) hga) ho ⟨_, _, rfl⟩ ⟨ho, ha⟩ hL hl.1 rfl rfl (Nat.le_of_ble_eq_true rfl) ⟨Nat.le_of_ble_eq_true rfl, Nat.le_of_ble_eq_true rfl⟩ ⟨Nat.le_of_ble_eq_true rfl, Nat.le_of_ble_eq_true rfl⟩ dX6_goWrite_119 (fun H4 locs hL hw_ => ?_)
          obtain ⟨⟨ho, ha⟩, hq⟩ := hw_
          have hS := hS.trans hq
          refine lv_iload E.1 E.2.1 dX6_goWrite_122 (lv_at hl 0 rfl) ?_
          refine e_iret (rm := ({ frames := 2, cells := 0, slots := 0, locals := 45 } : Room)) (v := iI ((nx σ : Int))) E hL dX6_goWrite_124 ?_
          have hsp : spWrite σ (k : Int) (j : Int) = ((nx σ : Int), tS (sSe (sVr (sEn σ n k (some (nx σ, j, n))) k (vr σ k + 1)) n 5 (se σ n 5 + 1)) n j) := by
            rw [wr_st]
            unfold spWrite
            rw [if_neg (by omega), if_neg (by omega), hop]
            simp only [Int.toNat_natCast]
            rw [if_neg (by omega)]
          rw [hsp]
          exact ⟨rfl, ⟨⟨ho, ha⟩, hS⟩⟩
        · refine r_bipush E dX6_goWrite_55 (by decide) ?_
          refine e_iret (rm := ({ frames := 2, cells := 0, slots := 0, locals := 45 } : Room)) (v := iI ((-4))) E hL dX6_goWrite_57 ?_
          have hsp : spWrite σ (k : Int) (j : Int) = (-4, σ) := by unfold spWrite; rw [if_neg (by omega), if_neg (by omega), hop]; simp only [Int.toNat_natCast]; rw [if_pos (by omega)]
          rw [hsp]
          exact ⟨rfl, ⟨⟨ho, ha⟩, hS⟩⟩
      · have c21 := of_decide_eq_false c21
        refine r_bipush E dX6_goWrite_24 (by decide) ?_
        refine e_iret (rm := ({ frames := 2, cells := 0, slots := 0, locals := 45 } : Room)) (v := iI ((-2))) E hL dX6_goWrite_26 ?_
        have hsp : spWrite σ y z = (-2, σ) := by unfold spWrite; rw [if_neg (by omega), if_pos (by omega)]
        rw [hsp]
        exact ⟨rfl, ⟨⟨ho, ha⟩, hS⟩⟩
    · have c9 := of_decide_eq_false c9
      refine r_const E dX6_goWrite_12 ?_
      refine e_iret (rm := ({ frames := 2, cells := 0, slots := 0, locals := 45 } : Room)) (v := iI ((-1))) E hL dX6_goWrite_13 ?_
      have hsp : spWrite σ y z = (-1, σ) := by unfold spWrite; rw [if_pos (by omega)]
      rw [hsp]
      exact ⟨rfl, ⟨⟨ho, ha⟩, hS⟩⟩
