set_option maxHeartbeats 4000000 in
set_option maxRecDepth 100000 in
theorem c_X6_wholeFiles (G : GG) (l : Launch) (g : Nat) (σ : St) (v3 v5 v6 v7 v8 v9 v10 : Int32) (hI : Inv σ) : Ct G l yX6_wholeFiles cX6_wholeFiles 5 (some .int) ({ frames := 4, cells := 0, slots := 0, locals := 87 } : Room) [.ref (g)] (fun H => MR G g σ v3 v5 v6 v7 v8 v9 v10 H) (RE (iI (cntIntact σ (dm σ)))) := by
  refine Ct.of (by decide +kernel) (Nat.le_of_ble_eq_true rfl) ?_
  intro p e s m args below meth c ls E hnm hP hl
  obtain ⟨ho, ha⟩ := hP
  have i1 := hI.mn12
  have i2 := hI.nx240
  have i3 := hI.s0b
  have i4 := hI.s1b
  have hl : lv_has ls 5 [(0, .ref (g))] := hl
  have hL : Lk G [] := Lk.nil
  generalize ([] : List Loc) = locs at hL ⊢
  refine r_const E dX6_wholeFiles_0 ?_
  refine lv_istore_n (lv' := [(1, .int (iI (0))), (0, .ref (g))]) E.1 E.2.1 dX6_wholeFiles_1 rfl hl (by decide) rfl (fun ls hl => ?_)
  refine lv_aload_n E.1 E.2.1 dX6_wholeFiles_2 rfl (lv_at hl 1 rfl) ?_
  refine kVRE (As := []) E cw_X6_67 (c_X6_validOne G l g σ _ _ _ _ _ _ _ hI) ho ⟨_, _, rfl⟩ ⟨ho, ha⟩ hL hl.1 rfl rfl (Nat.le_of_ble_eq_true rfl) ⟨Nat.le_of_ble_eq_true rfl, Nat.le_of_ble_eq_true rfl⟩ ⟨rfl, rfl⟩ ⟨Nat.le_of_ble_eq_true rfl, Nat.le_of_ble_eq_true rfl⟩ dX6_wholeFiles_3 (fun locs hL => ?_)
  rcases hv : validD σ (dm σ) with _ | q
  · rw [show oI none = -6 from rfl]
    refine lv_istore_n (lv' := [(2, .int (iI ((-6)))), (1, .int (iI (0))), (0, .ref (g))]) E.1 E.2.1 dX6_wholeFiles_6 rfl hl (by decide) rfl (fun ls hl => ?_)
    refine r_const E dX6_wholeFiles_7 ?_
    refine lv_istore_n (lv' := [(3, .int (iI (0))), (2, .int (iI ((-6)))), (1, .int (iI (0))), (0, .ref (g))]) E.1 E.2.1 dX6_wholeFiles_8 rfl hl (by decide) rfl (fun ls hl => ?_)
    refine lv_iload_n E.1 E.2.1 dX6_wholeFiles_9 rfl (lv_at hl 0 rfl) ?_
    refine r_bipush E dX6_wholeFiles_10 (by decide) ?_
    refine r_icmp_ge (tgt := 55) E dX6_wholeFiles_12 (by decide) (by omega) (by omega) (fun c12 => absurd c12 (by omega)) (fun c12 => ?_)
    refine lv_iload_n E.1 E.2.1 dX6_wholeFiles_15 rfl (lv_at hl 1 rfl) ?_
    refine r_if_lt (tgt := 55) E dX6_wholeFiles_16 (by decide) (by omega) (fun c16 => ?_) (fun c16 => absurd c16 (by omega))
    refine lv_iload_n E.1 E.2.1 dX6_wholeFiles_55 rfl (lv_at hl 2 rfl) ?_
    refine e_iret (rm := ({ frames := 4, cells := 0, slots := 0, locals := 87 } : Room)) (v := iI (0)) E hL dX6_wholeFiles_56 ?_
    exact RE_i (by simp only [cntIntact, hv]; rfl)
  · have hvq := validD_lt hv
    rw [show oI (some q) = (q : Int) from rfl]
    refine lv_istore_n (lv' := [(2, .int (iI ((q : Int)))), (1, .int (iI (0))), (0, .ref (g))]) E.1 E.2.1 dX6_wholeFiles_6 rfl hl (by decide) rfl (fun ls hl => ?_)
    refine r_const E dX6_wholeFiles_7 ?_
    refine lv_istore_n (lv' := [(3, .int (iI (0))), (2, .int (iI ((q : Int)))), (1, .int (iI (0))), (0, .ref (g))]) E.1 E.2.1 dX6_wholeFiles_8 rfl hl (by decide) rfl (fun ls hl => ?_)
    have LP9 : ∀ (kin9 : Nat) (k : Nat) (u v : Int) (ls : Array Slot) (locs : List Loc) (hk : k ≤ 20) (hu : u = (k : Int)) (hv2 : v = (cntB (fun k => intactO (dm σ) (en σ q k)) k : Nat)) (hkin9 : 20 - k = kin9) (hl : lv_has ls 5 [(3, .int (iI (u))), (1, .int (iI (v))), (2, .int (iI ((q : Int)))), (0, .ref (g))]) (hL : Lk G locs), W p l e ({ frames := 4, cells := 0, slots := 0, locals := 87 } : Room) s m args below meth c s.heap locs 0 0 (QQ G below args s ({ frames := 4, cells := 0, slots := 0, locals := 87 } : Room) (RE (iI (cntIntact σ (dm σ))))) (F0 m 9 ls []) := by
      intro kin9
      induction kin9 using Nat.strongRecOn with
      | ind kin9 ihin9 =>
        intro k u v ls locs hk hu hv2 hkin9 hl hL
        refine lv_iload_n E.1 E.2.1 dX6_wholeFiles_9 rfl (lv_at hl 0 rfl) ?_
        refine r_bipush E dX6_wholeFiles_10 (by decide) ?_
        refine r_icmp_ge (tgt := 55) E dX6_wholeFiles_12 (by decide) (by omega) (by omega) (fun c12 => ?_) (fun c12 => ?_)
        · refine lv_iload_n E.1 E.2.1 dX6_wholeFiles_55 rfl (lv_at hl 1 rfl) ?_
          refine e_iret (rm := ({ frames := 4, cells := 0, slots := 0, locals := 87 } : Room)) (v := iI (v)) E hL dX6_wholeFiles_56 ?_
          exact RE_i (by rw [hv2, show k = 20 by omega]; simp only [cntIntact, hv])
        · subst hu
          refine lv_iload_n E.1 E.2.1 dX6_wholeFiles_15 rfl (lv_at hl 2 rfl) ?_
          refine r_if_lt (tgt := 55) E dX6_wholeFiles_16 (by decide) (by omega) (fun c16 => absurd c16 (by omega)) (fun c16 => ?_)
          refine lv_aload_n E.1 E.2.1 dX6_wholeFiles_19 rfl (lv_at hl 3 rfl) ?_
          refine lv_iload_n E.1 E.2.1 dX6_wholeFiles_20 rfl (lv_at hl 2 rfl) ?_
          refine lv_iload_n E.1 E.2.1 dX6_wholeFiles_21 rfl (lv_at hl 0 rfl) ?_
          refine kVRE (As := [.int (iI ((q : Int))), .int (iI ((k : Int)))]) E cw_X6_38 (c_X6_entryOf G l g σ _ _ _ _ _ _ _ (q) (k) (by omega) (by omega)) ho ⟨_, _, rfl⟩ ⟨ho, ha⟩ hL hl.1 rfl rfl (Nat.le_of_ble_eq_true rfl) ⟨Nat.le_of_ble_eq_true rfl, Nat.le_of_ble_eq_true rfl⟩ ⟨rfl, rfl⟩ ⟨Nat.le_of_ble_eq_true rfl, Nat.le_of_ble_eq_true rfl⟩ dX6_wholeFiles_22 (fun locs hL => ?_)
          rcases he_ : en σ q k with _ | f
          · have he := he_.symm
            rw [show ((encO none : Nat) : Int) = 0 from rfl]
            refine lv_istore (lv' := [(4, .int (iI (0))), (3, .int (iI ((k : Int)))), (1, .int (iI (v))), (2, .int (iI ((q : Int)))), (0, .ref (g))]) E.1 E.2.1 dX6_wholeFiles_25 hl (by decide) rfl (fun ls hl => ?_)
            refine lv_iload_n E.1 E.2.1 dX6_wholeFiles_27 rfl (lv_at hl 2 rfl) ?_
            refine lv_iload E.1 E.2.1 dX6_wholeFiles_28 (lv_at hl 0 rfl) ?_
            refine r_if_le (tgt := 46) E dX6_wholeFiles_30 (by decide) (by omega) (fun c30 => ?_) (fun c30 => absurd c30 (by omega))
            refine r_const E dX6_wholeFiles_46 ?_
            refine r_add E dX6_wholeFiles_47 ?_
            refine lv_istore_n (lv' := [(1, .int (iI (v + 0))), (4, .int (iI (0))), (3, .int (iI ((k : Int)))), (2, .int (iI ((q : Int)))), (0, .ref (g))]) E.1 E.2.1 dX6_wholeFiles_48 rfl hl (by decide) rfl (fun ls hl => ?_)
            refine r_inc (lv' := [(3, .int (iI ((k : Int) + 1))), (1, .int (iI (v + 0))), (4, .int (iI (0))), (2, .int (iI ((q : Int)))), (0, .ref (g))]) E dX6_wholeFiles_49 hl (k := 2) rfl (by decide) rfl (fun ls hl => ?_)
            refine lv_goto (tgt := 9) E.1 E.2.1 dX6_wholeFiles_52 (by decide) ?_
            refine ihin9 _ ?_ (k + 1) ((k : Int) + 1) (v + 0) ls locs ?_ ?_ ?_ rfl (lv_sub hl [0, 1, 3, 4] rfl) hL
            · omega
            · omega
            · omega
            · first | (rw [hv2]; simp [cntB, ← he, intactO]; done) | (rw [hv2]; simp [cntB, ← he, intactO, c39]; done)
          · have he := he_.symm
            have hfb := hI.ent2 (n := q) (k := k) (by omega) (by omega) he_
            rw [show ((encO (some f) : Nat) : Int) = (64 * ((f.1 : Int) + 1) + (f.2.1 : Int)) by simp only [encO]; omega]
            refine lv_istore (lv' := [(4, .int (iI ((64 * ((f.1 : Int) + 1) + (f.2.1 : Int))))), (3, .int (iI ((k : Int)))), (1, .int (iI (v))), (2, .int (iI ((q : Int)))), (0, .ref (g))]) E.1 E.2.1 dX6_wholeFiles_25 hl (by decide) rfl (fun ls hl => ?_)
            refine lv_iload_n E.1 E.2.1 dX6_wholeFiles_27 rfl (lv_at hl 2 rfl) ?_
            refine lv_iload E.1 E.2.1 dX6_wholeFiles_28 (lv_at hl 0 rfl) ?_
            refine r_if_le (tgt := 46) E dX6_wholeFiles_30 (by decide) (by omega) (fun c30 => absurd c30 (by omega)) (fun c30 => ?_)
            refine lv_aload_n E.1 E.2.1 dX6_wholeFiles_33 rfl (lv_at hl 4 rfl) ?_
            refine lv_iload E.1 E.2.1 dX6_wholeFiles_34 (lv_at hl 0 rfl) ?_
            refine kVRE (As := [.int (iI ((64 * ((f.1 : Int) + 1) + (f.2.1 : Int))))]) E cw_X6_170 (c_X6_isIntact G l g σ _ _ _ _ _ _ _ f (by omega)) ho ⟨_, _, rfl⟩ ⟨ho, ha⟩ hL hl.1 rfl rfl (Nat.le_of_ble_eq_true rfl) ⟨Nat.le_of_ble_eq_true rfl, Nat.le_of_ble_eq_true rfl⟩ ⟨rfl, rfl⟩ ⟨Nat.le_of_ble_eq_true rfl, Nat.le_of_ble_eq_true rfl⟩ dX6_wholeFiles_36 (fun locs hL => ?_)
            refine r_bif_eq (tgt := 46) E dX6_wholeFiles_39 (by decide)  (fun c39 => ?_) (fun c39 => ?_)
            · refine r_const E dX6_wholeFiles_46 ?_
              refine r_add E dX6_wholeFiles_47 ?_
              refine lv_istore_n (lv' := [(1, .int (iI (v + 0))), (4, .int (iI ((64 * ((f.1 : Int) + 1) + (f.2.1 : Int))))), (3, .int (iI ((k : Int)))), (2, .int (iI ((q : Int)))), (0, .ref (g))]) E.1 E.2.1 dX6_wholeFiles_48 rfl hl (by decide) rfl (fun ls hl => ?_)
              refine r_inc (lv' := [(3, .int (iI ((k : Int) + 1))), (1, .int (iI (v + 0))), (4, .int (iI ((64 * ((f.1 : Int) + 1) + (f.2.1 : Int))))), (2, .int (iI ((q : Int)))), (0, .ref (g))]) E dX6_wholeFiles_49 hl (k := 2) rfl (by decide) rfl (fun ls hl => ?_)
              refine lv_goto (tgt := 9) E.1 E.2.1 dX6_wholeFiles_52 (by decide) ?_
              refine ihin9 _ ?_ (k + 1) ((k : Int) + 1) (v + 0) ls locs ?_ ?_ ?_ rfl (lv_sub hl [0, 1, 3, 4] rfl) hL
              · omega
              · omega
              · omega
              · first | (rw [hv2]; simp [cntB, ← he, intactO]; done) | (rw [hv2]; simp [cntB, ← he, intactO, c39]; done)
            · refine r_const E dX6_wholeFiles_42 ?_
              refine lv_goto (tgt := 47) E.1 E.2.1 dX6_wholeFiles_43 (by decide) ?_
              refine r_add E dX6_wholeFiles_47 ?_
              refine lv_istore_n (lv' := [(1, .int (iI (v + 1))), (4, .int (iI ((64 * ((f.1 : Int) + 1) + (f.2.1 : Int))))), (3, .int (iI ((k : Int)))), (2, .int (iI ((q : Int)))), (0, .ref (g))]) E.1 E.2.1 dX6_wholeFiles_48 rfl hl (by decide) rfl (fun ls hl => ?_)
              refine r_inc (lv' := [(3, .int (iI ((k : Int) + 1))), (1, .int (iI (v + 1))), (4, .int (iI ((64 * ((f.1 : Int) + 1) + (f.2.1 : Int))))), (2, .int (iI ((q : Int)))), (0, .ref (g))]) E dX6_wholeFiles_49 hl (k := 2) rfl (by decide) rfl (fun ls hl => ?_)
              refine lv_goto (tgt := 9) E.1 E.2.1 dX6_wholeFiles_52 (by decide) ?_
              refine ihin9 _ ?_ (k + 1) ((k : Int) + 1) (v + 1) ls locs ?_ ?_ ?_ rfl (lv_sub hl [0, 1, 3, 4] rfl) hL
              · omega
              · omega
              · omega
              · first | (rw [hv2]; simp [cntB, ← he, intactO]; done) | (rw [hv2]; simp [cntB, ← he, intactO, c39]; done)
    refine LP9 _ 0 0 0 ls locs ?_ ?_ ?_ rfl (lv_sub hl [0, 2, 1, 3] rfl) hL
    · omega
    · rfl
    · rfl

set_option maxHeartbeats 4000000 in
set_option maxRecDepth 100000 in
theorem c_X6_foundSectors (G : GG) (l : Launch) (g : Nat) (σ : St) (v3 v5 v6 v7 v8 v9 v10 : Int32) (hI : Inv σ) : Ct G l yX6_foundSectors cX6_foundSectors 4 (some .int) ({ frames := 4, cells := 0, slots := 0, locals := 87 } : Room) [.ref (g)] (fun H => MR G g σ v3 v5 v6 v7 v8 v9 v10 H) (RE (iI (foundSec σ))) := by
  refine Ct.of (by decide +kernel) (Nat.le_of_ble_eq_true rfl) ?_
  intro p e s m args below meth c ls E hnm hP hl
  obtain ⟨ho, ha⟩ := hP
  have i1 := hI.mn12
  have i2 := hI.nx240
  have i3 := hI.s0b
  have i4 := hI.s1b
  have hl : lv_has ls 4 [(0, .ref (g))] := hl
  have hL : Lk G [] := Lk.nil
  generalize ([] : List Loc) = locs at hL ⊢
  refine r_const E dX6_foundSectors_0 ?_
  refine lv_istore_n (lv' := [(1, .int (iI (0))), (0, .ref (g))]) E.1 E.2.1 dX6_foundSectors_1 rfl hl (by decide) rfl (fun ls hl => ?_)
  refine lv_aload_n E.1 E.2.1 dX6_foundSectors_2 rfl (lv_at hl 1 rfl) ?_
  refine kVRE (As := []) E cw_X6_67 (c_X6_validOne G l g σ _ _ _ _ _ _ _ hI) ho ⟨_, _, rfl⟩ ⟨ho, ha⟩ hL hl.1 rfl rfl (Nat.le_of_ble_eq_true rfl) ⟨Nat.le_of_ble_eq_true rfl, Nat.le_of_ble_eq_true rfl⟩ ⟨rfl, rfl⟩ ⟨Nat.le_of_ble_eq_true rfl, Nat.le_of_ble_eq_true rfl⟩ dX6_foundSectors_3 (fun locs hL => ?_)
  rcases hv : validD σ (dm σ) with _ | q
  · rw [show oI none = -6 from rfl]
    refine lv_istore_n (lv' := [(2, .int (iI ((-6)))), (1, .int (iI (0))), (0, .ref (g))]) E.1 E.2.1 dX6_foundSectors_6 rfl hl (by decide) rfl (fun ls hl => ?_)
    refine r_const E dX6_foundSectors_7 ?_
    refine lv_istore_n (lv' := [(3, .int (iI (0))), (2, .int (iI ((-6)))), (1, .int (iI (0))), (0, .ref (g))]) E.1 E.2.1 dX6_foundSectors_8 rfl hl (by decide) rfl (fun ls hl => ?_)
    refine lv_iload_n E.1 E.2.1 dX6_foundSectors_9 rfl (lv_at hl 0 rfl) ?_
    refine r_bipush E dX6_foundSectors_10 (by decide) ?_
    refine r_icmp_ge (tgt := 37) E dX6_foundSectors_12 (by decide) (by omega) (by omega) (fun c12 => absurd c12 (by omega)) (fun c12 => ?_)
    refine lv_iload_n E.1 E.2.1 dX6_foundSectors_15 rfl (lv_at hl 1 rfl) ?_
    refine r_if_lt (tgt := 37) E dX6_foundSectors_16 (by decide) (by omega) (fun c16 => ?_) (fun c16 => absurd c16 (by omega))
    refine lv_iload_n E.1 E.2.1 dX6_foundSectors_37 rfl (lv_at hl 2 rfl) ?_
    refine e_iret (rm := ({ frames := 4, cells := 0, slots := 0, locals := 87 } : Room)) (v := iI (0)) E hL dX6_foundSectors_38 ?_
    exact RE_i (by simp only [foundSec, hv]; rfl)
  · have hvq := validD_lt hv
    rw [show oI (some q) = (q : Int) from rfl]
    refine lv_istore_n (lv' := [(2, .int (iI ((q : Int)))), (1, .int (iI (0))), (0, .ref (g))]) E.1 E.2.1 dX6_foundSectors_6 rfl hl (by decide) rfl (fun ls hl => ?_)
    refine r_const E dX6_foundSectors_7 ?_
    refine lv_istore_n (lv' := [(3, .int (iI (0))), (2, .int (iI ((q : Int)))), (1, .int (iI (0))), (0, .ref (g))]) E.1 E.2.1 dX6_foundSectors_8 rfl hl (by decide) rfl (fun ls hl => ?_)
    have LP9 : ∀ (kin9 : Nat) (k : Nat) (u v : Int) (ls : Array Slot) (locs : List Loc) (hk : k ≤ 20) (hu : u = (k : Int)) (hv2 : v = (sumF (fun k => sizeO (en σ q k)) k : Nat)) (hkin9 : 20 - k = kin9) (hl : lv_has ls 4 [(3, .int (iI (u))), (1, .int (iI (v))), (2, .int (iI ((q : Int)))), (0, .ref (g))]) (hL : Lk G locs), W p l e ({ frames := 4, cells := 0, slots := 0, locals := 87 } : Room) s m args below meth c s.heap locs 0 0 (QQ G below args s ({ frames := 4, cells := 0, slots := 0, locals := 87 } : Room) (RE (iI (foundSec σ)))) (F0 m 9 ls []) := by
      intro kin9
      induction kin9 using Nat.strongRecOn with
      | ind kin9 ihin9 =>
        intro k u v ls locs hk hu hv2 hkin9 hl hL
        refine lv_iload_n E.1 E.2.1 dX6_foundSectors_9 rfl (lv_at hl 0 rfl) ?_
        refine r_bipush E dX6_foundSectors_10 (by decide) ?_
        refine r_icmp_ge (tgt := 37) E dX6_foundSectors_12 (by decide) (by omega) (by omega) (fun c12 => ?_) (fun c12 => ?_)
        · refine lv_iload_n E.1 E.2.1 dX6_foundSectors_37 rfl (lv_at hl 1 rfl) ?_
          refine e_iret (rm := ({ frames := 4, cells := 0, slots := 0, locals := 87 } : Room)) (v := iI (v)) E hL dX6_foundSectors_38 ?_
          exact RE_i (by rw [hv2, show k = 20 by omega]; simp only [foundSec, hv])
        · subst hu
          refine lv_iload_n E.1 E.2.1 dX6_foundSectors_15 rfl (lv_at hl 2 rfl) ?_
          refine r_if_lt (tgt := 37) E dX6_foundSectors_16 (by decide) (by omega) (fun c16 => absurd c16 (by omega)) (fun c16 => ?_)
          refine lv_iload_n E.1 E.2.1 dX6_foundSectors_19 rfl (lv_at hl 1 rfl) ?_
          refine lv_aload_n E.1 E.2.1 dX6_foundSectors_20 rfl (lv_at hl 3 rfl) ?_
          refine lv_iload_n E.1 E.2.1 dX6_foundSectors_21 rfl (lv_at hl 2 rfl) ?_
          refine lv_iload_n E.1 E.2.1 dX6_foundSectors_22 rfl (lv_at hl 0 rfl) ?_
          refine kVRE (As := [.int (iI ((q : Int))), .int (iI ((k : Int)))]) E cw_X6_38 (c_X6_entryOf G l g σ _ _ _ _ _ _ _ (q) (k) (by omega) (by omega)) ho ⟨_, _, rfl⟩ ⟨ho, ha⟩ hL hl.1 rfl rfl (Nat.le_of_ble_eq_true rfl) ⟨Nat.le_of_ble_eq_true rfl, Nat.le_of_ble_eq_true rfl⟩ ⟨rfl, rfl⟩ ⟨Nat.le_of_ble_eq_true rfl, Nat.le_of_ble_eq_true rfl⟩ dX6_foundSectors_23 (fun locs hL => ?_)
          rcases he_ : en σ q k with _ | f
          · have he := he_.symm
            rw [show ((encO none : Nat) : Int) = 0 from rfl]
            refine kSRE (As := [.int (iI (0))]) E cw_X6_56 (c_X6_sizeOf G l (0) (by omega)) trivial hL hl.1 rfl rfl (Nat.le_of_ble_eq_true rfl) ⟨Nat.le_of_ble_eq_true rfl, Nat.le_of_ble_eq_true rfl⟩ ⟨rfl, rfl⟩ ⟨Nat.le_of_ble_eq_true rfl, Nat.le_of_ble_eq_true rfl⟩ dX6_foundSectors_26 (fun locs hL => ?_)
            rw [show ((0) % 64 : Int) = 0 by omega]
            refine r_add E dX6_foundSectors_29 ?_
            refine lv_istore_n (lv' := [(1, .int (iI (v + 0))), (3, .int (iI ((k : Int)))), (2, .int (iI ((q : Int)))), (0, .ref (g))]) E.1 E.2.1 dX6_foundSectors_30 rfl hl (by decide) rfl (fun ls hl => ?_)
            refine r_inc (lv' := [(3, .int (iI ((k : Int) + 1))), (1, .int (iI (v + 0))), (2, .int (iI ((q : Int)))), (0, .ref (g))]) E dX6_foundSectors_31 hl (k := 1) rfl (by decide) rfl (fun ls hl => ?_)
            refine lv_goto (tgt := 9) E.1 E.2.1 dX6_foundSectors_34 (by decide) ?_
            refine ihin9 _ ?_ (k + 1) ((k : Int) + 1) (v + 0) ls locs ?_ ?_ ?_ rfl (lv_sub hl [0, 1, 2, 3] rfl) hL
            · omega
            · omega
            · omega
            · rw [hv2]; simp [sumF, ← he, sizeO]
          · have he := he_.symm
            have hfb := hI.ent2 (n := q) (k := k) (by omega) (by omega) he_
            rw [show ((encO (some f) : Nat) : Int) = (64 * ((f.1 : Int) + 1) + (f.2.1 : Int)) by simp only [encO]; omega]
            refine kSRE (As := [.int (iI ((64 * ((f.1 : Int) + 1) + (f.2.1 : Int))))]) E cw_X6_56 (c_X6_sizeOf G l ((64 * ((f.1 : Int) + 1) + (f.2.1 : Int))) (by omega)) trivial hL hl.1 rfl rfl (Nat.le_of_ble_eq_true rfl) ⟨Nat.le_of_ble_eq_true rfl, Nat.le_of_ble_eq_true rfl⟩ ⟨rfl, rfl⟩ ⟨Nat.le_of_ble_eq_true rfl, Nat.le_of_ble_eq_true rfl⟩ dX6_foundSectors_26 (fun locs hL => ?_)
            rw [show (((64 * ((f.1 : Int) + 1) + (f.2.1 : Int))) % 64 : Int) = (f.2.1 : Int) by omega]
            refine r_add E dX6_foundSectors_29 ?_
            refine lv_istore_n (lv' := [(1, .int (iI (v + (f.2.1 : Int)))), (3, .int (iI ((k : Int)))), (2, .int (iI ((q : Int)))), (0, .ref (g))]) E.1 E.2.1 dX6_foundSectors_30 rfl hl (by decide) rfl (fun ls hl => ?_)
            refine r_inc (lv' := [(3, .int (iI ((k : Int) + 1))), (1, .int (iI (v + (f.2.1 : Int)))), (2, .int (iI ((q : Int)))), (0, .ref (g))]) E dX6_foundSectors_31 hl (k := 1) rfl (by decide) rfl (fun ls hl => ?_)
            refine lv_goto (tgt := 9) E.1 E.2.1 dX6_foundSectors_34 (by decide) ?_
            refine ihin9 _ ?_ (k + 1) ((k : Int) + 1) (v + (f.2.1 : Int)) ls locs ?_ ?_ ?_ rfl (lv_sub hl [0, 1, 2, 3] rfl) hL
            · omega
            · omega
            · omega
            · rw [hv2]; simp [sumF, ← he, sizeO]
    refine LP9 _ 0 0 0 ls locs ?_ ?_ ?_ rfl (lv_sub hl [0, 2, 1, 3] rfl) hL
    · omega
    · rfl
    · rfl

set_option maxHeartbeats 4000000 in
set_option maxRecDepth 100000 in
theorem c_X6_found (G : GG) (l : Launch) (g : Nat) (σ : St) (v3 v5 v6 v7 v8 v9 v10 : Int32) (hI : Inv σ) (k : Nat) (hk : k < 20) : Ct G l yX6_found cX6_found 2 (some .int) ({ frames := 4, cells := 0, slots := 0, locals := 87 } : Room) [.ref (g), .int (iI ((k : Int)))] (fun H => MR G g σ v3 v5 v6 v7 v8 v9 v10 H) (RE (iI (encO (foundF σ k) : Nat))) := by
  refine Ct.of (by decide +kernel) (Nat.le_of_ble_eq_true rfl) ?_
  intro p e s m args below meth c ls E hnm hP hl
  obtain ⟨ho, ha⟩ := hP
  have i1 := hI.mn12
  have i2 := hI.nx240
  have i3 := hI.s0b
  have i4 := hI.s1b
  have hl : lv_has ls 2 [(0, .ref (g)), (1, .int (iI ((k : Int))))] := hl
  have hL : Lk G [] := Lk.nil
  generalize ([] : List Loc) = locs at hL ⊢
  refine lv_aload_n E.1 E.2.1 dX6_found_0 rfl (lv_at hl 0 rfl) ?_
  refine kVRE (As := []) E cw_X6_67 (c_X6_validOne G l g σ _ _ _ _ _ _ _ hI) ho ⟨_, _, rfl⟩ ⟨ho, ha⟩ hL hl.1 rfl rfl (Nat.le_of_ble_eq_true rfl) ⟨Nat.le_of_ble_eq_true rfl, Nat.le_of_ble_eq_true rfl⟩ ⟨rfl, rfl⟩ ⟨Nat.le_of_ble_eq_true rfl, Nat.le_of_ble_eq_true rfl⟩ dX6_found_1 (fun locs hL => ?_)
  rcases hv : validD σ (dm σ) with _ | q
  · rw [show oI none = -6 from rfl]
    refine r_if_ge (tgt := 11) E dX6_found_4 (by decide) (by omega) (fun c4 => absurd c4 (by omega)) (fun c4 => ?_)
    refine r_const E dX6_found_7 ?_
    refine lv_goto (tgt := 20) E.1 E.2.1 dX6_found_8 (by decide) ?_
    refine e_iret (rm := ({ frames := 4, cells := 0, slots := 0, locals := 87 } : Room)) (v := iI (0)) E hL dX6_found_20 ?_
    exact RE_i (by simp only [foundF, hv]; rfl)
  · have hvq := validD_lt hv
    rw [show oI (some q) = (q : Int) from rfl]
    refine r_if_ge (tgt := 11) E dX6_found_4 (by decide) (by omega) (fun c4 => ?_) (fun c4 => absurd c4 (by omega))
    refine lv_aload_n E.1 E.2.1 dX6_found_11 rfl (lv_at hl 0 rfl) ?_
    refine lv_aload_n E.1 E.2.1 dX6_found_12 rfl (lv_at hl 0 rfl) ?_
    refine kVRE (As := []) E cw_X6_67 (c_X6_validOne G l g σ _ _ _ _ _ _ _ hI) ho ⟨_, _, rfl⟩ ⟨ho, ha⟩ hL hl.1 rfl rfl (Nat.le_of_ble_eq_true rfl) ⟨Nat.le_of_ble_eq_true rfl, Nat.le_of_ble_eq_true rfl⟩ ⟨rfl, rfl⟩ ⟨Nat.le_of_ble_eq_true rfl, Nat.le_of_ble_eq_true rfl⟩ dX6_found_13 (fun locs hL => ?_)
    rw [show oI (validD σ (dm σ)) = (q : Int) by rw [hv]; rfl]
    refine lv_iload_n E.1 E.2.1 dX6_found_16 rfl (lv_at hl 1 rfl) ?_
    refine kVRE (As := [.int (iI ((q : Int))), .int (iI ((k : Int)))]) E cw_X6_38 (c_X6_entryOf G l g σ _ _ _ _ _ _ _ (q) (k) (by omega) (by omega)) ho ⟨_, _, rfl⟩ ⟨ho, ha⟩ hL hl.1 rfl rfl (Nat.le_of_ble_eq_true rfl) ⟨Nat.le_of_ble_eq_true rfl, Nat.le_of_ble_eq_true rfl⟩ ⟨rfl, rfl⟩ ⟨Nat.le_of_ble_eq_true rfl, Nat.le_of_ble_eq_true rfl⟩ dX6_found_17 (fun locs hL => ?_)
    rcases he_ : en σ q k with _ | f
    · have he := he_.symm
      rw [show ((encO none : Nat) : Int) = 0 from rfl]
      refine e_iret (rm := ({ frames := 4, cells := 0, slots := 0, locals := 87 } : Room)) (v := iI (0)) E hL dX6_found_20 ?_
      exact RE_i (by rw [show foundF σ k = en σ q k by simp only [foundF, hv]]; rw [← he]; simp only [encO]; omega)
    · have he := he_.symm
      have hfb := hI.ent2 (n := q) (k := k) (by omega) (by omega) he_
      rw [show ((encO (some f) : Nat) : Int) = (64 * ((f.1 : Int) + 1) + (f.2.1 : Int)) by simp only [encO]; omega]
      refine e_iret (rm := ({ frames := 4, cells := 0, slots := 0, locals := 87 } : Room)) (v := iI ((64 * ((f.1 : Int) + 1) + (f.2.1 : Int)))) E hL dX6_found_20 ?_
      exact RE_i (by rw [show foundF σ k = en σ q k by simp only [foundF, hv]]; rw [← he]; simp only [encO]; omega)

set_option maxHeartbeats 4000000 in
set_option maxRecDepth 100000 in
theorem c_X6_room (G : GG) (l : Launch) (g : Nat) (σ : St) (v3 v5 v6 v7 v8 v9 v10 : Int32) (hI : Inv σ) : Ct G l yX6_room cX6_room 4 (some .int) ({ frames := 2, cells := 0, slots := 0, locals := 43 } : Room) [.ref (g)] (fun H => MR G g σ v3 v5 v6 v7 v8 v9 v10 H) (RE (iI (roomN σ))) := by
  refine Ct.of (by decide +kernel) (Nat.le_of_ble_eq_true rfl) ?_
  intro p e s m args below meth c ls E hnm hP hl
  obtain ⟨ho, ha⟩ := hP
  have i1 := hI.mn12
  have i2 := hI.nx240
  have i3 := hI.s0b
  have i4 := hI.s1b
  have hl : lv_has ls 4 [(0, .ref (g))] := hl
  have hL : Lk G [] := Lk.nil
  generalize ([] : List Loc) = locs at hL ⊢
  refine lv_aload_n E.1 E.2.1 dX6_room_0 rfl (lv_at hl 0 rfl) ?_
  refine kVRE (As := []) E cw_X6_63 (c_X6_openOne G l g σ _ _ _ _ _ _ _ hI) ho ⟨_, _, rfl⟩ ⟨ho, ha⟩ hL hl.1 rfl rfl (Nat.le_of_ble_eq_true rfl) ⟨Nat.le_of_ble_eq_true rfl, Nat.le_of_ble_eq_true rfl⟩ ⟨rfl, rfl⟩ ⟨Nat.le_of_ble_eq_true rfl, Nat.le_of_ble_eq_true rfl⟩ dX6_room_1 (fun locs hL => ?_)
  rcases hop : opn σ with _ | n
  · rw [show oI none = -6 from rfl]
    refine lv_istore_n (lv' := [(1, .int (iI ((-6)))), (0, .ref (g))]) E.1 E.2.1 dX6_room_4 rfl hl (by decide) rfl (fun ls hl => ?_)
    refine r_sipush E dX6_room_5 (by decide) ?_
    refine lv_aload_n E.1 E.2.1 dX6_room_8 rfl (lv_at hl 1 rfl) ?_
    refine m_get E ho fw_X6_7 rfl dX6_room_9 ?_
    refine r_const E dX6_room_12 ?_
    refine r_iald E ha (0) rfl (by decide) (by decide) dX6_room_13 ?_
    rw [show encI σ (0) = iI ((nx σ : Nat) : Int) from rfl]
    refine r_sub E dX6_room_14 ?_
    refine lv_istore_n (lv' := [(2, .int (iI (240 - (nx σ : Int)))), (1, .int (iI ((-6)))), (0, .ref (g))]) E.1 E.2.1 dX6_room_15 rfl hl (by decide) rfl (fun ls hl => ?_)
    refine lv_iload_n E.1 E.2.1 dX6_room_16 rfl (lv_at hl 1 rfl) ?_
    refine r_if_lt (tgt := 31) E dX6_room_17 (by decide) (by omega) (fun c17 => ?_) (fun c17 => absurd c17 (by omega))
    refine lv_aload_n E.1 E.2.1 dX6_room_31 rfl (lv_at hl 2 rfl) ?_
    refine m_get E ho fw_X6_7 rfl dX6_room_32 ?_
    refine r_const E dX6_room_35 ?_
    refine r_iald E ha (1) rfl (by decide) (by decide) dX6_room_36 ?_
    rw [show encI σ (1) = iI ((mn σ : Nat) : Int) from rfl]
    refine r_bipush E dX6_room_37 (by decide) ?_
    refine r_icmp_ne (tgt := 46) E dX6_room_39 (by decide) (by omega) (by omega) (fun c39 => ?_) (fun c39 => ?_)
    · refine lv_iload_n E.1 E.2.1 dX6_room_46 rfl (lv_at hl 0 rfl) ?_
      refine lv_aload_n E.1 E.2.1 dX6_room_47 rfl (lv_at hl 2 rfl) ?_
      refine m_get E ho fw_X6_7 rfl dX6_room_48 ?_
      refine r_const E dX6_room_51 ?_
      refine r_iald E ha (2) rfl (by decide) (by decide) dX6_room_52 ?_
      rw [show encI σ (2) = iI ((s0 σ : Nat) : Int) from rfl]
      refine r_sub E dX6_room_53 ?_
      refine lv_aload_n E.1 E.2.1 dX6_room_54 rfl (lv_at hl 2 rfl) ?_
      refine m_get E ho fw_X6_7 rfl dX6_room_55 ?_
      refine r_const E dX6_room_58 ?_
      refine r_iald E ha (3) rfl (by decide) (by decide) dX6_room_59 ?_
      rw [show encI σ (3) = iI ((s1 σ : Nat) : Int) from rfl]
      refine r_sub E dX6_room_60 ?_
      refine lv_istore_n (lv' := [(3, .int (iI (((240 - (nx σ : Int)) - (s0 σ : Int)) - (s1 σ : Int)))), (2, .int (iI (240 - (nx σ : Int)))), (1, .int (iI ((-6)))), (0, .ref (g))]) E.1 E.2.1 dX6_room_61 rfl hl (by decide) rfl (fun ls hl => ?_)
      refine lv_iload_n E.1 E.2.1 dX6_room_62 rfl (lv_at hl 0 rfl) ?_
      refine r_if_ge (tgt := 70) E dX6_room_63 (by decide) (by omega) (fun c63 => ?_) (fun c63 => ?_)
      · refine lv_iload_n E.1 E.2.1 dX6_room_70 rfl (lv_at hl 0 rfl) ?_
        refine e_iret (rm := ({ frames := 2, cells := 0, slots := 0, locals := 43 } : Room)) (v := iI (((240 - (nx σ : Int)) - (s0 σ : Int)) - (s1 σ : Int))) E hL dX6_room_71 ?_
        exact RE_i (by simp only [roomN, hop]; first | omega | (rw [if_pos (by omega)]; omega) | (rw [if_neg (by omega)]; omega))
      · refine r_const E dX6_room_66 ?_
        refine lv_goto (tgt := 71) E.1 E.2.1 dX6_room_67 (by decide) ?_
        refine e_iret (rm := ({ frames := 2, cells := 0, slots := 0, locals := 43 } : Room)) (v := iI (0)) E hL dX6_room_71 ?_
        exact RE_i (by simp only [roomN, hop]; first | omega | (rw [if_pos (by omega)]; omega) | (rw [if_neg (by omega)]; omega))
    · refine r_const E dX6_room_42 ?_
      refine lv_goto (tgt := 61) E.1 E.2.1 dX6_room_43 (by decide) ?_
      refine lv_istore_n (lv' := [(3, .int (iI (0))), (2, .int (iI (240 - (nx σ : Int)))), (1, .int (iI ((-6)))), (0, .ref (g))]) E.1 E.2.1 dX6_room_61 rfl hl (by decide) rfl (fun ls hl => ?_)
      refine lv_iload_n E.1 E.2.1 dX6_room_62 rfl (lv_at hl 0 rfl) ?_
      refine r_if_ge (tgt := 70) E dX6_room_63 (by decide) (by omega) (fun c63 => ?_) (fun c63 => absurd c63 (by omega))
      refine lv_iload_n E.1 E.2.1 dX6_room_70 rfl (lv_at hl 0 rfl) ?_
      refine e_iret (rm := ({ frames := 2, cells := 0, slots := 0, locals := 43 } : Room)) (v := iI (0)) E hL dX6_room_71 ?_
      exact RE_i (by simp only [roomN, hop]; first | omega | (rw [if_pos (by omega)]; omega) | (rw [if_neg (by omega)]; omega))
  · have hn := (opn_some hop).1
    have hn0 := (opn_some hop).2
    have hrow := hI.row (n := n) (by omega)
    rw [show oI (some n) = (n : Int) from rfl]
    refine lv_istore_n (lv' := [(1, .int (iI ((n : Int)))), (0, .ref (g))]) E.1 E.2.1 dX6_room_4 rfl hl (by decide) rfl (fun ls hl => ?_)
    refine r_sipush E dX6_room_5 (by decide) ?_
    refine lv_aload_n E.1 E.2.1 dX6_room_8 rfl (lv_at hl 1 rfl) ?_
    refine m_get E ho fw_X6_7 rfl dX6_room_9 ?_
    refine r_const E dX6_room_12 ?_
    refine r_iald E ha (0) rfl (by decide) (by decide) dX6_room_13 ?_
    rw [show encI σ (0) = iI ((nx σ : Nat) : Int) from rfl]
    refine r_sub E dX6_room_14 ?_
    refine lv_istore_n (lv' := [(2, .int (iI (240 - (nx σ : Int)))), (1, .int (iI ((n : Int)))), (0, .ref (g))]) E.1 E.2.1 dX6_room_15 rfl hl (by decide) rfl (fun ls hl => ?_)
    refine lv_iload_n E.1 E.2.1 dX6_room_16 rfl (lv_at hl 1 rfl) ?_
    refine r_if_lt (tgt := 31) E dX6_room_17 (by decide) (by omega) (fun c17 => absurd c17 (by omega)) (fun c17 => ?_)
    refine lv_iload_n E.1 E.2.1 dX6_room_20 rfl (lv_at hl 0 rfl) ?_
    refine lv_aload_n E.1 E.2.1 dX6_room_21 rfl (lv_at hl 2 rfl) ?_
    refine lv_iload_n E.1 E.2.1 dX6_room_22 rfl (lv_at hl 1 rfl) ?_
    refine r_const E dX6_room_23 ?_
    refine kVRE (As := [.int (iI ((n : Int))), .int (iI (4))]) E cw_X6_34 (c_X6_of G l g σ _ _ _ _ _ _ _ (n) (4) (by omega) (by omega)) ho ⟨_, _, rfl⟩ ⟨ho, ha⟩ hL hl.1 rfl rfl (Nat.le_of_ble_eq_true rfl) ⟨Nat.le_of_ble_eq_true rfl, Nat.le_of_ble_eq_true rfl⟩ ⟨rfl, rfl⟩ ⟨Nat.le_of_ble_eq_true rfl, Nat.le_of_ble_eq_true rfl⟩ dX6_room_24 (fun locs hL => ?_)
    refine r_sub E dX6_room_27 ?_
    refine lv_goto (tgt := 61) E.1 E.2.1 dX6_room_28 (by decide) ?_
    refine lv_istore_n (lv' := [(3, .int (iI ((240 - (nx σ : Int)) - (se σ n 4 : Int)))), (2, .int (iI (240 - (nx σ : Int)))), (1, .int (iI ((n : Int)))), (0, .ref (g))]) E.1 E.2.1 dX6_room_61 rfl hl (by decide) rfl (fun ls hl => ?_)
    refine lv_iload_n E.1 E.2.1 dX6_room_62 rfl (lv_at hl 0 rfl) ?_
    refine r_if_ge (tgt := 70) E dX6_room_63 (by decide) (by omega) (fun c63 => ?_) (fun c63 => ?_)
    · refine lv_iload_n E.1 E.2.1 dX6_room_70 rfl (lv_at hl 0 rfl) ?_
      refine e_iret (rm := ({ frames := 2, cells := 0, slots := 0, locals := 43 } : Room)) (v := iI ((240 - (nx σ : Int)) - (se σ n 4 : Int))) E hL dX6_room_71 ?_
      exact RE_i (by simp only [roomN, hop]; first | omega | (rw [if_pos (by omega)]; omega) | (rw [if_neg (by omega)]; omega))
    · refine r_const E dX6_room_66 ?_
      refine lv_goto (tgt := 71) E.1 E.2.1 dX6_room_67 (by decide) ?_
      refine e_iret (rm := ({ frames := 2, cells := 0, slots := 0, locals := 43 } : Room)) (v := iI (0)) E hL dX6_room_71 ?_
      exact RE_i (by simp only [roomN, hop]; first | omega | (rw [if_pos (by omega)]; omega) | (rw [if_neg (by omega)]; omega))

set_option maxHeartbeats 4000000 in
set_option maxRecDepth 100000 in
theorem c_X6_sessions (G : GG) (l : Launch) (g : Nat) (σ : St) (v3 v5 v6 v7 v8 v9 v10 : Int32) (hI : Inv σ) : Ct G l yX6_sessions cX6_sessions 1 (some .int) ({ frames := 0, cells := 0, slots := 0, locals := 0 } : Room) [.ref (g)] (fun H => MR G g σ v3 v5 v6 v7 v8 v9 v10 H) (RE (iI ((mn σ : Int)))) := by
  refine Ct.of (by decide +kernel) (Nat.le_of_ble_eq_true rfl) ?_
  intro p e s m args below meth c ls E hnm hP hl
  obtain ⟨ho, ha⟩ := hP
  have i1 := hI.mn12
  have i2 := hI.nx240
  have i3 := hI.s0b
  have i4 := hI.s1b
  have hl : lv_has ls 1 [(0, .ref (g))] := hl
  have hL : Lk G [] := Lk.nil
  generalize ([] : List Loc) = locs at hL ⊢
  refine lv_aload_n E.1 E.2.1 dX6_sessions_0 rfl (lv_at hl 0 rfl) ?_
  refine m_get E ho fw_X6_7 rfl dX6_sessions_1 ?_
  refine r_const E dX6_sessions_4 ?_
  refine r_iald E ha (1) rfl (by decide) (by decide) dX6_sessions_5 ?_
  rw [show encI σ (1) = iI ((mn σ : Nat) : Int) from rfl]
  refine e_iret (rm := ({ frames := 0, cells := 0, slots := 0, locals := 0 } : Room)) (v := iI ((mn σ : Int))) E hL dX6_sessions_6 ?_
  exact RE_i (by rfl)

set_option maxHeartbeats 4000000 in
set_option maxRecDepth 100000 in
theorem c_X6_next (G : GG) (l : Launch) (g : Nat) (σ : St) (v3 v5 v6 v7 v8 v9 v10 : Int32) (hI : Inv σ) : Ct G l yX6_next cX6_next 1 (some .int) ({ frames := 0, cells := 0, slots := 0, locals := 0 } : Room) [.ref (g)] (fun H => MR G g σ v3 v5 v6 v7 v8 v9 v10 H) (RE (iI ((nx σ : Int)))) := by
  refine Ct.of (by decide +kernel) (Nat.le_of_ble_eq_true rfl) ?_
  intro p e s m args below meth c ls E hnm hP hl
  obtain ⟨ho, ha⟩ := hP
  have i1 := hI.mn12
  have i2 := hI.nx240
  have i3 := hI.s0b
  have i4 := hI.s1b
  have hl : lv_has ls 1 [(0, .ref (g))] := hl
  have hL : Lk G [] := Lk.nil
  generalize ([] : List Loc) = locs at hL ⊢
  refine lv_aload_n E.1 E.2.1 dX6_next_0 rfl (lv_at hl 0 rfl) ?_
  refine m_get E ho fw_X6_7 rfl dX6_next_1 ?_
  refine r_const E dX6_next_4 ?_
  refine r_iald E ha (0) rfl (by decide) (by decide) dX6_next_5 ?_
  rw [show encI σ (0) = iI ((nx σ : Nat) : Int) from rfl]
  refine e_iret (rm := ({ frames := 0, cells := 0, slots := 0, locals := 0 } : Room)) (v := iI ((nx σ : Int))) E hL dX6_next_6 ?_
  exact RE_i (by rfl)

set_option maxHeartbeats 4000000 in
set_option maxRecDepth 100000 in
theorem c_X6_valid (G : GG) (l : Launch) (g : Nat) (σ : St) (v3 v5 v6 v7 v8 v9 v10 : Int32) (hI : Inv σ) : Ct G l yX6_valid cX6_valid 1 (some .int) ({ frames := 4, cells := 0, slots := 0, locals := 87 } : Room) [.ref (g)] (fun H => MR G g σ v3 v5 v6 v7 v8 v9 v10 H) (RE (iI (spValid σ))) := by
  refine Ct.of (by decide +kernel) (Nat.le_of_ble_eq_true rfl) ?_
  intro p e s m args below meth c ls E hnm hP hl
  obtain ⟨ho, ha⟩ := hP
  have i1 := hI.mn12
  have i2 := hI.nx240
  have i3 := hI.s0b
  have i4 := hI.s1b
  have hl : lv_has ls 1 [(0, .ref (g))] := hl
  have hL : Lk G [] := Lk.nil
  generalize ([] : List Loc) = locs at hL ⊢
  refine lv_aload_n E.1 E.2.1 dX6_valid_0 rfl (lv_at hl 0 rfl) ?_
  refine kVRE (As := []) E cw_X6_67 (c_X6_validOne G l g σ _ _ _ _ _ _ _ hI) ho ⟨_, _, rfl⟩ ⟨ho, ha⟩ hL hl.1 rfl rfl (Nat.le_of_ble_eq_true rfl) ⟨Nat.le_of_ble_eq_true rfl, Nat.le_of_ble_eq_true rfl⟩ ⟨rfl, rfl⟩ ⟨Nat.le_of_ble_eq_true rfl, Nat.le_of_ble_eq_true rfl⟩ dX6_valid_1 (fun locs hL => ?_)
  refine e_iret (rm := ({ frames := 4, cells := 0, slots := 0, locals := 87 } : Room)) (v := iI (oI (validD σ (dm σ)))) E hL dX6_valid_4 ?_
  exact RE_i (by rfl)

set_option maxHeartbeats 4000000 in
set_option maxRecDepth 100000 in
theorem c_X6_intactFiles (G : GG) (l : Launch) (g : Nat) (σ : St) (v3 v5 v6 v7 v8 v9 v10 : Int32) (hI : Inv σ) : Ct G l yX6_intactFiles cX6_intactFiles 1 (some .int) ({ frames := 5, cells := 0, slots := 0, locals := 111 } : Room) [.ref (g)] (fun H => MR G g σ v3 v5 v6 v7 v8 v9 v10 H) (RE (iI (spIntactFiles σ))) := by
  refine Ct.of (by decide +kernel) (Nat.le_of_ble_eq_true rfl) ?_
  intro p e s m args below meth c ls E hnm hP hl
  obtain ⟨ho, ha⟩ := hP
  have i1 := hI.mn12
  have i2 := hI.nx240
  have i3 := hI.s0b
  have i4 := hI.s1b
  have hl : lv_has ls 1 [(0, .ref (g))] := hl
  have hL : Lk G [] := Lk.nil
  generalize ([] : List Loc) = locs at hL ⊢
  refine lv_aload_n E.1 E.2.1 dX6_intactFiles_0 rfl (lv_at hl 0 rfl) ?_
  refine kVRE (As := []) E cw_X6_173 (c_X6_wholeFiles G l g σ _ _ _ _ _ _ _ hI) ho ⟨_, _, rfl⟩ ⟨ho, ha⟩ hL hl.1 rfl rfl (Nat.le_of_ble_eq_true rfl) ⟨Nat.le_of_ble_eq_true rfl, Nat.le_of_ble_eq_true rfl⟩ ⟨rfl, rfl⟩ ⟨Nat.le_of_ble_eq_true rfl, Nat.le_of_ble_eq_true rfl⟩ dX6_intactFiles_1 (fun locs hL => ?_)
  refine e_iret (rm := ({ frames := 5, cells := 0, slots := 0, locals := 111 } : Room)) (v := iI ((cntIntact σ (dm σ) : Int))) E hL dX6_intactFiles_4 ?_
  exact RE_i (by rfl)

set_option maxHeartbeats 4000000 in
set_option maxRecDepth 100000 in
theorem c_X6_lost (G : GG) (l : Launch) (g : Nat) (σ : St) (v3 v5 v6 v7 v8 v9 v10 : Int32) (hI : Inv σ) : Ct G l yX6_lost cX6_lost 1 (some .int) ({ frames := 5, cells := 0, slots := 0, locals := 110 } : Room) [.ref (g)] (fun H => MR G g σ v3 v5 v6 v7 v8 v9 v10 H) (RE (iI (spLost σ))) := by
  refine Ct.of (by decide +kernel) (Nat.le_of_ble_eq_true rfl) ?_
  intro p e s m args below meth c ls E hnm hP hl
  obtain ⟨ho, ha⟩ := hP
  have i1 := hI.mn12
  have i2 := hI.nx240
  have i3 := hI.s0b
  have i4 := hI.s1b
  have hl : lv_has ls 1 [(0, .ref (g))] := hl
  have hL : Lk G [] := Lk.nil
  generalize ([] : List Loc) = locs at hL ⊢
  refine lv_aload_n E.1 E.2.1 dX6_lost_0 rfl (lv_at hl 0 rfl) ?_
  refine m_get E ho fw_X6_7 rfl dX6_lost_1 ?_
  refine r_const E dX6_lost_4 ?_
  refine r_iald E ha (0) rfl (by decide) (by decide) dX6_lost_5 ?_
  rw [show encI σ (0) = iI ((nx σ : Nat) : Int) from rfl]
  refine lv_aload_n E.1 E.2.1 dX6_lost_6 rfl (lv_at hl 0 rfl) ?_
  refine kVRE (As := []) E cw_X6_176 (c_X6_foundSectors G l g σ _ _ _ _ _ _ _ hI) ho ⟨_, _, rfl⟩ ⟨ho, ha⟩ hL hl.1 rfl rfl (Nat.le_of_ble_eq_true rfl) ⟨Nat.le_of_ble_eq_true rfl, Nat.le_of_ble_eq_true rfl⟩ ⟨rfl, rfl⟩ ⟨Nat.le_of_ble_eq_true rfl, Nat.le_of_ble_eq_true rfl⟩ dX6_lost_7 (fun locs hL => ?_)
  refine r_sub E dX6_lost_10 ?_
  refine e_iret (rm := ({ frames := 5, cells := 0, slots := 0, locals := 110 } : Room)) (v := iI ((nx σ : Int) - (foundSec σ : Int))) E hL dX6_lost_11 ?_
  exact RE_i (by rfl)

set_option maxHeartbeats 4000000 in
set_option maxRecDepth 100000 in
theorem c_X6_session (G : GG) (l : Launch) (g : Nat) (σ : St) (v3 v5 v6 v7 v8 v9 v10 : Int32) (hI : Inv σ) (y z : Int) (hy : okI y) (hz : okI z) : Ct G l yX6_session cX6_session 3 (some .int) ({ frames := 3, cells := 0, slots := 0, locals := 66 } : Room) [.ref (g), .int (iI (y)), .int (iI (z))] (fun H => MR G g σ v3 v5 v6 v7 v8 v9 v10 H) (RE (iI (spSession σ y z))) := by
  refine Ct.of (by decide +kernel) (Nat.le_of_ble_eq_true rfl) ?_
  intro p e s m args below meth c ls E hnm hP hl
  obtain ⟨ho, ha⟩ := hP
  have i1 := hI.mn12
  have i2 := hI.nx240
  have i3 := hI.s0b
  have i4 := hI.s1b
  obtain ⟨hy1, hy2⟩ := hy
  obtain ⟨hz1, hz2⟩ := hz
  have hl : lv_has ls 3 [(0, .ref (g)), (1, .int (iI (y))), (2, .int (iI (z)))] := hl
  have hL : Lk G [] := Lk.nil
  generalize ([] : List Loc) = locs at hL ⊢
  refine lv_aload_n E.1 E.2.1 dX6_session_0 rfl (lv_at hl 0 rfl) ?_
  refine lv_iload_n E.1 E.2.1 dX6_session_1 rfl (lv_at hl 1 rfl) ?_
  refine kVRE (As := [.int (iI (y))]) E cw_X6_80 (c_X6_isSession G l g σ _ _ _ _ _ _ _ hI (y) (by unfold okI; omega)) ho ⟨_, _, rfl⟩ ⟨ho, ha⟩ hL hl.1 rfl rfl (Nat.le_of_ble_eq_true rfl) ⟨Nat.le_of_ble_eq_true rfl, Nat.le_of_ble_eq_true rfl⟩ ⟨rfl, rfl⟩ ⟨Nat.le_of_ble_eq_true rfl, Nat.le_of_ble_eq_true rfl⟩ dX6_session_2 (fun locs hL => ?_)
  refine r_bif_ne (tgt := 10) E dX6_session_5 (by decide)  (fun c5 => ?_) (fun c5 => ?_)
  · have c5 := of_decide_eq_true c5
    obtain ⟨n, rfl⟩ : ∃ n : Nat, y = (n : Int) := ⟨y.toNat, by omega⟩
    refine lv_iload_n E.1 E.2.1 dX6_session_10 rfl (lv_at hl 2 rfl) ?_
    by_cases ts0 : (z) = 0
    · refine lv_tableIn (off := 45) (tgt := 56) E.1 E.2.1 dX6_session_11 (by rw [iI_toInt (by omega) (by omega)]; omega) (by rw [iI_toInt (by omega) (by omega)]; omega) (by rw [iI_toInt (by omega) (by omega), ts0]; rfl) (by decide) ?_
      subst ts0
      refine lv_aload_n E.1 E.2.1 dX6_session_56 rfl (lv_at hl 0 rfl) ?_
      refine lv_iload_n E.1 E.2.1 dX6_session_57 rfl (lv_at hl 1 rfl) ?_
      refine lv_iload_n E.1 E.2.1 dX6_session_58 rfl (lv_at hl 2 rfl) ?_
      refine kVRE (As := [.int (iI ((n : Int))), .int (iI (0))]) E cw_X6_34 (c_X6_of G l g σ _ _ _ _ _ _ _ (n) (0) (by omega) (by omega)) ho ⟨_, _, rfl⟩ ⟨ho, ha⟩ hL hl.1 rfl rfl (Nat.le_of_ble_eq_true rfl) ⟨Nat.le_of_ble_eq_true rfl, Nat.le_of_ble_eq_true rfl⟩ ⟨rfl, rfl⟩ ⟨Nat.le_of_ble_eq_true rfl, Nat.le_of_ble_eq_true rfl⟩ dX6_session_59 (fun locs hL => ?_)
      refine e_iret (rm := ({ frames := 3, cells := 0, slots := 0, locals := 66 } : Room)) (v := iI ((se σ n 0 : Int))) E hL dX6_session_62 ?_
      exact RE_i (by unfold spSession; rw [if_neg (by omega), if_pos (by omega), Int.toNat_natCast]; rfl)
    by_cases ts1 : (z) = 1
    · refine lv_tableIn (off := 45) (tgt := 56) E.1 E.2.1 dX6_session_11 (by rw [iI_toInt (by omega) (by omega)]; omega) (by rw [iI_toInt (by omega) (by omega)]; omega) (by rw [iI_toInt (by omega) (by omega), ts1]; rfl) (by decide) ?_
      subst ts1
      refine lv_aload_n E.1 E.2.1 dX6_session_56 rfl (lv_at hl 0 rfl) ?_
      refine lv_iload_n E.1 E.2.1 dX6_session_57 rfl (lv_at hl 1 rfl) ?_
      refine lv_iload_n E.1 E.2.1 dX6_session_58 rfl (lv_at hl 2 rfl) ?_
      refine kVRE (As := [.int (iI ((n : Int))), .int (iI (1))]) E cw_X6_34 (c_X6_of G l g σ _ _ _ _ _ _ _ (n) (1) (by omega) (by omega)) ho ⟨_, _, rfl⟩ ⟨ho, ha⟩ hL hl.1 rfl rfl (Nat.le_of_ble_eq_true rfl) ⟨Nat.le_of_ble_eq_true rfl, Nat.le_of_ble_eq_true rfl⟩ ⟨rfl, rfl⟩ ⟨Nat.le_of_ble_eq_true rfl, Nat.le_of_ble_eq_true rfl⟩ dX6_session_59 (fun locs hL => ?_)
      refine e_iret (rm := ({ frames := 3, cells := 0, slots := 0, locals := 66 } : Room)) (v := iI ((se σ n 1 : Int))) E hL dX6_session_62 ?_
      exact RE_i (by unfold spSession; rw [if_neg (by omega), if_pos (by omega), Int.toNat_natCast]; rfl)
    by_cases ts2 : (z) = 2
    · refine lv_tableIn (off := 45) (tgt := 56) E.1 E.2.1 dX6_session_11 (by rw [iI_toInt (by omega) (by omega)]; omega) (by rw [iI_toInt (by omega) (by omega)]; omega) (by rw [iI_toInt (by omega) (by omega), ts2]; rfl) (by decide) ?_
      subst ts2
      refine lv_aload_n E.1 E.2.1 dX6_session_56 rfl (lv_at hl 0 rfl) ?_
      refine lv_iload_n E.1 E.2.1 dX6_session_57 rfl (lv_at hl 1 rfl) ?_
      refine lv_iload_n E.1 E.2.1 dX6_session_58 rfl (lv_at hl 2 rfl) ?_
      refine kVRE (As := [.int (iI ((n : Int))), .int (iI (2))]) E cw_X6_34 (c_X6_of G l g σ _ _ _ _ _ _ _ (n) (2) (by omega) (by omega)) ho ⟨_, _, rfl⟩ ⟨ho, ha⟩ hL hl.1 rfl rfl (Nat.le_of_ble_eq_true rfl) ⟨Nat.le_of_ble_eq_true rfl, Nat.le_of_ble_eq_true rfl⟩ ⟨rfl, rfl⟩ ⟨Nat.le_of_ble_eq_true rfl, Nat.le_of_ble_eq_true rfl⟩ dX6_session_59 (fun locs hL => ?_)
      refine e_iret (rm := ({ frames := 3, cells := 0, slots := 0, locals := 66 } : Room)) (v := iI ((se σ n 2 : Int))) E hL dX6_session_62 ?_
      exact RE_i (by unfold spSession; rw [if_neg (by omega), if_pos (by omega), Int.toNat_natCast]; rfl)
    by_cases ts3 : (z) = 3
    · refine lv_tableIn (off := 45) (tgt := 56) E.1 E.2.1 dX6_session_11 (by rw [iI_toInt (by omega) (by omega)]; omega) (by rw [iI_toInt (by omega) (by omega)]; omega) (by rw [iI_toInt (by omega) (by omega), ts3]; rfl) (by decide) ?_
      subst ts3
      refine lv_aload_n E.1 E.2.1 dX6_session_56 rfl (lv_at hl 0 rfl) ?_
      refine lv_iload_n E.1 E.2.1 dX6_session_57 rfl (lv_at hl 1 rfl) ?_
      refine lv_iload_n E.1 E.2.1 dX6_session_58 rfl (lv_at hl 2 rfl) ?_
      refine kVRE (As := [.int (iI ((n : Int))), .int (iI (3))]) E cw_X6_34 (c_X6_of G l g σ _ _ _ _ _ _ _ (n) (3) (by omega) (by omega)) ho ⟨_, _, rfl⟩ ⟨ho, ha⟩ hL hl.1 rfl rfl (Nat.le_of_ble_eq_true rfl) ⟨Nat.le_of_ble_eq_true rfl, Nat.le_of_ble_eq_true rfl⟩ ⟨rfl, rfl⟩ ⟨Nat.le_of_ble_eq_true rfl, Nat.le_of_ble_eq_true rfl⟩ dX6_session_59 (fun locs hL => ?_)
      refine e_iret (rm := ({ frames := 3, cells := 0, slots := 0, locals := 66 } : Room)) (v := iI ((se σ n 3 : Int))) E hL dX6_session_62 ?_
      exact RE_i (by unfold spSession; rw [if_neg (by omega), if_pos (by omega), Int.toNat_natCast]; rfl)
    by_cases ts4 : (z) = 4
    · refine lv_tableIn (off := 45) (tgt := 56) E.1 E.2.1 dX6_session_11 (by rw [iI_toInt (by omega) (by omega)]; omega) (by rw [iI_toInt (by omega) (by omega)]; omega) (by rw [iI_toInt (by omega) (by omega), ts4]; rfl) (by decide) ?_
      subst ts4
      refine lv_aload_n E.1 E.2.1 dX6_session_56 rfl (lv_at hl 0 rfl) ?_
      refine lv_iload_n E.1 E.2.1 dX6_session_57 rfl (lv_at hl 1 rfl) ?_
      refine lv_iload_n E.1 E.2.1 dX6_session_58 rfl (lv_at hl 2 rfl) ?_
      refine kVRE (As := [.int (iI ((n : Int))), .int (iI (4))]) E cw_X6_34 (c_X6_of G l g σ _ _ _ _ _ _ _ (n) (4) (by omega) (by omega)) ho ⟨_, _, rfl⟩ ⟨ho, ha⟩ hL hl.1 rfl rfl (Nat.le_of_ble_eq_true rfl) ⟨Nat.le_of_ble_eq_true rfl, Nat.le_of_ble_eq_true rfl⟩ ⟨rfl, rfl⟩ ⟨Nat.le_of_ble_eq_true rfl, Nat.le_of_ble_eq_true rfl⟩ dX6_session_59 (fun locs hL => ?_)
      refine e_iret (rm := ({ frames := 3, cells := 0, slots := 0, locals := 66 } : Room)) (v := iI ((se σ n 4 : Int))) E hL dX6_session_62 ?_
      exact RE_i (by unfold spSession; rw [if_neg (by omega), if_pos (by omega), Int.toNat_natCast]; rfl)
    by_cases ts5 : (z) = 5
    · refine lv_tableIn (off := 52) (tgt := 63) E.1 E.2.1 dX6_session_11 (by rw [iI_toInt (by omega) (by omega)]; omega) (by rw [iI_toInt (by omega) (by omega)]; omega) (by rw [iI_toInt (by omega) (by omega), ts5]; rfl) (by decide) ?_
      refine lv_aload_n E.1 E.2.1 dX6_session_63 rfl (lv_at hl 0 rfl) ?_
      refine lv_iload_n E.1 E.2.1 dX6_session_64 rfl (lv_at hl 1 rfl) ?_
      refine kVRE (As := [.int (iI ((n : Int)))]) E cw_X6_77 (c_X6_entries G l g σ _ _ _ _ _ _ _ hI (n) (by omega)) ho ⟨_, _, rfl⟩ ⟨ho, ha⟩ hL hl.1 rfl rfl (Nat.le_of_ble_eq_true rfl) ⟨Nat.le_of_ble_eq_true rfl, Nat.le_of_ble_eq_true rfl⟩ ⟨rfl, rfl⟩ ⟨Nat.le_of_ble_eq_true rfl, Nat.le_of_ble_eq_true rfl⟩ dX6_session_65 (fun locs hL => ?_)
      refine e_iret (rm := ({ frames := 3, cells := 0, slots := 0, locals := 66 } : Room)) (v := iI ((entriesN σ n : Int))) E hL dX6_session_68 ?_
      exact RE_i (by subst ts5; unfold spSession; rw [if_neg (by omega), if_neg (by omega), if_pos rfl, Int.toNat_natCast])
    by_cases ts6 : (z) = 6
    · refine lv_tableIn (off := 58) (tgt := 69) E.1 E.2.1 dX6_session_11 (by rw [iI_toInt (by omega) (by omega)]; omega) (by rw [iI_toInt (by omega) (by omega)]; omega) (by rw [iI_toInt (by omega) (by omega), ts6]; rfl) (by decide) ?_
      refine lv_aload_n E.1 E.2.1 dX6_session_69 rfl (lv_at hl 0 rfl) ?_
      refine lv_iload_n E.1 E.2.1 dX6_session_70 rfl (lv_at hl 1 rfl) ?_
      refine kVRE (As := [.int (iI ((n : Int)))]) E cw_X6_49 (c_X6_isReadable G l g σ _ _ _ _ _ _ _ hI (n) (by omega)) ho ⟨_, _, rfl⟩ ⟨ho, ha⟩ hL hl.1 rfl rfl (Nat.le_of_ble_eq_true rfl) ⟨Nat.le_of_ble_eq_true rfl, Nat.le_of_ble_eq_true rfl⟩ ⟨rfl, rfl⟩ ⟨Nat.le_of_ble_eq_true rfl, Nat.le_of_ble_eq_true rfl⟩ dX6_session_71 (fun locs hL => ?_)
      refine r_bif_eq (tgt := 81) E dX6_session_74 (by decide)  (fun c74 => ?_) (fun c74 => ?_)
      · refine r_const E dX6_session_81 ?_
        refine e_iret (rm := ({ frames := 3, cells := 0, slots := 0, locals := 66 } : Room)) (v := iI (0)) E hL dX6_session_82 ?_
        exact RE_i (by subst ts6; unfold spSession; rw [if_neg (by omega), if_neg (by omega), if_neg (by omega), if_pos rfl, Int.toNat_natCast, c74]; rfl)
      · refine r_const E dX6_session_77 ?_
        refine lv_goto (tgt := 82) E.1 E.2.1 dX6_session_78 (by decide) ?_
        refine e_iret (rm := ({ frames := 3, cells := 0, slots := 0, locals := 66 } : Room)) (v := iI (1)) E hL dX6_session_82 ?_
        exact RE_i (by subst ts6; unfold spSession; rw [if_neg (by omega), if_neg (by omega), if_neg (by omega), if_pos rfl, Int.toNat_natCast, c74]; rfl)
    by_cases ts7 : (z) = 7
    · refine lv_tableIn (off := 72) (tgt := 83) E.1 E.2.1 dX6_session_11 (by rw [iI_toInt (by omega) (by omega)]; omega) (by rw [iI_toInt (by omega) (by omega)]; omega) (by rw [iI_toInt (by omega) (by omega), ts7]; rfl) (by decide) ?_
      refine lv_aload_n E.1 E.2.1 dX6_session_83 rfl (lv_at hl 0 rfl) ?_
      refine lv_iload_n E.1 E.2.1 dX6_session_84 rfl (lv_at hl 1 rfl) ?_
      refine r_const E dX6_session_85 ?_
      refine kVRE (As := [.int (iI ((n : Int))), .int (iI (5))]) E cw_X6_34 (c_X6_of G l g σ _ _ _ _ _ _ _ (n) (5) (by omega) (by omega)) ho ⟨_, _, rfl⟩ ⟨ho, ha⟩ hL hl.1 rfl rfl (Nat.le_of_ble_eq_true rfl) ⟨Nat.le_of_ble_eq_true rfl, Nat.le_of_ble_eq_true rfl⟩ ⟨rfl, rfl⟩ ⟨Nat.le_of_ble_eq_true rfl, Nat.le_of_ble_eq_true rfl⟩ dX6_session_86 (fun locs hL => ?_)
      refine e_iret (rm := ({ frames := 3, cells := 0, slots := 0, locals := 66 } : Room)) (v := iI ((se σ n 5 : Int))) E hL dX6_session_89 ?_
      exact RE_i (by subst ts7; unfold spSession; rw [if_neg (by omega), if_neg (by omega), if_neg (by omega), if_neg (by omega), if_pos rfl, Int.toNat_natCast])
    refine lv_tableOut (tgt := 90) E.1 E.2.1 dX6_session_11 (by rw [iI_toInt (by omega) (by omega)]; omega) (by decide) ?_
    refine r_bipush E dX6_session_90 (by decide) ?_
    refine e_iret (rm := ({ frames := 3, cells := 0, slots := 0, locals := 66 } : Room)) (v := iI ((-2))) E hL dX6_session_92 ?_
    exact RE_i (by unfold spSession; rw [if_neg (by omega), if_neg (by omega), if_neg (by omega), if_neg (by omega), if_neg (by omega)])
  · have c5 := of_decide_eq_false c5
    refine r_const E dX6_session_8 ?_
    refine e_iret (rm := ({ frames := 3, cells := 0, slots := 0, locals := 66 } : Room)) (v := iI ((-1))) E hL dX6_session_9 ?_
    exact RE_i (by unfold spSession; rw [if_pos (by omega)])

set_option maxHeartbeats 4000000 in
set_option maxRecDepth 100000 in
theorem c_X6_entry (G : GG) (l : Launch) (g : Nat) (σ : St) (v3 v5 v6 v7 v8 v9 v10 : Int32) (hI : Inv σ) (y z u : Int) (hy : okI y) (hz : okI z) (hu : okI u) : Ct G l yX6_entry cX6_entry 5 (some .int) ({ frames := 2, cells := 0, slots := 0, locals := 45 } : Room) [.ref (g), .int (iI (y)), .int (iI (z)), .int (iI (u))] (fun H => MR G g σ v3 v5 v6 v7 v8 v9 v10 H) (RE (iI (spEntry σ y z u))) := by
  refine Ct.of (by decide +kernel) (Nat.le_of_ble_eq_true rfl) ?_
  intro p e s m args below meth c ls E hnm hP hl
  obtain ⟨ho, ha⟩ := hP
  have i1 := hI.mn12
  have i2 := hI.nx240
  have i3 := hI.s0b
  have i4 := hI.s1b
  obtain ⟨hy1, hy2⟩ := hy
  obtain ⟨hz1, hz2⟩ := hz
  obtain ⟨hu1, hu2⟩ := hu
  have hl : lv_has ls 5 [(0, .ref (g)), (1, .int (iI (y))), (2, .int (iI (z))), (3, .int (iI (u)))] := hl
  have hL : Lk G [] := Lk.nil
  generalize ([] : List Loc) = locs at hL ⊢
  refine lv_aload_n E.1 E.2.1 dX6_entry_0 rfl (lv_at hl 0 rfl) ?_
  refine lv_iload_n E.1 E.2.1 dX6_entry_1 rfl (lv_at hl 1 rfl) ?_
  refine kVRE (As := [.int (iI (y))]) E cw_X6_80 (c_X6_isSession G l g σ _ _ _ _ _ _ _ hI (y) (by unfold okI; omega)) ho ⟨_, _, rfl⟩ ⟨ho, ha⟩ hL hl.1 rfl rfl (Nat.le_of_ble_eq_true rfl) ⟨Nat.le_of_ble_eq_true rfl, Nat.le_of_ble_eq_true rfl⟩ ⟨rfl, rfl⟩ ⟨Nat.le_of_ble_eq_true rfl, Nat.le_of_ble_eq_true rfl⟩ dX6_entry_2 (fun locs hL => ?_)
  refine r_bif_eq (tgt := 15) E dX6_entry_5 (by decide)  (fun c5 => ?_) (fun c5 => ?_)
  · have c5 := of_decide_eq_false c5
    refine r_const E dX6_entry_15 ?_
    refine e_iret (rm := ({ frames := 2, cells := 0, slots := 0, locals := 45 } : Room)) (v := iI ((-1))) E hL dX6_entry_16 ?_
    exact RE_i (by unfold spEntry; rw [if_pos (by omega)])
  · have c5 := of_decide_eq_true c5
    refine lv_iload_n E.1 E.2.1 dX6_entry_8 rfl (lv_at hl 2 rfl) ?_
    refine kSRE (As := [.int (iI (z))]) E cw_X6_74 (c_X6_isName G l (z) (by unfold okI; omega)) trivial hL hl.1 rfl rfl (Nat.le_of_ble_eq_true rfl) ⟨Nat.le_of_ble_eq_true rfl, Nat.le_of_ble_eq_true rfl⟩ ⟨rfl, rfl⟩ ⟨Nat.le_of_ble_eq_true rfl, Nat.le_of_ble_eq_true rfl⟩ dX6_entry_9 (fun locs hL => ?_)
    refine r_bif_ne (tgt := 17) E dX6_entry_12 (by decide)  (fun c12 => ?_) (fun c12 => ?_)
    · have c12 := of_decide_eq_true c12
      obtain ⟨n, rfl⟩ : ∃ n : Nat, y = (n : Int) := ⟨y.toNat, by omega⟩
      obtain ⟨k, rfl⟩ : ∃ k : Nat, z = (k : Int) := ⟨z.toNat, by omega⟩
      refine lv_iload_n E.1 E.2.1 dX6_entry_17 rfl (lv_at hl 3 rfl) ?_
      refine r_const E dX6_entry_18 ?_
      refine r_const E dX6_entry_19 ?_
      refine kSRE (As := [.int (iI (u)), .int (iI (0)), .int (iI (2))]) E cw_X6_30 (c_X6_in G l (u) (0) (2) (by unfold okI; omega) (by unfold okI; omega) (by unfold okI; omega)) trivial hL hl.1 rfl rfl (Nat.le_of_ble_eq_true rfl) ⟨Nat.le_of_ble_eq_true rfl, Nat.le_of_ble_eq_true rfl⟩ ⟨rfl, rfl⟩ ⟨Nat.le_of_ble_eq_true rfl, Nat.le_of_ble_eq_true rfl⟩ dX6_entry_20 (fun locs hL => ?_)
      refine r_bif_ne (tgt := 29) E dX6_entry_23 (by decide)  (fun c23 => ?_) (fun c23 => ?_)
      · have c23 := of_decide_eq_true c23
        refine lv_aload_n E.1 E.2.1 dX6_entry_29 rfl (lv_at hl 0 rfl) ?_
        refine lv_iload_n E.1 E.2.1 dX6_entry_30 rfl (lv_at hl 1 rfl) ?_
        refine lv_iload_n E.1 E.2.1 dX6_entry_31 rfl (lv_at hl 2 rfl) ?_
        refine kVRE (As := [.int (iI ((n : Int))), .int (iI ((k : Int)))]) E cw_X6_38 (c_X6_entryOf G l g σ _ _ _ _ _ _ _ (n) (k) (by omega) (by omega)) ho ⟨_, _, rfl⟩ ⟨ho, ha⟩ hL hl.1 rfl rfl (Nat.le_of_ble_eq_true rfl) ⟨Nat.le_of_ble_eq_true rfl, Nat.le_of_ble_eq_true rfl⟩ ⟨rfl, rfl⟩ ⟨Nat.le_of_ble_eq_true rfl, Nat.le_of_ble_eq_true rfl⟩ dX6_entry_32 (fun locs hL => ?_)
        rcases he_ : en σ n k with _ | f
        · have he := he_.symm
          rw [show ((encO none : Nat) : Int) = 0 from rfl]
          refine lv_istore (lv' := [(4, .int (iI (0))), (0, .ref (g)), (1, .int (iI ((n : Int)))), (2, .int (iI ((k : Int)))), (3, .int (iI (u)))]) E.1 E.2.1 dX6_entry_35 hl (by decide) rfl (fun ls hl => ?_)
          refine lv_iload E.1 E.2.1 dX6_entry_37 (lv_at hl 0 rfl) ?_
          refine r_if_ne (tgt := 45) E dX6_entry_39 (by decide) (by omega) (fun c39 => absurd c39 (by omega)) (fun c39 => ?_)
          refine r_bipush E dX6_entry_42 (by decide) ?_
          refine e_iret (rm := ({ frames := 2, cells := 0, slots := 0, locals := 45 } : Room)) (v := iI ((-6))) E hL dX6_entry_44 ?_
          exact RE_i (by unfold spEntry; rw [if_neg (by omega), if_neg (by omega), Int.toNat_natCast, Int.toNat_natCast, ← he])
        · have he := he_.symm
          have hfb := hI.ent2 (n := n) (k := k) (by omega) (by omega) he_
          rw [show ((encO (some f) : Nat) : Int) = (64 * ((f.1 : Int) + 1) + (f.2.1 : Int)) by simp only [encO]; omega]
          refine lv_istore (lv' := [(4, .int (iI ((64 * ((f.1 : Int) + 1) + (f.2.1 : Int))))), (0, .ref (g)), (1, .int (iI ((n : Int)))), (2, .int (iI ((k : Int)))), (3, .int (iI (u)))]) E.1 E.2.1 dX6_entry_35 hl (by decide) rfl (fun ls hl => ?_)
          refine lv_iload E.1 E.2.1 dX6_entry_37 (lv_at hl 0 rfl) ?_
          refine r_if_ne (tgt := 45) E dX6_entry_39 (by decide) (by omega) (fun c39 => ?_) (fun c39 => absurd c39 (by omega))
          refine lv_iload_n E.1 E.2.1 dX6_entry_45 rfl (lv_at hl 4 rfl) ?_
          refine r_if_ne (tgt := 57) E dX6_entry_46 (by decide) (by omega) (fun c46 => ?_) (fun c46 => ?_)
          · refine lv_iload_n E.1 E.2.1 dX6_entry_57 rfl (lv_at hl 4 rfl) ?_
            refine r_const E dX6_entry_58 ?_
            refine r_icmp_ne (tgt := 70) E dX6_entry_59 (by decide) (by omega) (by omega) (fun c59 => ?_) (fun c59 => ?_)
            · refine lv_aload_n E.1 E.2.1 dX6_entry_70 rfl (lv_at hl 1 rfl) ?_
              refine lv_iload E.1 E.2.1 dX6_entry_71 (lv_at hl 0 rfl) ?_
              refine kSRE (As := [.int (iI ((64 * ((f.1 : Int) + 1) + (f.2.1 : Int))))]) E cw_X6_52 (c_X6_firstOf G l ((64 * ((f.1 : Int) + 1) + (f.2.1 : Int))) (by omega)) trivial hL hl.1 rfl rfl (Nat.le_of_ble_eq_true rfl) ⟨Nat.le_of_ble_eq_true rfl, Nat.le_of_ble_eq_true rfl⟩ ⟨rfl, rfl⟩ ⟨Nat.le_of_ble_eq_true rfl, Nat.le_of_ble_eq_true rfl⟩ dX6_entry_73 (fun locs hL => ?_)
              rw [show (((64 * ((f.1 : Int) + 1) + (f.2.1 : Int))) / 64 - 1 : Int) = (f.1 : Int) by omega]
              refine kVRE (As := [.int (iI ((f.1 : Int)))]) E cw_X6_164 (c_X6_sessionAt G l g σ _ _ _ _ _ _ _ hI (f.1) (by omega)) ho ⟨_, _, rfl⟩ ⟨ho, ha⟩ hL hl.1 rfl rfl (Nat.le_of_ble_eq_true rfl) ⟨Nat.le_of_ble_eq_true rfl, Nat.le_of_ble_eq_true rfl⟩ ⟨rfl, rfl⟩ ⟨Nat.le_of_ble_eq_true rfl, Nat.le_of_ble_eq_true rfl⟩ dX6_entry_76 (fun locs hL => ?_)
              have hfe := hI.ent (n := n) (k := k) (by omega) (by omega) he.symm
              refine e_iret (rm := ({ frames := 2, cells := 0, slots := 0, locals := 45 } : Room)) (v := iI (oI (sesAt σ (f.1)))) E hL dX6_entry_79 ?_
              exact RE_i (by unfold spEntry; rw [if_neg (by omega), if_neg (by omega), Int.toNat_natCast, Int.toNat_natCast, ← he]; simp only []; rw [if_neg (by omega), if_neg (by omega), sesAt_of hI (n := f.2.2) (by omega) (by omega) (by omega)]; rfl)
            · refine lv_iload E.1 E.2.1 dX6_entry_62 (lv_at hl 0 rfl) ?_
              refine kSRE (As := [.int (iI ((64 * ((f.1 : Int) + 1) + (f.2.1 : Int))))]) E cw_X6_56 (c_X6_sizeOf G l ((64 * ((f.1 : Int) + 1) + (f.2.1 : Int))) (by omega)) trivial hL hl.1 rfl rfl (Nat.le_of_ble_eq_true rfl) ⟨Nat.le_of_ble_eq_true rfl, Nat.le_of_ble_eq_true rfl⟩ ⟨rfl, rfl⟩ ⟨Nat.le_of_ble_eq_true rfl, Nat.le_of_ble_eq_true rfl⟩ dX6_entry_64 (fun locs hL => ?_)
              rw [show (((64 * ((f.1 : Int) + 1) + (f.2.1 : Int))) % 64 : Int) = (f.2.1 : Int) by omega]
              refine lv_goto (tgt := 79) E.1 E.2.1 dX6_entry_67 (by decide) ?_
              have hfe := hI.ent (n := n) (k := k) (by omega) (by omega) he.symm
              refine e_iret (rm := ({ frames := 2, cells := 0, slots := 0, locals := 45 } : Room)) (v := iI ((f.2.1 : Int))) E hL dX6_entry_79 ?_
              exact RE_i (by unfold spEntry; rw [if_neg (by omega), if_neg (by omega), Int.toNat_natCast, Int.toNat_natCast, ← he]; simp only []; rw [if_neg (by omega), if_pos (by omega)])
          · refine lv_iload E.1 E.2.1 dX6_entry_49 (lv_at hl 0 rfl) ?_
            refine kSRE (As := [.int (iI ((64 * ((f.1 : Int) + 1) + (f.2.1 : Int))))]) E cw_X6_52 (c_X6_firstOf G l ((64 * ((f.1 : Int) + 1) + (f.2.1 : Int))) (by omega)) trivial hL hl.1 rfl rfl (Nat.le_of_ble_eq_true rfl) ⟨Nat.le_of_ble_eq_true rfl, Nat.le_of_ble_eq_true rfl⟩ ⟨rfl, rfl⟩ ⟨Nat.le_of_ble_eq_true rfl, Nat.le_of_ble_eq_true rfl⟩ dX6_entry_51 (fun locs hL => ?_)
            rw [show (((64 * ((f.1 : Int) + 1) + (f.2.1 : Int))) / 64 - 1 : Int) = (f.1 : Int) by omega]
            refine lv_goto (tgt := 79) E.1 E.2.1 dX6_entry_54 (by decide) ?_
            have hfe := hI.ent (n := n) (k := k) (by omega) (by omega) he.symm
            refine e_iret (rm := ({ frames := 2, cells := 0, slots := 0, locals := 45 } : Room)) (v := iI ((f.1 : Int))) E hL dX6_entry_79 ?_
            exact RE_i (by unfold spEntry; rw [if_neg (by omega), if_neg (by omega), Int.toNat_natCast, Int.toNat_natCast, ← he]; simp only []; rw [if_pos (by omega)])
      · have c23 := of_decide_eq_false c23
        refine r_bipush E dX6_entry_26 (by decide) ?_
        refine e_iret (rm := ({ frames := 2, cells := 0, slots := 0, locals := 45 } : Room)) (v := iI ((-2))) E hL dX6_entry_28 ?_
        exact RE_i (by unfold spEntry; rw [if_neg (by omega), if_pos (by omega)])
    · have c12 := of_decide_eq_false c12
      refine r_const E dX6_entry_15 ?_
      refine e_iret (rm := ({ frames := 2, cells := 0, slots := 0, locals := 45 } : Room)) (v := iI ((-1))) E hL dX6_entry_16 ?_
      exact RE_i (by unfold spEntry; rw [if_pos (by omega)])

set_option maxHeartbeats 4000000 in
set_option maxRecDepth 100000 in
theorem c_X6_damaged (G : GG) (l : Launch) (g : Nat) (σ : St) (v3 v5 v6 v7 v8 v9 v10 : Int32) (hI : Inv σ) (y : Int) (hy : okI y) : Ct G l yX6_damaged cX6_damaged 2 (some .int) ({ frames := 2, cells := 0, slots := 0, locals := 42 } : Room) [.ref (g), .int (iI (y))] (fun H => MR G g σ v3 v5 v6 v7 v8 v9 v10 H) (RE (iI (spDamaged σ y))) := by
  refine Ct.of (by decide +kernel) (Nat.le_of_ble_eq_true rfl) ?_
  intro p e s m args below meth c ls E hnm hP hl
  obtain ⟨ho, ha⟩ := hP
  have i1 := hI.mn12
  have i2 := hI.nx240
  have i3 := hI.s0b
  have i4 := hI.s1b
  obtain ⟨hy1, hy2⟩ := hy
  have hl : lv_has ls 2 [(0, .ref (g)), (1, .int (iI (y)))] := hl
  have hL : Lk G [] := Lk.nil
  generalize ([] : List Loc) = locs at hL ⊢
  refine lv_iload_n E.1 E.2.1 dX6_damaged_0 rfl (lv_at hl 1 rfl) ?_
  refine kSRE (As := [.int (iI (y))]) E cw_X6_86 (c_X6_isSector G l (y) (by unfold okI; omega)) trivial hL hl.1 rfl rfl (Nat.le_of_ble_eq_true rfl) ⟨Nat.le_of_ble_eq_true rfl, Nat.le_of_ble_eq_true rfl⟩ ⟨rfl, rfl⟩ ⟨Nat.le_of_ble_eq_true rfl, Nat.le_of_ble_eq_true rfl⟩ dX6_damaged_1 (fun locs hL => ?_)
  refine r_bif_ne (tgt := 11) E dX6_damaged_4 (by decide)  (fun c4 => ?_) (fun c4 => ?_)
  · have c4 := of_decide_eq_true c4
    obtain ⟨k, rfl⟩ : ∃ k : Nat, y = (k : Int) := ⟨y.toNat, by omega⟩
    refine lv_aload_n E.1 E.2.1 dX6_damaged_11 rfl (lv_at hl 0 rfl) ?_
    refine lv_iload_n E.1 E.2.1 dX6_damaged_12 rfl (lv_at hl 1 rfl) ?_
    refine kVRE (As := [.int (iI ((k : Int)))]) E cw_X6_41 (c_X6_isHurt G l g σ _ _ _ _ _ _ _ (k) (by omega)) ho ⟨_, _, rfl⟩ ⟨ho, ha⟩ hL hl.1 rfl rfl (Nat.le_of_ble_eq_true rfl) ⟨Nat.le_of_ble_eq_true rfl, Nat.le_of_ble_eq_true rfl⟩ ⟨rfl, rfl⟩ ⟨Nat.le_of_ble_eq_true rfl, Nat.le_of_ble_eq_true rfl⟩ dX6_damaged_13 (fun locs hL => ?_)
    refine r_bif_eq (tgt := 23) E dX6_damaged_16 (by decide)  (fun c16 => ?_) (fun c16 => ?_)
    · refine r_const E dX6_damaged_23 ?_
      refine e_iret (rm := ({ frames := 2, cells := 0, slots := 0, locals := 42 } : Room)) (v := iI (0)) E hL dX6_damaged_24 ?_
      exact RE_i (by unfold spDamaged; rw [if_neg (by omega), Int.toNat_natCast, c16]; rfl)
    · refine r_const E dX6_damaged_19 ?_
      refine lv_goto (tgt := 24) E.1 E.2.1 dX6_damaged_20 (by decide) ?_
      refine e_iret (rm := ({ frames := 2, cells := 0, slots := 0, locals := 42 } : Room)) (v := iI (1)) E hL dX6_damaged_24 ?_
      exact RE_i (by unfold spDamaged; rw [if_neg (by omega), Int.toNat_natCast, c16]; rfl)
  · have c4 := of_decide_eq_false c4
    refine r_const E dX6_damaged_7 ?_
    refine lv_goto (tgt := 24) E.1 E.2.1 dX6_damaged_8 (by decide) ?_
    refine e_iret (rm := ({ frames := 2, cells := 0, slots := 0, locals := 42 } : Room)) (v := iI ((-1))) E hL dX6_damaged_24 ?_
    exact RE_i (by unfold spDamaged; rw [if_pos (by omega)])

set_option maxHeartbeats 4000000 in
set_option maxRecDepth 100000 in
theorem c_X6_use (G : GG) (l : Launch) (g : Nat) (σ : St) (v3 v5 v6 v7 v8 v9 v10 : Int32) (hI : Inv σ) (y : Int) (hy : okI y) : Ct G l yX6_use cX6_use 5 (some .int) ({ frames := 2, cells := 0, slots := 0, locals := 45 } : Room) [.ref (g), .int (iI (y))] (fun H => MR G g σ v3 v5 v6 v7 v8 v9 v10 H) (RE (iI (spUse σ y))) := by
  refine Ct.of (by decide +kernel) (Nat.le_of_ble_eq_true rfl) ?_
  intro p e s m args below meth c ls E hnm hP hl
  obtain ⟨ho, ha⟩ := hP
  have i1 := hI.mn12
  have i2 := hI.nx240
  have i3 := hI.s0b
  have i4 := hI.s1b
  obtain ⟨hy1, hy2⟩ := hy
  have hl : lv_has ls 5 [(0, .ref (g)), (1, .int (iI (y)))] := hl
  have hL : Lk G [] := Lk.nil
  generalize ([] : List Loc) = locs at hL ⊢
  refine lv_iload_n E.1 E.2.1 dX6_use_0 rfl (lv_at hl 1 rfl) ?_
  refine kSRE (As := [.int (iI (y))]) E cw_X6_86 (c_X6_isSector G l (y) (by unfold okI; omega)) trivial hL hl.1 rfl rfl (Nat.le_of_ble_eq_true rfl) ⟨Nat.le_of_ble_eq_true rfl, Nat.le_of_ble_eq_true rfl⟩ ⟨rfl, rfl⟩ ⟨Nat.le_of_ble_eq_true rfl, Nat.le_of_ble_eq_true rfl⟩ dX6_use_1 (fun locs hL => ?_)
  refine r_bif_ne (tgt := 9) E dX6_use_4 (by decide)  (fun c4 => ?_) (fun c4 => ?_)
  · have c4 := of_decide_eq_true c4
    obtain ⟨k, rfl⟩ : ∃ k : Nat, y = (k : Int) := ⟨y.toNat, by omega⟩
    refine lv_aload_n E.1 E.2.1 dX6_use_9 rfl (lv_at hl 0 rfl) ?_
    refine lv_iload_n E.1 E.2.1 dX6_use_10 rfl (lv_at hl 1 rfl) ?_
    refine kVRE (As := [.int (iI ((k : Int)))]) E cw_X6_164 (c_X6_sessionAt G l g σ _ _ _ _ _ _ _ hI (k) (by omega)) ho ⟨_, _, rfl⟩ ⟨ho, ha⟩ hL hl.1 rfl rfl (Nat.le_of_ble_eq_true rfl) ⟨Nat.le_of_ble_eq_true rfl, Nat.le_of_ble_eq_true rfl⟩ ⟨rfl, rfl⟩ ⟨Nat.le_of_ble_eq_true rfl, Nat.le_of_ble_eq_true rfl⟩ dX6_use_11 (fun locs hL => ?_)
    rcases hsa : sesAt σ (k) with _ | n
    · rw [show oI none = -6 from rfl]
      refine lv_istore_n (lv' := [(2, .int (iI ((-6)))), (0, .ref (g)), (1, .int (iI ((k : Int))))]) E.1 E.2.1 dX6_use_14 rfl hl (by decide) rfl (fun ls hl => ?_)
      refine lv_iload_n E.1 E.2.1 dX6_use_15 rfl (lv_at hl 0 rfl) ?_
      refine r_if_ge (tgt := 21) E dX6_use_16 (by decide) (by omega) (fun c16 => absurd c16 (by omega)) (fun c16 => ?_)
      refine r_const E dX6_use_19 ?_
      refine e_iret (rm := ({ frames := 2, cells := 0, slots := 0, locals := 45 } : Room)) (v := iI (0)) E hL dX6_use_20 ?_
      exact RE_i (by unfold spUse; rw [if_neg (by omega), Int.toNat_natCast]; unfold useN; rw [hsa])
    · rw [show oI (some n) = (n : Int) from rfl]
      have hn := (lastB_some.mp hsa).1
      have hn2 := of_decide_eq_true (lastB_some.mp hsa).2.1
      have hrow := hI.row (n := n) (by omega)
      refine lv_istore_n (lv' := [(2, .int (iI ((n : Int)))), (0, .ref (g)), (1, .int (iI ((k : Int))))]) E.1 E.2.1 dX6_use_14 rfl hl (by decide) rfl (fun ls hl => ?_)
      refine lv_iload_n E.1 E.2.1 dX6_use_15 rfl (lv_at hl 0 rfl) ?_
      refine r_if_ge (tgt := 21) E dX6_use_16 (by decide) (by omega) (fun c16 => ?_) (fun c16 => absurd c16 (by omega))
      refine lv_iload_n E.1 E.2.1 dX6_use_21 rfl (lv_at hl 2 rfl) ?_
      refine lv_aload_n E.1 E.2.1 dX6_use_22 rfl (lv_at hl 1 rfl) ?_
      refine lv_iload_n E.1 E.2.1 dX6_use_23 rfl (lv_at hl 0 rfl) ?_
      refine r_const E dX6_use_24 ?_
      refine kVRE (As := [.int (iI ((n : Int))), .int (iI (1))]) E cw_X6_34 (c_X6_of G l g σ _ _ _ _ _ _ _ (n) (1) (by omega) (by omega)) ho ⟨_, _, rfl⟩ ⟨ho, ha⟩ hL hl.1 rfl rfl (Nat.le_of_ble_eq_true rfl) ⟨Nat.le_of_ble_eq_true rfl, Nat.le_of_ble_eq_true rfl⟩ ⟨rfl, rfl⟩ ⟨Nat.le_of_ble_eq_true rfl, Nat.le_of_ble_eq_true rfl⟩ dX6_use_25 (fun locs hL => ?_)
      refine r_sub E dX6_use_28 ?_
      refine lv_istore_n (lv' := [(3, .int (iI ((k : Int) - (se σ n 1 : Int)))), (2, .int (iI ((n : Int)))), (0, .ref (g)), (1, .int (iI ((k : Int))))]) E.1 E.2.1 dX6_use_29 rfl hl (by decide) rfl (fun ls hl => ?_)
      refine lv_aload_n E.1 E.2.1 dX6_use_30 rfl (lv_at hl 2 rfl) ?_
      refine lv_iload_n E.1 E.2.1 dX6_use_31 rfl (lv_at hl 1 rfl) ?_
      refine r_const E dX6_use_32 ?_
      refine kVRE (As := [.int (iI ((n : Int))), .int (iI (0))]) E cw_X6_34 (c_X6_of G l g σ _ _ _ _ _ _ _ (n) (0) (by omega) (by omega)) ho ⟨_, _, rfl⟩ ⟨ho, ha⟩ hL hl.1 rfl rfl (Nat.le_of_ble_eq_true rfl) ⟨Nat.le_of_ble_eq_true rfl, Nat.le_of_ble_eq_true rfl⟩ ⟨rfl, rfl⟩ ⟨Nat.le_of_ble_eq_true rfl, Nat.le_of_ble_eq_true rfl⟩ dX6_use_33 (fun locs hL => ?_)
      refine r_const E dX6_use_36 ?_
      refine r_icmp_ne (tgt := 61) E dX6_use_37 (by decide) (by omega) (by omega) (fun c37 => ?_) (fun c37 => ?_)
      · refine r_const E dX6_use_61 ?_
        refine lv_istore (lv' := [(4, .int (iI (0))), (3, .int (iI ((k : Int) - (se σ n 1 : Int)))), (2, .int (iI ((n : Int)))), (0, .ref (g)), (1, .int (iI ((k : Int))))]) E.1 E.2.1 dX6_use_62 hl (by decide) rfl (fun ls hl => ?_)
        refine lv_iload_n E.1 E.2.1 dX6_use_64 rfl (lv_at hl 1 rfl) ?_
        refine lv_aload_n E.1 E.2.1 dX6_use_65 rfl (lv_at hl 3 rfl) ?_
        refine lv_iload_n E.1 E.2.1 dX6_use_66 rfl (lv_at hl 2 rfl) ?_
        refine r_const E dX6_use_67 ?_
        refine kVRE (As := [.int (iI ((n : Int))), .int (iI (3))]) E cw_X6_34 (c_X6_of G l g σ _ _ _ _ _ _ _ (n) (3) (by omega) (by omega)) ho ⟨_, _, rfl⟩ ⟨ho, ha⟩ hL hl.1 rfl rfl (Nat.le_of_ble_eq_true rfl) ⟨Nat.le_of_ble_eq_true rfl, Nat.le_of_ble_eq_true rfl⟩ ⟨rfl, rfl⟩ ⟨Nat.le_of_ble_eq_true rfl, Nat.le_of_ble_eq_true rfl⟩ dX6_use_68 (fun locs hL => ?_)
        refine r_icmp_ge (tgt := 78) E dX6_use_71 (by decide) (by omega) (by omega) (fun c71 => ?_) (fun c71 => ?_)
        · refine lv_iload E.1 E.2.1 dX6_use_78 (lv_at hl 0 rfl) ?_
          refine r_if_eq (tgt := 87) E dX6_use_80 (by decide) (by omega) (fun c80 => ?_) (fun c80 => absurd c80 (by omega))
          refine r_const E dX6_use_87 ?_
          refine e_iret (rm := ({ frames := 2, cells := 0, slots := 0, locals := 45 } : Room)) (v := iI (3)) E hL dX6_use_88 ?_
          refine RE_i ?_
          unfold spUse
          rw [if_neg (by omega), Int.toNat_natCast]
          unfold useN
          rw [hsa]
          simp only []
          split <;> (try split) <;> omega
        · refine r_const E dX6_use_74 ?_
          refine lv_goto (tgt := 88) E.1 E.2.1 dX6_use_75 (by decide) ?_
          refine e_iret (rm := ({ frames := 2, cells := 0, slots := 0, locals := 45 } : Room)) (v := iI (1)) E hL dX6_use_88 ?_
          refine RE_i ?_
          unfold spUse
          rw [if_neg (by omega), Int.toNat_natCast]
          unfold useN
          rw [hsa]
          simp only []
          split <;> (try split) <;> omega
      · refine lv_iload_n E.1 E.2.1 dX6_use_40 rfl (lv_at hl 0 rfl) ?_
        refine lv_aload_n E.1 E.2.1 dX6_use_41 rfl (lv_at hl 2 rfl) ?_
        refine lv_iload_n E.1 E.2.1 dX6_use_42 rfl (lv_at hl 1 rfl) ?_
        refine r_const E dX6_use_43 ?_
        refine kVRE (As := [.int (iI ((n : Int))), .int (iI (2))]) E cw_X6_34 (c_X6_of G l g σ _ _ _ _ _ _ _ (n) (2) (by omega) (by omega)) ho ⟨_, _, rfl⟩ ⟨ho, ha⟩ hL hl.1 rfl rfl (Nat.le_of_ble_eq_true rfl) ⟨Nat.le_of_ble_eq_true rfl, Nat.le_of_ble_eq_true rfl⟩ ⟨rfl, rfl⟩ ⟨Nat.le_of_ble_eq_true rfl, Nat.le_of_ble_eq_true rfl⟩ dX6_use_44 (fun locs hL => ?_)
        refine lv_aload_n E.1 E.2.1 dX6_use_47 rfl (lv_at hl 2 rfl) ?_
        refine lv_iload_n E.1 E.2.1 dX6_use_48 rfl (lv_at hl 1 rfl) ?_
        refine r_const E dX6_use_49 ?_
        refine kVRE (As := [.int (iI ((n : Int))), .int (iI (4))]) E cw_X6_34 (c_X6_of G l g σ _ _ _ _ _ _ _ (n) (4) (by omega) (by omega)) ho ⟨_, _, rfl⟩ ⟨ho, ha⟩ hL hl.1 rfl rfl (Nat.le_of_ble_eq_true rfl) ⟨Nat.le_of_ble_eq_true rfl, Nat.le_of_ble_eq_true rfl⟩ ⟨rfl, rfl⟩ ⟨Nat.le_of_ble_eq_true rfl, Nat.le_of_ble_eq_true rfl⟩ dX6_use_50 (fun locs hL => ?_)
        refine r_sub E dX6_use_53 ?_
        refine r_icmp_lt (tgt := 61) E dX6_use_54 (by decide) (by omega) (by omega) (fun c54 => ?_) (fun c54 => ?_)
        · refine r_const E dX6_use_61 ?_
          refine lv_istore (lv' := [(4, .int (iI (0))), (3, .int (iI ((k : Int) - (se σ n 1 : Int)))), (2, .int (iI ((n : Int)))), (0, .ref (g)), (1, .int (iI ((k : Int))))]) E.1 E.2.1 dX6_use_62 hl (by decide) rfl (fun ls hl => ?_)
          refine lv_iload_n E.1 E.2.1 dX6_use_64 rfl (lv_at hl 1 rfl) ?_
          refine lv_aload_n E.1 E.2.1 dX6_use_65 rfl (lv_at hl 3 rfl) ?_
          refine lv_iload_n E.1 E.2.1 dX6_use_66 rfl (lv_at hl 2 rfl) ?_
          refine r_const E dX6_use_67 ?_
          refine kVRE (As := [.int (iI ((n : Int))), .int (iI (3))]) E cw_X6_34 (c_X6_of G l g σ _ _ _ _ _ _ _ (n) (3) (by omega) (by omega)) ho ⟨_, _, rfl⟩ ⟨ho, ha⟩ hL hl.1 rfl rfl (Nat.le_of_ble_eq_true rfl) ⟨Nat.le_of_ble_eq_true rfl, Nat.le_of_ble_eq_true rfl⟩ ⟨rfl, rfl⟩ ⟨Nat.le_of_ble_eq_true rfl, Nat.le_of_ble_eq_true rfl⟩ dX6_use_68 (fun locs hL => ?_)
          refine r_icmp_ge (tgt := 78) E dX6_use_71 (by decide) (by omega) (by omega) (fun c71 => ?_) (fun c71 => ?_)
          · refine lv_iload E.1 E.2.1 dX6_use_78 (lv_at hl 0 rfl) ?_
            refine r_if_eq (tgt := 87) E dX6_use_80 (by decide) (by omega) (fun c80 => ?_) (fun c80 => absurd c80 (by omega))
            refine r_const E dX6_use_87 ?_
            refine e_iret (rm := ({ frames := 2, cells := 0, slots := 0, locals := 45 } : Room)) (v := iI (3)) E hL dX6_use_88 ?_
            refine RE_i ?_
            unfold spUse
            rw [if_neg (by omega), Int.toNat_natCast]
            unfold useN
            rw [hsa]
            simp only []
            split <;> (try split) <;> omega
          · refine r_const E dX6_use_74 ?_
            refine lv_goto (tgt := 88) E.1 E.2.1 dX6_use_75 (by decide) ?_
            refine e_iret (rm := ({ frames := 2, cells := 0, slots := 0, locals := 45 } : Room)) (v := iI (1)) E hL dX6_use_88 ?_
            refine RE_i ?_
            unfold spUse
            rw [if_neg (by omega), Int.toNat_natCast]
            unfold useN
            rw [hsa]
            simp only []
            split <;> (try split) <;> omega
        · refine r_const E dX6_use_57 ?_
          refine lv_goto (tgt := 62) E.1 E.2.1 dX6_use_58 (by decide) ?_
          refine lv_istore (lv' := [(4, .int (iI (1))), (3, .int (iI ((k : Int) - (se σ n 1 : Int)))), (2, .int (iI ((n : Int)))), (0, .ref (g)), (1, .int (iI ((k : Int))))]) E.1 E.2.1 dX6_use_62 hl (by decide) rfl (fun ls hl => ?_)
          refine lv_iload_n E.1 E.2.1 dX6_use_64 rfl (lv_at hl 1 rfl) ?_
          refine lv_aload_n E.1 E.2.1 dX6_use_65 rfl (lv_at hl 3 rfl) ?_
          refine lv_iload_n E.1 E.2.1 dX6_use_66 rfl (lv_at hl 2 rfl) ?_
          refine r_const E dX6_use_67 ?_
          refine kVRE (As := [.int (iI ((n : Int))), .int (iI (3))]) E cw_X6_34 (c_X6_of G l g σ _ _ _ _ _ _ _ (n) (3) (by omega) (by omega)) ho ⟨_, _, rfl⟩ ⟨ho, ha⟩ hL hl.1 rfl rfl (Nat.le_of_ble_eq_true rfl) ⟨Nat.le_of_ble_eq_true rfl, Nat.le_of_ble_eq_true rfl⟩ ⟨rfl, rfl⟩ ⟨Nat.le_of_ble_eq_true rfl, Nat.le_of_ble_eq_true rfl⟩ dX6_use_68 (fun locs hL => ?_)
          refine r_icmp_ge (tgt := 78) E dX6_use_71 (by decide) (by omega) (by omega) (fun c71 => ?_) (fun c71 => ?_)
          · refine lv_iload E.1 E.2.1 dX6_use_78 (lv_at hl 0 rfl) ?_
            refine r_if_eq (tgt := 87) E dX6_use_80 (by decide) (by omega) (fun c80 => absurd c80 (by omega)) (fun c80 => ?_)
            refine r_const E dX6_use_83 ?_
            refine lv_goto (tgt := 88) E.1 E.2.1 dX6_use_84 (by decide) ?_
            refine e_iret (rm := ({ frames := 2, cells := 0, slots := 0, locals := 45 } : Room)) (v := iI (2)) E hL dX6_use_88 ?_
            refine RE_i ?_
            unfold spUse
            rw [if_neg (by omega), Int.toNat_natCast]
            unfold useN
            rw [hsa]
            simp only []
            split <;> (try split) <;> omega
          · refine r_const E dX6_use_74 ?_
            refine lv_goto (tgt := 88) E.1 E.2.1 dX6_use_75 (by decide) ?_
            refine e_iret (rm := ({ frames := 2, cells := 0, slots := 0, locals := 45 } : Room)) (v := iI (1)) E hL dX6_use_88 ?_
            refine RE_i ?_
            unfold spUse
            rw [if_neg (by omega), Int.toNat_natCast]
            unfold useN
            rw [hsa]
            simp only []
            split <;> (try split) <;> omega
  · have c4 := of_decide_eq_false c4
    refine r_const E dX6_use_7 ?_
    refine e_iret (rm := ({ frames := 2, cells := 0, slots := 0, locals := 45 } : Room)) (v := iI ((-1))) E hL dX6_use_8 ?_
    exact RE_i (by unfold spUse; rw [if_pos (by omega)])

set_option maxHeartbeats 4000000 in
set_option maxRecDepth 100000 in
theorem c_X6_setting (G : GG) (l : Launch) (g : Nat) (σ : St) (v3 v5 v6 v7 v8 v9 v10 : Int32) (hI : Inv σ) (y : Int) (hy : okI y) : Ct G l yX6_setting cX6_setting 2 (some .int) ({ frames := 1, cells := 0, slots := 0, locals := 22 } : Room) [.ref (g), .int (iI (y))] (fun H => MR G g σ v3 v5 v6 v7 v8 v9 v10 H) (RE (iI (spSetting σ y))) := by
  refine Ct.of (by decide +kernel) (Nat.le_of_ble_eq_true rfl) ?_
  intro p e s m args below meth c ls E hnm hP hl
  obtain ⟨ho, ha⟩ := hP
  have i1 := hI.mn12
  have i2 := hI.nx240
  have i3 := hI.s0b
  have i4 := hI.s1b
  obtain ⟨hy1, hy2⟩ := hy
  have hl : lv_has ls 2 [(0, .ref (g)), (1, .int (iI (y)))] := hl
  have hL : Lk G [] := Lk.nil
  generalize ([] : List Loc) = locs at hL ⊢
  refine lv_iload_n E.1 E.2.1 dX6_setting_0 rfl (lv_at hl 1 rfl) ?_
  refine r_const E dX6_setting_1 ?_
  refine r_const E dX6_setting_2 ?_
  refine kSRE (As := [.int (iI (y)), .int (iI (0)), .int (iI (1))]) E cw_X6_30 (c_X6_in G l (y) (0) (1) (by unfold okI; omega) (by unfold okI; omega) (by unfold okI; omega)) trivial hL hl.1 rfl rfl (Nat.le_of_ble_eq_true rfl) ⟨Nat.le_of_ble_eq_true rfl, Nat.le_of_ble_eq_true rfl⟩ ⟨rfl, rfl⟩ ⟨Nat.le_of_ble_eq_true rfl, Nat.le_of_ble_eq_true rfl⟩ dX6_setting_3 (fun locs hL => ?_)
  refine r_bif_eq (tgt := 20) E dX6_setting_6 (by decide)  (fun c6 => ?_) (fun c6 => ?_)
  · have c6 := of_decide_eq_false c6
    refine r_const E dX6_setting_20 ?_
    refine e_iret (rm := ({ frames := 1, cells := 0, slots := 0, locals := 22 } : Room)) (v := iI ((-1))) E hL dX6_setting_21 ?_
    exact RE_i (by unfold spSetting; rw [if_neg (by omega), if_neg (by omega)])
  · have c6 := of_decide_eq_true c6
    rcases (show y = 0 ∨ y = 1 by omega) with rfl | rfl
    · refine lv_aload_n E.1 E.2.1 dX6_setting_9 rfl (lv_at hl 0 rfl) ?_
      refine m_get E ho fw_X6_7 rfl dX6_setting_10 ?_
      refine r_const E dX6_setting_13 ?_
      refine lv_iload_n E.1 E.2.1 dX6_setting_14 rfl (lv_at hl 1 rfl) ?_
      refine r_add E dX6_setting_15 ?_
      refine r_iald E ha (2) (by omega) (by decide) (by decide) dX6_setting_16 ?_
      rw [show encI σ (2) = iI ((s0 σ : Nat) : Int) from rfl]
      refine lv_goto (tgt := 21) E.1 E.2.1 dX6_setting_17 (by decide) ?_
      refine e_iret (rm := ({ frames := 1, cells := 0, slots := 0, locals := 22 } : Room)) (v := iI ((s0 σ : Int))) E hL dX6_setting_21 ?_
      exact RE_i (by rfl)
    · refine lv_aload_n E.1 E.2.1 dX6_setting_9 rfl (lv_at hl 0 rfl) ?_
      refine m_get E ho fw_X6_7 rfl dX6_setting_10 ?_
      refine r_const E dX6_setting_13 ?_
      refine lv_iload_n E.1 E.2.1 dX6_setting_14 rfl (lv_at hl 1 rfl) ?_
      refine r_add E dX6_setting_15 ?_
      refine r_iald E ha (3) (by omega) (by decide) (by decide) dX6_setting_16 ?_
      rw [show encI σ (3) = iI ((s1 σ : Nat) : Int) from rfl]
      refine lv_goto (tgt := 21) E.1 E.2.1 dX6_setting_17 (by decide) ?_
      refine e_iret (rm := ({ frames := 1, cells := 0, slots := 0, locals := 22 } : Room)) (v := iI ((s1 σ : Int))) E hL dX6_setting_21 ?_
      exact RE_i (by rfl)

set_option maxHeartbeats 4000000 in
set_option maxRecDepth 100000 in
theorem c_X6_find (G : GG) (l : Launch) (g : Nat) (σ : St) (v3 v5 v6 v7 v8 v9 v10 : Int32) (hI : Inv σ) (y : Int) (hy : okI y) : Ct G l yX6_find cX6_find 2 (some .int) ({ frames := 5, cells := 0, slots := 0, locals := 108 } : Room) [.ref (g), .int (iI (y))] (fun H => MR G g σ v3 v5 v6 v7 v8 v9 v10 H) (RE (iI (spFind σ y))) := by
  refine Ct.of (by decide +kernel) (Nat.le_of_ble_eq_true rfl) ?_
  intro p e s m args below meth c ls E hnm hP hl
  obtain ⟨ho, ha⟩ := hP
  have i1 := hI.mn12
  have i2 := hI.nx240
  have i3 := hI.s0b
  have i4 := hI.s1b
  obtain ⟨hy1, hy2⟩ := hy
  have hl : lv_has ls 2 [(0, .ref (g)), (1, .int (iI (y)))] := hl
  have hL : Lk G [] := Lk.nil
  generalize ([] : List Loc) = locs at hL ⊢
  refine lv_iload_n E.1 E.2.1 dX6_find_0 rfl (lv_at hl 1 rfl) ?_
  refine kSRE (As := [.int (iI (y))]) E cw_X6_74 (c_X6_isName G l (y) (by unfold okI; omega)) trivial hL hl.1 rfl rfl (Nat.le_of_ble_eq_true rfl) ⟨Nat.le_of_ble_eq_true rfl, Nat.le_of_ble_eq_true rfl⟩ ⟨rfl, rfl⟩ ⟨Nat.le_of_ble_eq_true rfl, Nat.le_of_ble_eq_true rfl⟩ dX6_find_1 (fun locs hL => ?_)
  refine r_bif_ne (tgt := 9) E dX6_find_4 (by decide)  (fun c4 => ?_) (fun c4 => ?_)
  · have c4 := of_decide_eq_true c4
    obtain ⟨k, rfl⟩ : ∃ k : Nat, y = (k : Int) := ⟨y.toNat, by omega⟩
    refine lv_aload_n E.1 E.2.1 dX6_find_9 rfl (lv_at hl 0 rfl) ?_
    refine lv_iload_n E.1 E.2.1 dX6_find_10 rfl (lv_at hl 1 rfl) ?_
    refine kVRE (As := [.int (iI ((k : Int)))]) E cw_X6_167 (c_X6_found G l g σ _ _ _ _ _ _ _ hI k (by omega)) ho ⟨_, _, rfl⟩ ⟨ho, ha⟩ hL hl.1 rfl rfl (Nat.le_of_ble_eq_true rfl) ⟨Nat.le_of_ble_eq_true rfl, Nat.le_of_ble_eq_true rfl⟩ ⟨rfl, rfl⟩ ⟨Nat.le_of_ble_eq_true rfl, Nat.le_of_ble_eq_true rfl⟩ dX6_find_11 (fun locs hL => ?_)
    rcases he_ : foundF σ k with _ | f
    · have he := he_.symm
      rw [show ((encO none : Nat) : Int) = 0 from rfl]
      refine r_if_ne (tgt := 22) E dX6_find_14 (by decide) (by omega) (fun c14 => absurd c14 (by omega)) (fun c14 => ?_)
      refine r_bipush E dX6_find_17 (by decide) ?_
      refine lv_goto (tgt := 30) E.1 E.2.1 dX6_find_19 (by decide) ?_
      refine e_iret (rm := ({ frames := 5, cells := 0, slots := 0, locals := 108 } : Room)) (v := iI ((-6))) E hL dX6_find_30 ?_
      exact RE_i (by unfold spFind; rw [if_neg (by omega), Int.toNat_natCast, ← he])
    · have he := he_.symm
      have hfb := foundF_b hI (by omega) he_
      rw [show ((encO (some f) : Nat) : Int) = (64 * ((f.1 : Int) + 1) + (f.2.1 : Int)) by simp only [encO]; omega]
      refine r_if_ne (tgt := 22) E dX6_find_14 (by decide) (by omega) (fun c14 => ?_) (fun c14 => absurd c14 (by omega))
      refine lv_aload_n E.1 E.2.1 dX6_find_22 rfl (lv_at hl 0 rfl) ?_
      refine lv_iload_n E.1 E.2.1 dX6_find_23 rfl (lv_at hl 1 rfl) ?_
      refine kVRE (As := [.int (iI ((k : Int)))]) E cw_X6_167 (c_X6_found G l g σ _ _ _ _ _ _ _ hI k (by omega)) ho ⟨_, _, rfl⟩ ⟨ho, ha⟩ hL hl.1 rfl rfl (Nat.le_of_ble_eq_true rfl) ⟨Nat.le_of_ble_eq_true rfl, Nat.le_of_ble_eq_true rfl⟩ ⟨rfl, rfl⟩ ⟨Nat.le_of_ble_eq_true rfl, Nat.le_of_ble_eq_true rfl⟩ dX6_find_24 (fun locs hL => ?_)
      rw [show ((encO (foundF σ k) : Nat) : Int) = (64 * ((f.1 : Int) + 1) + (f.2.1 : Int)) by rw [← he]; simp only [encO]; omega]
      refine kSRE (As := [.int (iI ((64 * ((f.1 : Int) + 1) + (f.2.1 : Int))))]) E cw_X6_52 (c_X6_firstOf G l ((64 * ((f.1 : Int) + 1) + (f.2.1 : Int))) (by omega)) trivial hL hl.1 rfl rfl (Nat.le_of_ble_eq_true rfl) ⟨Nat.le_of_ble_eq_true rfl, Nat.le_of_ble_eq_true rfl⟩ ⟨rfl, rfl⟩ ⟨Nat.le_of_ble_eq_true rfl, Nat.le_of_ble_eq_true rfl⟩ dX6_find_27 (fun locs hL => ?_)
      rw [show (((64 * ((f.1 : Int) + 1) + (f.2.1 : Int))) / 64 - 1 : Int) = (f.1 : Int) by omega]
      refine e_iret (rm := ({ frames := 5, cells := 0, slots := 0, locals := 108 } : Room)) (v := iI ((f.1 : Int))) E hL dX6_find_30 ?_
      exact RE_i (by unfold spFind; rw [if_neg (by omega), Int.toNat_natCast, ← he])
  · have c4 := of_decide_eq_false c4
    refine r_const E dX6_find_7 ?_
    refine e_iret (rm := ({ frames := 5, cells := 0, slots := 0, locals := 108 } : Room)) (v := iI ((-1))) E hL dX6_find_8 ?_
    exact RE_i (by unfold spFind; rw [if_pos (by omega)])

set_option maxHeartbeats 4000000 in
set_option maxRecDepth 100000 in
theorem c_X6_intact (G : GG) (l : Launch) (g : Nat) (σ : St) (v3 v5 v6 v7 v8 v9 v10 : Int32) (hI : Inv σ) (y : Int) (hy : okI y) : Ct G l yX6_intact cX6_intact 2 (some .int) ({ frames := 5, cells := 0, slots := 0, locals := 108 } : Room) [.ref (g), .int (iI (y))] (fun H => MR G g σ v3 v5 v6 v7 v8 v9 v10 H) (RE (iI (spIntact σ y))) := by
  refine Ct.of (by decide +kernel) (Nat.le_of_ble_eq_true rfl) ?_
  intro p e s m args below meth c ls E hnm hP hl
  obtain ⟨ho, ha⟩ := hP
  have i1 := hI.mn12
  have i2 := hI.nx240
  have i3 := hI.s0b
  have i4 := hI.s1b
  obtain ⟨hy1, hy2⟩ := hy
  have hl : lv_has ls 2 [(0, .ref (g)), (1, .int (iI (y)))] := hl
  have hL : Lk G [] := Lk.nil
  generalize ([] : List Loc) = locs at hL ⊢
  refine lv_iload_n E.1 E.2.1 dX6_intact_0 rfl (lv_at hl 1 rfl) ?_
  refine kSRE (As := [.int (iI (y))]) E cw_X6_74 (c_X6_isName G l (y) (by unfold okI; omega)) trivial hL hl.1 rfl rfl (Nat.le_of_ble_eq_true rfl) ⟨Nat.le_of_ble_eq_true rfl, Nat.le_of_ble_eq_true rfl⟩ ⟨rfl, rfl⟩ ⟨Nat.le_of_ble_eq_true rfl, Nat.le_of_ble_eq_true rfl⟩ dX6_intact_1 (fun locs hL => ?_)
  refine r_bif_ne (tgt := 9) E dX6_intact_4 (by decide)  (fun c4 => ?_) (fun c4 => ?_)
  · have c4 := of_decide_eq_true c4
    obtain ⟨k, rfl⟩ : ∃ k : Nat, y = (k : Int) := ⟨y.toNat, by omega⟩
    refine lv_aload_n E.1 E.2.1 dX6_intact_9 rfl (lv_at hl 0 rfl) ?_
    refine lv_iload_n E.1 E.2.1 dX6_intact_10 rfl (lv_at hl 1 rfl) ?_
    refine kVRE (As := [.int (iI ((k : Int)))]) E cw_X6_167 (c_X6_found G l g σ _ _ _ _ _ _ _ hI k (by omega)) ho ⟨_, _, rfl⟩ ⟨ho, ha⟩ hL hl.1 rfl rfl (Nat.le_of_ble_eq_true rfl) ⟨Nat.le_of_ble_eq_true rfl, Nat.le_of_ble_eq_true rfl⟩ ⟨rfl, rfl⟩ ⟨Nat.le_of_ble_eq_true rfl, Nat.le_of_ble_eq_true rfl⟩ dX6_intact_11 (fun locs hL => ?_)
    rcases he_ : foundF σ k with _ | f
    · have he := he_.symm
      rw [show ((encO none : Nat) : Int) = 0 from rfl]
      refine r_if_ne (tgt := 22) E dX6_intact_14 (by decide) (by omega) (fun c14 => absurd c14 (by omega)) (fun c14 => ?_)
      refine r_bipush E dX6_intact_17 (by decide) ?_
      refine lv_goto (tgt := 39) E.1 E.2.1 dX6_intact_19 (by decide) ?_
      refine e_iret (rm := ({ frames := 5, cells := 0, slots := 0, locals := 108 } : Room)) (v := iI ((-6))) E hL dX6_intact_39 ?_
      exact RE_i (by unfold spIntact; rw [if_neg (by omega), Int.toNat_natCast, ← he])
    · have he := he_.symm
      have hfb := foundF_b hI (by omega) he_
      rw [show ((encO (some f) : Nat) : Int) = (64 * ((f.1 : Int) + 1) + (f.2.1 : Int)) by simp only [encO]; omega]
      refine r_if_ne (tgt := 22) E dX6_intact_14 (by decide) (by omega) (fun c14 => ?_) (fun c14 => absurd c14 (by omega))
      refine lv_aload_n E.1 E.2.1 dX6_intact_22 rfl (lv_at hl 0 rfl) ?_
      refine lv_aload_n E.1 E.2.1 dX6_intact_23 rfl (lv_at hl 0 rfl) ?_
      refine lv_iload_n E.1 E.2.1 dX6_intact_24 rfl (lv_at hl 1 rfl) ?_
      refine kVRE (As := [.int (iI ((k : Int)))]) E cw_X6_167 (c_X6_found G l g σ _ _ _ _ _ _ _ hI k (by omega)) ho ⟨_, _, rfl⟩ ⟨ho, ha⟩ hL hl.1 rfl rfl (Nat.le_of_ble_eq_true rfl) ⟨Nat.le_of_ble_eq_true rfl, Nat.le_of_ble_eq_true rfl⟩ ⟨rfl, rfl⟩ ⟨Nat.le_of_ble_eq_true rfl, Nat.le_of_ble_eq_true rfl⟩ dX6_intact_25 (fun locs hL => ?_)
      rw [show ((encO (foundF σ k) : Nat) : Int) = (64 * ((f.1 : Int) + 1) + (f.2.1 : Int)) by rw [← he]; simp only [encO]; omega]
      refine kVRE (As := [.int (iI ((64 * ((f.1 : Int) + 1) + (f.2.1 : Int))))]) E cw_X6_170 (c_X6_isIntact G l g σ _ _ _ _ _ _ _ f (by omega)) ho ⟨_, _, rfl⟩ ⟨ho, ha⟩ hL hl.1 rfl rfl (Nat.le_of_ble_eq_true rfl) ⟨Nat.le_of_ble_eq_true rfl, Nat.le_of_ble_eq_true rfl⟩ ⟨rfl, rfl⟩ ⟨Nat.le_of_ble_eq_true rfl, Nat.le_of_ble_eq_true rfl⟩ dX6_intact_28 (fun locs hL => ?_)
      refine r_bif_eq (tgt := 38) E dX6_intact_31 (by decide)  (fun c31 => ?_) (fun c31 => ?_)
      · refine r_const E dX6_intact_38 ?_
        refine e_iret (rm := ({ frames := 5, cells := 0, slots := 0, locals := 108 } : Room)) (v := iI (0)) E hL dX6_intact_39 ?_
        exact RE_i (by unfold spIntact; rw [if_neg (by omega), Int.toNat_natCast, ← he]; simp only []; rw [c31]; rfl)
      · refine r_const E dX6_intact_34 ?_
        refine lv_goto (tgt := 39) E.1 E.2.1 dX6_intact_35 (by decide) ?_
        refine e_iret (rm := ({ frames := 5, cells := 0, slots := 0, locals := 108 } : Room)) (v := iI (1)) E hL dX6_intact_39 ?_
        exact RE_i (by unfold spIntact; rw [if_neg (by omega), Int.toNat_natCast, ← he]; simp only []; rw [c31]; rfl)
  · have c4 := of_decide_eq_false c4
    refine r_const E dX6_intact_7 ?_
    refine e_iret (rm := ({ frames := 5, cells := 0, slots := 0, locals := 108 } : Room)) (v := iI ((-1))) E hL dX6_intact_8 ?_
    exact RE_i (by unfold spIntact; rw [if_pos (by omega)])

set_option maxHeartbeats 4000000 in
set_option maxRecDepth 100000 in
theorem c_X6_versions (G : GG) (l : Launch) (g : Nat) (σ : St) (v3 v5 v6 v7 v8 v9 v10 : Int32) (hI : Inv σ) (y : Int) (hy : okI y) : Ct G l yX6_versions cX6_versions 2 (some .int) ({ frames := 2, cells := 0, slots := 0, locals := 42 } : Room) [.ref (g), .int (iI (y))] (fun H => MR G g σ v3 v5 v6 v7 v8 v9 v10 H) (RE (iI (spVersions σ y))) := by
  refine Ct.of (by decide +kernel) (Nat.le_of_ble_eq_true rfl) ?_
  intro p e s m args below meth c ls E hnm hP hl
  obtain ⟨ho, ha⟩ := hP
  have i1 := hI.mn12
  have i2 := hI.nx240
  have i3 := hI.s0b
  have i4 := hI.s1b
  obtain ⟨hy1, hy2⟩ := hy
  have hl : lv_has ls 2 [(0, .ref (g)), (1, .int (iI (y)))] := hl
  have hL : Lk G [] := Lk.nil
  generalize ([] : List Loc) = locs at hL ⊢
  refine lv_iload_n E.1 E.2.1 dX6_versions_0 rfl (lv_at hl 1 rfl) ?_
  refine kSRE (As := [.int (iI (y))]) E cw_X6_74 (c_X6_isName G l (y) (by unfold okI; omega)) trivial hL hl.1 rfl rfl (Nat.le_of_ble_eq_true rfl) ⟨Nat.le_of_ble_eq_true rfl, Nat.le_of_ble_eq_true rfl⟩ ⟨rfl, rfl⟩ ⟨Nat.le_of_ble_eq_true rfl, Nat.le_of_ble_eq_true rfl⟩ dX6_versions_1 (fun locs hL => ?_)
  refine r_bif_eq (tgt := 19) E dX6_versions_4 (by decide)  (fun c4 => ?_) (fun c4 => ?_)
  · have c4 := of_decide_eq_false c4
    refine r_const E dX6_versions_19 ?_
    refine e_iret (rm := ({ frames := 2, cells := 0, slots := 0, locals := 42 } : Room)) (v := iI ((-1))) E hL dX6_versions_20 ?_
    exact RE_i (by unfold spVersions; rw [if_pos (by omega)])
  · have c4 := of_decide_eq_true c4
    obtain ⟨k, rfl⟩ : ∃ k : Nat, y = (k : Int) := ⟨y.toNat, by omega⟩
    refine lv_aload_n E.1 E.2.1 dX6_versions_7 rfl (lv_at hl 0 rfl) ?_
    refine m_get E ho fw_X6_7 rfl dX6_versions_8 ?_
    refine r_bipush E dX6_versions_11 (by decide) ?_
    refine lv_iload_n E.1 E.2.1 dX6_versions_13 rfl (lv_at hl 1 rfl) ?_
    refine r_add E dX6_versions_14 ?_
    refine r_iald E ha (12 + k) (by omega) (by omega) (by decide) dX6_versions_15 ?_
    rw [show encI σ (12 + k) = iI ((vr σ k : Nat) : Int) from congrArg (fun z : Nat => iI (z : Int)) (enc_vr (k := k) (by omega))]
    refine lv_goto (tgt := 20) E.1 E.2.1 dX6_versions_16 (by decide) ?_
    refine e_iret (rm := ({ frames := 2, cells := 0, slots := 0, locals := 42 } : Room)) (v := iI ((vr σ k : Int))) E hL dX6_versions_20 ?_
    exact RE_i (by unfold spVersions; rw [if_neg (by omega), Int.toNat_natCast])

set_option maxHeartbeats 4000000 in
set_option maxRecDepth 100000 in
theorem c_X6_latestIntact (G : GG) (l : Launch) (g : Nat) (σ : St) (v3 v5 v6 v7 v8 v9 v10 : Int32) (hI : Inv σ) (y : Int) (hy : okI y) : Ct G l yX6_latestIntact cX6_latestIntact 5 (some .int) ({ frames := 3, cells := 0, slots := 0, locals := 66 } : Room) [.ref (g), .int (iI (y))] (fun H => MR G g σ v3 v5 v6 v7 v8 v9 v10 H) (RE (iI (spLatest σ y))) := by
  refine Ct.of (by decide +kernel) (Nat.le_of_ble_eq_true rfl) ?_
  intro p e s m args below meth c ls E hnm hP hl
  obtain ⟨ho, ha⟩ := hP
  have i1 := hI.mn12
  have i2 := hI.nx240
  have i3 := hI.s0b
  have i4 := hI.s1b
  obtain ⟨hy1, hy2⟩ := hy
  have hl : lv_has ls 5 [(0, .ref (g)), (1, .int (iI (y)))] := hl
  have hL : Lk G [] := Lk.nil
  generalize ([] : List Loc) = locs at hL ⊢
  refine lv_iload_n E.1 E.2.1 dX6_latestIntact_0 rfl (lv_at hl 1 rfl) ?_
  refine kSRE (As := [.int (iI (y))]) E cw_X6_74 (c_X6_isName G l (y) (by unfold okI; omega)) trivial hL hl.1 rfl rfl (Nat.le_of_ble_eq_true rfl) ⟨Nat.le_of_ble_eq_true rfl, Nat.le_of_ble_eq_true rfl⟩ ⟨rfl, rfl⟩ ⟨Nat.le_of_ble_eq_true rfl, Nat.le_of_ble_eq_true rfl⟩ dX6_latestIntact_1 (fun locs hL => ?_)
  refine r_bif_ne (tgt := 9) E dX6_latestIntact_4 (by decide)  (fun c4 => ?_) (fun c4 => ?_)
  · have c4 := of_decide_eq_true c4
    obtain ⟨k, hk9⟩ : ∃ k : Nat, y = (k : Int) := ⟨y.toNat, by omega⟩
    rw [hk9] at hl
    refine r_bipush E dX6_latestIntact_9 (by decide) ?_
    refine lv_istore_n (lv' := [(2, .int (iI ((-6)))), (0, .ref (g)), (1, .int (iI ((k : Int))))]) E.1 E.2.1 dX6_latestIntact_11 rfl hl (by decide) rfl (fun ls hl => ?_)
    refine r_const E dX6_latestIntact_12 ?_
    refine lv_istore_n (lv' := [(3, .int (iI (0))), (2, .int (iI ((-6)))), (0, .ref (g)), (1, .int (iI ((k : Int))))]) E.1 E.2.1 dX6_latestIntact_13 rfl hl (by decide) rfl (fun ls hl => ?_)
    have LP14 : ∀ (kin14 : Nat) (n : Nat) (u v : Int) (ls : Array Slot) (locs : List Loc) (hn : n ≤ mn σ) (hu : u = (n : Int)) (hv2 : v = oI (lastB (fun n => readB σ (dm σ) n && intactO (dm σ) (en σ n k)) n)) (hkin14 : mn σ - n = kin14) (hl : lv_has ls 5 [(3, .int (iI (u))), (2, .int (iI (v))), (0, .ref (g)), (1, .int (iI ((k : Int))))]) (hL : Lk G locs), W p l e ({ frames := 3, cells := 0, slots := 0, locals := 66 } : Room) s m args below meth c s.heap locs 0 0 (QQ G below args s ({ frames := 3, cells := 0, slots := 0, locals := 66 } : Room) (RE (iI (spLatest σ y)))) (F0 m 14 ls []) := by
      intro kin14
      induction kin14 using Nat.strongRecOn with
      | ind kin14 ihin14 =>
        intro n u v ls locs hn hu hv2 hkin14 hl hL
        refine lv_iload_n E.1 E.2.1 dX6_latestIntact_14 rfl (lv_at hl 0 rfl) ?_
        refine lv_aload_n E.1 E.2.1 dX6_latestIntact_15 rfl (lv_at hl 2 rfl) ?_
        refine m_get E ho fw_X6_7 rfl dX6_latestIntact_16 ?_
        refine r_const E dX6_latestIntact_19 ?_
        refine r_iald E ha (1) rfl (by decide) (by decide) dX6_latestIntact_20 ?_
        rw [show encI σ (1) = iI ((mn σ : Nat) : Int) from rfl]
        refine r_icmp_ge (tgt := 66) E dX6_latestIntact_21 (by decide) (by omega) (by omega) (fun c21 => ?_) (fun c21 => ?_)
        · refine lv_iload_n E.1 E.2.1 dX6_latestIntact_66 rfl (lv_at hl 1 rfl) ?_
          refine e_iret (rm := ({ frames := 3, cells := 0, slots := 0, locals := 66 } : Room)) (v := iI (v)) E hL dX6_latestIntact_67 ?_
          exact RE_i (by unfold spLatest; rw [if_neg (by omega), hk9, Int.toNat_natCast, hv2, show n = mn σ by omega])
        · subst hu
          refine lv_aload_n E.1 E.2.1 dX6_latestIntact_24 rfl (lv_at hl 2 rfl) ?_
          refine lv_iload_n E.1 E.2.1 dX6_latestIntact_25 rfl (lv_at hl 0 rfl) ?_
          refine lv_iload_n E.1 E.2.1 dX6_latestIntact_26 rfl (lv_at hl 3 rfl) ?_
          refine kVRE (As := [.int (iI ((n : Int))), .int (iI ((k : Int)))]) E cw_X6_38 (c_X6_entryOf G l g σ _ _ _ _ _ _ _ (n) (k) (by omega) (by omega)) ho ⟨_, _, rfl⟩ ⟨ho, ha⟩ hL hl.1 rfl rfl (Nat.le_of_ble_eq_true rfl) ⟨Nat.le_of_ble_eq_true rfl, Nat.le_of_ble_eq_true rfl⟩ ⟨rfl, rfl⟩ ⟨Nat.le_of_ble_eq_true rfl, Nat.le_of_ble_eq_true rfl⟩ dX6_latestIntact_27 (fun locs hL => ?_)
          rcases he_ : en σ n k with _ | f
          · have he := he_.symm
            rw [show ((encO none : Nat) : Int) = 0 from rfl]
            refine lv_istore (lv' := [(4, .int (iI (0))), (3, .int (iI ((n : Int)))), (2, .int (iI (v))), (0, .ref (g)), (1, .int (iI ((k : Int))))]) E.1 E.2.1 dX6_latestIntact_30 hl (by decide) rfl (fun ls hl => ?_)
            refine lv_aload_n E.1 E.2.1 dX6_latestIntact_32 rfl (lv_at hl 3 rfl) ?_
            refine lv_iload_n E.1 E.2.1 dX6_latestIntact_33 rfl (lv_at hl 1 rfl) ?_
            refine kVRE (As := [.int (iI ((n : Int)))]) E cw_X6_49 (c_X6_isReadable G l g σ _ _ _ _ _ _ _ hI (n) (by omega)) ho ⟨_, _, rfl⟩ ⟨ho, ha⟩ hL hl.1 rfl rfl (Nat.le_of_ble_eq_true rfl) ⟨Nat.le_of_ble_eq_true rfl, Nat.le_of_ble_eq_true rfl⟩ ⟨rfl, rfl⟩ ⟨Nat.le_of_ble_eq_true rfl, Nat.le_of_ble_eq_true rfl⟩ dX6_latestIntact_34 (fun locs hL => ?_)
            refine r_bif_eq (tgt := 58) E dX6_latestIntact_37 (by decide)  (fun c37 => ?_) (fun c37 => ?_)
            · refine lv_iload_n E.1 E.2.1 dX6_latestIntact_58 rfl (lv_at hl 2 rfl) ?_
              refine lv_istore_n (lv' := [(2, .int (iI (v))), (4, .int (iI (0))), (3, .int (iI ((n : Int)))), (0, .ref (g)), (1, .int (iI ((k : Int))))]) E.1 E.2.1 dX6_latestIntact_59 rfl hl (by decide) rfl (fun ls hl => ?_)
              refine r_inc (lv' := [(3, .int (iI ((n : Int) + 1))), (2, .int (iI (v))), (4, .int (iI (0))), (0, .ref (g)), (1, .int (iI ((k : Int))))]) E dX6_latestIntact_60 hl (k := 2) rfl (by decide) rfl (fun ls hl => ?_)
              refine lv_goto (tgt := 14) E.1 E.2.1 dX6_latestIntact_63 (by decide) ?_
              refine ihin14 _ ?_ (n + 1) ((n : Int) + 1) v ls locs ?_ ?_ ?_ rfl (lv_sub hl [0, 1, 3, 4] rfl) hL
              · omega
              · omega
              · omega
              · rw [lastB, if_neg]
                · exact hv2
                · first | (simp [c37]; done) | (simp [← he, intactO]; done) | (simp [← he, intactO, c51]; done)
            · refine lv_iload E.1 E.2.1 dX6_latestIntact_40 (lv_at hl 0 rfl) ?_
              refine r_if_le (tgt := 58) E dX6_latestIntact_42 (by decide) (by omega) (fun c42 => ?_) (fun c42 => absurd c42 (by omega))
              refine lv_iload_n E.1 E.2.1 dX6_latestIntact_58 rfl (lv_at hl 2 rfl) ?_
              refine lv_istore_n (lv' := [(2, .int (iI (v))), (4, .int (iI (0))), (3, .int (iI ((n : Int)))), (0, .ref (g)), (1, .int (iI ((k : Int))))]) E.1 E.2.1 dX6_latestIntact_59 rfl hl (by decide) rfl (fun ls hl => ?_)
              refine r_inc (lv' := [(3, .int (iI ((n : Int) + 1))), (2, .int (iI (v))), (4, .int (iI (0))), (0, .ref (g)), (1, .int (iI ((k : Int))))]) E dX6_latestIntact_60 hl (k := 2) rfl (by decide) rfl (fun ls hl => ?_)
              refine lv_goto (tgt := 14) E.1 E.2.1 dX6_latestIntact_63 (by decide) ?_
              refine ihin14 _ ?_ (n + 1) ((n : Int) + 1) v ls locs ?_ ?_ ?_ rfl (lv_sub hl [0, 1, 3, 4] rfl) hL
              · omega
              · omega
              · omega
              · rw [lastB, if_neg]
                · exact hv2
                · first | (simp [c37]; done) | (simp [← he, intactO]; done) | (simp [← he, intactO, c51]; done)
          · have he := he_.symm
            have hfb := hI.ent2 (n := n) (k := k) (by omega) (by omega) he_
            rw [show ((encO (some f) : Nat) : Int) = (64 * ((f.1 : Int) + 1) + (f.2.1 : Int)) by simp only [encO]; omega]
            refine lv_istore (lv' := [(4, .int (iI ((64 * ((f.1 : Int) + 1) + (f.2.1 : Int))))), (3, .int (iI ((n : Int)))), (2, .int (iI (v))), (0, .ref (g)), (1, .int (iI ((k : Int))))]) E.1 E.2.1 dX6_latestIntact_30 hl (by decide) rfl (fun ls hl => ?_)
            refine lv_aload_n E.1 E.2.1 dX6_latestIntact_32 rfl (lv_at hl 3 rfl) ?_
            refine lv_iload_n E.1 E.2.1 dX6_latestIntact_33 rfl (lv_at hl 1 rfl) ?_
            refine kVRE (As := [.int (iI ((n : Int)))]) E cw_X6_49 (c_X6_isReadable G l g σ _ _ _ _ _ _ _ hI (n) (by omega)) ho ⟨_, _, rfl⟩ ⟨ho, ha⟩ hL hl.1 rfl rfl (Nat.le_of_ble_eq_true rfl) ⟨Nat.le_of_ble_eq_true rfl, Nat.le_of_ble_eq_true rfl⟩ ⟨rfl, rfl⟩ ⟨Nat.le_of_ble_eq_true rfl, Nat.le_of_ble_eq_true rfl⟩ dX6_latestIntact_34 (fun locs hL => ?_)
            refine r_bif_eq (tgt := 58) E dX6_latestIntact_37 (by decide)  (fun c37 => ?_) (fun c37 => ?_)
            · refine lv_iload_n E.1 E.2.1 dX6_latestIntact_58 rfl (lv_at hl 2 rfl) ?_
              refine lv_istore_n (lv' := [(2, .int (iI (v))), (4, .int (iI ((64 * ((f.1 : Int) + 1) + (f.2.1 : Int))))), (3, .int (iI ((n : Int)))), (0, .ref (g)), (1, .int (iI ((k : Int))))]) E.1 E.2.1 dX6_latestIntact_59 rfl hl (by decide) rfl (fun ls hl => ?_)
              refine r_inc (lv' := [(3, .int (iI ((n : Int) + 1))), (2, .int (iI (v))), (4, .int (iI ((64 * ((f.1 : Int) + 1) + (f.2.1 : Int))))), (0, .ref (g)), (1, .int (iI ((k : Int))))]) E dX6_latestIntact_60 hl (k := 2) rfl (by decide) rfl (fun ls hl => ?_)
              refine lv_goto (tgt := 14) E.1 E.2.1 dX6_latestIntact_63 (by decide) ?_
              refine ihin14 _ ?_ (n + 1) ((n : Int) + 1) v ls locs ?_ ?_ ?_ rfl (lv_sub hl [0, 1, 3, 4] rfl) hL
              · omega
              · omega
              · omega
              · rw [lastB, if_neg]
                · exact hv2
                · first | (simp [c37]; done) | (simp [← he, intactO]; done) | (simp [← he, intactO, c51]; done)
            · refine lv_iload E.1 E.2.1 dX6_latestIntact_40 (lv_at hl 0 rfl) ?_
              refine r_if_le (tgt := 58) E dX6_latestIntact_42 (by decide) (by omega) (fun c42 => absurd c42 (by omega)) (fun c42 => ?_)
              refine lv_aload_n E.1 E.2.1 dX6_latestIntact_45 rfl (lv_at hl 3 rfl) ?_
              refine lv_iload E.1 E.2.1 dX6_latestIntact_46 (lv_at hl 0 rfl) ?_
              refine kVRE (As := [.int (iI ((64 * ((f.1 : Int) + 1) + (f.2.1 : Int))))]) E cw_X6_170 (c_X6_isIntact G l g σ _ _ _ _ _ _ _ f (by omega)) ho ⟨_, _, rfl⟩ ⟨ho, ha⟩ hL hl.1 rfl rfl (Nat.le_of_ble_eq_true rfl) ⟨Nat.le_of_ble_eq_true rfl, Nat.le_of_ble_eq_true rfl⟩ ⟨rfl, rfl⟩ ⟨Nat.le_of_ble_eq_true rfl, Nat.le_of_ble_eq_true rfl⟩ dX6_latestIntact_48 (fun locs hL => ?_)
              refine r_bif_eq (tgt := 58) E dX6_latestIntact_51 (by decide)  (fun c51 => ?_) (fun c51 => ?_)
              · refine lv_iload_n E.1 E.2.1 dX6_latestIntact_58 rfl (lv_at hl 2 rfl) ?_
                refine lv_istore_n (lv' := [(2, .int (iI (v))), (4, .int (iI ((64 * ((f.1 : Int) + 1) + (f.2.1 : Int))))), (3, .int (iI ((n : Int)))), (0, .ref (g)), (1, .int (iI ((k : Int))))]) E.1 E.2.1 dX6_latestIntact_59 rfl hl (by decide) rfl (fun ls hl => ?_)
                refine r_inc (lv' := [(3, .int (iI ((n : Int) + 1))), (2, .int (iI (v))), (4, .int (iI ((64 * ((f.1 : Int) + 1) + (f.2.1 : Int))))), (0, .ref (g)), (1, .int (iI ((k : Int))))]) E dX6_latestIntact_60 hl (k := 2) rfl (by decide) rfl (fun ls hl => ?_)
                refine lv_goto (tgt := 14) E.1 E.2.1 dX6_latestIntact_63 (by decide) ?_
                refine ihin14 _ ?_ (n + 1) ((n : Int) + 1) v ls locs ?_ ?_ ?_ rfl (lv_sub hl [0, 1, 3, 4] rfl) hL
                · omega
                · omega
                · omega
                · rw [lastB, if_neg]
                  · exact hv2
                  · first | (simp [c37]; done) | (simp [← he, intactO]; done) | (simp [← he, intactO, c51]; done)
              · refine lv_iload_n E.1 E.2.1 dX6_latestIntact_54 rfl (lv_at hl 1 rfl) ?_
                refine lv_goto (tgt := 59) E.1 E.2.1 dX6_latestIntact_55 (by decide) ?_
                refine lv_istore_n (lv' := [(2, .int (iI ((n : Int)))), (4, .int (iI ((64 * ((f.1 : Int) + 1) + (f.2.1 : Int))))), (3, .int (iI ((n : Int)))), (0, .ref (g)), (1, .int (iI ((k : Int))))]) E.1 E.2.1 dX6_latestIntact_59 rfl hl (by decide) rfl (fun ls hl => ?_)
                refine r_inc (lv' := [(3, .int (iI ((n : Int) + 1))), (2, .int (iI ((n : Int)))), (4, .int (iI ((64 * ((f.1 : Int) + 1) + (f.2.1 : Int))))), (0, .ref (g)), (1, .int (iI ((k : Int))))]) E dX6_latestIntact_60 hl (k := 2) rfl (by decide) rfl (fun ls hl => ?_)
                refine lv_goto (tgt := 14) E.1 E.2.1 dX6_latestIntact_63 (by decide) ?_
                refine ihin14 _ ?_ (n + 1) ((n : Int) + 1) ((n : Int)) ls locs ?_ ?_ ?_ rfl (lv_sub hl [0, 1, 3, 4] rfl) hL
                · omega
                · omega
                · omega
                · rw [lastB, if_pos (by simp [c37, ← he, intactO, c51])]; rfl
    refine LP14 _ 0 0 ((-6)) ls locs ?_ ?_ ?_ rfl (lv_sub hl [0, 1, 2, 3] rfl) hL
    · omega
    · rfl
    · rfl
  · have c4 := of_decide_eq_false c4
    refine r_const E dX6_latestIntact_7 ?_
    refine e_iret (rm := ({ frames := 3, cells := 0, slots := 0, locals := 66 } : Room)) (v := iI ((-1))) E hL dX6_latestIntact_8 ?_
    exact RE_i (by unfold spLatest; rw [if_pos (by omega)])

set_option maxHeartbeats 4000000 in
set_option maxRecDepth 100000 in
theorem c_X6_largest (G : GG) (l : Launch) (g : Nat) (σ : St) (v3 v5 v6 v7 v8 v9 v10 : Int32) (hI : Inv σ) : Ct G l yX6_largest cX6_largest 1 (some .int) ({ frames := 3, cells := 0, slots := 0, locals := 66 } : Room) [.ref (g)] (fun H => MR G g σ v3 v5 v6 v7 v8 v9 v10 H) (RE (iI (spLargest σ))) := by
  refine Ct.of (by decide +kernel) (Nat.le_of_ble_eq_true rfl) ?_
  intro p e s m args below meth c ls E hnm hP hl
  obtain ⟨ho, ha⟩ := hP
  have i1 := hI.mn12
  have i2 := hI.nx240
  have i3 := hI.s0b
  have i4 := hI.s1b
  have hl : lv_has ls 1 [(0, .ref (g))] := hl
  have hL : Lk G [] := Lk.nil
  generalize ([] : List Loc) = locs at hL ⊢
  refine lv_aload_n E.1 E.2.1 dX6_largest_0 rfl (lv_at hl 0 rfl) ?_
  refine kVRE (As := []) E cw_X6_179 (c_X6_room G l g σ _ _ _ _ _ _ _ hI) ho ⟨_, _, rfl⟩ ⟨ho, ha⟩ hL hl.1 rfl rfl (Nat.le_of_ble_eq_true rfl) ⟨Nat.le_of_ble_eq_true rfl, Nat.le_of_ble_eq_true rfl⟩ ⟨rfl, rfl⟩ ⟨Nat.le_of_ble_eq_true rfl, Nat.le_of_ble_eq_true rfl⟩ dX6_largest_1 (fun locs hL => ?_)
  have hroom := roomN_le σ
  refine r_bipush E dX6_largest_4 (by decide) ?_
  refine r_icmp_ge (tgt := 16) E dX6_largest_6 (by decide) (by omega) (by omega) (fun c6 => ?_) (fun c6 => ?_)
  · refine r_bipush E dX6_largest_16 (by decide) ?_
    refine e_iret (rm := ({ frames := 3, cells := 0, slots := 0, locals := 66 } : Room)) (v := iI (40)) E hL dX6_largest_18 ?_
    exact RE_i (by unfold spLargest; split <;> omega)
  · refine lv_aload_n E.1 E.2.1 dX6_largest_9 rfl (lv_at hl 0 rfl) ?_
    refine kVRE (As := []) E cw_X6_179 (c_X6_room G l g σ _ _ _ _ _ _ _ hI) ho ⟨_, _, rfl⟩ ⟨ho, ha⟩ hL hl.1 rfl rfl (Nat.le_of_ble_eq_true rfl) ⟨Nat.le_of_ble_eq_true rfl, Nat.le_of_ble_eq_true rfl⟩ ⟨rfl, rfl⟩ ⟨Nat.le_of_ble_eq_true rfl, Nat.le_of_ble_eq_true rfl⟩ dX6_largest_10 (fun locs hL => ?_)
    have hroom := roomN_le σ
    refine lv_goto (tgt := 18) E.1 E.2.1 dX6_largest_13 (by decide) ?_
    refine e_iret (rm := ({ frames := 3, cells := 0, slots := 0, locals := 66 } : Room)) (v := iI ((roomN σ : Int))) E hL dX6_largest_18 ?_
    exact RE_i (by unfold spLargest; split <;> omega)

set_option maxHeartbeats 4000000 in
set_option maxRecDepth 100000 in
theorem c_X6_filesLeft (G : GG) (l : Launch) (g : Nat) (σ : St) (v3 v5 v6 v7 v8 v9 v10 : Int32) (hI : Inv σ) (y : Int) (hy : okI y) : Ct G l yX6_filesLeft cX6_filesLeft 2 (some .int) ({ frames := 3, cells := 0, slots := 0, locals := 66 } : Room) [.ref (g), .int (iI (y))] (fun H => MR G g σ v3 v5 v6 v7 v8 v9 v10 H) (RE (iI (spFilesLeft σ y))) := by
  refine Ct.of (by decide +kernel) (Nat.le_of_ble_eq_true rfl) ?_
  intro p e s m args below meth c ls E hnm hP hl
  obtain ⟨ho, ha⟩ := hP
  have i1 := hI.mn12
  have i2 := hI.nx240
  have i3 := hI.s0b
  have i4 := hI.s1b
  obtain ⟨hy1, hy2⟩ := hy
  have hl : lv_has ls 2 [(0, .ref (g)), (1, .int (iI (y)))] := hl
  have hL : Lk G [] := Lk.nil
  generalize ([] : List Loc) = locs at hL ⊢
  refine lv_iload_n E.1 E.2.1 dX6_filesLeft_0 rfl (lv_at hl 1 rfl) ?_
  refine r_const E dX6_filesLeft_1 ?_
  refine r_bipush E dX6_filesLeft_2 (by decide) ?_
  refine kSRE (As := [.int (iI (y)), .int (iI (1)), .int (iI (40))]) E cw_X6_30 (c_X6_in G l (y) (1) (40) (by unfold okI; omega) (by unfold okI; omega) (by unfold okI; omega)) trivial hL hl.1 rfl rfl (Nat.le_of_ble_eq_true rfl) ⟨Nat.le_of_ble_eq_true rfl, Nat.le_of_ble_eq_true rfl⟩ ⟨rfl, rfl⟩ ⟨Nat.le_of_ble_eq_true rfl, Nat.le_of_ble_eq_true rfl⟩ dX6_filesLeft_4 (fun locs hL => ?_)
  refine r_bif_eq (tgt := 19) E dX6_filesLeft_7 (by decide)  (fun c7 => ?_) (fun c7 => ?_)
  · have c7 := of_decide_eq_false c7
    refine r_bipush E dX6_filesLeft_19 (by decide) ?_
    refine e_iret (rm := ({ frames := 3, cells := 0, slots := 0, locals := 66 } : Room)) (v := iI ((-2))) E hL dX6_filesLeft_21 ?_
    exact RE_i (by unfold spFilesLeft; rw [if_pos (by omega)])
  · have c7 := of_decide_eq_true c7
    obtain ⟨k, rfl⟩ : ∃ k : Nat, y = (k : Int) := ⟨y.toNat, by omega⟩
    refine lv_aload_n E.1 E.2.1 dX6_filesLeft_10 rfl (lv_at hl 0 rfl) ?_
    refine kVRE (As := []) E cw_X6_179 (c_X6_room G l g σ _ _ _ _ _ _ _ hI) ho ⟨_, _, rfl⟩ ⟨ho, ha⟩ hL hl.1 rfl rfl (Nat.le_of_ble_eq_true rfl) ⟨Nat.le_of_ble_eq_true rfl, Nat.le_of_ble_eq_true rfl⟩ ⟨rfl, rfl⟩ ⟨Nat.le_of_ble_eq_true rfl, Nat.le_of_ble_eq_true rfl⟩ dX6_filesLeft_11 (fun locs hL => ?_)
    have hroom := roomN_le σ
    refine lv_iload_n E.1 E.2.1 dX6_filesLeft_14 rfl (lv_at hl 1 rfl) ?_
    refine r_div E dX6_filesLeft_15 (by omega) (by omega) (by omega) (by omega) ?_
    refine lv_goto (tgt := 21) E.1 E.2.1 dX6_filesLeft_16 (by decide) ?_
    refine e_iret (rm := ({ frames := 3, cells := 0, slots := 0, locals := 66 } : Room)) (v := iI (((roomN σ : Int)) / ((k : Int)))) E hL dX6_filesLeft_21 ?_
    exact RE_i (by unfold spFilesLeft; rw [if_neg (by omega), Int.toNat_natCast]; rfl)

set_option maxHeartbeats 4000000 in
set_option maxRecDepth 100000 in
theorem c_X6_filesEach (G : GG) (l : Launch) (g : Nat) (σ : St) (v3 v5 v6 v7 v8 v9 v10 : Int32) (hI : Inv σ) (y : Int) (hy : okI y) : Ct G l yX6_filesEach cX6_filesEach 7 (some .int) ({ frames := 2, cells := 0, slots := 0, locals := 43 } : Room) [.ref (g), .int (iI (y))] (fun H => MR G g σ v3 v5 v6 v7 v8 v9 v10 H) (RE (iI (spFilesEach σ y))) := by
  refine Ct.of (by decide +kernel) (Nat.le_of_ble_eq_true rfl) ?_
  intro p e s m args below meth c ls E hnm hP hl
  obtain ⟨ho, ha⟩ := hP
  have i1 := hI.mn12
  have i2 := hI.nx240
  have i3 := hI.s0b
  have i4 := hI.s1b
  obtain ⟨hy1, hy2⟩ := hy
  have hl : lv_has ls 7 [(0, .ref (g)), (1, .int (iI (y)))] := hl
  have hL : Lk G [] := Lk.nil
  generalize ([] : List Loc) = locs at hL ⊢
  refine lv_iload_n E.1 E.2.1 dX6_filesEach_0 rfl (lv_at hl 1 rfl) ?_
  refine r_const E dX6_filesEach_1 ?_
  refine r_bipush E dX6_filesEach_2 (by decide) ?_
  refine kSRE (As := [.int (iI (y)), .int (iI (1)), .int (iI (40))]) E cw_X6_30 (c_X6_in G l (y) (1) (40) (by unfold okI; omega) (by unfold okI; omega) (by unfold okI; omega)) trivial hL hl.1 rfl rfl (Nat.le_of_ble_eq_true rfl) ⟨Nat.le_of_ble_eq_true rfl, Nat.le_of_ble_eq_true rfl⟩ ⟨rfl, rfl⟩ ⟨Nat.le_of_ble_eq_true rfl, Nat.le_of_ble_eq_true rfl⟩ dX6_filesEach_4 (fun locs hL => ?_)
  refine r_bif_ne (tgt := 13) E dX6_filesEach_7 (by decide)  (fun c7 => ?_) (fun c7 => ?_)
  · have c7 := of_decide_eq_true c7
    obtain ⟨x, hk9⟩ : ∃ x : Nat, y = (x : Int) := ⟨y.toNat, by omega⟩
    rw [hk9] at hl
    refine lv_aload_n E.1 E.2.1 dX6_filesEach_13 rfl (lv_at hl 0 rfl) ?_
    refine kVRE (As := []) E cw_X6_63 (c_X6_openOne G l g σ _ _ _ _ _ _ _ hI) ho ⟨_, _, rfl⟩ ⟨ho, ha⟩ hL hl.1 rfl rfl (Nat.le_of_ble_eq_true rfl) ⟨Nat.le_of_ble_eq_true rfl, Nat.le_of_ble_eq_true rfl⟩ ⟨rfl, rfl⟩ ⟨Nat.le_of_ble_eq_true rfl, Nat.le_of_ble_eq_true rfl⟩ dX6_filesEach_14 (fun locs hL => ?_)
    rcases hop : opn σ with _ | n
    · rw [show oI none = -6 from rfl]
      refine lv_istore_n (lv' := [(2, .int (iI ((-6)))), (0, .ref (g)), (1, .int (iI ((x : Int))))]) E.1 E.2.1 dX6_filesEach_17 rfl hl (by decide) rfl (fun ls hl => ?_)
      refine r_sipush E dX6_filesEach_18 (by decide) ?_
      refine lv_aload_n E.1 E.2.1 dX6_filesEach_21 rfl (lv_at hl 1 rfl) ?_
      refine m_get E ho fw_X6_7 rfl dX6_filesEach_22 ?_
      refine r_const E dX6_filesEach_25 ?_
      refine r_iald E ha (0) rfl (by decide) (by decide) dX6_filesEach_26 ?_
      rw [show encI σ (0) = iI ((nx σ : Nat) : Int) from rfl]
      refine r_sub E dX6_filesEach_27 ?_
      refine lv_istore_n (lv' := [(3, .int (iI (240 - (nx σ : Int)))), (2, .int (iI ((-6)))), (0, .ref (g)), (1, .int (iI ((x : Int))))]) E.1 E.2.1 dX6_filesEach_28 rfl hl (by decide) rfl (fun ls hl => ?_)
      refine lv_aload_n E.1 E.2.1 dX6_filesEach_29 rfl (lv_at hl 2 rfl) ?_
      refine m_get E ho fw_X6_7 rfl dX6_filesEach_30 ?_
      refine r_const E dX6_filesEach_33 ?_
      refine r_iald E ha (1) rfl (by decide) (by decide) dX6_filesEach_34 ?_
      rw [show encI σ (1) = iI ((mn σ : Nat) : Int) from rfl]
      refine lv_istore (lv' := [(4, .int (iI ((mn σ : Int)))), (3, .int (iI (240 - (nx σ : Int)))), (2, .int (iI ((-6)))), (0, .ref (g)), (1, .int (iI ((x : Int))))]) E.1 E.2.1 dX6_filesEach_35 hl (by decide) rfl (fun ls hl => ?_)
      refine r_const E dX6_filesEach_37 ?_
      refine lv_istore (lv' := [(5, .int (iI (0))), (4, .int (iI ((mn σ : Int)))), (3, .int (iI (240 - (nx σ : Int)))), (2, .int (iI ((-6)))), (0, .ref (g)), (1, .int (iI ((x : Int))))]) E.1 E.2.1 dX6_filesEach_38 hl (by decide) rfl (fun ls hl => ?_)
      refine lv_iload_n E.1 E.2.1 dX6_filesEach_40 rfl (lv_at hl 3 rfl) ?_
      refine r_if_lt (tgt := 66) E dX6_filesEach_41 (by decide) (by omega) (fun c41 => ?_) (fun c41 => absurd c41 (by omega))
      refine lv_iload_n E.1 E.2.1 dX6_filesEach_66 rfl (lv_at hl 5 rfl) ?_
      refine lv_aload_n E.1 E.2.1 dX6_filesEach_67 rfl (lv_at hl 4 rfl) ?_
      refine m_get E ho fw_X6_7 rfl dX6_filesEach_68 ?_
      refine r_const E dX6_filesEach_71 ?_
      refine r_iald E ha (2) rfl (by decide) (by decide) dX6_filesEach_72 ?_
      rw [show encI σ (2) = iI ((s0 σ : Nat) : Int) from rfl]
      refine r_add E dX6_filesEach_73 ?_
      refine lv_aload_n E.1 E.2.1 dX6_filesEach_74 rfl (lv_at hl 4 rfl) ?_
      refine m_get E ho fw_X6_7 rfl dX6_filesEach_75 ?_
      refine r_const E dX6_filesEach_78 ?_
      refine r_iald E ha (3) rfl (by decide) (by decide) dX6_filesEach_79 ?_
      rw [show encI σ (3) = iI ((s1 σ : Nat) : Int) from rfl]
      refine r_add E dX6_filesEach_80 ?_
      refine lv_istore (lv' := [(6, .int (iI (((x : Int) + (s0 σ : Int)) + (s1 σ : Int)))), (5, .int (iI (0))), (4, .int (iI ((mn σ : Int)))), (3, .int (iI (240 - (nx σ : Int)))), (2, .int (iI ((-6)))), (0, .ref (g)), (1, .int (iI ((x : Int))))]) E.1 E.2.1 dX6_filesEach_81 hl (by decide) rfl (fun ls hl => ?_)
      have LP83 : ∀ (kin83 : Nat) (nb en_ fl1 : Nat) (u v q : Int) (ls : Array Slot) (locs : List Loc) (h1 : nb ≤ 12) (h2 : en_ ≤ 240) (hu : u = (nb : Int)) (hv : v = (240 : Int) - (en_ : Int)) (hq : q = (fl1 : Int)) (hT : fl1 + min (12 - nb) ((240 - en_) / (x + s0 σ + s1 σ)) = eachN σ x) (hkin83 : 12 - nb = kin83) (hl : lv_has ls 7 [(4, .int (iI (u))), (3, .int (iI (v))), (5, .int (iI (q))), (6, .int (iI ((x : Int) + (s0 σ : Int) + (s1 σ : Int)))), (0, .ref (g))]) (hL : Lk G locs), W p l e ({ frames := 2, cells := 0, slots := 0, locals := 43 } : Room) s m args below meth c s.heap locs 0 0 (QQ G below args s ({ frames := 2, cells := 0, slots := 0, locals := 43 } : Room) (RE (iI (spFilesEach σ y)))) (F0 m 83 ls []) := by
        intro kin83
        induction kin83 using Nat.strongRecOn with
        | ind kin83 ihin83 =>
          intro nb en_ fl1 u v q ls locs h1 h2 hu hv hq hT hkin83 hl hL
          refine lv_iload_n E.1 E.2.1 dX6_filesEach_83 rfl (lv_at hl 1 rfl) ?_
          refine lv_iload E.1 E.2.1 dX6_filesEach_84 (lv_at hl 3 rfl) ?_
          refine r_icmp_lt (tgt := 110) E dX6_filesEach_86 (by decide) (by omega) (by omega) (fun c86 => ?_) (fun c86 => ?_)
          · refine lv_iload E.1 E.2.1 dX6_filesEach_110 (lv_at hl 2 rfl) ?_
            refine e_iret (rm := ({ frames := 2, cells := 0, slots := 0, locals := 43 } : Room)) (v := iI (q)) E hL dX6_filesEach_112 ?_
            refine RE_i ?_
            unfold spFilesEach
            rw [if_neg (by omega), hk9, Int.toNat_natCast]
            rw [hq, ← hT]
            have h9 : min (12 - nb) ((240 - en_) / (x + s0 σ + s1 σ)) = 0 := by
              first
              | (rw [show 12 - nb = 0 by omega]; exact Nat.zero_min _)
              | (rw [Nat.div_eq_of_lt (a := 240 - en_) (b := x + s0 σ + s1 σ) (by omega)]; exact Nat.min_zero _)
            rw [h9]
            rfl
          · refine lv_iload E.1 E.2.1 dX6_filesEach_89 (lv_at hl 0 rfl) ?_
            refine r_bipush E dX6_filesEach_91 (by decide) ?_
            refine r_icmp_ge (tgt := 110) E dX6_filesEach_93 (by decide) (by omega) (by omega) (fun c93 => ?_) (fun c93 => ?_)
            · refine lv_iload E.1 E.2.1 dX6_filesEach_110 (lv_at hl 2 rfl) ?_
              refine e_iret (rm := ({ frames := 2, cells := 0, slots := 0, locals := 43 } : Room)) (v := iI (q)) E hL dX6_filesEach_112 ?_
              refine RE_i ?_
              unfold spFilesEach
              rw [if_neg (by omega), hk9, Int.toNat_natCast]
              rw [hq, ← hT]
              have h9 : min (12 - nb) ((240 - en_) / (x + s0 σ + s1 σ)) = 0 := by
                first
                | (rw [show 12 - nb = 0 by omega]; exact Nat.zero_min _)
                | (rw [Nat.div_eq_of_lt (a := 240 - en_) (b := x + s0 σ + s1 σ) (by omega)]; exact Nat.min_zero _)
              rw [h9]
              rfl
            · refine lv_iload_n E.1 E.2.1 dX6_filesEach_96 rfl (lv_at hl 1 rfl) ?_
              refine lv_iload E.1 E.2.1 dX6_filesEach_97 (lv_at hl 3 rfl) ?_
              refine r_sub E dX6_filesEach_99 ?_
              refine lv_istore_n (lv' := [(3, .int (iI (v - ((x : Int) + (s0 σ : Int) + (s1 σ : Int))))), (4, .int (iI (u))), (5, .int (iI (q))), (6, .int (iI ((x : Int) + (s0 σ : Int) + (s1 σ : Int)))), (0, .ref (g))]) E.1 E.2.1 dX6_filesEach_100 rfl hl (by decide) rfl (fun ls hl => ?_)
              refine r_inc (lv' := [(4, .int (iI (u + 1))), (3, .int (iI (v - ((x : Int) + (s0 σ : Int) + (s1 σ : Int))))), (5, .int (iI (q))), (6, .int (iI ((x : Int) + (s0 σ : Int) + (s1 σ : Int)))), (0, .ref (g))]) E dX6_filesEach_101 hl (k := 1) rfl (by decide) rfl (fun ls hl => ?_)
              refine r_inc (lv' := [(5, .int (iI (q + 1))), (4, .int (iI (u + 1))), (3, .int (iI (v - ((x : Int) + (s0 σ : Int) + (s1 σ : Int))))), (6, .int (iI ((x : Int) + (s0 σ : Int) + (s1 σ : Int)))), (0, .ref (g))]) E dX6_filesEach_104 hl (k := 2) rfl (by decide) rfl (fun ls hl => ?_)
              refine lv_goto (tgt := 83) E.1 E.2.1 dX6_filesEach_107 (by decide) ?_
              refine ihin83 _ ?_ (nb + 1) (en_ + (x + s0 σ + s1 σ)) (fl1 + 1) (u + 1) (v - ((x : Int) + (s0 σ : Int) + (s1 σ : Int))) (q + 1) ls locs ?_ ?_ ?_ ?_ ?_ ?_ rfl (lv_sub hl [1, 2, 0, 3, 4] rfl) hL
              · omega
              · omega
              · omega
              · omega
              · omega
              · omega
              · rw [← hT, Nat.div_eq_sub_div (a := 240 - en_) (b := x + s0 σ + s1 σ) (by omega) (by omega), show 240 - en_ - (x + s0 σ + s1 σ) = 240 - (en_ + (x + s0 σ + s1 σ)) by omega]
                omega
      refine LP83 _ (mn σ) (nx σ) 0 ((mn σ : Int)) (240 - (nx σ : Int)) 0 ls locs ?_ ?_ ?_ ?_ ?_ ?_ rfl (lv_sub hl [2, 3, 1, 0, 5] rfl) hL
      · omega
      · omega
      · omega
      · omega
      · omega
      · simp only [eachN, hop]; omega
    · have hn := (opn_some hop).1
      have hn0 := (opn_some hop).2
      have hrow := hI.row (n := n) (by omega)
      rw [show oI (some n) = (n : Int) from rfl]
      refine lv_istore_n (lv' := [(2, .int (iI ((n : Int)))), (0, .ref (g)), (1, .int (iI ((x : Int))))]) E.1 E.2.1 dX6_filesEach_17 rfl hl (by decide) rfl (fun ls hl => ?_)
      refine r_sipush E dX6_filesEach_18 (by decide) ?_
      refine lv_aload_n E.1 E.2.1 dX6_filesEach_21 rfl (lv_at hl 1 rfl) ?_
      refine m_get E ho fw_X6_7 rfl dX6_filesEach_22 ?_
      refine r_const E dX6_filesEach_25 ?_
      refine r_iald E ha (0) rfl (by decide) (by decide) dX6_filesEach_26 ?_
      rw [show encI σ (0) = iI ((nx σ : Nat) : Int) from rfl]
      refine r_sub E dX6_filesEach_27 ?_
      refine lv_istore_n (lv' := [(3, .int (iI (240 - (nx σ : Int)))), (2, .int (iI ((n : Int)))), (0, .ref (g)), (1, .int (iI ((x : Int))))]) E.1 E.2.1 dX6_filesEach_28 rfl hl (by decide) rfl (fun ls hl => ?_)
      refine lv_aload_n E.1 E.2.1 dX6_filesEach_29 rfl (lv_at hl 2 rfl) ?_
      refine m_get E ho fw_X6_7 rfl dX6_filesEach_30 ?_
      refine r_const E dX6_filesEach_33 ?_
      refine r_iald E ha (1) rfl (by decide) (by decide) dX6_filesEach_34 ?_
      rw [show encI σ (1) = iI ((mn σ : Nat) : Int) from rfl]
      refine lv_istore (lv' := [(4, .int (iI ((mn σ : Int)))), (3, .int (iI (240 - (nx σ : Int)))), (2, .int (iI ((n : Int)))), (0, .ref (g)), (1, .int (iI ((x : Int))))]) E.1 E.2.1 dX6_filesEach_35 hl (by decide) rfl (fun ls hl => ?_)
      refine r_const E dX6_filesEach_37 ?_
      refine lv_istore (lv' := [(5, .int (iI (0))), (4, .int (iI ((mn σ : Int)))), (3, .int (iI (240 - (nx σ : Int)))), (2, .int (iI ((n : Int)))), (0, .ref (g)), (1, .int (iI ((x : Int))))]) E.1 E.2.1 dX6_filesEach_38 hl (by decide) rfl (fun ls hl => ?_)
      refine lv_iload_n E.1 E.2.1 dX6_filesEach_40 rfl (lv_at hl 3 rfl) ?_
      refine r_if_lt (tgt := 66) E dX6_filesEach_41 (by decide) (by omega) (fun c41 => absurd c41 (by omega)) (fun c41 => ?_)
      refine lv_iload_n E.1 E.2.1 dX6_filesEach_44 rfl (lv_at hl 2 rfl) ?_
      refine lv_iload_n E.1 E.2.1 dX6_filesEach_45 rfl (lv_at hl 5 rfl) ?_
      refine lv_aload_n E.1 E.2.1 dX6_filesEach_46 rfl (lv_at hl 4 rfl) ?_
      refine lv_iload_n E.1 E.2.1 dX6_filesEach_47 rfl (lv_at hl 3 rfl) ?_
      refine r_const E dX6_filesEach_48 ?_
      refine kVRE (As := [.int (iI ((n : Int))), .int (iI (4))]) E cw_X6_34 (c_X6_of G l g σ _ _ _ _ _ _ _ (n) (4) (by omega) (by omega)) ho ⟨_, _, rfl⟩ ⟨ho, ha⟩ hL hl.1 rfl rfl (Nat.le_of_ble_eq_true rfl) ⟨Nat.le_of_ble_eq_true rfl, Nat.le_of_ble_eq_true rfl⟩ ⟨rfl, rfl⟩ ⟨Nat.le_of_ble_eq_true rfl, Nat.le_of_ble_eq_true rfl⟩ dX6_filesEach_49 (fun locs hL => ?_)
      refine r_add E dX6_filesEach_52 ?_
      refine r_sub E dX6_filesEach_53 ?_
      refine lv_istore_n (lv' := [(3, .int (iI ((240 - (nx σ : Int)) - ((x : Int) + (se σ n 4 : Int))))), (5, .int (iI (0))), (4, .int (iI ((mn σ : Int)))), (2, .int (iI ((n : Int)))), (0, .ref (g)), (1, .int (iI ((x : Int))))]) E.1 E.2.1 dX6_filesEach_54 rfl hl (by decide) rfl (fun ls hl => ?_)
      refine lv_iload_n E.1 E.2.1 dX6_filesEach_55 rfl (lv_at hl 0 rfl) ?_
      refine r_if_ge (tgt := 63) E dX6_filesEach_56 (by decide) (by omega) (fun c56 => ?_) (fun c56 => ?_)
      · refine r_const E dX6_filesEach_63 ?_
        refine lv_istore (lv' := [(5, .int (iI (1))), (3, .int (iI ((240 - (nx σ : Int)) - ((x : Int) + (se σ n 4 : Int))))), (4, .int (iI ((mn σ : Int)))), (2, .int (iI ((n : Int)))), (0, .ref (g)), (1, .int (iI ((x : Int))))]) E.1 E.2.1 dX6_filesEach_64 hl (by decide) rfl (fun ls hl => ?_)
        refine lv_iload_n E.1 E.2.1 dX6_filesEach_66 rfl (lv_at hl 5 rfl) ?_
        refine lv_aload_n E.1 E.2.1 dX6_filesEach_67 rfl (lv_at hl 4 rfl) ?_
        refine m_get E ho fw_X6_7 rfl dX6_filesEach_68 ?_
        refine r_const E dX6_filesEach_71 ?_
        refine r_iald E ha (2) rfl (by decide) (by decide) dX6_filesEach_72 ?_
        rw [show encI σ (2) = iI ((s0 σ : Nat) : Int) from rfl]
        refine r_add E dX6_filesEach_73 ?_
        refine lv_aload_n E.1 E.2.1 dX6_filesEach_74 rfl (lv_at hl 4 rfl) ?_
        refine m_get E ho fw_X6_7 rfl dX6_filesEach_75 ?_
        refine r_const E dX6_filesEach_78 ?_
        refine r_iald E ha (3) rfl (by decide) (by decide) dX6_filesEach_79 ?_
        rw [show encI σ (3) = iI ((s1 σ : Nat) : Int) from rfl]
        refine r_add E dX6_filesEach_80 ?_
        refine lv_istore (lv' := [(6, .int (iI (((x : Int) + (s0 σ : Int)) + (s1 σ : Int)))), (5, .int (iI (1))), (3, .int (iI ((240 - (nx σ : Int)) - ((x : Int) + (se σ n 4 : Int))))), (4, .int (iI ((mn σ : Int)))), (2, .int (iI ((n : Int)))), (0, .ref (g)), (1, .int (iI ((x : Int))))]) E.1 E.2.1 dX6_filesEach_81 hl (by decide) rfl (fun ls hl => ?_)
        have LP83 : ∀ (kin83 : Nat) (nb en_ fl1 : Nat) (u v q : Int) (ls : Array Slot) (locs : List Loc) (h1 : nb ≤ 12) (h2 : en_ ≤ 240) (hu : u = (nb : Int)) (hv : v = (240 : Int) - (en_ : Int)) (hq : q = (fl1 : Int)) (hT : fl1 + min (12 - nb) ((240 - en_) / (x + s0 σ + s1 σ)) = eachN σ x) (hkin83 : 12 - nb = kin83) (hl : lv_has ls 7 [(4, .int (iI (u))), (3, .int (iI (v))), (5, .int (iI (q))), (6, .int (iI ((x : Int) + (s0 σ : Int) + (s1 σ : Int)))), (0, .ref (g))]) (hL : Lk G locs), W p l e ({ frames := 2, cells := 0, slots := 0, locals := 43 } : Room) s m args below meth c s.heap locs 0 0 (QQ G below args s ({ frames := 2, cells := 0, slots := 0, locals := 43 } : Room) (RE (iI (spFilesEach σ y)))) (F0 m 83 ls []) := by
          intro kin83
          induction kin83 using Nat.strongRecOn with
          | ind kin83 ihin83 =>
            intro nb en_ fl1 u v q ls locs h1 h2 hu hv hq hT hkin83 hl hL
            refine lv_iload_n E.1 E.2.1 dX6_filesEach_83 rfl (lv_at hl 1 rfl) ?_
            refine lv_iload E.1 E.2.1 dX6_filesEach_84 (lv_at hl 3 rfl) ?_
            refine r_icmp_lt (tgt := 110) E dX6_filesEach_86 (by decide) (by omega) (by omega) (fun c86 => ?_) (fun c86 => ?_)
            · refine lv_iload E.1 E.2.1 dX6_filesEach_110 (lv_at hl 2 rfl) ?_
              refine e_iret (rm := ({ frames := 2, cells := 0, slots := 0, locals := 43 } : Room)) (v := iI (q)) E hL dX6_filesEach_112 ?_
              refine RE_i ?_
              unfold spFilesEach
              rw [if_neg (by omega), hk9, Int.toNat_natCast]
              rw [hq, ← hT]
              have h9 : min (12 - nb) ((240 - en_) / (x + s0 σ + s1 σ)) = 0 := by
                first
                | (rw [show 12 - nb = 0 by omega]; exact Nat.zero_min _)
                | (rw [Nat.div_eq_of_lt (a := 240 - en_) (b := x + s0 σ + s1 σ) (by omega)]; exact Nat.min_zero _)
              rw [h9]
              rfl
            · refine lv_iload E.1 E.2.1 dX6_filesEach_89 (lv_at hl 0 rfl) ?_
              refine r_bipush E dX6_filesEach_91 (by decide) ?_
              refine r_icmp_ge (tgt := 110) E dX6_filesEach_93 (by decide) (by omega) (by omega) (fun c93 => ?_) (fun c93 => ?_)
              · refine lv_iload E.1 E.2.1 dX6_filesEach_110 (lv_at hl 2 rfl) ?_
                refine e_iret (rm := ({ frames := 2, cells := 0, slots := 0, locals := 43 } : Room)) (v := iI (q)) E hL dX6_filesEach_112 ?_
                refine RE_i ?_
                unfold spFilesEach
                rw [if_neg (by omega), hk9, Int.toNat_natCast]
                rw [hq, ← hT]
                have h9 : min (12 - nb) ((240 - en_) / (x + s0 σ + s1 σ)) = 0 := by
                  first
                  | (rw [show 12 - nb = 0 by omega]; exact Nat.zero_min _)
                  | (rw [Nat.div_eq_of_lt (a := 240 - en_) (b := x + s0 σ + s1 σ) (by omega)]; exact Nat.min_zero _)
                rw [h9]
                rfl
              · refine lv_iload_n E.1 E.2.1 dX6_filesEach_96 rfl (lv_at hl 1 rfl) ?_
                refine lv_iload E.1 E.2.1 dX6_filesEach_97 (lv_at hl 3 rfl) ?_
                refine r_sub E dX6_filesEach_99 ?_
                refine lv_istore_n (lv' := [(3, .int (iI (v - ((x : Int) + (s0 σ : Int) + (s1 σ : Int))))), (4, .int (iI (u))), (5, .int (iI (q))), (6, .int (iI ((x : Int) + (s0 σ : Int) + (s1 σ : Int)))), (0, .ref (g))]) E.1 E.2.1 dX6_filesEach_100 rfl hl (by decide) rfl (fun ls hl => ?_)
                refine r_inc (lv' := [(4, .int (iI (u + 1))), (3, .int (iI (v - ((x : Int) + (s0 σ : Int) + (s1 σ : Int))))), (5, .int (iI (q))), (6, .int (iI ((x : Int) + (s0 σ : Int) + (s1 σ : Int)))), (0, .ref (g))]) E dX6_filesEach_101 hl (k := 1) rfl (by decide) rfl (fun ls hl => ?_)
                refine r_inc (lv' := [(5, .int (iI (q + 1))), (4, .int (iI (u + 1))), (3, .int (iI (v - ((x : Int) + (s0 σ : Int) + (s1 σ : Int))))), (6, .int (iI ((x : Int) + (s0 σ : Int) + (s1 σ : Int)))), (0, .ref (g))]) E dX6_filesEach_104 hl (k := 2) rfl (by decide) rfl (fun ls hl => ?_)
                refine lv_goto (tgt := 83) E.1 E.2.1 dX6_filesEach_107 (by decide) ?_
                refine ihin83 _ ?_ (nb + 1) (en_ + (x + s0 σ + s1 σ)) (fl1 + 1) (u + 1) (v - ((x : Int) + (s0 σ : Int) + (s1 σ : Int))) (q + 1) ls locs ?_ ?_ ?_ ?_ ?_ ?_ rfl (lv_sub hl [1, 2, 0, 3, 4] rfl) hL
                · omega
                · omega
                · omega
                · omega
                · omega
                · omega
                · rw [← hT, Nat.div_eq_sub_div (a := 240 - en_) (b := x + s0 σ + s1 σ) (by omega) (by omega), show 240 - en_ - (x + s0 σ + s1 σ) = 240 - (en_ + (x + s0 σ + s1 σ)) by omega]
                  omega
        refine LP83 _ (mn σ) (nx σ + x + se σ n 4) 1 ((mn σ : Int)) ((240 - (nx σ : Int)) - ((x : Int) + (se σ n 4 : Int))) 1 ls locs ?_ ?_ ?_ ?_ ?_ ?_ rfl (lv_sub hl [3, 2, 1, 0, 5] rfl) hL
        · omega
        · omega
        · omega
        · omega
        · omega
        · simp only [eachN, hop]; rw [if_neg (by omega)]
      · refine r_const E dX6_filesEach_59 ?_
        refine lv_goto (tgt := 64) E.1 E.2.1 dX6_filesEach_60 (by decide) ?_
        refine lv_istore (lv' := [(5, .int (iI (0))), (3, .int (iI ((240 - (nx σ : Int)) - ((x : Int) + (se σ n 4 : Int))))), (4, .int (iI ((mn σ : Int)))), (2, .int (iI ((n : Int)))), (0, .ref (g)), (1, .int (iI ((x : Int))))]) E.1 E.2.1 dX6_filesEach_64 hl (by decide) rfl (fun ls hl => ?_)
        refine lv_iload_n E.1 E.2.1 dX6_filesEach_66 rfl (lv_at hl 5 rfl) ?_
        refine lv_aload_n E.1 E.2.1 dX6_filesEach_67 rfl (lv_at hl 4 rfl) ?_
        refine m_get E ho fw_X6_7 rfl dX6_filesEach_68 ?_
        refine r_const E dX6_filesEach_71 ?_
        refine r_iald E ha (2) rfl (by decide) (by decide) dX6_filesEach_72 ?_
        rw [show encI σ (2) = iI ((s0 σ : Nat) : Int) from rfl]
        refine r_add E dX6_filesEach_73 ?_
        refine lv_aload_n E.1 E.2.1 dX6_filesEach_74 rfl (lv_at hl 4 rfl) ?_
        refine m_get E ho fw_X6_7 rfl dX6_filesEach_75 ?_
        refine r_const E dX6_filesEach_78 ?_
        refine r_iald E ha (3) rfl (by decide) (by decide) dX6_filesEach_79 ?_
        rw [show encI σ (3) = iI ((s1 σ : Nat) : Int) from rfl]
        refine r_add E dX6_filesEach_80 ?_
        refine lv_istore (lv' := [(6, .int (iI (((x : Int) + (s0 σ : Int)) + (s1 σ : Int)))), (5, .int (iI (0))), (3, .int (iI ((240 - (nx σ : Int)) - ((x : Int) + (se σ n 4 : Int))))), (4, .int (iI ((mn σ : Int)))), (2, .int (iI ((n : Int)))), (0, .ref (g)), (1, .int (iI ((x : Int))))]) E.1 E.2.1 dX6_filesEach_81 hl (by decide) rfl (fun ls hl => ?_)
        refine lv_iload_n E.1 E.2.1 dX6_filesEach_83 rfl (lv_at hl 2 rfl) ?_
        refine lv_iload E.1 E.2.1 dX6_filesEach_84 (lv_at hl 0 rfl) ?_
        refine r_icmp_lt (tgt := 110) E dX6_filesEach_86 (by decide) (by omega) (by omega) (fun c86 => ?_) (fun c86 => absurd c86 (by omega))
        refine lv_iload E.1 E.2.1 dX6_filesEach_110 (lv_at hl 1 rfl) ?_
        refine e_iret (rm := ({ frames := 2, cells := 0, slots := 0, locals := 43 } : Room)) (v := iI (0)) E hL dX6_filesEach_112 ?_
        exact RE_i (by unfold spFilesEach; rw [if_neg (by omega), hk9, Int.toNat_natCast]; simp only [eachN, hop]; rw [if_pos (by omega)]; rfl)
  · have c7 := of_decide_eq_false c7
    refine r_bipush E dX6_filesEach_10 (by decide) ?_
    refine e_iret (rm := ({ frames := 2, cells := 0, slots := 0, locals := 43 } : Room)) (v := iI ((-2))) E hL dX6_filesEach_12 ?_
    exact RE_i (by unfold spFilesEach; rw [if_pos (by omega)])
