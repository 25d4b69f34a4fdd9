set_option maxHeartbeats 4000000 in
set_option maxRecDepth 100000 in
theorem c_X1_foundFile (G : GG) (l : Launch) (b : Nat) (fl : Nat → Option Fil) (σ : St) (hI : Inv σ) (k : Nat) (hk : k < 20) : Ct G l yX1_foundFile cX1_foundFile 3 (some (.object "WriteOnceDisc$StoredFile")) ({ frames := 4, cells := 0, slots := 0, locals := 94 } : Room) [.ref (b), .int (iI ((k : Int)))] (fun H => DiscAt G b fl σ H) (QX (fun r => r.bind fl = foundF σ k ∧ ∀ a, r = some a → ∃ f, fl a = some f)) := by
  refine Ct.of (by decide +kernel) (Nat.le_of_ble_eq_true rfl) ?_
  intro p e s m args below meth c ls E hnm hP hl
  have i1 := hI.mn12
  have i2 := hI.nx240
  have hl : lv_has ls 3 [(0, .ref (b)), (1, .int (iI ((k : Int))))] := hl
  have hL : Lk G [] := Lk.nil
  generalize ([] : List Loc) = locs at hL ⊢
  refine lv_aload_n E.1 E.2.1 dX1_foundFile_0 rfl (lv_at hl 0 rfl) ?_
  refine lv_aload_n E.1 E.2.1 dX1_foundFile_1 rfl (lv_at hl 0 rfl) ?_
  refine r_const E dX1_foundFile_2 ?_
  refine kVRE (As := [.int (iI ((-1)))]) E cw_X1_50 (c_X1_validNumberIf G l b fl σ hI ((-1)) (by unfold okI; omega)) hP.1 ⟨_, _, rfl⟩ hP hL hl.1 rfl rfl (Nat.le_of_ble_eq_true rfl) ⟨Nat.le_of_ble_eq_true rfl, Nat.le_of_ble_eq_true rfl⟩ ⟨rfl, rfl⟩ ⟨Nat.le_of_ble_eq_true rfl, Nat.le_of_ble_eq_true rfl⟩ dX1_foundFile_3 (fun locs hL => ?_)
  rw [dmH_m1 (σ := σ) (h := -1) (by decide)]
  rcases hv : validD σ (dm σ) with _ | n
  · rw [show oI none = -6 from rfl]
    refine kVQE (As := [.int (iI ((-6)))]) E cw_X1_54 (c_sessionAt_n G l b fl σ hI ((-6)) (by unfold okI; omega) (by omega)) hP.1 ⟨_, _, rfl⟩ hP hL hl.1 rfl rfl (Nat.le_of_ble_eq_true rfl) ⟨Nat.le_of_ble_eq_true rfl, Nat.le_of_ble_eq_true rfl⟩ ⟨rfl, rfl⟩ ⟨Nat.le_of_ble_eq_true rfl, Nat.le_of_ble_eq_true rfl⟩ dX1_foundFile_6 (fun locs hL => ?_)
    refine lv_astore_nN (lv' := [(2, .null), (0, .ref (b)), (1, .int (iI ((k : Int))))]) E.1 E.2.1 dX1_foundFile_9 rfl hl (by decide) rfl (fun ls hl => ?_)
    refine lv_aload_nN E.1 E.2.1 dX1_foundFile_10 rfl (lv_at hl 0 rfl) ?_
    refine lv_ifnonnullN E.1 E.2.1 dX1_foundFile_11 ?_
    refine lv_null E.1 E.2.1 dX1_foundFile_14 ?_
    refine lv_goto (tgt := 23) E.1 E.2.1 dX1_foundFile_15 (by decide) ?_
    refine e_aret (rm := ({ frames := 4, cells := 0, slots := 0, locals := 94 } : Room)) (r := none) E hL dX1_foundFile_23 ?_
    exact ⟨none, rfl, rfl, by simp only [foundF, hv]; rfl, fun a h => by cases h⟩
  · have hn := validD_lt hv
    rw [show oI (some n) = (n : Int) from rfl]
    obtain ⟨t_, ho_, hr_, ht_⟩ := hP.live (n := n) (by omega) (by omega)
    refine kVQE (As := [.int (iI ((n : Int)))]) E cw_X1_54 (c_sessionAt_s G l b fl σ hI n (by omega)) hP.1 ⟨_, _, rfl⟩ hP hL hl.1 rfl rfl (Nat.le_of_ble_eq_true rfl) ⟨Nat.le_of_ble_eq_true rfl, Nat.le_of_ble_eq_true rfl⟩ ⟨rfl, rfl⟩ ⟨Nat.le_of_ble_eq_true rfl, Nat.le_of_ble_eq_true rfl⟩ dX1_foundFile_6 (fun locs hL => ?_)
    refine lv_astore_n (lv' := [(2, .ref (b + 5 + 2 * n)), (0, .ref (b)), (1, .int (iI ((k : Int))))]) E.1 E.2.1 dX1_foundFile_9 rfl hl (by decide) rfl (fun ls hl => ?_)
    refine lv_aload_n E.1 E.2.1 dX1_foundFile_10 rfl (lv_at hl 0 rfl) ?_
    refine lv_ifnonnull (tgt := 18) E.1 E.2.1 dX1_foundFile_11 (by decide) ?_
    refine lv_aload_n E.1 E.2.1 dX1_foundFile_18 rfl (lv_at hl 0 rfl) ?_
    refine lv_iload_n E.1 E.2.1 dX1_foundFile_19 rfl (lv_at hl 2 rfl) ?_
    refine kVQE (As := [.int (iI ((k : Int)))]) E cw_X1_93 (c_fileOf_in G l (b + 5 + 2 * n) (k) (encR (se σ n)) t_ (by omega)) ho_ ⟨_, _, rfl⟩ ⟨ho_, hr_⟩ hL hl.1 rfl rfl (Nat.le_of_ble_eq_true rfl) ⟨Nat.le_of_ble_eq_true rfl, Nat.le_of_ble_eq_true rfl⟩ ⟨rfl, rfl⟩ ⟨Nat.le_of_ble_eq_true rfl, Nat.le_of_ble_eq_true rfl⟩ dX1_foundFile_20 (fun locs hL => ?_)
    refine e_aret (rm := ({ frames := 4, cells := 0, slots := 0, locals := 94 } : Room)) (r := t_ (k)) E hL dX1_foundFile_23 ?_
    exact ⟨t_ k, rfl, rfl, by simp only [foundF, hv]; exact (ht_ k hk).1, (ht_ k hk).2⟩

set_option maxHeartbeats 4000000 in
set_option maxRecDepth 100000 in
theorem c_X1_countIntactIf (G : GG) (l : Launch) (b fb : Nat) (fl : Nat → Option Fil) (σ : St) (hI : Inv σ) (h : Int) (hh : okI h) : Ct G l yX1_countIntactIf cX1_countIntactIf 6 (some .int) ({ frames := 4, cells := 0, slots := 0, locals := 94 } : Room) [.ref (b), .int (iI (h))] (fun H => DiscAt G b fl σ H ∧ FlAt G fb fl H) (RE (iI (cntIntact σ (dmH σ h)))) := by
  refine Ct.of (by decide +kernel) (Nat.le_of_ble_eq_true rfl) ?_
  intro p e s m args below meth c ls E hnm hP hl
  have i1 := hI.mn12
  have i2 := hI.nx240
  obtain ⟨hP, hFl⟩ := hP
  obtain ⟨hh1, hh2⟩ := hh
  have hl : lv_has ls 6 [(0, .ref (b)), (1, .int (iI (h)))] := hl
  have hL : Lk G [] := Lk.nil
  generalize ([] : List Loc) = locs at hL ⊢
  refine lv_aload_n E.1 E.2.1 dX1_countIntactIf_0 rfl (lv_at hl 0 rfl) ?_
  refine lv_aload_n E.1 E.2.1 dX1_countIntactIf_1 rfl (lv_at hl 0 rfl) ?_
  refine lv_iload_n E.1 E.2.1 dX1_countIntactIf_2 rfl (lv_at hl 1 rfl) ?_
  refine kVRE (As := [.int (iI (h))]) E cw_X1_50 (c_X1_validNumberIf G l b fl σ hI (h) (by unfold okI; omega)) hP.1 ⟨_, _, rfl⟩ hP hL hl.1 rfl rfl (Nat.le_of_ble_eq_true rfl) ⟨Nat.le_of_ble_eq_true rfl, Nat.le_of_ble_eq_true rfl⟩ ⟨rfl, rfl⟩ ⟨Nat.le_of_ble_eq_true rfl, Nat.le_of_ble_eq_true rfl⟩ dX1_countIntactIf_3 (fun locs hL => ?_)
  rcases hv : validD σ (dmH σ h) with _ | n
  · rw [show oI none = -6 from rfl]
    refine kVQE (As := [.int (iI ((-6)))]) E cw_X1_54 (c_sessionAt_n G l b fl σ hI ((-6)) (by unfold okI; omega) (by omega)) hP.1 ⟨_, _, rfl⟩ hP hL hl.1 rfl rfl (Nat.le_of_ble_eq_true rfl) ⟨Nat.le_of_ble_eq_true rfl, Nat.le_of_ble_eq_true rfl⟩ ⟨rfl, rfl⟩ ⟨Nat.le_of_ble_eq_true rfl, Nat.le_of_ble_eq_true rfl⟩ dX1_countIntactIf_6 (fun locs hL => ?_)
    refine lv_astore_nN (lv' := [(2, .null), (0, .ref (b)), (1, .int (iI (h)))]) E.1 E.2.1 dX1_countIntactIf_9 rfl hl (by decide) rfl (fun ls hl => ?_)
    refine lv_aload_nN E.1 E.2.1 dX1_countIntactIf_10 rfl (lv_at hl 0 rfl) ?_
    refine lv_ifnonnullN E.1 E.2.1 dX1_countIntactIf_11 ?_
    refine r_const E dX1_countIntactIf_14 ?_
    refine e_iret (rm := ({ frames := 4, cells := 0, slots := 0, locals := 94 } : Room)) (v := iI (0)) E hL dX1_countIntactIf_15 ?_
    exact RE_i (by simp only [cntIntact, hv]; rfl)
  · have hn := validD_lt hv
    rw [show oI (some n) = (n : Int) from rfl]
    obtain ⟨t_, ho_, hr_, ht_⟩ := hP.live (n := n) (by omega) (by omega)
    refine kVQE (As := [.int (iI ((n : Int)))]) E cw_X1_54 (c_sessionAt_s G l b fl σ hI n (by omega)) hP.1 ⟨_, _, rfl⟩ hP hL hl.1 rfl rfl (Nat.le_of_ble_eq_true rfl) ⟨Nat.le_of_ble_eq_true rfl, Nat.le_of_ble_eq_true rfl⟩ ⟨rfl, rfl⟩ ⟨Nat.le_of_ble_eq_true rfl, Nat.le_of_ble_eq_true rfl⟩ dX1_countIntactIf_6 (fun locs hL => ?_)
    refine lv_astore_n (lv' := [(2, .ref (b + 5 + 2 * n)), (0, .ref (b)), (1, .int (iI (h)))]) E.1 E.2.1 dX1_countIntactIf_9 rfl hl (by decide) rfl (fun ls hl => ?_)
    refine lv_aload_n E.1 E.2.1 dX1_countIntactIf_10 rfl (lv_at hl 0 rfl) ?_
    refine lv_ifnonnull (tgt := 16) E.1 E.2.1 dX1_countIntactIf_11 (by decide) ?_
    refine r_const E dX1_countIntactIf_16 ?_
    refine lv_istore_n (lv' := [(3, .int (iI (0))), (2, .ref (b + 5 + 2 * n)), (0, .ref (b)), (1, .int (iI (h)))]) E.1 E.2.1 dX1_countIntactIf_17 rfl hl (by decide) rfl (fun ls hl => ?_)
    refine r_const E dX1_countIntactIf_18 ?_
    refine lv_istore (lv' := [(4, .int (iI (0))), (3, .int (iI (0))), (2, .ref (b + 5 + 2 * n)), (0, .ref (b)), (1, .int (iI (h)))]) E.1 E.2.1 dX1_countIntactIf_19 hl (by decide) rfl (fun ls hl => ?_)
    have LP21 : ∀ (kin21 : Nat) (k : Nat) (u v : Int) (ls : Array Slot) (locs : List Loc) (hk : k ≤ 20) (hu : u = (k : Int)) (hv2 : v = (cntB (fun k => intactO (dmH σ h) (en σ n k)) k : Nat)) (hkin21 : 20 - k = kin21) (hl : lv_has ls 6 [(4, .int (iI (u))), (3, .int (iI (v))), (2, .ref (b + 5 + 2 * n)), (0, .ref (b)), (1, .int (iI (h)))]) (hL : Lk G locs), W p l e ({ frames := 4, cells := 0, slots := 0, locals := 94 } : Room) s m args below meth c s.heap locs 0 0 (QQ G below args s ({ frames := 4, cells := 0, slots := 0, locals := 94 } : Room) (RE (iI (cntIntact σ (dmH σ h))))) (F0 m 21 ls []) := by
      intro kin21
      induction kin21 using Nat.strongRecOn with
      | ind kin21 ihin21 =>
        intro k u v ls locs hk hu hv2 hkin21 hl hL
        refine lv_iload E.1 E.2.1 dX1_countIntactIf_21 (lv_at hl 0 rfl) ?_
        refine r_bipush E dX1_countIntactIf_23 (by decide) ?_
        refine r_icmp_ge (tgt := 60) E dX1_countIntactIf_25 (by decide) (by omega) (by omega) (fun c25 => ?_) (fun c25 => ?_)
        · refine lv_iload_n E.1 E.2.1 dX1_countIntactIf_60 rfl (lv_at hl 1 rfl) ?_
          refine e_iret (rm := ({ frames := 4, cells := 0, slots := 0, locals := 94 } : Room)) (v := iI (v)) E hL dX1_countIntactIf_61 ?_
          exact RE_i (by rw [hv2, show k = 20 by omega]; simp only [cntIntact, hv])
        · subst hu
          refine lv_aload_n E.1 E.2.1 dX1_countIntactIf_28 rfl (lv_at hl 2 rfl) ?_
          refine lv_iload E.1 E.2.1 dX1_countIntactIf_29 (lv_at hl 0 rfl) ?_
          refine kVQE (As := [.int (iI ((k : Int)))]) E cw_X1_93 (c_fileOf_in G l (b + 5 + 2 * n) (k) (encR (se σ n)) t_ (by omega)) ho_ ⟨_, _, rfl⟩ ⟨ho_, hr_⟩ hL hl.1 rfl rfl (Nat.le_of_ble_eq_true rfl) ⟨Nat.le_of_ble_eq_true rfl, Nat.le_of_ble_eq_true rfl⟩ ⟨rfl, rfl⟩ ⟨Nat.le_of_ble_eq_true rfl, Nat.le_of_ble_eq_true rfl⟩ dX1_countIntactIf_31 (fun locs hL => ?_)
          rcases htk : t_ (k) with _ | a
          · have he : none = en σ n (k) := by have h9 := (ht_ (k) (by omega)).1; rw [htk] at h9; exact h9
            refine lv_astoreN (lv' := [(5, .null), (4, .int (iI ((k : Int)))), (3, .int (iI (v))), (2, .ref (b + 5 + 2 * n)), (0, .ref (b)), (1, .int (iI (h)))]) E.1 E.2.1 dX1_countIntactIf_34 hl (by decide) rfl (fun ls hl => ?_)
            refine lv_aloadN E.1 E.2.1 dX1_countIntactIf_36 (lv_at hl 0 rfl) ?_
            refine lv_ifnullN (tgt := 54) E.1 E.2.1 dX1_countIntactIf_38 (by decide) ?_
            refine r_inc (lv' := [(4, .int (iI ((k : Int) + 1))), (5, .null), (3, .int (iI (v))), (2, .ref (b + 5 + 2 * n)), (0, .ref (b)), (1, .int (iI (h)))]) E dX1_countIntactIf_54 hl (k := 1) rfl (by decide) rfl (fun ls hl => ?_)
            refine lv_goto (tgt := 21) E.1 E.2.1 dX1_countIntactIf_57 (by decide) ?_
            refine ihin21 _ ?_ (k + 1) ((k : Int) + 1) v ls locs ?_ ?_ ?_ rfl (lv_sub hl [0, 2, 3, 4, 5] rfl) hL
            · omega
            · omega
            · omega
            · first | (rw [hv2]; simp [cntB, ← he, intactO]; done) | (rw [hv2]; simp [cntB, ← he, intactO, c48]; done)
          · obtain ⟨f, hf⟩ := (ht_ (k) (by omega)).2 a htk
            have he : some f = en σ n (k) := by have h9 := (ht_ (k) (by omega)).1; rw [htk] at h9; rw [← h9]; exact hf.symm
            have hfb := hI.ent2 (n := n) (k := k) (by omega) (by omega) he.symm
            refine lv_astore (lv' := [(5, .ref (a)), (4, .int (iI ((k : Int)))), (3, .int (iI (v))), (2, .ref (b + 5 + 2 * n)), (0, .ref (b)), (1, .int (iI (h)))]) E.1 E.2.1 dX1_countIntactIf_34 hl (by decide) rfl (fun ls hl => ?_)
            refine lv_aload E.1 E.2.1 dX1_countIntactIf_36 (lv_at hl 0 rfl) ?_
            refine lv_ifnull E.1 E.2.1 dX1_countIntactIf_38 ?_
            refine lv_aload_n E.1 E.2.1 dX1_countIntactIf_41 rfl (lv_at hl 4 rfl) ?_
            refine lv_aload E.1 E.2.1 dX1_countIntactIf_42 (lv_at hl 0 rfl) ?_
            refine lv_iload_n E.1 E.2.1 dX1_countIntactIf_44 rfl (lv_at hl 5 rfl) ?_
            refine kVRE (As := [.ref (a), .int (iI (h))]) E cw_X1_146 (c_X1_isIntactIf G l b fb fl σ (a) (f) (h) (by unfold okI; omega) (hf) (by omega)) hP.1 ⟨_, _, rfl⟩ ⟨hP, hFl⟩ hL hl.1 rfl rfl (Nat.le_of_ble_eq_true rfl) ⟨Nat.le_of_ble_eq_true rfl, Nat.le_of_ble_eq_true rfl⟩ ⟨rfl, rfl⟩ ⟨Nat.le_of_ble_eq_true rfl, Nat.le_of_ble_eq_true rfl⟩ dX1_countIntactIf_45 (fun locs hL => ?_)
            refine r_bif_eq (tgt := 54) E dX1_countIntactIf_48 (by decide)  (fun c48 => ?_) (fun c48 => ?_)
            · refine r_inc (lv' := [(4, .int (iI ((k : Int) + 1))), (5, .ref (a)), (3, .int (iI (v))), (2, .ref (b + 5 + 2 * n)), (0, .ref (b)), (1, .int (iI (h)))]) E dX1_countIntactIf_54 hl (k := 1) rfl (by decide) rfl (fun ls hl => ?_)
              refine lv_goto (tgt := 21) E.1 E.2.1 dX1_countIntactIf_57 (by decide) ?_
              refine ihin21 _ ?_ (k + 1) ((k : Int) + 1) v ls locs ?_ ?_ ?_ rfl (lv_sub hl [0, 2, 3, 4, 5] rfl) hL
              · omega
              · omega
              · omega
              · first | (rw [hv2]; simp [cntB, ← he, intactO]; done) | (rw [hv2]; simp [cntB, ← he, intactO, c48]; done)
            · refine r_inc (lv' := [(3, .int (iI (v + 1))), (5, .ref (a)), (4, .int (iI ((k : Int)))), (2, .ref (b + 5 + 2 * n)), (0, .ref (b)), (1, .int (iI (h)))]) E dX1_countIntactIf_51 hl (k := 2) rfl (by decide) rfl (fun ls hl => ?_)
              refine r_inc (lv' := [(4, .int (iI ((k : Int) + 1))), (3, .int (iI (v + 1))), (5, .ref (a)), (2, .ref (b + 5 + 2 * n)), (0, .ref (b)), (1, .int (iI (h)))]) E dX1_countIntactIf_54 hl (k := 2) rfl (by decide) rfl (fun ls hl => ?_)
              refine lv_goto (tgt := 21) E.1 E.2.1 dX1_countIntactIf_57 (by decide) ?_
              refine ihin21 _ ?_ (k + 1) ((k : Int) + 1) (v + 1) ls locs ?_ ?_ ?_ rfl (lv_sub hl [0, 1, 3, 4, 5] rfl) hL
              · omega
              · omega
              · omega
              · first | (rw [hv2]; simp [cntB, ← he, intactO]; done) | (rw [hv2]; simp [cntB, ← he, intactO, c48]; done)
    refine LP21 _ 0 0 0 ls locs ?_ ?_ ?_ rfl (lv_sub hl [0, 1, 2, 3, 4] rfl) hL
    · omega
    · rfl
    · rfl

set_option maxHeartbeats 4000000 in
set_option maxRecDepth 100000 in
theorem c_X1_latestWithIntact (G : GG) (l : Launch) (b fb : Nat) (fl : Nat → Option Fil) (σ : St) (hI : Inv σ) (k : Nat) (hk : k < 20) : Ct G l yX1_latestWithIntact cX1_latestWithIntact 5 (some .int) ({ frames := 3, cells := 0, slots := 0, locals := 71 } : Room) [.ref (b), .int (iI ((k : Int)))] (fun H => DiscAt G b fl σ H ∧ FlAt G fb fl H) (RE (iI (oI (lastB (fun n => readB σ (dm σ) n && intactO (dm σ) (en σ n k)) (mn σ))))) := by
  refine Ct.of (by decide +kernel) (Nat.le_of_ble_eq_true rfl) ?_
  intro p e s m args below meth c ls E hnm hP hl
  have i1 := hI.mn12
  have i2 := hI.nx240
  obtain ⟨hP, hFl⟩ := hP
  have hl : lv_has ls 5 [(0, .ref (b)), (1, .int (iI ((k : Int))))] := hl
  have hL : Lk G [] := Lk.nil
  generalize ([] : List Loc) = locs at hL ⊢
  refine lv_aload_n E.1 E.2.1 dX1_latestWithIntact_0 rfl (lv_at hl 0 rfl) ?_
  refine m_get E hP.1 fw_X1_29 rfl dX1_latestWithIntact_1 ?_
  refine r_const E dX1_latestWithIntact_4 ?_
  refine r_sub E dX1_latestWithIntact_5 ?_
  refine lv_istore_n (lv' := [(2, .int (iI ((mn σ : Int) - 1))), (0, .ref (b)), (1, .int (iI ((k : Int))))]) E.1 E.2.1 dX1_latestWithIntact_6 rfl hl (by decide) rfl (fun ls hl => ?_)
  have LP7 : ∀ (kin7 : Nat) (j : Nat) (z : Int) (ls : Array Slot) (locs : List Loc) (hj : j ≤ mn σ) (hz : z = (j : Int) - 1) (hle : lastB (fun n => readB σ (dm σ) n && intactO (dm σ) (en σ n k)) (mn σ) = lastB (fun n => readB σ (dm σ) n && intactO (dm σ) (en σ n k)) j) (hkin7 : j = kin7) (hl : lv_has ls 5 [(2, .int (iI (z))), (0, .ref (b)), (1, .int (iI ((k : Int))))]) (hL : Lk G locs), W p l e ({ frames := 3, cells := 0, slots := 0, locals := 71 } : Room) s m args below meth c s.heap locs 0 0 (QQ G below args s ({ frames := 3, cells := 0, slots := 0, locals := 71 } : Room) (RE (iI (oI (lastB (fun n => readB σ (dm σ) n && intactO (dm σ) (en σ n k)) (mn σ)))))) (F0 m 7 ls []) := by
    intro kin7
    induction kin7 using Nat.strongRecOn with
    | ind kin7 ihin7 =>
      intro j z ls locs hj hz hle hkin7 hl hL
      refine lv_iload_n E.1 E.2.1 dX1_latestWithIntact_7 rfl (lv_at hl 0 rfl) ?_
      refine r_if_lt (tgt := 60) E dX1_latestWithIntact_8 (by decide) (by omega) (fun c8 => ?_) (fun c8 => ?_)
      · refine r_bipush E dX1_latestWithIntact_60 (by decide) ?_
        refine e_iret (rm := ({ frames := 3, cells := 0, slots := 0, locals := 71 } : Room)) (v := iI ((-6))) E hL dX1_latestWithIntact_62 ?_
        exact RE_i (by rw [hle, show j = 0 by omega]; rfl)
      · obtain ⟨n, hn⟩ : ∃ n : Nat, z = (n : Int) := ⟨z.toNat, by omega⟩
        subst hn
        obtain ⟨t_, ho_, hr_, ht_⟩ := hP.live (n := n) (by omega) (by omega)
        refine lv_aload_n E.1 E.2.1 dX1_latestWithIntact_11 rfl (lv_at hl 1 rfl) ?_
        refine lv_iload_n E.1 E.2.1 dX1_latestWithIntact_12 rfl (lv_at hl 0 rfl) ?_
        refine kVQE (As := [.int (iI ((n : Int)))]) E cw_X1_54 (c_sessionAt_s G l b fl σ hI n (by omega)) hP.1 ⟨_, _, rfl⟩ hP hL hl.1 rfl rfl (Nat.le_of_ble_eq_true rfl) ⟨Nat.le_of_ble_eq_true rfl, Nat.le_of_ble_eq_true rfl⟩ ⟨rfl, rfl⟩ ⟨Nat.le_of_ble_eq_true rfl, Nat.le_of_ble_eq_true rfl⟩ dX1_latestWithIntact_13 (fun locs hL => ?_)
        refine lv_astore_n (lv' := [(3, .ref (b + 5 + 2 * n)), (2, .int (iI ((n : Int)))), (0, .ref (b)), (1, .int (iI ((k : Int))))]) E.1 E.2.1 dX1_latestWithIntact_16 rfl hl (by decide) rfl (fun ls hl => ?_)
        refine lv_aload_n E.1 E.2.1 dX1_latestWithIntact_17 rfl (lv_at hl 0 rfl) ?_
        refine lv_ifnull E.1 E.2.1 dX1_latestWithIntact_18 ?_
        refine lv_aload_n E.1 E.2.1 dX1_latestWithIntact_21 rfl (lv_at hl 2 rfl) ?_
        refine lv_aload_n E.1 E.2.1 dX1_latestWithIntact_22 rfl (lv_at hl 0 rfl) ?_
        refine r_const E dX1_latestWithIntact_23 ?_
        refine kVRE (As := [.ref (b + 5 + 2 * n), .int (iI ((-1)))]) E cw_X1_100 (c_X1_isReadableIf G l b fl σ hI (n) ((-1)) (by unfold okI; omega) (by omega)) hP.1 ⟨_, _, rfl⟩ hP hL hl.1 rfl rfl (Nat.le_of_ble_eq_true rfl) ⟨Nat.le_of_ble_eq_true rfl, Nat.le_of_ble_eq_true rfl⟩ ⟨rfl, rfl⟩ ⟨Nat.le_of_ble_eq_true rfl, Nat.le_of_ble_eq_true rfl⟩ dX1_latestWithIntact_24 (fun locs hL => ?_)
        rw [dmH_m1 (σ := σ) (h := -1) (by decide)]
        refine r_bif_eq (tgt := 54) E dX1_latestWithIntact_27 (by decide)  (fun c27 => ?_) (fun c27 => ?_)
        · refine r_inc (lv' := [(2, .int (iI ((n : Int) + (-1)))), (3, .ref (b + 5 + 2 * n)), (0, .ref (b)), (1, .int (iI ((k : Int))))]) E dX1_latestWithIntact_54 hl (k := 1) rfl (by decide) rfl (fun ls hl => ?_)
          refine lv_goto (tgt := 7) E.1 E.2.1 dX1_latestWithIntact_57 (by decide) ?_
          refine ihin7 _ ?_ n ((n : Int) + (-1)) ls locs ?_ ?_ ?_ rfl (lv_sub hl [0, 2, 3] rfl) hL
          · omega
          · omega
          · omega
          · rw [hle, show j = n + 1 by omega, lastB, if_neg]
            first | (simp [c27]; done) | (simp [← he, intactO]; done) | (simp [← he, intactO, c49]; done)
        · refine lv_aload_n E.1 E.2.1 dX1_latestWithIntact_30 rfl (lv_at hl 0 rfl) ?_
          refine lv_iload_n E.1 E.2.1 dX1_latestWithIntact_31 rfl (lv_at hl 3 rfl) ?_
          refine kVQE (As := [.int (iI ((k : Int)))]) E cw_X1_93 (c_fileOf_in G l (b + 5 + 2 * n) (k) (encR (se σ n)) t_ (by omega)) ho_ ⟨_, _, rfl⟩ ⟨ho_, hr_⟩ hL hl.1 rfl rfl (Nat.le_of_ble_eq_true rfl) ⟨Nat.le_of_ble_eq_true rfl, Nat.le_of_ble_eq_true rfl⟩ ⟨rfl, rfl⟩ ⟨Nat.le_of_ble_eq_true rfl, Nat.le_of_ble_eq_true rfl⟩ dX1_latestWithIntact_32 (fun locs hL => ?_)
          rcases htk : t_ (k) with _ | a
          · have he : none = en σ n (k) := by have h9 := (ht_ (k) (by omega)).1; rw [htk] at h9; exact h9
            refine lv_astoreN (lv' := [(4, .null), (3, .ref (b + 5 + 2 * n)), (2, .int (iI ((n : Int)))), (0, .ref (b)), (1, .int (iI ((k : Int))))]) E.1 E.2.1 dX1_latestWithIntact_35 hl (by decide) rfl (fun ls hl => ?_)
            refine lv_aloadN E.1 E.2.1 dX1_latestWithIntact_37 (lv_at hl 0 rfl) ?_
            refine lv_ifnullN (tgt := 54) E.1 E.2.1 dX1_latestWithIntact_39 (by decide) ?_
            refine r_inc (lv' := [(2, .int (iI ((n : Int) + (-1)))), (4, .null), (3, .ref (b + 5 + 2 * n)), (0, .ref (b)), (1, .int (iI ((k : Int))))]) E dX1_latestWithIntact_54 hl (k := 2) rfl (by decide) rfl (fun ls hl => ?_)
            refine lv_goto (tgt := 7) E.1 E.2.1 dX1_latestWithIntact_57 (by decide) ?_
            refine ihin7 _ ?_ n ((n : Int) + (-1)) ls locs ?_ ?_ ?_ rfl (lv_sub hl [0, 3, 4] rfl) hL
            · omega
            · omega
            · omega
            · rw [hle, show j = n + 1 by omega, lastB, if_neg]
              first | (simp [c27]; done) | (simp [← he, intactO]; done) | (simp [← he, intactO, c49]; done)
          · obtain ⟨f, hf⟩ := (ht_ (k) (by omega)).2 a htk
            have he : some f = en σ n (k) := by have h9 := (ht_ (k) (by omega)).1; rw [htk] at h9; rw [← h9]; exact hf.symm
            have hfb := hI.ent2 (n := n) (k := k) (by omega) (by omega) he.symm
            refine lv_astore (lv' := [(4, .ref (a)), (3, .ref (b + 5 + 2 * n)), (2, .int (iI ((n : Int)))), (0, .ref (b)), (1, .int (iI ((k : Int))))]) E.1 E.2.1 dX1_latestWithIntact_35 hl (by decide) rfl (fun ls hl => ?_)
            refine lv_aload E.1 E.2.1 dX1_latestWithIntact_37 (lv_at hl 0 rfl) ?_
            refine lv_ifnull E.1 E.2.1 dX1_latestWithIntact_39 ?_
            refine lv_aload_n E.1 E.2.1 dX1_latestWithIntact_42 rfl (lv_at hl 3 rfl) ?_
            refine lv_aload E.1 E.2.1 dX1_latestWithIntact_43 (lv_at hl 0 rfl) ?_
            refine r_const E dX1_latestWithIntact_45 ?_
            refine kVRE (As := [.ref (a), .int (iI ((-1)))]) E cw_X1_146 (c_X1_isIntactIf G l b fb fl σ (a) (f) ((-1)) (by unfold okI; omega) (hf) (by omega)) hP.1 ⟨_, _, rfl⟩ ⟨hP, hFl⟩ hL hl.1 rfl rfl (Nat.le_of_ble_eq_true rfl) ⟨Nat.le_of_ble_eq_true rfl, Nat.le_of_ble_eq_true rfl⟩ ⟨rfl, rfl⟩ ⟨Nat.le_of_ble_eq_true rfl, Nat.le_of_ble_eq_true rfl⟩ dX1_latestWithIntact_46 (fun locs hL => ?_)
            rw [dmH_m1 (σ := σ) (h := -1) (by decide)]
            refine r_bif_eq (tgt := 54) E dX1_latestWithIntact_49 (by decide)  (fun c49 => ?_) (fun c49 => ?_)
            · refine r_inc (lv' := [(2, .int (iI ((n : Int) + (-1)))), (4, .ref (a)), (3, .ref (b + 5 + 2 * n)), (0, .ref (b)), (1, .int (iI ((k : Int))))]) E dX1_latestWithIntact_54 hl (k := 2) rfl (by decide) rfl (fun ls hl => ?_)
              refine lv_goto (tgt := 7) E.1 E.2.1 dX1_latestWithIntact_57 (by decide) ?_
              refine ihin7 _ ?_ n ((n : Int) + (-1)) ls locs ?_ ?_ ?_ rfl (lv_sub hl [0, 3, 4] rfl) hL
              · omega
              · omega
              · omega
              · rw [hle, show j = n + 1 by omega, lastB, if_neg]
                first | (simp [c27]; done) | (simp [← he, intactO]; done) | (simp [← he, intactO, c49]; done)
            · refine lv_iload_n E.1 E.2.1 dX1_latestWithIntact_52 rfl (lv_at hl 2 rfl) ?_
              refine e_iret (rm := ({ frames := 3, cells := 0, slots := 0, locals := 71 } : Room)) (v := iI ((n : Int))) E hL dX1_latestWithIntact_53 ?_
              exact RE_i (by rw [hle, show j = n + 1 by omega, lastB, if_pos (by simp [c27, ← he, intactO, c49])]; rfl)
  refine LP7 _ (mn σ) ((mn σ : Int) - 1) ls locs ?_ ?_ ?_ rfl (lv_sub hl [0, 1, 2] rfl) hL
  · omega
  · rfl
  · rfl

set_option maxHeartbeats 4000000 in
set_option maxRecDepth 100000 in
theorem c_X1_countFoundSectors (G : GG) (l : Launch) (b fb : Nat) (fl : Nat → Option Fil) (σ : St) (hI : Inv σ) : Ct G l yX1_countFoundSectors cX1_countFoundSectors 5 (some .int) ({ frames := 4, cells := 0, slots := 0, locals := 94 } : Room) [.ref (b)] (fun H => DiscAt G b fl σ H ∧ FlAt G fb fl H) (RE (iI (foundSec σ))) := by
  refine Ct.of (by decide +kernel) (Nat.le_of_ble_eq_true rfl) ?_
  intro p e s m args below meth c ls E hnm hP hl
  have i1 := hI.mn12
  have i2 := hI.nx240
  obtain ⟨hP, hFl⟩ := hP
  have hl : lv_has ls 5 [(0, .ref (b))] := hl
  have hL : Lk G [] := Lk.nil
  generalize ([] : List Loc) = locs at hL ⊢
  refine lv_aload_n E.1 E.2.1 dX1_countFoundSectors_0 rfl (lv_at hl 0 rfl) ?_
  refine lv_aload_n E.1 E.2.1 dX1_countFoundSectors_1 rfl (lv_at hl 0 rfl) ?_
  refine r_const E dX1_countFoundSectors_2 ?_
  refine kVRE (As := [.int (iI ((-1)))]) E cw_X1_50 (c_X1_validNumberIf G l b fl σ hI ((-1)) (by unfold okI; omega)) hP.1 ⟨_, _, rfl⟩ hP hL hl.1 rfl rfl (Nat.le_of_ble_eq_true rfl) ⟨Nat.le_of_ble_eq_true rfl, Nat.le_of_ble_eq_true rfl⟩ ⟨rfl, rfl⟩ ⟨Nat.le_of_ble_eq_true rfl, Nat.le_of_ble_eq_true rfl⟩ dX1_countFoundSectors_3 (fun locs hL => ?_)
  rw [dmH_m1 (σ := σ) (h := -1) (by decide)]
  rcases hv : validD σ (dm σ) with _ | n
  · rw [show oI none = -6 from rfl]
    refine kVQE (As := [.int (iI ((-6)))]) E cw_X1_54 (c_sessionAt_n G l b fl σ hI ((-6)) (by unfold okI; omega) (by omega)) hP.1 ⟨_, _, rfl⟩ hP hL hl.1 rfl rfl (Nat.le_of_ble_eq_true rfl) ⟨Nat.le_of_ble_eq_true rfl, Nat.le_of_ble_eq_true rfl⟩ ⟨rfl, rfl⟩ ⟨Nat.le_of_ble_eq_true rfl, Nat.le_of_ble_eq_true rfl⟩ dX1_countFoundSectors_6 (fun locs hL => ?_)
    refine lv_astore_nN (lv' := [(1, .null), (0, .ref (b))]) E.1 E.2.1 dX1_countFoundSectors_9 rfl hl (by decide) rfl (fun ls hl => ?_)
    refine lv_aload_nN E.1 E.2.1 dX1_countFoundSectors_10 rfl (lv_at hl 0 rfl) ?_
    refine lv_ifnonnullN E.1 E.2.1 dX1_countFoundSectors_11 ?_
    refine r_const E dX1_countFoundSectors_14 ?_
    refine e_iret (rm := ({ frames := 4, cells := 0, slots := 0, locals := 94 } : Room)) (v := iI (0)) E hL dX1_countFoundSectors_15 ?_
    exact RE_i (by simp only [foundSec, hv]; rfl)
  · have hn := validD_lt hv
    rw [show oI (some n) = (n : Int) from rfl]
    obtain ⟨t_, ho_, hr_, ht_⟩ := hP.live (n := n) (by omega) (by omega)
    refine kVQE (As := [.int (iI ((n : Int)))]) E cw_X1_54 (c_sessionAt_s G l b fl σ hI n (by omega)) hP.1 ⟨_, _, rfl⟩ hP hL hl.1 rfl rfl (Nat.le_of_ble_eq_true rfl) ⟨Nat.le_of_ble_eq_true rfl, Nat.le_of_ble_eq_true rfl⟩ ⟨rfl, rfl⟩ ⟨Nat.le_of_ble_eq_true rfl, Nat.le_of_ble_eq_true rfl⟩ dX1_countFoundSectors_6 (fun locs hL => ?_)
    refine lv_astore_n (lv' := [(1, .ref (b + 5 + 2 * n)), (0, .ref (b))]) E.1 E.2.1 dX1_countFoundSectors_9 rfl hl (by decide) rfl (fun ls hl => ?_)
    refine lv_aload_n E.1 E.2.1 dX1_countFoundSectors_10 rfl (lv_at hl 0 rfl) ?_
    refine lv_ifnonnull (tgt := 16) E.1 E.2.1 dX1_countFoundSectors_11 (by decide) ?_
    refine r_const E dX1_countFoundSectors_16 ?_
    refine lv_istore_n (lv' := [(2, .int (iI (0))), (1, .ref (b + 5 + 2 * n)), (0, .ref (b))]) E.1 E.2.1 dX1_countFoundSectors_17 rfl hl (by decide) rfl (fun ls hl => ?_)
    refine r_const E dX1_countFoundSectors_18 ?_
    refine lv_istore_n (lv' := [(3, .int (iI (0))), (2, .int (iI (0))), (1, .ref (b + 5 + 2 * n)), (0, .ref (b))]) E.1 E.2.1 dX1_countFoundSectors_19 rfl hl (by decide) rfl (fun ls hl => ?_)
    have LP20 : ∀ (kin20 : Nat) (k : Nat) (u v : Int) (ls : Array Slot) (locs : List Loc) (hk : k ≤ 20) (hu : u = (k : Int)) (hv2 : v = (sumF (fun k => sizeO (en σ n k)) k : Nat)) (hkin20 : 20 - k = kin20) (hl : lv_has ls 5 [(3, .int (iI (u))), (2, .int (iI (v))), (1, .ref (b + 5 + 2 * n)), (0, .ref (b))]) (hL : Lk G locs), W p l e ({ frames := 4, cells := 0, slots := 0, locals := 94 } : Room) s m args below meth c s.heap locs 0 0 (QQ G below args s ({ frames := 4, cells := 0, slots := 0, locals := 94 } : Room) (RE (iI (foundSec σ)))) (F0 m 20 ls []) := by
      intro kin20
      induction kin20 using Nat.strongRecOn with
      | ind kin20 ihin20 =>
        intro k u v ls locs hk hu hv2 hkin20 hl hL
        refine lv_iload_n E.1 E.2.1 dX1_countFoundSectors_20 rfl (lv_at hl 0 rfl) ?_
        refine r_bipush E dX1_countFoundSectors_21 (by decide) ?_
        refine r_icmp_ge (tgt := 56) E dX1_countFoundSectors_23 (by decide) (by omega) (by omega) (fun c23 => ?_) (fun c23 => ?_)
        · refine lv_iload_n E.1 E.2.1 dX1_countFoundSectors_56 rfl (lv_at hl 1 rfl) ?_
          refine e_iret (rm := ({ frames := 4, cells := 0, slots := 0, locals := 94 } : Room)) (v := iI (v)) E hL dX1_countFoundSectors_57 ?_
          exact RE_i (by rw [hv2, show k = 20 by omega]; simp only [foundSec, hv])
        · subst hu
          refine lv_aload_n E.1 E.2.1 dX1_countFoundSectors_26 rfl (lv_at hl 2 rfl) ?_
          refine lv_iload_n E.1 E.2.1 dX1_countFoundSectors_27 rfl (lv_at hl 0 rfl) ?_
          refine kVQE (As := [.int (iI ((k : Int)))]) E cw_X1_93 (c_fileOf_in G l (b + 5 + 2 * n) (k) (encR (se σ n)) t_ (by omega)) ho_ ⟨_, _, rfl⟩ ⟨ho_, hr_⟩ hL hl.1 rfl rfl (Nat.le_of_ble_eq_true rfl) ⟨Nat.le_of_ble_eq_true rfl, Nat.le_of_ble_eq_true rfl⟩ ⟨rfl, rfl⟩ ⟨Nat.le_of_ble_eq_true rfl, Nat.le_of_ble_eq_true rfl⟩ dX1_countFoundSectors_28 (fun locs hL => ?_)
          rcases htk : t_ (k) with _ | a
          · have he : none = en σ n (k) := by have h9 := (ht_ (k) (by omega)).1; rw [htk] at h9; exact h9
            refine lv_astoreN (lv' := [(4, .null), (3, .int (iI ((k : Int)))), (2, .int (iI (v))), (1, .ref (b + 5 + 2 * n)), (0, .ref (b))]) E.1 E.2.1 dX1_countFoundSectors_31 hl (by decide) rfl (fun ls hl => ?_)
            refine lv_iload_n E.1 E.2.1 dX1_countFoundSectors_33 rfl (lv_at hl 2 rfl) ?_
            refine lv_aloadN E.1 E.2.1 dX1_countFoundSectors_34 (lv_at hl 0 rfl) ?_
            refine lv_ifnonnullN E.1 E.2.1 dX1_countFoundSectors_36 ?_
            refine r_const E dX1_countFoundSectors_39 ?_
            refine lv_goto (tgt := 48) E.1 E.2.1 dX1_countFoundSectors_40 (by decide) ?_
            refine r_add E dX1_countFoundSectors_48 ?_
            refine lv_istore_n (lv' := [(2, .int (iI (v + 0))), (4, .null), (3, .int (iI ((k : Int)))), (1, .ref (b + 5 + 2 * n)), (0, .ref (b))]) E.1 E.2.1 dX1_countFoundSectors_49 rfl hl (by decide) rfl (fun ls hl => ?_)
            refine r_inc (lv' := [(3, .int (iI ((k : Int) + 1))), (2, .int (iI (v + 0))), (4, .null), (1, .ref (b + 5 + 2 * n)), (0, .ref (b))]) E dX1_countFoundSectors_50 hl (k := 2) rfl (by decide) rfl (fun ls hl => ?_)
            refine lv_goto (tgt := 20) E.1 E.2.1 dX1_countFoundSectors_53 (by decide) ?_
            refine ihin20 _ ?_ (k + 1) ((k : Int) + 1) (v + 0) ls locs ?_ ?_ ?_ rfl (lv_sub hl [0, 1, 3, 4] rfl) hL
            · omega
            · omega
            · omega
            · rw [hv2]; simp [sumF, ← he, sizeO]
          · obtain ⟨f, hf⟩ := (ht_ (k) (by omega)).2 a htk
            have he : some f = en σ n (k) := by have h9 := (ht_ (k) (by omega)).1; rw [htk] at h9; rw [← h9]; exact hf.symm
            have hfb := hI.ent2 (n := n) (k := k) (by omega) (by omega) he.symm
            refine lv_astore (lv' := [(4, .ref (a)), (3, .int (iI ((k : Int)))), (2, .int (iI (v))), (1, .ref (b + 5 + 2 * n)), (0, .ref (b))]) E.1 E.2.1 dX1_countFoundSectors_31 hl (by decide) rfl (fun ls hl => ?_)
            refine lv_iload_n E.1 E.2.1 dX1_countFoundSectors_33 rfl (lv_at hl 2 rfl) ?_
            refine lv_aload E.1 E.2.1 dX1_countFoundSectors_34 (lv_at hl 0 rfl) ?_
            refine lv_ifnonnull (tgt := 43) E.1 E.2.1 dX1_countFoundSectors_36 (by decide) ?_
            refine lv_aload E.1 E.2.1 dX1_countFoundSectors_43 (lv_at hl 0 rfl) ?_
            refine m_get E (hFl.2 a f hf).2 fw_X1_143 rfl dX1_countFoundSectors_45 ?_
            refine r_add E dX1_countFoundSectors_48 ?_
            refine lv_istore_n (lv' := [(2, .int (iI (v + (f.2.1 : Int)))), (4, .ref (a)), (3, .int (iI ((k : Int)))), (1, .ref (b + 5 + 2 * n)), (0, .ref (b))]) E.1 E.2.1 dX1_countFoundSectors_49 rfl hl (by decide) rfl (fun ls hl => ?_)
            refine r_inc (lv' := [(3, .int (iI ((k : Int) + 1))), (2, .int (iI (v + (f.2.1 : Int)))), (4, .ref (a)), (1, .ref (b + 5 + 2 * n)), (0, .ref (b))]) E dX1_countFoundSectors_50 hl (k := 2) rfl (by decide) rfl (fun ls hl => ?_)
            refine lv_goto (tgt := 20) E.1 E.2.1 dX1_countFoundSectors_53 (by decide) ?_
            refine ihin20 _ ?_ (k + 1) ((k : Int) + 1) (v + (f.2.1 : Int)) ls locs ?_ ?_ ?_ rfl (lv_sub hl [0, 1, 3, 4] rfl) hL
            · omega
            · omega
            · omega
            · rw [hv2]; simp [sumF, ← he, sizeO]
    refine LP20 _ 0 0 0 ls locs ?_ ?_ ?_ rfl (lv_sub hl [0, 1, 2, 3] rfl) hL
    · omega
    · rfl
    · rfl

set_option maxHeartbeats 4000000 in
set_option maxRecDepth 100000 in
theorem c_X1_roomForFiles (G : GG) (l : Launch) (b : Nat) (fl : Nat → Option Fil) (σ : St) (hI : Inv σ) : Ct G l yX1_roomForFiles cX1_roomForFiles 2 (some .int) ({ frames := 2, cells := 0, slots := 0, locals := 42 } : Room) [.ref (b)] (fun H => DiscAt G b fl σ H) (RE (iI (roomN σ))) := by
  refine Ct.of (by decide +kernel) (Nat.le_of_ble_eq_true rfl) ?_
  intro p e s m args below meth c ls E hnm hP hl
  have i1 := hI.mn12
  have i2 := hI.nx240
  have i3 := hI.s0b
  have i4 := hI.s1b
  have i5 := @Inv.row σ hI
  have hl : lv_has ls 2 [(0, .ref (b))] := hl
  have hL : Lk G [] := Lk.nil
  generalize ([] : List Loc) = locs at hL ⊢
  refine lv_aload_n E.1 E.2.1 dX1_roomForFiles_0 rfl (lv_at hl 0 rfl) ?_
  refine kVQE (As := []) E cw_X1_43 (c_X1_openSession G l b fl σ hI) hP.1 ⟨_, _, rfl⟩ hP hL hl.1 rfl rfl (Nat.le_of_ble_eq_true rfl) ⟨Nat.le_of_ble_eq_true rfl, Nat.le_of_ble_eq_true rfl⟩ ⟨rfl, rfl⟩ ⟨Nat.le_of_ble_eq_true rfl, Nat.le_of_ble_eq_true rfl⟩ dX1_roomForFiles_1 (fun locs hL => ?_)
  rcases hop : opn σ with _ | n
  · refine lv_astore_nN (lv' := [(1, .null), (0, .ref (b))]) E.1 E.2.1 dX1_roomForFiles_4 rfl hl (by decide) rfl (fun ls hl => ?_)
    refine lv_aload_nN E.1 E.2.1 dX1_roomForFiles_5 rfl (lv_at hl 0 rfl) ?_
    refine lv_ifnullN (tgt := 27) E.1 E.2.1 dX1_roomForFiles_6 (by decide) ?_
    refine lv_aload_n E.1 E.2.1 dX1_roomForFiles_27 rfl (lv_at hl 1 rfl) ?_
    refine m_get E hP.1 fw_X1_29 rfl dX1_roomForFiles_28 ?_
    refine r_bipush E dX1_roomForFiles_31 (by decide) ?_
    refine r_icmp_lt (tgt := 38) E dX1_roomForFiles_33 (by decide) (by omega) (by omega) (fun c33 => ?_) (fun c33 => ?_)
    · refine r_sipush E dX1_roomForFiles_38 (by decide) ?_
      refine lv_aload_n E.1 E.2.1 dX1_roomForFiles_41 rfl (lv_at hl 1 rfl) ?_
      refine m_get E hP.1 fw_X1_33 rfl dX1_roomForFiles_42 ?_
      refine r_sub E dX1_roomForFiles_45 ?_
      refine lv_aload_n E.1 E.2.1 dX1_roomForFiles_46 rfl (lv_at hl 1 rfl) ?_
      refine m_get E hP.1 fw_X1_25 rfl dX1_roomForFiles_47 ?_
      refine r_const E dX1_roomForFiles_50 ?_
      refine r_iald E hP.2.2.2.2.1 (0) rfl (by decide) (by decide) dX1_roomForFiles_51 ?_
      rw [if_pos rfl]
      refine r_sub E dX1_roomForFiles_52 ?_
      refine lv_aload_n E.1 E.2.1 dX1_roomForFiles_53 rfl (lv_at hl 1 rfl) ?_
      refine m_get E hP.1 fw_X1_25 rfl dX1_roomForFiles_54 ?_
      refine r_const E dX1_roomForFiles_57 ?_
      refine r_iald E hP.2.2.2.2.1 (1) rfl (by decide) (by decide) dX1_roomForFiles_58 ?_
      rw [if_neg (by decide)]
      refine r_sub E dX1_roomForFiles_59 ?_
      refine r_const E dX1_roomForFiles_60 ?_
      refine r_max E ml_X1_134 hl.1 (Nat.le_of_ble_eq_true rfl) (Nat.le_of_ble_eq_true rfl) (Nat.le_of_ble_eq_true rfl) (Nat.le_of_ble_eq_true rfl) (by omega) (by omega) dX1_roomForFiles_61 (fun z1 hz1 => ?_)
      refine e_iret (rm := ({ frames := 2, cells := 0, slots := 0, locals := 42 } : Room)) (v := iI (z1)) E hL dX1_roomForFiles_64 ?_
      exact RE_i (by first | (simp only [roomN, hop]; rw [if_neg (by omega)]; omega) | (simp only [roomN, hop]; omega))
    · refine r_const E dX1_roomForFiles_36 ?_
      refine e_iret (rm := ({ frames := 2, cells := 0, slots := 0, locals := 42 } : Room)) (v := iI (0)) E hL dX1_roomForFiles_37 ?_
      exact RE_i (by simp only [roomN, hop]; rw [if_pos (by omega)]; rfl)
  · have hn := (opn_some hop).1
    have hn0 := (opn_some hop).2
    have hrow := hI.row (n := n) (by omega)
    obtain ⟨t_, ho_, hr_, ht_⟩ := hP.live (n := n) (by omega) (by omega)
    refine lv_astore_n (lv' := [(1, .ref (b + 5 + 2 * n)), (0, .ref (b))]) E.1 E.2.1 dX1_roomForFiles_4 rfl hl (by decide) rfl (fun ls hl => ?_)
    refine lv_aload_n E.1 E.2.1 dX1_roomForFiles_5 rfl (lv_at hl 0 rfl) ?_
    refine lv_ifnull E.1 E.2.1 dX1_roomForFiles_6 ?_
    refine r_sipush E dX1_roomForFiles_9 (by decide) ?_
    refine lv_aload_n E.1 E.2.1 dX1_roomForFiles_12 rfl (lv_at hl 1 rfl) ?_
    refine m_get E hP.1 fw_X1_33 rfl dX1_roomForFiles_13 ?_
    refine r_sub E dX1_roomForFiles_16 ?_
    refine lv_aload_n E.1 E.2.1 dX1_roomForFiles_17 rfl (lv_at hl 0 rfl) ?_
    refine m_get E ho_ fw_X1_125 rfl dX1_roomForFiles_18 ?_
    refine r_sub E dX1_roomForFiles_21 ?_
    refine r_const E dX1_roomForFiles_22 ?_
    refine r_max E ml_X1_134 hl.1 (Nat.le_of_ble_eq_true rfl) (Nat.le_of_ble_eq_true rfl) (Nat.le_of_ble_eq_true rfl) (Nat.le_of_ble_eq_true rfl) (by omega) (by omega) dX1_roomForFiles_23 (fun z1 hz1 => ?_)
    refine e_iret (rm := ({ frames := 2, cells := 0, slots := 0, locals := 42 } : Room)) (v := iI (z1)) E hL dX1_roomForFiles_26 ?_
    exact RE_i (by first | (simp only [roomN, hop]; rw [if_neg (by omega)]; omega) | (simp only [roomN, hop]; omega))

set_option maxHeartbeats 4000000 in
set_option maxRecDepth 100000 in
theorem c_X1_sessionsOfOneFile (G : GG) (l : Launch) (b : Nat) (fl : Nat → Option Fil) (σ : St) (hI : Inv σ) (x : Nat) (hx : 1 ≤ x ∧ x ≤ 40) : Ct G l yX1_sessionsOfOneFile cX1_sessionsOfOneFile 7 (some .int) ({ frames := 2, cells := 0, slots := 0, locals := 42 } : Room) [.ref (b), .int (iI ((x : Int)))] (fun H => DiscAt G b fl σ H) (RE (iI (eachN σ x))) := by
  refine Ct.of (by decide +kernel) (Nat.le_of_ble_eq_true rfl) ?_
  intro p e s m args below meth c ls E hnm hP hl
  have i1 := hI.mn12
  have i2 := hI.nx240
  have i3 := hI.s0b
  have i4 := hI.s1b
  have hl : lv_has ls 7 [(0, .ref (b)), (1, .int (iI ((x : Int))))] := hl
  have hL : Lk G [] := Lk.nil
  generalize ([] : List Loc) = locs at hL ⊢
  refine r_const E dX1_sessionsOfOneFile_0 ?_
  refine lv_istore_n (lv' := [(2, .int (iI (0))), (0, .ref (b)), (1, .int (iI ((x : Int))))]) E.1 E.2.1 dX1_sessionsOfOneFile_1 rfl hl (by decide) rfl (fun ls hl => ?_)
  refine lv_aload_n E.1 E.2.1 dX1_sessionsOfOneFile_2 rfl (lv_at hl 1 rfl) ?_
  refine m_get E hP.1 fw_X1_33 rfl dX1_sessionsOfOneFile_3 ?_
  refine lv_istore_n (lv' := [(3, .int (iI ((nx σ : Int)))), (2, .int (iI (0))), (0, .ref (b)), (1, .int (iI ((x : Int))))]) E.1 E.2.1 dX1_sessionsOfOneFile_6 rfl hl (by decide) rfl (fun ls hl => ?_)
  refine lv_aload_n E.1 E.2.1 dX1_sessionsOfOneFile_7 rfl (lv_at hl 2 rfl) ?_
  refine kVQE (As := []) E cw_X1_43 (c_X1_openSession G l b fl σ hI) hP.1 ⟨_, _, rfl⟩ hP hL hl.1 rfl rfl (Nat.le_of_ble_eq_true rfl) ⟨Nat.le_of_ble_eq_true rfl, Nat.le_of_ble_eq_true rfl⟩ ⟨rfl, rfl⟩ ⟨Nat.le_of_ble_eq_true rfl, Nat.le_of_ble_eq_true rfl⟩ dX1_sessionsOfOneFile_8 (fun locs hL => ?_)
  rcases hop : opn σ with _ | n
  · refine lv_astoreN (lv' := [(4, .null), (3, .int (iI ((nx σ : Int)))), (2, .int (iI (0))), (0, .ref (b)), (1, .int (iI ((x : Int))))]) E.1 E.2.1 dX1_sessionsOfOneFile_11 hl (by decide) rfl (fun ls hl => ?_)
    refine lv_aloadN E.1 E.2.1 dX1_sessionsOfOneFile_13 (lv_at hl 0 rfl) ?_
    refine lv_ifnullN (tgt := 39) E.1 E.2.1 dX1_sessionsOfOneFile_15 (by decide) ?_
    refine lv_aload_n E.1 E.2.1 dX1_sessionsOfOneFile_39 rfl (lv_at hl 3 rfl) ?_
    refine m_get E hP.1 fw_X1_25 rfl dX1_sessionsOfOneFile_40 ?_
    refine r_const E dX1_sessionsOfOneFile_43 ?_
    refine r_iald E hP.2.2.2.2.1 (0) rfl (by decide) (by decide) dX1_sessionsOfOneFile_44 ?_
    rw [if_pos rfl]
    refine lv_iload_n E.1 E.2.1 dX1_sessionsOfOneFile_45 rfl (lv_at hl 4 rfl) ?_
    refine r_add E dX1_sessionsOfOneFile_46 ?_
    refine lv_aload_n E.1 E.2.1 dX1_sessionsOfOneFile_47 rfl (lv_at hl 3 rfl) ?_
    refine m_get E hP.1 fw_X1_25 rfl dX1_sessionsOfOneFile_48 ?_
    refine r_const E dX1_sessionsOfOneFile_51 ?_
    refine r_iald E hP.2.2.2.2.1 (1) rfl (by decide) (by decide) dX1_sessionsOfOneFile_52 ?_
    rw [if_neg (by decide)]
    refine r_add E dX1_sessionsOfOneFile_53 ?_
    refine lv_istore (lv' := [(5, .int (iI (((s0 σ : Int) + (x : Int)) + (s1 σ : Int)))), (4, .null), (3, .int (iI ((nx σ : Int)))), (2, .int (iI (0))), (0, .ref (b)), (1, .int (iI ((x : Int))))]) E.1 E.2.1 dX1_sessionsOfOneFile_54 hl (by decide) rfl (fun ls hl => ?_)
    refine lv_aload_n E.1 E.2.1 dX1_sessionsOfOneFile_56 rfl (lv_at hl 4 rfl) ?_
    refine m_get E hP.1 fw_X1_29 rfl dX1_sessionsOfOneFile_57 ?_
    refine lv_istore (lv' := [(6, .int (iI ((mn σ : Int)))), (5, .int (iI (((s0 σ : Int) + (x : Int)) + (s1 σ : Int)))), (4, .null), (3, .int (iI ((nx σ : Int)))), (2, .int (iI (0))), (0, .ref (b)), (1, .int (iI ((x : Int))))]) E.1 E.2.1 dX1_sessionsOfOneFile_60 hl (by decide) rfl (fun ls hl => ?_)
    have LP62 : ∀ (kin62 : Nat) (nb en fl1 : Nat) (u v q : Int) (ls : Array Slot) (locs : List Loc) (h1 : nb ≤ 12) (h2 : en ≤ 240) (hu : u = (nb : Int)) (hv : v = (en : Int)) (hq : q = (fl1 : Int)) (hT : fl1 + min (12 - nb) ((240 - en) / (x + s0 σ + s1 σ)) = eachN σ x) (hkin62 : 12 - nb = kin62) (hl : lv_has ls 7 [(6, .int (iI (u))), (3, .int (iI (v))), (2, .int (iI (q))), (5, .int (iI ((s0 σ : Int) + (x : Int) + (s1 σ : Int)))), (0, .ref (b))]) (hL : Lk G locs), W p l e ({ frames := 2, cells := 0, slots := 0, locals := 42 } : Room) s m args below meth c s.heap locs 0 0 (QQ G below args s ({ frames := 2, cells := 0, slots := 0, locals := 42 } : Room) (RE (iI (eachN σ x)))) (F0 m 62 ls []) := by
      intro kin62
      induction kin62 using Nat.strongRecOn with
      | ind kin62 ihin62 =>
        intro nb en fl1 u v q ls locs h1 h2 hu hv hq hT hkin62 hl hL
        refine lv_iload E.1 E.2.1 dX1_sessionsOfOneFile_62 (lv_at hl 0 rfl) ?_
        refine r_bipush E dX1_sessionsOfOneFile_64 (by decide) ?_
        refine r_icmp_ge (tgt := 93) E dX1_sessionsOfOneFile_66 (by decide) (by omega) (by omega) (fun c66 => ?_) (fun c66 => ?_)
        · refine lv_iload_n E.1 E.2.1 dX1_sessionsOfOneFile_93 rfl (lv_at hl 2 rfl) ?_
          refine e_iret (rm := ({ frames := 2, cells := 0, slots := 0, locals := 42 } : Room)) (v := iI (q)) E hL dX1_sessionsOfOneFile_94 ?_
          refine RE_i ?_
          rw [hq, ← hT]
          have h9 : min (12 - nb) ((240 - en) / (x + s0 σ + s1 σ)) = 0 := by
            first
            | (rw [show 12 - nb = 0 by omega]; exact Nat.zero_min _)
            | (rw [Nat.div_eq_of_lt (a := 240 - en) (b := x + s0 σ + s1 σ) (by omega)]; exact Nat.min_zero _)
          rw [h9]
          rfl
        · refine lv_iload_n E.1 E.2.1 dX1_sessionsOfOneFile_69 rfl (lv_at hl 1 rfl) ?_
          refine lv_iload E.1 E.2.1 dX1_sessionsOfOneFile_70 (lv_at hl 3 rfl) ?_
          refine r_add E dX1_sessionsOfOneFile_72 ?_
          refine r_sipush E dX1_sessionsOfOneFile_73 (by decide) ?_
          refine r_icmp_gt (tgt := 93) E dX1_sessionsOfOneFile_76 (by decide) (by omega) (by omega) (fun c76 => ?_) (fun c76 => ?_)
          · refine lv_iload_n E.1 E.2.1 dX1_sessionsOfOneFile_93 rfl (lv_at hl 2 rfl) ?_
            refine e_iret (rm := ({ frames := 2, cells := 0, slots := 0, locals := 42 } : Room)) (v := iI (q)) E hL dX1_sessionsOfOneFile_94 ?_
            refine RE_i ?_
            rw [hq, ← hT]
            have h9 : min (12 - nb) ((240 - en) / (x + s0 σ + s1 σ)) = 0 := by
              first
              | (rw [show 12 - nb = 0 by omega]; exact Nat.zero_min _)
              | (rw [Nat.div_eq_of_lt (a := 240 - en) (b := x + s0 σ + s1 σ) (by omega)]; exact Nat.min_zero _)
            rw [h9]
            rfl
          · refine lv_iload_n E.1 E.2.1 dX1_sessionsOfOneFile_79 rfl (lv_at hl 1 rfl) ?_
            refine lv_iload E.1 E.2.1 dX1_sessionsOfOneFile_80 (lv_at hl 3 rfl) ?_
            refine r_add E dX1_sessionsOfOneFile_82 ?_
            refine lv_istore_n (lv' := [(3, .int (iI (v + ((s0 σ : Int) + (x : Int) + (s1 σ : Int))))), (6, .int (iI (u))), (2, .int (iI (q))), (5, .int (iI ((s0 σ : Int) + (x : Int) + (s1 σ : Int)))), (0, .ref (b))]) E.1 E.2.1 dX1_sessionsOfOneFile_83 rfl hl (by decide) rfl (fun ls hl => ?_)
            refine r_inc (lv' := [(2, .int (iI (q + 1))), (3, .int (iI (v + ((s0 σ : Int) + (x : Int) + (s1 σ : Int))))), (6, .int (iI (u))), (5, .int (iI ((s0 σ : Int) + (x : Int) + (s1 σ : Int)))), (0, .ref (b))]) E dX1_sessionsOfOneFile_84 hl (k := 2) rfl (by decide) rfl (fun ls hl => ?_)
            refine r_inc (lv' := [(6, .int (iI (u + 1))), (2, .int (iI (q + 1))), (3, .int (iI (v + ((s0 σ : Int) + (x : Int) + (s1 σ : Int))))), (5, .int (iI ((s0 σ : Int) + (x : Int) + (s1 σ : Int)))), (0, .ref (b))]) E dX1_sessionsOfOneFile_87 hl (k := 2) rfl (by decide) rfl (fun ls hl => ?_)
            refine lv_goto (tgt := 62) E.1 E.2.1 dX1_sessionsOfOneFile_90 (by decide) ?_
            refine ihin62 _ ?_ (nb + 1) (en + (x + s0 σ + s1 σ)) (fl1 + 1) (u + 1) (v + ((s0 σ : Int) + (x : Int) + (s1 σ : Int))) (q + 1) ls locs ?_ ?_ ?_ ?_ ?_ ?_ rfl (lv_sub hl [0, 2, 1, 3, 4] rfl) hL
            · omega
            · omega
            · omega
            · omega
            · omega
            · omega
            · rw [← hT, Nat.div_eq_sub_div (a := 240 - en) (b := x + s0 σ + s1 σ) (by omega) (by omega), show 240 - en - (x + s0 σ + s1 σ) = 240 - (en + (x + s0 σ + s1 σ)) by omega]
              omega
    refine LP62 _ (mn σ) (nx σ) 0 ((mn σ : Int)) ((nx σ : Int)) 0 ls locs ?_ ?_ ?_ ?_ ?_ ?_ rfl (lv_sub hl [0, 3, 4, 1, 5] rfl) hL
    · omega
    · omega
    · omega
    · omega
    · omega
    · simp only [eachN, hop]; omega
  · have hn := (opn_some hop).1
    have hn0 := (opn_some hop).2
    have hrow := hI.row (n := n) (by omega)
    obtain ⟨t_, ho_, hr_, ht_⟩ := hP.live (n := n) (by omega) (by omega)
    refine lv_astore (lv' := [(4, .ref (b + 5 + 2 * n)), (3, .int (iI ((nx σ : Int)))), (2, .int (iI (0))), (0, .ref (b)), (1, .int (iI ((x : Int))))]) E.1 E.2.1 dX1_sessionsOfOneFile_11 hl (by decide) rfl (fun ls hl => ?_)
    refine lv_aload E.1 E.2.1 dX1_sessionsOfOneFile_13 (lv_at hl 0 rfl) ?_
    refine lv_ifnull E.1 E.2.1 dX1_sessionsOfOneFile_15 ?_
    refine lv_iload_n E.1 E.2.1 dX1_sessionsOfOneFile_18 rfl (lv_at hl 1 rfl) ?_
    refine lv_iload_n E.1 E.2.1 dX1_sessionsOfOneFile_19 rfl (lv_at hl 4 rfl) ?_
    refine lv_aload E.1 E.2.1 dX1_sessionsOfOneFile_20 (lv_at hl 0 rfl) ?_
    refine m_get E ho_ fw_X1_125 rfl dX1_sessionsOfOneFile_22 ?_
    refine r_add E dX1_sessionsOfOneFile_25 ?_
    refine r_add E dX1_sessionsOfOneFile_26 ?_
    refine lv_istore_n (lv' := [(3, .int (iI ((nx σ : Int) + ((x : Int) + (se σ n 4 : Int))))), (4, .ref (b + 5 + 2 * n)), (2, .int (iI (0))), (0, .ref (b)), (1, .int (iI ((x : Int))))]) E.1 E.2.1 dX1_sessionsOfOneFile_27 rfl hl (by decide) rfl (fun ls hl => ?_)
    refine lv_iload_n E.1 E.2.1 dX1_sessionsOfOneFile_28 rfl (lv_at hl 0 rfl) ?_
    refine r_sipush E dX1_sessionsOfOneFile_29 (by decide) ?_
    refine r_icmp_le (tgt := 37) E dX1_sessionsOfOneFile_32 (by decide) (by omega) (by omega) (fun c32 => ?_) (fun c32 => ?_)
    · refine r_const E dX1_sessionsOfOneFile_37 ?_
      refine lv_istore_n (lv' := [(2, .int (iI (1))), (3, .int (iI ((nx σ : Int) + ((x : Int) + (se σ n 4 : Int))))), (4, .ref (b + 5 + 2 * n)), (0, .ref (b)), (1, .int (iI ((x : Int))))]) E.1 E.2.1 dX1_sessionsOfOneFile_38 rfl hl (by decide) rfl (fun ls hl => ?_)
      refine lv_aload_n E.1 E.2.1 dX1_sessionsOfOneFile_39 rfl (lv_at hl 3 rfl) ?_
      refine m_get E hP.1 fw_X1_25 rfl dX1_sessionsOfOneFile_40 ?_
      refine r_const E dX1_sessionsOfOneFile_43 ?_
      refine r_iald E hP.2.2.2.2.1 (0) rfl (by decide) (by decide) dX1_sessionsOfOneFile_44 ?_
      rw [if_pos rfl]
      refine lv_iload_n E.1 E.2.1 dX1_sessionsOfOneFile_45 rfl (lv_at hl 4 rfl) ?_
      refine r_add E dX1_sessionsOfOneFile_46 ?_
      refine lv_aload_n E.1 E.2.1 dX1_sessionsOfOneFile_47 rfl (lv_at hl 3 rfl) ?_
      refine m_get E hP.1 fw_X1_25 rfl dX1_sessionsOfOneFile_48 ?_
      refine r_const E dX1_sessionsOfOneFile_51 ?_
      refine r_iald E hP.2.2.2.2.1 (1) rfl (by decide) (by decide) dX1_sessionsOfOneFile_52 ?_
      rw [if_neg (by decide)]
      refine r_add E dX1_sessionsOfOneFile_53 ?_
      refine lv_istore (lv' := [(5, .int (iI (((s0 σ : Int) + (x : Int)) + (s1 σ : Int)))), (2, .int (iI (1))), (3, .int (iI ((nx σ : Int) + ((x : Int) + (se σ n 4 : Int))))), (4, .ref (b + 5 + 2 * n)), (0, .ref (b)), (1, .int (iI ((x : Int))))]) E.1 E.2.1 dX1_sessionsOfOneFile_54 hl (by decide) rfl (fun ls hl => ?_)
      refine lv_aload_n E.1 E.2.1 dX1_sessionsOfOneFile_56 rfl (lv_at hl 4 rfl) ?_
      refine m_get E hP.1 fw_X1_29 rfl dX1_sessionsOfOneFile_57 ?_
      refine lv_istore (lv' := [(6, .int (iI ((mn σ : Int)))), (5, .int (iI (((s0 σ : Int) + (x : Int)) + (s1 σ : Int)))), (2, .int (iI (1))), (3, .int (iI ((nx σ : Int) + ((x : Int) + (se σ n 4 : Int))))), (4, .ref (b + 5 + 2 * n)), (0, .ref (b)), (1, .int (iI ((x : Int))))]) E.1 E.2.1 dX1_sessionsOfOneFile_60 hl (by decide) rfl (fun ls hl => ?_)
      have LP62 : ∀ (kin62 : Nat) (nb en fl1 : Nat) (u v q : Int) (ls : Array Slot) (locs : List Loc) (h1 : nb ≤ 12) (h2 : en ≤ 240) (hu : u = (nb : Int)) (hv : v = (en : Int)) (hq : q = (fl1 : Int)) (hT : fl1 + min (12 - nb) ((240 - en) / (x + s0 σ + s1 σ)) = eachN σ x) (hkin62 : 12 - nb = kin62) (hl : lv_has ls 7 [(6, .int (iI (u))), (3, .int (iI (v))), (2, .int (iI (q))), (5, .int (iI ((s0 σ : Int) + (x : Int) + (s1 σ : Int)))), (0, .ref (b))]) (hL : Lk G locs), W p l e ({ frames := 2, cells := 0, slots := 0, locals := 42 } : Room) s m args below meth c s.heap locs 0 0 (QQ G below args s ({ frames := 2, cells := 0, slots := 0, locals := 42 } : Room) (RE (iI (eachN σ x)))) (F0 m 62 ls []) := by
        intro kin62
        induction kin62 using Nat.strongRecOn with
        | ind kin62 ihin62 =>
          intro nb en fl1 u v q ls locs h1 h2 hu hv hq hT hkin62 hl hL
          refine lv_iload E.1 E.2.1 dX1_sessionsOfOneFile_62 (lv_at hl 0 rfl) ?_
          refine r_bipush E dX1_sessionsOfOneFile_64 (by decide) ?_
          refine r_icmp_ge (tgt := 93) E dX1_sessionsOfOneFile_66 (by decide) (by omega) (by omega) (fun c66 => ?_) (fun c66 => ?_)
          · refine lv_iload_n E.1 E.2.1 dX1_sessionsOfOneFile_93 rfl (lv_at hl 2 rfl) ?_
            refine e_iret (rm := ({ frames := 2, cells := 0, slots := 0, locals := 42 } : Room)) (v := iI (q)) E hL dX1_sessionsOfOneFile_94 ?_
            refine RE_i ?_
            rw [hq, ← hT]
            have h9 : min (12 - nb) ((240 - en) / (x + s0 σ + s1 σ)) = 0 := by
              first
              | (rw [show 12 - nb = 0 by omega]; exact Nat.zero_min _)
              | (rw [Nat.div_eq_of_lt (a := 240 - en) (b := x + s0 σ + s1 σ) (by omega)]; exact Nat.min_zero _)
            rw [h9]
            rfl
          · refine lv_iload_n E.1 E.2.1 dX1_sessionsOfOneFile_69 rfl (lv_at hl 1 rfl) ?_
            refine lv_iload E.1 E.2.1 dX1_sessionsOfOneFile_70 (lv_at hl 3 rfl) ?_
            refine r_add E dX1_sessionsOfOneFile_72 ?_
            refine r_sipush E dX1_sessionsOfOneFile_73 (by decide) ?_
            refine r_icmp_gt (tgt := 93) E dX1_sessionsOfOneFile_76 (by decide) (by omega) (by omega) (fun c76 => ?_) (fun c76 => ?_)
            · refine lv_iload_n E.1 E.2.1 dX1_sessionsOfOneFile_93 rfl (lv_at hl 2 rfl) ?_
              refine e_iret (rm := ({ frames := 2, cells := 0, slots := 0, locals := 42 } : Room)) (v := iI (q)) E hL dX1_sessionsOfOneFile_94 ?_
              refine RE_i ?_
              rw [hq, ← hT]
              have h9 : min (12 - nb) ((240 - en) / (x + s0 σ + s1 σ)) = 0 := by
                first
                | (rw [show 12 - nb = 0 by omega]; exact Nat.zero_min _)
                | (rw [Nat.div_eq_of_lt (a := 240 - en) (b := x + s0 σ + s1 σ) (by omega)]; exact Nat.min_zero _)
              rw [h9]
              rfl
            · refine lv_iload_n E.1 E.2.1 dX1_sessionsOfOneFile_79 rfl (lv_at hl 1 rfl) ?_
              refine lv_iload E.1 E.2.1 dX1_sessionsOfOneFile_80 (lv_at hl 3 rfl) ?_
              refine r_add E dX1_sessionsOfOneFile_82 ?_
              refine lv_istore_n (lv' := [(3, .int (iI (v + ((s0 σ : Int) + (x : Int) + (s1 σ : Int))))), (6, .int (iI (u))), (2, .int (iI (q))), (5, .int (iI ((s0 σ : Int) + (x : Int) + (s1 σ : Int)))), (0, .ref (b))]) E.1 E.2.1 dX1_sessionsOfOneFile_83 rfl hl (by decide) rfl (fun ls hl => ?_)
              refine r_inc (lv' := [(2, .int (iI (q + 1))), (3, .int (iI (v + ((s0 σ : Int) + (x : Int) + (s1 σ : Int))))), (6, .int (iI (u))), (5, .int (iI ((s0 σ : Int) + (x : Int) + (s1 σ : Int)))), (0, .ref (b))]) E dX1_sessionsOfOneFile_84 hl (k := 2) rfl (by decide) rfl (fun ls hl => ?_)
              refine r_inc (lv' := [(6, .int (iI (u + 1))), (2, .int (iI (q + 1))), (3, .int (iI (v + ((s0 σ : Int) + (x : Int) + (s1 σ : Int))))), (5, .int (iI ((s0 σ : Int) + (x : Int) + (s1 σ : Int)))), (0, .ref (b))]) E dX1_sessionsOfOneFile_87 hl (k := 2) rfl (by decide) rfl (fun ls hl => ?_)
              refine lv_goto (tgt := 62) E.1 E.2.1 dX1_sessionsOfOneFile_90 (by decide) ?_
              refine ihin62 _ ?_ (nb + 1) (en + (x + s0 σ + s1 σ)) (fl1 + 1) (u + 1) (v + ((s0 σ : Int) + (x : Int) + (s1 σ : Int))) (q + 1) ls locs ?_ ?_ ?_ ?_ ?_ ?_ rfl (lv_sub hl [0, 2, 1, 3, 4] rfl) hL
              · omega
              · omega
              · omega
              · omega
              · omega
              · omega
              · rw [← hT, Nat.div_eq_sub_div (a := 240 - en) (b := x + s0 σ + s1 σ) (by omega) (by omega), show 240 - en - (x + s0 σ + s1 σ) = 240 - (en + (x + s0 σ + s1 σ)) by omega]
                omega
      refine LP62 _ (mn σ) (nx σ + x + se σ n 4) 1 ((mn σ : Int)) ((nx σ : Int) + ((x : Int) + (se σ n 4 : Int))) 1 ls locs ?_ ?_ ?_ ?_ ?_ ?_ rfl (lv_sub hl [0, 3, 2, 1, 5] rfl) hL
      · omega
      · omega
      · omega
      · omega
      · omega
      · simp only [eachN, hop]; rw [if_neg (by omega)]
    · refine r_const E dX1_sessionsOfOneFile_35 ?_
      refine e_iret (rm := ({ frames := 2, cells := 0, slots := 0, locals := 42 } : Room)) (v := iI (0)) E hL dX1_sessionsOfOneFile_36 ?_
      exact RE_i (by simp only [eachN, hop]; rw [if_pos (by omega)]; rfl)

set_option maxHeartbeats 4000000 in
set_option maxRecDepth 100000 in
theorem c_X1_moreHarmful (G : GG) (l : Launch) (b fb : Nat) (fl : Nat → Option Fil) (σ : St) (hI : Inv σ) (x y : Nat) (hx : x < 240) (hy : y < 240) : Ct G l yX1_moreHarmful cX1_moreHarmful 5 (some .int) ({ frames := 5, cells := 0, slots := 0, locals := 119 } : Room) [.ref (b), .int (iI ((x : Int))), .int (iI ((y : Int)))] (fun H => DiscAt G b fl σ H ∧ FlAt G fb fl H) (RE (iI (mh (hurtCnt σ) x y))) := by
  refine Ct.of (by decide +kernel) (Nat.le_of_ble_eq_true rfl) ?_
  intro p e s m args below meth c ls E hnm hP hl
  have i1 := hI.mn12
  have i2 := hI.nx240
  obtain ⟨hP, hFl⟩ := hP
  have hl : lv_has ls 5 [(0, .ref (b)), (1, .int (iI ((x : Int)))), (2, .int (iI ((y : Int))))] := hl
  have hL : Lk G [] := Lk.nil
  generalize ([] : List Loc) = locs at hL ⊢
  refine lv_aload_n E.1 E.2.1 dX1_moreHarmful_0 rfl (lv_at hl 0 rfl) ?_
  refine lv_iload_n E.1 E.2.1 dX1_moreHarmful_1 rfl (lv_at hl 1 rfl) ?_
  refine kVRE (As := [.int (iI ((x : Int)))]) E cw_X1_153 (c_X1_countIntactIf G l b fb fl σ hI ((x : Int)) (by unfold okI; omega)) hP.1 ⟨_, _, rfl⟩ ⟨hP, hFl⟩ hL hl.1 rfl rfl (Nat.le_of_ble_eq_true rfl) ⟨Nat.le_of_ble_eq_true rfl, Nat.le_of_ble_eq_true rfl⟩ ⟨rfl, rfl⟩ ⟨Nat.le_of_ble_eq_true rfl, Nat.le_of_ble_eq_true rfl⟩ dX1_moreHarmful_2 (fun locs hL => ?_)
  refine lv_istore_n (lv' := [(3, .int (iI ((cntIntact σ (dmH σ ((x : Int))) : Int)))), (0, .ref (b)), (1, .int (iI ((x : Int)))), (2, .int (iI ((y : Int))))]) E.1 E.2.1 dX1_moreHarmful_5 rfl hl (by decide) rfl (fun ls hl => ?_)
  refine lv_aload_n E.1 E.2.1 dX1_moreHarmful_6 rfl (lv_at hl 1 rfl) ?_
  refine lv_iload_n E.1 E.2.1 dX1_moreHarmful_7 rfl (lv_at hl 3 rfl) ?_
  refine kVRE (As := [.int (iI ((y : Int)))]) E cw_X1_153 (c_X1_countIntactIf G l b fb fl σ hI ((y : Int)) (by unfold okI; omega)) hP.1 ⟨_, _, rfl⟩ ⟨hP, hFl⟩ hL hl.1 rfl rfl (Nat.le_of_ble_eq_true rfl) ⟨Nat.le_of_ble_eq_true rfl, Nat.le_of_ble_eq_true rfl⟩ ⟨rfl, rfl⟩ ⟨Nat.le_of_ble_eq_true rfl, Nat.le_of_ble_eq_true rfl⟩ dX1_moreHarmful_8 (fun locs hL => ?_)
  refine lv_istore (lv' := [(4, .int (iI ((cntIntact σ (dmH σ ((y : Int))) : Int)))), (3, .int (iI ((cntIntact σ (dmH σ ((x : Int))) : Int)))), (0, .ref (b)), (1, .int (iI ((x : Int)))), (2, .int (iI ((y : Int))))]) E.1 E.2.1 dX1_moreHarmful_11 hl (by decide) rfl (fun ls hl => ?_)
  refine lv_iload_n E.1 E.2.1 dX1_moreHarmful_13 rfl (lv_at hl 1 rfl) ?_
  refine lv_iload E.1 E.2.1 dX1_moreHarmful_14 (lv_at hl 0 rfl) ?_
  refine r_icmp_ne (tgt := 25) E dX1_moreHarmful_16 (by decide) (by have := cntIntact_le σ (dmH σ x); omega) (by have := cntIntact_le σ (dmH σ y); omega) (fun c16 => ?_) (fun c16 => ?_)
  · refine lv_iload_n E.1 E.2.1 dX1_moreHarmful_25 rfl (lv_at hl 1 rfl) ?_
    refine lv_iload E.1 E.2.1 dX1_moreHarmful_26 (lv_at hl 0 rfl) ?_
    refine r_icmp_ge (tgt := 35) E dX1_moreHarmful_28 (by decide) (by have := cntIntact_le σ (dmH σ x); omega) (by have := cntIntact_le σ (dmH σ y); omega) (fun c28 => ?_) (fun c28 => ?_)
    · refine lv_iload_n E.1 E.2.1 dX1_moreHarmful_35 rfl (lv_at hl 4 rfl) ?_
      refine e_iret (rm := ({ frames := 5, cells := 0, slots := 0, locals := 119 } : Room)) (v := iI ((y : Int))) E hL dX1_moreHarmful_36 ?_
      refine RE_i ?_
      unfold mh
      show _ = ((if cntIntact σ (dmH σ x) = cntIntact σ (dmH σ y) then min x y else if cntIntact σ (dmH σ x) < cntIntact σ (dmH σ y) then x else y : Nat) : Int)
      split <;> (try split) <;> omega
    · refine lv_iload_n E.1 E.2.1 dX1_moreHarmful_31 rfl (lv_at hl 3 rfl) ?_
      refine lv_goto (tgt := 36) E.1 E.2.1 dX1_moreHarmful_32 (by decide) ?_
      refine e_iret (rm := ({ frames := 5, cells := 0, slots := 0, locals := 119 } : Room)) (v := iI ((x : Int))) E hL dX1_moreHarmful_36 ?_
      refine RE_i ?_
      unfold mh
      show _ = ((if cntIntact σ (dmH σ x) = cntIntact σ (dmH σ y) then min x y else if cntIntact σ (dmH σ x) < cntIntact σ (dmH σ y) then x else y : Nat) : Int)
      split <;> (try split) <;> omega
  · refine lv_iload_n E.1 E.2.1 dX1_moreHarmful_19 rfl (lv_at hl 3 rfl) ?_
    refine lv_iload_n E.1 E.2.1 dX1_moreHarmful_20 rfl (lv_at hl 4 rfl) ?_
    refine r_min E ml_X1_128 hl.1 (Nat.le_of_ble_eq_true rfl) (Nat.le_of_ble_eq_true rfl) (Nat.le_of_ble_eq_true rfl) (Nat.le_of_ble_eq_true rfl) (by omega) (by omega) dX1_moreHarmful_21 (fun z1 hz1 => ?_)
    refine e_iret (rm := ({ frames := 5, cells := 0, slots := 0, locals := 119 } : Room)) (v := iI (z1)) E hL dX1_moreHarmful_24 ?_
    refine RE_i ?_
    unfold mh
    show _ = ((if cntIntact σ (dmH σ x) = cntIntact σ (dmH σ y) then min x y else if cntIntact σ (dmH σ x) < cntIntact σ (dmH σ y) then x else y : Nat) : Int)
    split <;> (try split) <;> omega

set_option maxHeartbeats 4000000 in
set_option maxRecDepth 100000 in
theorem c_X1_mostHarmfulSector (G : GG) (l : Launch) (b fb : Nat) (fl : Nat → Option Fil) (σ : St) (hI : Inv σ) : Ct G l yX1_mostHarmfulSector cX1_mostHarmfulSector 5 (some .int) ({ frames := 6, cells := 0, slots := 0, locals := 143 } : Room) [.ref (b)] (fun H => DiscAt G b fl σ H ∧ FlAt G fb fl H) (RE (iI (worstH σ))) := by
  refine Ct.of (by decide +kernel) (Nat.le_of_ble_eq_true rfl) ?_
  intro p e s m args below meth c ls E hnm hP hl
  have i1 := hI.mn12
  have i2 := hI.nx240
  obtain ⟨hP, hFl⟩ := hP
  have hl : lv_has ls 5 [(0, .ref (b))] := hl
  have hL : Lk G [] := Lk.nil
  generalize ([] : List Loc) = locs at hL ⊢
  refine lv_aload_n E.1 E.2.1 dX1_mostHarmfulSector_0 rfl (lv_at hl 0 rfl) ?_
  refine lv_aload_n E.1 E.2.1 dX1_mostHarmfulSector_1 rfl (lv_at hl 0 rfl) ?_
  refine r_const E dX1_mostHarmfulSector_2 ?_
  refine kVRE (As := [.int (iI ((-1)))]) E cw_X1_50 (c_X1_validNumberIf G l b fl σ hI ((-1)) (by unfold okI; omega)) hP.1 ⟨_, _, rfl⟩ hP hL hl.1 rfl rfl (Nat.le_of_ble_eq_true rfl) ⟨Nat.le_of_ble_eq_true rfl, Nat.le_of_ble_eq_true rfl⟩ ⟨rfl, rfl⟩ ⟨Nat.le_of_ble_eq_true rfl, Nat.le_of_ble_eq_true rfl⟩ dX1_mostHarmfulSector_3 (fun locs hL => ?_)
  rw [dmH_m1 (σ := σ) (h := -1) (by decide)]
  rcases hv : validD σ (dm σ) with _ | n
  · rw [show oI none = -6 from rfl]
    refine kVQE (As := [.int (iI ((-6)))]) E cw_X1_54 (c_sessionAt_n G l b fl σ hI ((-6)) (by unfold okI; omega) (by omega)) hP.1 ⟨_, _, rfl⟩ hP hL hl.1 rfl rfl (Nat.le_of_ble_eq_true rfl) ⟨Nat.le_of_ble_eq_true rfl, Nat.le_of_ble_eq_true rfl⟩ ⟨rfl, rfl⟩ ⟨Nat.le_of_ble_eq_true rfl, Nat.le_of_ble_eq_true rfl⟩ dX1_mostHarmfulSector_6 (fun locs hL => ?_)
    refine lv_astore_nN (lv' := [(1, .null), (0, .ref (b))]) E.1 E.2.1 dX1_mostHarmfulSector_9 rfl hl (by decide) rfl (fun ls hl => ?_)
    refine lv_aload_nN E.1 E.2.1 dX1_mostHarmfulSector_10 rfl (lv_at hl 0 rfl) ?_
    refine lv_ifnonnullN E.1 E.2.1 dX1_mostHarmfulSector_11 ?_
    refine r_const E dX1_mostHarmfulSector_14 ?_
    refine e_iret (rm := ({ frames := 6, cells := 0, slots := 0, locals := 143 } : Room)) (v := iI (0)) E hL dX1_mostHarmfulSector_15 ?_
    exact RE_i (by simp only [worstH, hv]; rfl)
  · have hn := validD_lt hv
    rw [show oI (some n) = (n : Int) from rfl]
    obtain ⟨t_, ho_, hr_, ht_⟩ := hP.live (n := n) (by omega) (by omega)
    refine kVQE (As := [.int (iI ((n : Int)))]) E cw_X1_54 (c_sessionAt_s G l b fl σ hI n (by omega)) hP.1 ⟨_, _, rfl⟩ hP hL hl.1 rfl rfl (Nat.le_of_ble_eq_true rfl) ⟨Nat.le_of_ble_eq_true rfl, Nat.le_of_ble_eq_true rfl⟩ ⟨rfl, rfl⟩ ⟨Nat.le_of_ble_eq_true rfl, Nat.le_of_ble_eq_true rfl⟩ dX1_mostHarmfulSector_6 (fun locs hL => ?_)
    refine lv_astore_n (lv' := [(1, .ref (b + 5 + 2 * n)), (0, .ref (b))]) E.1 E.2.1 dX1_mostHarmfulSector_9 rfl hl (by decide) rfl (fun ls hl => ?_)
    refine lv_aload_n E.1 E.2.1 dX1_mostHarmfulSector_10 rfl (lv_at hl 0 rfl) ?_
    refine lv_ifnonnull (tgt := 16) E.1 E.2.1 dX1_mostHarmfulSector_11 (by decide) ?_
    have hrow := hI.row hn
    refine lv_aload_n E.1 E.2.1 dX1_mostHarmfulSector_16 rfl (lv_at hl 1 rfl) ?_
    refine r_const E dX1_mostHarmfulSector_17 ?_
    refine lv_aload_n E.1 E.2.1 dX1_mostHarmfulSector_18 rfl (lv_at hl 0 rfl) ?_
    refine m_get E ho_ fw_X1_111 rfl dX1_mostHarmfulSector_19 ?_
    refine kVRE (As := [.int (iI (0)), .int (iI ((se σ n 1 : Int)))]) E cw_X1_150 (c_X1_moreHarmful G l b fb fl σ hI (0) (se σ n 1) (by omega) (by omega)) hP.1 ⟨_, _, rfl⟩ ⟨hP, hFl⟩ hL hl.1 rfl rfl (Nat.le_of_ble_eq_true rfl) ⟨Nat.le_of_ble_eq_true rfl, Nat.le_of_ble_eq_true rfl⟩ ⟨rfl, rfl⟩ ⟨Nat.le_of_ble_eq_true rfl, Nat.le_of_ble_eq_true rfl⟩ dX1_mostHarmfulSector_22 (fun locs hL => ?_)
    refine lv_istore_n (lv' := [(2, .int (iI ((mh (hurtCnt σ) (0) (se σ n 1) : Int)))), (1, .ref (b + 5 + 2 * n)), (0, .ref (b))]) E.1 E.2.1 dX1_mostHarmfulSector_25 rfl hl (by decide) rfl (fun ls hl => ?_)
    refine r_const E dX1_mostHarmfulSector_26 ?_
    refine lv_istore_n (lv' := [(3, .int (iI (0))), (2, .int (iI ((mh (hurtCnt σ) (0) (se σ n 1) : Int)))), (1, .ref (b + 5 + 2 * n)), (0, .ref (b))]) E.1 E.2.1 dX1_mostHarmfulSector_27 rfl hl (by decide) rfl (fun ls hl => ?_)
    have LP28 : ∀ (kin28 : Nat) (k wk : Nat) (u v : Int) (ls : Array Slot) (locs : List Loc) (hk : k ≤ 20) (hwk : wk = mhF σ n k) (hu : u = (k : Int)) (hv2 : v = (wk : Int)) (hlt : wk < 240) (hkin28 : 20 - k = kin28) (hl : lv_has ls 5 [(3, .int (iI (u))), (2, .int (iI (v))), (1, .ref (b + 5 + 2 * n)), (0, .ref (b))]) (hL : Lk G locs), W p l e ({ frames := 6, cells := 0, slots := 0, locals := 143 } : Room) s m args below meth c s.heap locs 0 0 (QQ G below args s ({ frames := 6, cells := 0, slots := 0, locals := 143 } : Room) (RE (iI (worstH σ)))) (F0 m 28 ls []) := by
      intro kin28
      induction kin28 using Nat.strongRecOn with
      | ind kin28 ihin28 =>
        intro k wk u v ls locs hk hwk hu hv2 hlt hkin28 hl hL
        refine lv_iload_n E.1 E.2.1 dX1_mostHarmfulSector_28 rfl (lv_at hl 0 rfl) ?_
        refine r_bipush E dX1_mostHarmfulSector_29 (by decide) ?_
        refine r_icmp_ge (tgt := 63) E dX1_mostHarmfulSector_31 (by decide) (by omega) (by omega) (fun c31 => ?_) (fun c31 => ?_)
        · refine lv_iload_n E.1 E.2.1 dX1_mostHarmfulSector_63 rfl (lv_at hl 1 rfl) ?_
          refine e_iret (rm := ({ frames := 6, cells := 0, slots := 0, locals := 143 } : Room)) (v := iI (v)) E hL dX1_mostHarmfulSector_64 ?_
          exact RE_i (by rw [hv2, hwk, show k = 20 by omega]; simp only [worstH, hv])
        · subst hu
          subst hv2
          refine lv_aload_n E.1 E.2.1 dX1_mostHarmfulSector_34 rfl (lv_at hl 2 rfl) ?_
          refine lv_iload_n E.1 E.2.1 dX1_mostHarmfulSector_35 rfl (lv_at hl 0 rfl) ?_
          refine kVQE (As := [.int (iI ((k : Int)))]) E cw_X1_93 (c_fileOf_in G l (b + 5 + 2 * n) (k) (encR (se σ n)) t_ (by omega)) ho_ ⟨_, _, rfl⟩ ⟨ho_, hr_⟩ hL hl.1 rfl rfl (Nat.le_of_ble_eq_true rfl) ⟨Nat.le_of_ble_eq_true rfl, Nat.le_of_ble_eq_true rfl⟩ ⟨rfl, rfl⟩ ⟨Nat.le_of_ble_eq_true rfl, Nat.le_of_ble_eq_true rfl⟩ dX1_mostHarmfulSector_36 (fun locs hL => ?_)
          rcases htk : t_ (k) with _ | a
          · have he : none = en σ n (k) := by have h9 := (ht_ (k) (by omega)).1; rw [htk] at h9; exact h9
            refine lv_astoreN (lv' := [(4, .null), (3, .int (iI ((k : Int)))), (2, .int (iI ((wk : Int)))), (1, .ref (b + 5 + 2 * n)), (0, .ref (b))]) E.1 E.2.1 dX1_mostHarmfulSector_39 hl (by decide) rfl (fun ls hl => ?_)
            refine lv_aloadN E.1 E.2.1 dX1_mostHarmfulSector_41 (lv_at hl 0 rfl) ?_
            refine lv_ifnullN (tgt := 57) E.1 E.2.1 dX1_mostHarmfulSector_43 (by decide) ?_
            refine r_inc (lv' := [(3, .int (iI ((k : Int) + 1))), (4, .null), (2, .int (iI ((wk : Int)))), (1, .ref (b + 5 + 2 * n)), (0, .ref (b))]) E dX1_mostHarmfulSector_57 hl (k := 1) rfl (by decide) rfl (fun ls hl => ?_)
            refine lv_goto (tgt := 28) E.1 E.2.1 dX1_mostHarmfulSector_60 (by decide) ?_
            refine ihin28 _ ?_ (k + 1) (mhF σ n (k + 1)) ((k : Int) + 1) ((wk : Int)) ls locs ?_ ?_ ?_ ?_ ?_ rfl (lv_sub hl [0, 2, 3, 4] rfl) hL
            · omega
            · omega
            · rfl
            · omega
            · rw [hwk]; simp only [mhF, ← he]
            · simp only [mhF, ← he]; rw [← hwk]; omega
          · obtain ⟨f, hf⟩ := (ht_ (k) (by omega)).2 a htk
            have he : some f = en σ n (k) := by have h9 := (ht_ (k) (by omega)).1; rw [htk] at h9; rw [← h9]; exact hf.symm
            have hfb := hI.ent2 (n := n) (k := k) (by omega) (by omega) he.symm
            refine lv_astore (lv' := [(4, .ref (a)), (3, .int (iI ((k : Int)))), (2, .int (iI ((wk : Int)))), (1, .ref (b + 5 + 2 * n)), (0, .ref (b))]) E.1 E.2.1 dX1_mostHarmfulSector_39 hl (by decide) rfl (fun ls hl => ?_)
            refine lv_aload E.1 E.2.1 dX1_mostHarmfulSector_41 (lv_at hl 0 rfl) ?_
            refine lv_ifnull E.1 E.2.1 dX1_mostHarmfulSector_43 ?_
            refine lv_aload_n E.1 E.2.1 dX1_mostHarmfulSector_46 rfl (lv_at hl 4 rfl) ?_
            refine lv_iload_n E.1 E.2.1 dX1_mostHarmfulSector_47 rfl (lv_at hl 2 rfl) ?_
            refine lv_aload E.1 E.2.1 dX1_mostHarmfulSector_48 (lv_at hl 0 rfl) ?_
            refine m_get E (hFl.2 a f hf).2 fw_X1_90 rfl dX1_mostHarmfulSector_50 ?_
            refine kVRE (As := [.int (iI ((wk : Int))), .int (iI ((f.1 : Int)))]) E cw_X1_150 (c_X1_moreHarmful G l b fb fl σ hI (wk) (f.1) (by omega) (by omega)) hP.1 ⟨_, _, rfl⟩ ⟨hP, hFl⟩ hL hl.1 rfl rfl (Nat.le_of_ble_eq_true rfl) ⟨Nat.le_of_ble_eq_true rfl, Nat.le_of_ble_eq_true rfl⟩ ⟨rfl, rfl⟩ ⟨Nat.le_of_ble_eq_true rfl, Nat.le_of_ble_eq_true rfl⟩ dX1_mostHarmfulSector_53 (fun locs hL => ?_)
            refine lv_istore_n (lv' := [(2, .int (iI ((mh (hurtCnt σ) (wk) (f.1) : Int)))), (4, .ref (a)), (3, .int (iI ((k : Int)))), (1, .ref (b + 5 + 2 * n)), (0, .ref (b))]) E.1 E.2.1 dX1_mostHarmfulSector_56 rfl hl (by decide) rfl (fun ls hl => ?_)
            refine r_inc (lv' := [(3, .int (iI ((k : Int) + 1))), (2, .int (iI ((mh (hurtCnt σ) (wk) (f.1) : Int)))), (4, .ref (a)), (1, .ref (b + 5 + 2 * n)), (0, .ref (b))]) E dX1_mostHarmfulSector_57 hl (k := 2) rfl (by decide) rfl (fun ls hl => ?_)
            refine lv_goto (tgt := 28) E.1 E.2.1 dX1_mostHarmfulSector_60 (by decide) ?_
            refine ihin28 _ ?_ (k + 1) (mhF σ n (k + 1)) ((k : Int) + 1) ((mh (hurtCnt σ) (wk) (f.1) : Int)) ls locs ?_ ?_ ?_ ?_ ?_ rfl (lv_sub hl [0, 1, 3, 4] rfl) hL
            · omega
            · omega
            · rfl
            · omega
            · simp only [mhF, ← he, hwk]
            · simp only [mhF, ← he]; rw [← hwk]; exact mh_lt (by omega) (by omega)
    refine LP28 _ 0 (mhF σ n 0) 0 ((mh (hurtCnt σ) (0) (se σ n 1) : Int)) ls locs ?_ ?_ ?_ ?_ ?_ rfl (lv_sub hl [0, 1, 2, 3] rfl) hL
    · omega
    · rfl
    · rfl
    · rfl
    · exact mh_lt (by omega) (by omega)
