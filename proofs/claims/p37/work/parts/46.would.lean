set_option maxHeartbeats 4000000 in
set_option maxRecDepth 100000 in
theorem c_L_would (G : GG) (l : Launch) (x fb : Nat) (fl : Nat → Option Fil) (σ : St) (hs : List St) (tx : Nat → Int) (len : Nat) (hS : VS σ) (hT : TxOk tx len) (hfx : x + 179 ≤ fb) (hgx : G.2.2 ≤ x) (v : Int32) : Ct G l yL_would cL_would 16 (some .boolean) ({ frames := 8, cells := 0, slots := 0, locals := 187 } : Room) [.ref (x), .int (v)] (fun H => XAt G x fb fl σ hs tx len H) (RE (iI 1)) := by
  refine Ct.of (by decide +kernel) (Nat.le_of_ble_eq_true rfl) ?_
  intro p e s m args below meth c ls E hnm hP hl
  have hI := hS.1
  have i1 := hI.mn12
  have i2 := hI.nx240
  have i3 := hI.s0b
  have i4 := hI.s1b
  have hrl := roomN_le σ
  have hl : lv_has ls 16 [(0, .ref (x)), (1, .int (v))] := hl
  have hL : Lk G [] := Lk.nil
  generalize ([] : List Loc) = locs at hL ⊢
  have J60_0 : ∀ (v60 : Int) (hv60 : (v60 < 0 ∧ -1000 ≤ v60 ∧ roomN σ = 0) ∨ (0 ≤ v60 ∧ v60 = (roomN σ : Int))) (ls : Array Slot) (locs : List Loc) (hl : lv_has ls 16 [(0, .ref (x)), (1, .int (v))]) (hL : Lk G locs), W p l e ({ frames := 8, cells := 0, slots := 0, locals := 187 } : Room) s m args below meth c s.heap locs 0 0 (QQ G below args s ({ frames := 8, cells := 0, slots := 0, locals := 187 } : Room) (RE (iI 1))) (F0 m 60 ls [.int (iI (v60))]) := by
    intro v60 hv60 ls locs hl hL
    refine lv_istore_n (lv' := [(3, .int (iI (v60))), (0, .ref (x)), (1, .int (v))]) E.1 E.2.1 dL_would_60 rfl hl (by decide) rfl (fun ls hl => ?_)
    have J70_1 : ∀ (v70 : Int) (hv70 : v70 = (roomN σ : Int)) (ls : Array Slot) (locs : List Loc) (hl : lv_has ls 16 [(3, .int (iI (v60))), (0, .ref (x)), (1, .int (v))]) (hL : Lk G locs), W p l e ({ frames := 8, cells := 0, slots := 0, locals := 187 } : Room) s m args below meth c s.heap locs 0 0 (QQ G below args s ({ frames := 8, cells := 0, slots := 0, locals := 187 } : Room) (RE (iI 1))) (F0 m 70 ls [.int (iI (v70))]) := by
      intro v70 hv70 ls locs hl hL
      refine lv_istore_n (lv' := [(3, .int (iI (v70))), (0, .ref (x)), (1, .int (v))]) E.1 E.2.1 dL_would_70 rfl hl (by decide) rfl (fun ls hl => ?_)
      refine lv_iload_n E.1 E.2.1 dL_would_71 rfl (lv_at hl 2 rfl) ?_
      refine r_bipush E dL_would_72 (by decide) ?_
      refine kSRE (As := [.int (v), .int (iI (42))]) E cw_L_72 (c_L_low G l (v) (42) (by omega)) trivial hL hl.1 rfl rfl (Nat.le_of_ble_eq_true rfl) ⟨Nat.le_of_ble_eq_true rfl, Nat.le_of_ble_eq_true rfl⟩ ⟨rfl, rfl⟩ ⟨Nat.le_of_ble_eq_true rfl, Nat.le_of_ble_eq_true rfl⟩ dL_would_74 (fun locs hL => ?_)
      obtain ⟨w3, hw3⟩ : ∃ z : Int, lowI (v) (42) = z := ⟨_, rfl⟩
      have hw3b : 0 ≤ w3 ∧ w3 < (42) := by rw [← hw3]; exact low_b _ (by omega)
      rw [hw3]
      refine lv_istore (lv' := [(4, .int (iI (w3))), (3, .int (iI (v70))), (0, .ref (x)), (1, .int (v))]) E.1 E.2.1 dL_would_77 hl (by decide) rfl (fun ls hl => ?_)
      have J96_3 : ∀ (v96 : Int) (hv96 : (v96 = 1 ∧ (w3 = 0 ∨ w3 = 41)) ∨ (v96 = 0 ∧ 1 ≤ w3 ∧ w3 ≤ 40)) (ls : Array Slot) (locs : List Loc) (hl : lv_has ls 16 [(4, .int (iI (w3))), (3, .int (iI (v70))), (0, .ref (x)), (1, .int (v))]) (hL : Lk G locs), W p l e ({ frames := 8, cells := 0, slots := 0, locals := 187 } : Room) s m args below meth c s.heap locs 0 0 (QQ G below args s ({ frames := 8, cells := 0, slots := 0, locals := 187 } : Room) (RE (iI 1))) (F0 m 96 ls [.int (iI (v96))]) := by
        intro v96 hv96 ls locs hl hL
        refine lv_istore (lv' := [(5, .int (iI (v96))), (4, .int (iI (w3))), (3, .int (iI (v70))), (0, .ref (x)), (1, .int (v))]) E.1 E.2.1 dL_would_96 hl (by decide) rfl (fun ls hl => ?_)
        obtain ⟨lf, hlf⟩ : ∃ a, spFilesLeft σ w3 = a := ⟨_, rfl⟩
        obtain ⟨ea, hea⟩ : ∃ a, spFilesEach σ w3 = a := ⟨_, rfl⟩
        obtain ⟨D9, hsz⟩ : ∃ D : Nat, (v96 = 1 ∧ lf = -2 ∧ ea = -2) ∨ (v96 = 0 ∧ (roomN σ : Int) / w3 = (D : Int) ∧ lf = (D : Int) ∧ D ≤ 240 ∧ 0 ≤ ea ∧ ea ≤ 12 ∧ (0 < ea ↔ 0 < D)) := by
          rcases hv96 with ⟨h8, h9⟩ | ⟨h8, h9⟩
          · exact ⟨0, Or.inl ⟨h8, by rw [← hlf]; exact left_bad h9, by rw [← hea]; exact each_bad h9⟩⟩
          · obtain ⟨q, hq⟩ : ∃ q : Nat, w3 = (q : Int) := ⟨w3.toNat, by omega⟩
            have h7 : 1 ≤ q ∧ q ≤ 40 := by omega
            obtain ⟨a1, a2, a3⟩ := each_ok hI h7 (σ := σ)
            refine ⟨roomN σ / q, Or.inr ⟨h8, by rw [hq]; rfl, by rw [← hlf, hq]; exact left_ok h7, Nat.le_trans (Nat.div_le_self _ _) hrl, ?_⟩⟩
            rw [← hea, hq, a1]
            omega
        refine lv_aload_n E.1 E.2.1 dL_would_98 rfl (lv_at hl 3 rfl) ?_
        refine lv_iload E.1 E.2.1 dL_would_99 (lv_at hl 1 rfl) ?_
        refine kVRE (As := [.int (iI (w3))]) E cw_L_75 (c_X5_filesLeft G l x fb fl σ hs tx len hI hT hfx hgx (w3) (by unfold okI; omega)) hP.1 ⟨_, _, rfl⟩ hP hL hl.1 rfl rfl (Nat.le_of_ble_eq_true rfl) ⟨Nat.le_of_ble_eq_true rfl, Nat.le_of_ble_eq_true rfl⟩ ⟨rfl, rfl⟩ ⟨Nat.le_of_ble_eq_true rfl, Nat.le_of_ble_eq_true rfl⟩ dL_would_101 (fun locs hL => ?_)
        rw [hlf]
        refine lv_istore (lv' := [(6, .int (iI (lf))), (5, .int (iI (v96))), (4, .int (iI (w3))), (3, .int (iI (v70))), (0, .ref (x)), (1, .int (v))]) E.1 E.2.1 dL_would_104 hl (by decide) rfl (fun ls hl => ?_)
        refine lv_aload_n E.1 E.2.1 dL_would_106 rfl (lv_at hl 4 rfl) ?_
        refine lv_iload E.1 E.2.1 dL_would_107 (lv_at hl 2 rfl) ?_
        refine kVRE (As := [.int (iI (w3))]) E cw_L_78 (c_X5_filesEach G l x fb fl σ hs tx len hI hT hfx hgx (w3) (by unfold okI; omega)) hP.1 ⟨_, _, rfl⟩ hP hL hl.1 rfl rfl (Nat.le_of_ble_eq_true rfl) ⟨Nat.le_of_ble_eq_true rfl, Nat.le_of_ble_eq_true rfl⟩ ⟨rfl, rfl⟩ ⟨Nat.le_of_ble_eq_true rfl, Nat.le_of_ble_eq_true rfl⟩ dL_would_109 (fun locs hL => ?_)
        rw [hea]
        refine lv_istore (lv' := [(7, .int (iI (ea))), (6, .int (iI (lf))), (5, .int (iI (v96))), (4, .int (iI (w3))), (3, .int (iI (v70))), (0, .ref (x)), (1, .int (v))]) E.1 E.2.1 dL_would_112 hl (by decide) rfl (fun ls hl => ?_)
        refine lv_iload_n E.1 E.2.1 dL_would_114 rfl (lv_at hl 6 rfl) ?_
        refine r_bipush E dL_would_115 (by decide) ?_
        refine lv_ishr E.1 E.2.1 dL_would_117 ?_
        refine r_sipush E dL_would_118 (by decide) ?_
        refine kSRE (As := [.int (((v) >>> ((iI (6)) &&& 31))), .int (iI (242))]) E cw_L_72 (c_L_low G l (((v) >>> ((iI (6)) &&& 31))) (242) (by omega)) trivial hL hl.1 rfl rfl (Nat.le_of_ble_eq_true rfl) ⟨Nat.le_of_ble_eq_true rfl, Nat.le_of_ble_eq_true rfl⟩ ⟨rfl, rfl⟩ ⟨Nat.le_of_ble_eq_true rfl, Nat.le_of_ble_eq_true rfl⟩ dL_would_121 (fun locs hL => ?_)
        obtain ⟨w5, hw5⟩ : ∃ z : Int, lowI (((v) >>> ((iI (6)) &&& 31))) (242) = z := ⟨_, rfl⟩
        have hw5b : 0 ≤ w5 ∧ w5 < (242) := by rw [← hw5]; exact low_b _ (by omega)
        rw [hw5]
        refine r_const E dL_would_124 ?_
        refine r_sub E dL_would_125 ?_
        refine lv_istore (lv' := [(8, .int (iI (w5 - 1))), (7, .int (iI (ea))), (6, .int (iI (lf))), (5, .int (iI (v96))), (4, .int (iI (w3))), (3, .int (iI (v70))), (0, .ref (x)), (1, .int (v))]) E.1 E.2.1 dL_would_126 hl (by decide) rfl (fun ls hl => ?_)
        have J146_5 : ∀ (v146 : Int) (hv146 : (v146 = 1 ∧ ((w5 - 1) < 0 ∨ 239 < (w5 - 1))) ∨ (v146 = 0 ∧ 0 ≤ (w5 - 1) ∧ (w5 - 1) ≤ 239)) (ls : Array Slot) (locs : List Loc) (hl : lv_has ls 16 [(8, .int (iI (w5 - 1))), (7, .int (iI (ea))), (6, .int (iI (lf))), (5, .int (iI (v96))), (4, .int (iI (w3))), (3, .int (iI (v70))), (0, .ref (x)), (1, .int (v))]) (hL : Lk G locs), W p l e ({ frames := 8, cells := 0, slots := 0, locals := 187 } : Room) s m args below meth c s.heap locs 0 0 (QQ G below args s ({ frames := 8, cells := 0, slots := 0, locals := 187 } : Room) (RE (iI 1))) (F0 m 146 ls [.int (iI (v146))]) := by
          intro v146 hv146 ls locs hl hL
          refine lv_istore (lv' := [(9, .int (iI (v146))), (8, .int (iI (w5 - 1))), (7, .int (iI (ea))), (6, .int (iI (lf))), (5, .int (iI (v96))), (4, .int (iI (w3))), (3, .int (iI (v70))), (0, .ref (x)), (1, .int (v))]) E.1 E.2.1 dL_would_146 hl (by decide) rfl (fun ls hl => ?_)
          obtain ⟨vi, hvi⟩ : ∃ a, spValidIf σ (w5 - 1) = a := ⟨_, rfl⟩
          obtain ⟨sv, hsv⟩ : ∃ a, spValid σ = a := ⟨_, rfl⟩
          have hsv2 : oI (validD σ (dm σ)) = sv := hsv
          have hvb := oI_b (o := validD σ (dm σ)) (N := 12) (fun n h => Nat.lt_of_lt_of_le (validD_lt h) i1)
          rw [hsv2] at hvb
          have hvib : -6 ≤ vi ∧ vi < 13 := by
            rw [← hvi]; unfold spValidIf; split
            · omega
            · exact oI_b (o := validD σ (dmH σ (w5 - 1))) (N := 12) (fun n h => Nat.lt_of_lt_of_le (validD_lt h) i1)
          refine lv_aload_n E.1 E.2.1 dL_would_148 rfl (lv_at hl 7 rfl) ?_
          refine lv_iload E.1 E.2.1 dL_would_149 (lv_at hl 1 rfl) ?_
          refine kVRE (As := [.int (iI (w5 - 1))]) E cw_L_81 (c_X5_validIf G l x fb fl σ hs tx len hI hT hfx hgx (w5 - 1) (by unfold okI; omega)) hP.1 ⟨_, _, rfl⟩ hP hL hl.1 rfl rfl (Nat.le_of_ble_eq_true rfl) ⟨Nat.le_of_ble_eq_true rfl, Nat.le_of_ble_eq_true rfl⟩ ⟨rfl, rfl⟩ ⟨Nat.le_of_ble_eq_true rfl, Nat.le_of_ble_eq_true rfl⟩ dL_would_151 (fun locs hL => ?_)
          rw [hvi]
          refine lv_istore (lv' := [(10, .int (iI (vi))), (9, .int (iI (v146))), (8, .int (iI (w5 - 1))), (7, .int (iI (ea))), (6, .int (iI (lf))), (5, .int (iI (v96))), (4, .int (iI (w3))), (3, .int (iI (v70))), (0, .ref (x)), (1, .int (v))]) E.1 E.2.1 dL_would_154 hl (by decide) rfl (fun ls hl => ?_)
          refine lv_iload_n E.1 E.2.1 dL_would_156 rfl (lv_at hl 9 rfl) ?_
          refine r_bipush E dL_would_157 (by decide) ?_
          refine lv_ishr E.1 E.2.1 dL_would_159 ?_
          refine r_bipush E dL_would_160 (by decide) ?_
          refine kSRE (As := [.int (((v) >>> ((iI (9)) &&& 31))), .int (iI (22))]) E cw_L_72 (c_L_low G l (((v) >>> ((iI (9)) &&& 31))) (22) (by omega)) trivial hL hl.1 rfl rfl (Nat.le_of_ble_eq_true rfl) ⟨Nat.le_of_ble_eq_true rfl, Nat.le_of_ble_eq_true rfl⟩ ⟨rfl, rfl⟩ ⟨Nat.le_of_ble_eq_true rfl, Nat.le_of_ble_eq_true rfl⟩ dL_would_162 (fun locs hL => ?_)
          obtain ⟨w7, hw7⟩ : ∃ z : Int, lowI (((v) >>> ((iI (9)) &&& 31))) (22) = z := ⟨_, rfl⟩
          have hw7b : 0 ≤ w7 ∧ w7 < (22) := by rw [← hw7]; exact low_b _ (by omega)
          rw [hw7]
          refine r_const E dL_would_165 ?_
          refine r_sub E dL_would_166 ?_
          refine lv_istore (lv' := [(11, .int (iI (w7 - 1))), (10, .int (iI (vi))), (9, .int (iI (v146))), (8, .int (iI (w5 - 1))), (7, .int (iI (ea))), (6, .int (iI (lf))), (5, .int (iI (v96))), (4, .int (iI (w3))), (3, .int (iI (v70))), (0, .ref (x)), (1, .int (v))]) E.1 E.2.1 dL_would_167 hl (by decide) rfl (fun ls hl => ?_)
          have J186_7 : ∀ (v186 : Int) (hv186 : (v186 = 1 ∧ ((w7 - 1) < 0 ∨ 19 < (w7 - 1))) ∨ (v186 = 0 ∧ 0 ≤ (w7 - 1) ∧ (w7 - 1) ≤ 19)) (ls : Array Slot) (locs : List Loc) (hl : lv_has ls 16 [(11, .int (iI (w7 - 1))), (10, .int (iI (vi))), (9, .int (iI (v146))), (8, .int (iI (w5 - 1))), (7, .int (iI (ea))), (6, .int (iI (lf))), (5, .int (iI (v96))), (4, .int (iI (w3))), (3, .int (iI (v70))), (0, .ref (x)), (1, .int (v))]) (hL : Lk G locs), W p l e ({ frames := 8, cells := 0, slots := 0, locals := 187 } : Room) s m args below meth c s.heap locs 0 0 (QQ G below args s ({ frames := 8, cells := 0, slots := 0, locals := 187 } : Room) (RE (iI 1))) (F0 m 186 ls [.int (iI (v186))]) := by
            intro v186 hv186 ls locs hl hL
            refine lv_istore (lv' := [(12, .int (iI (v186))), (11, .int (iI (w7 - 1))), (10, .int (iI (vi))), (9, .int (iI (v146))), (8, .int (iI (w5 - 1))), (7, .int (iI (ea))), (6, .int (iI (lf))), (5, .int (iI (v96))), (4, .int (iI (w3))), (3, .int (iI (v70))), (0, .ref (x)), (1, .int (v))]) E.1 E.2.1 dL_would_186 hl (by decide) rfl (fun ls hl => ?_)
            obtain ⟨lt, hlt⟩ : ∃ a, spLatest σ (w7 - 1) = a := ⟨_, rfl⟩
            have hwl := worst_lt hI
            refine lv_aload_n E.1 E.2.1 dL_would_188 rfl (lv_at hl 10 rfl) ?_
            refine lv_iload E.1 E.2.1 dL_would_189 (lv_at hl 1 rfl) ?_
            refine kVRE (As := [.int (iI (w7 - 1))]) E cw_L_84 (c_X5_latestIntact G l x fb fl σ hs tx len hI hT hfx hgx (w7 - 1) (by unfold okI; omega)) hP.1 ⟨_, _, rfl⟩ hP hL hl.1 rfl rfl (Nat.le_of_ble_eq_true rfl) ⟨Nat.le_of_ble_eq_true rfl, Nat.le_of_ble_eq_true rfl⟩ ⟨rfl, rfl⟩ ⟨Nat.le_of_ble_eq_true rfl, Nat.le_of_ble_eq_true rfl⟩ dL_would_191 (fun locs hL => ?_)
            rw [hlt]
            refine lv_istore (lv' := [(13, .int (iI (lt))), (12, .int (iI (v186))), (11, .int (iI (w7 - 1))), (10, .int (iI (vi))), (9, .int (iI (v146))), (8, .int (iI (w5 - 1))), (7, .int (iI (ea))), (6, .int (iI (lf))), (5, .int (iI (v96))), (4, .int (iI (w3))), (3, .int (iI (v70))), (0, .ref (x)), (1, .int (v))]) E.1 E.2.1 dL_would_194 hl (by decide) rfl (fun ls hl => ?_)
            refine lv_aload_n E.1 E.2.1 dL_would_196 rfl (lv_at hl 11 rfl) ?_
            refine kVRE (As := []) E cw_L_87 (c_X5_worstSector G l x fb fl σ hs tx len hI hT hfx hgx  ) hP.1 ⟨_, _, rfl⟩ hP hL hl.1 rfl rfl (Nat.le_of_ble_eq_true rfl) ⟨Nat.le_of_ble_eq_true rfl, Nat.le_of_ble_eq_true rfl⟩ ⟨rfl, rfl⟩ ⟨Nat.le_of_ble_eq_true rfl, Nat.le_of_ble_eq_true rfl⟩ dL_would_197 (fun locs hL => ?_)
            refine lv_istore (lv' := [(14, .int (iI ((worstH σ : Int)))), (13, .int (iI (lt))), (12, .int (iI (v186))), (11, .int (iI (w7 - 1))), (10, .int (iI (vi))), (9, .int (iI (v146))), (8, .int (iI (w5 - 1))), (7, .int (iI (ea))), (6, .int (iI (lf))), (5, .int (iI (v96))), (4, .int (iI (w3))), (3, .int (iI (v70))), (0, .ref (x)), (1, .int (v))]) E.1 E.2.1 dL_would_200 hl (by decide) rfl (fun ls hl => ?_)
            have J269_8 : ∀ (v269 : Int) (hv269 : (v146 = 1 ∧ v269 = 0) ∨ (v146 = 0 ∧ v269 = 1 ∧ vi < sv) ∨ (v146 = 0 ∧ v269 = 0 ∧ vi = sv)) (ls : Array Slot) (locs : List Loc) (hl : lv_has ls 16 [(14, .int (iI ((worstH σ : Int)))), (13, .int (iI (lt))), (12, .int (iI (v186))), (11, .int (iI (w7 - 1))), (10, .int (iI (vi))), (9, .int (iI (v146))), (8, .int (iI (w5 - 1))), (7, .int (iI (ea))), (6, .int (iI (lf))), (5, .int (iI (v96))), (4, .int (iI (w3))), (3, .int (iI (v70))), (0, .ref (x)), (1, .int (v))]) (hL : Lk G locs), W p l e ({ frames := 8, cells := 0, slots := 0, locals := 187 } : Room) s m args below meth c s.heap locs 0 0 (QQ G below args s ({ frames := 8, cells := 0, slots := 0, locals := 187 } : Room) (RE (iI 1))) (F0 m 269 ls [.int (iI (v269))]) := by
              intro v269 hv269 ls locs hl hL
              refine lv_istore (lv' := [(15, .int (iI (v269))), (14, .int (iI ((worstH σ : Int)))), (13, .int (iI (lt))), (12, .int (iI (v186))), (11, .int (iI (w7 - 1))), (10, .int (iI (vi))), (9, .int (iI (v146))), (8, .int (iI (w5 - 1))), (7, .int (iI (ea))), (6, .int (iI (lf))), (5, .int (iI (v96))), (4, .int (iI (w3))), (3, .int (iI (v70))), (0, .ref (x)), (1, .int (v))]) E.1 E.2.1 dL_would_269 hl (by decide) rfl (fun ls hl => ?_)
              have hlg := larg_v σ
              refine lv_aload_n E.1 E.2.1 dL_would_271 rfl (lv_at hl 13 rfl) ?_
              refine kVRE (As := []) E cw_L_90 (c_X5_largest G l x fb fl σ hs tx len hI hT hfx hgx  ) hP.1 ⟨_, _, rfl⟩ hP hL hl.1 rfl rfl (Nat.le_of_ble_eq_true rfl) ⟨Nat.le_of_ble_eq_true rfl, Nat.le_of_ble_eq_true rfl⟩ ⟨rfl, rfl⟩ ⟨Nat.le_of_ble_eq_true rfl, Nat.le_of_ble_eq_true rfl⟩ dL_would_272 (fun locs hL => ?_)
              have J287_9 : ∀ (v287 : Int) (hv287 : v287 = spLargest σ) (ls : Array Slot) (locs : List Loc) (hl : lv_has ls 16 [(15, .int (iI (v269))), (14, .int (iI ((worstH σ : Int)))), (13, .int (iI (lt))), (12, .int (iI (v186))), (11, .int (iI (w7 - 1))), (10, .int (iI (vi))), (9, .int (iI (v146))), (8, .int (iI (w5 - 1))), (7, .int (iI (ea))), (6, .int (iI (lf))), (5, .int (iI (v96))), (4, .int (iI (w3))), (3, .int (iI (v70))), (0, .ref (x)), (1, .int (v))]) (hL : Lk G locs), W p l e ({ frames := 8, cells := 0, slots := 0, locals := 187 } : Room) s m args below meth c s.heap locs 0 0 (QQ G below args s ({ frames := 8, cells := 0, slots := 0, locals := 187 } : Room) (RE (iI 1))) (F0 m 287 ls [.int (iI (v287)), .int (iI (spLargest σ))]) := by
                intro v287 hv287 ls locs hl hL
                refine r_icmp_ne (tgt := 474) E dL_would_287 (by decide) (by omega) (by omega) (fun c287 => absurd c287 (by omega)) (fun c287 => ?_)
                have J356_10 : ∀ (ls : Array Slot) (locs : List Loc) (hl : lv_has ls 16 [(15, .int (iI (v269))), (14, .int (iI ((worstH σ : Int)))), (13, .int (iI (lt))), (12, .int (iI (v186))), (11, .int (iI (w7 - 1))), (10, .int (iI (vi))), (9, .int (iI (v146))), (8, .int (iI (w5 - 1))), (7, .int (iI (ea))), (6, .int (iI (lf))), (5, .int (iI (v96))), (4, .int (iI (w3))), (3, .int (iI (v70))), (0, .ref (x)), (1, .int (v))]) (hL : Lk G locs), W p l e ({ frames := 8, cells := 0, slots := 0, locals := 187 } : Room) s m args below meth c s.heap locs 0 0 (QQ G below args s ({ frames := 8, cells := 0, slots := 0, locals := 187 } : Room) (RE (iI 1))) (F0 m 356 ls []) := by
                  intro ls locs hl hL
                  have J396_11 : ∀ (ls : Array Slot) (locs : List Loc) (hl : lv_has ls 16 [(15, .int (iI (v269))), (14, .int (iI ((worstH σ : Int)))), (13, .int (iI (lt))), (12, .int (iI (v186))), (11, .int (iI (w7 - 1))), (10, .int (iI (vi))), (9, .int (iI (v146))), (8, .int (iI (w5 - 1))), (7, .int (iI (ea))), (6, .int (iI (lf))), (5, .int (iI (v96))), (4, .int (iI (w3))), (3, .int (iI (v70))), (0, .ref (x)), (1, .int (v))]) (hL : Lk G locs), W p l e ({ frames := 8, cells := 0, slots := 0, locals := 187 } : Room) s m args below meth c s.heap locs 0 0 (QQ G below args s ({ frames := 8, cells := 0, slots := 0, locals := 187 } : Room) (RE (iI 1))) (F0 m 396 ls []) := by
                    intro ls locs hl hL
                    have J457_12 : ∀ (ls : Array Slot) (locs : List Loc) (hl : lv_has ls 16 [(15, .int (iI (v269))), (14, .int (iI ((worstH σ : Int)))), (13, .int (iI (lt))), (12, .int (iI (v186))), (11, .int (iI (w7 - 1))), (10, .int (iI (vi))), (9, .int (iI (v146))), (8, .int (iI (w5 - 1))), (7, .int (iI (ea))), (6, .int (iI (lf))), (5, .int (iI (v96))), (4, .int (iI (w3))), (3, .int (iI (v70))), (0, .ref (x)), (1, .int (v))]) (hL : Lk G locs), W p l e ({ frames := 8, cells := 0, slots := 0, locals := 187 } : Room) s m args below meth c s.heap locs 0 0 (QQ G below args s ({ frames := 8, cells := 0, slots := 0, locals := 187 } : Room) (RE (iI 1))) (F0 m 457 ls []) := by
                      intro ls locs hl hL
                      refine lv_iload E.1 E.2.1 dL_would_457 (lv_at hl 1 rfl) ?_
                      refine r_if_lt (tgt := 474) E dL_would_459 (by decide) (by omega) (fun c459 => absurd c459 (by omega)) (fun c459 => ?_)
                      refine lv_iload E.1 E.2.1 dL_would_462 (lv_at hl 1 rfl) ?_
                      refine r_sipush E dL_would_464 (by decide) ?_
                      refine r_icmp_ge (tgt := 474) E dL_would_467 (by decide) (by omega) (by omega) (fun c467 => absurd c467 (by omega)) (fun c467 => ?_)
                      refine r_const E dL_would_470 ?_
                      refine lv_goto (tgt := 475) E.1 E.2.1 dL_would_471 (by decide) ?_
                      refine e_zret (rm := ({ frames := 8, cells := 0, slots := 0, locals := 187 } : Room)) (v := iI (1)) E hL rfl dL_would_475 ?_
                      exact ⟨rfl, rfl⟩
                    refine lv_iload E.1 E.2.1 dL_would_396 (lv_at hl 3 rfl) ?_
                    refine r_if_eq (tgt := 410) E dL_would_398 (by decide) (by omega) (fun c398 => ?_) (fun c398 => ?_)
                    · obtain ⟨k, hk⟩ : ∃ k : Nat, w7 - 1 = (k : Int) := ⟨(w7 - 1).toNat, by omega⟩
                      have hk20 : k < 20 := by omega
                      have hlk := latest_ok σ hk20
                      rw [← hk, hlt] at hlk
                      rcases hlk with h5 | ⟨w5, v5, f5, h5, h51, h52, h53, h54, h55⟩
                      · refine lv_iload E.1 E.2.1 dL_would_410 (lv_at hl 2 rfl) ?_
                        refine r_bipush E dL_would_412 (by decide) ?_
                        refine r_icmp_eq (tgt := 457) E dL_would_414 (by decide) (by omega) (by omega) (fun c414 => ?_) (fun c414 => absurd c414 (by omega))
                        exact J457_12 ls locs (lv_sub hl [0, 1, 2, 3, 4, 5, 6, 7, 8, 9, 10, 11, 12, 13, 14] rfl) hL
                      · have h6 : sv = (v5 : Int) := by rw [← hsv2, h51]; rfl
                        have hb2 := hI.ent2 h53 hk20 h55
                        have h57 : spEntry σ lt (w7 - 1) 0 = (f5.1 : Int) := by rw [h5, hk]; exact spEnt0 h53 hk20 h55
                        have h58 : spSession σ lt 6 = 1 := by rw [h5, spSes6 h53, h54]; rfl
                        refine lv_iload E.1 E.2.1 dL_would_410 (lv_at hl 2 rfl) ?_
                        refine r_bipush E dL_would_412 (by decide) ?_
                        refine r_icmp_eq (tgt := 457) E dL_would_414 (by decide) (by omega) (by omega) (fun c414 => absurd c414 (by omega)) (fun c414 => ?_)
                        refine lv_iload E.1 E.2.1 dL_would_417 (lv_at hl 2 rfl) ?_
                        refine r_if_lt (tgt := 474) E dL_would_419 (by decide) (by omega) (fun c419 => absurd c419 (by omega)) (fun c419 => ?_)
                        refine lv_iload E.1 E.2.1 dL_would_422 (lv_at hl 2 rfl) ?_
                        refine lv_aload_n E.1 E.2.1 dL_would_424 rfl (lv_at hl 13 rfl) ?_
                        refine kVRE (As := []) E cw_L_55 (c_X5_valid G l x fb fl σ hs tx len hI hT hfx hgx  ) hP.1 ⟨_, _, rfl⟩ hP hL hl.1 rfl rfl (Nat.le_of_ble_eq_true rfl) ⟨Nat.le_of_ble_eq_true rfl, Nat.le_of_ble_eq_true rfl⟩ ⟨rfl, rfl⟩ ⟨Nat.le_of_ble_eq_true rfl, Nat.le_of_ble_eq_true rfl⟩ dL_would_425 (fun locs hL => ?_)
                        rw [hsv]
                        refine r_icmp_gt (tgt := 474) E dL_would_428 (by decide) (by omega) (by omega) (fun c428 => absurd c428 (by omega)) (fun c428 => ?_)
                        refine lv_aload_n E.1 E.2.1 dL_would_431 rfl (lv_at hl 13 rfl) ?_
                        refine lv_iload E.1 E.2.1 dL_would_432 (lv_at hl 2 rfl) ?_
                        refine r_bipush E dL_would_434 (by decide) ?_
                        refine kVRE (As := [.int (iI (lt)), .int (iI (6))]) E cw_L_29 (c_X5_session G l x fb fl σ hs tx len hI hT hfx hgx (lt) (6) (by unfold okI; omega) (by unfold okI; omega)) hP.1 ⟨_, _, rfl⟩ hP hL hl.1 rfl rfl (Nat.le_of_ble_eq_true rfl) ⟨Nat.le_of_ble_eq_true rfl, Nat.le_of_ble_eq_true rfl⟩ ⟨rfl, rfl⟩ ⟨Nat.le_of_ble_eq_true rfl, Nat.le_of_ble_eq_true rfl⟩ dL_would_436 (fun locs hL => ?_)
                        rw [h58]
                        refine r_const E dL_would_439 ?_
                        refine r_icmp_ne (tgt := 474) E dL_would_440 (by decide) (by omega) (by omega) (fun c440 => absurd c440 (by omega)) (fun c440 => ?_)
                        refine lv_aload_n E.1 E.2.1 dL_would_443 rfl (lv_at hl 13 rfl) ?_
                        refine lv_iload E.1 E.2.1 dL_would_444 (lv_at hl 2 rfl) ?_
                        refine lv_iload E.1 E.2.1 dL_would_446 (lv_at hl 4 rfl) ?_
                        refine r_const E dL_would_448 ?_
                        refine kVRE (As := [.int (iI (lt)), .int (iI (w7 - 1)), .int (iI (0))]) E cw_L_33 (c_X5_entry G l x fb fl σ hs tx len hI hT hfx hgx (lt) (w7 - 1) (0) (by unfold okI; omega) (by unfold okI; omega) (by unfold okI; omega)) hP.1 ⟨_, _, rfl⟩ hP hL hl.1 rfl rfl (Nat.le_of_ble_eq_true rfl) ⟨Nat.le_of_ble_eq_true rfl, Nat.le_of_ble_eq_true rfl⟩ ⟨rfl, rfl⟩ ⟨Nat.le_of_ble_eq_true rfl, Nat.le_of_ble_eq_true rfl⟩ dL_would_449 (fun locs hL => ?_)
                        rw [h57]
                        refine r_bipush E dL_would_452 (by decide) ?_
                        refine r_icmp_eq (tgt := 474) E dL_would_454 (by decide) (by omega) (by omega) (fun c454 => absurd c454 (by omega)) (fun c454 => ?_)
                        exact J457_12 ls locs (lv_sub hl [0, 1, 2, 3, 4, 5, 6, 7, 8, 9, 10, 11, 12, 13, 14] rfl) hL
                    · have h7 : lt = -1 := by rw [← hlt]; exact latest_out σ (by omega)
                      refine lv_iload E.1 E.2.1 dL_would_401 (lv_at hl 2 rfl) ?_
                      refine r_const E dL_would_403 ?_
                      refine r_icmp_ne (tgt := 474) E dL_would_404 (by decide) (by omega) (by omega) (fun c404 => absurd c404 (by omega)) (fun c404 => ?_)
                      refine lv_goto (tgt := 457) E.1 E.2.1 dL_would_407 (by decide) ?_
                      exact J457_12 ls locs (lv_sub hl [0, 1, 2, 3, 4, 5, 6, 7, 8, 9, 10, 11, 12, 13, 14] rfl) hL
                  refine lv_iload E.1 E.2.1 dL_would_356 (lv_at hl 6 rfl) ?_
                  refine r_if_eq (tgt := 370) E dL_would_358 (by decide) (by omega) (fun c358 => ?_) (fun c358 => ?_)
                  · refine lv_iload E.1 E.2.1 dL_would_370 (lv_at hl 0 rfl) ?_
                    refine r_if_eq (tgt := 387) E dL_would_372 (by decide) (by omega) (fun c372 => ?_) (fun c372 => ?_)
                    · refine lv_iload E.1 E.2.1 dL_would_387 (lv_at hl 5 rfl) ?_
                      refine lv_aload_n E.1 E.2.1 dL_would_389 rfl (lv_at hl 13 rfl) ?_
                      refine kVRE (As := []) E cw_L_55 (c_X5_valid G l x fb fl σ hs tx len hI hT hfx hgx  ) hP.1 ⟨_, _, rfl⟩ hP hL hl.1 rfl rfl (Nat.le_of_ble_eq_true rfl) ⟨Nat.le_of_ble_eq_true rfl, Nat.le_of_ble_eq_true rfl⟩ ⟨rfl, rfl⟩ ⟨Nat.le_of_ble_eq_true rfl, Nat.le_of_ble_eq_true rfl⟩ dL_would_390 (fun locs hL => ?_)
                      rw [hsv]
                      refine r_icmp_ne (tgt := 474) E dL_would_393 (by decide) (by omega) (by omega) (fun c393 => absurd c393 (by omega)) (fun c393 => ?_)
                      exact J396_11 ls locs (lv_sub hl [0, 1, 2, 3, 4, 5, 6, 7, 8, 9, 10, 11, 12, 13, 14] rfl) hL
                    · refine lv_iload E.1 E.2.1 dL_would_375 (lv_at hl 5 rfl) ?_
                      refine lv_aload_n E.1 E.2.1 dL_would_377 rfl (lv_at hl 13 rfl) ?_
                      refine kVRE (As := []) E cw_L_55 (c_X5_valid G l x fb fl σ hs tx len hI hT hfx hgx  ) hP.1 ⟨_, _, rfl⟩ hP hL hl.1 rfl rfl (Nat.le_of_ble_eq_true rfl) ⟨Nat.le_of_ble_eq_true rfl, Nat.le_of_ble_eq_true rfl⟩ ⟨rfl, rfl⟩ ⟨Nat.le_of_ble_eq_true rfl, Nat.le_of_ble_eq_true rfl⟩ dL_would_378 (fun locs hL => ?_)
                      rw [hsv]
                      refine r_icmp_ge (tgt := 474) E dL_would_381 (by decide) (by omega) (by omega) (fun c381 => absurd c381 (by omega)) (fun c381 => ?_)
                      refine lv_goto (tgt := 396) E.1 E.2.1 dL_would_384 (by decide) ?_
                      exact J396_11 ls locs (lv_sub hl [0, 1, 2, 3, 4, 5, 6, 7, 8, 9, 10, 11, 12, 13, 14] rfl) hL
                  · have h7 : vi = -1 := by rw [← hvi]; exact vif_out σ (by omega)
                    refine lv_iload E.1 E.2.1 dL_would_361 (lv_at hl 5 rfl) ?_
                    refine r_const E dL_would_363 ?_
                    refine r_icmp_ne (tgt := 474) E dL_would_364 (by decide) (by omega) (by omega) (fun c364 => absurd c364 (by omega)) (fun c364 => ?_)
                    refine lv_goto (tgt := 396) E.1 E.2.1 dL_would_367 (by decide) ?_
                    exact J396_11 ls locs (lv_sub hl [0, 1, 2, 3, 4, 5, 6, 7, 8, 9, 10, 11, 12, 13, 14] rfl) hL
                refine lv_iload E.1 E.2.1 dL_would_290 (lv_at hl 10 rfl) ?_
                refine r_if_eq (tgt := 312) E dL_would_292 (by decide) (by omega) (fun c292 => ?_) (fun c292 => ?_)
                · obtain ⟨h8, hD1, hD2, hD3, hD4, hD5, hD6⟩ : v96 = 0 ∧ (roomN σ : Int) / w3 = (D9 : Int) ∧ lf = (D9 : Int) ∧ D9 ≤ 240 ∧ 0 ≤ ea ∧ ea ≤ 12 ∧ (0 < ea ↔ 0 < D9) := by rcases hsz with h9 | h9 <;> first | exact h9 | omega
                  clear hsz
                  refine lv_iload E.1 E.2.1 dL_would_312 (lv_at hl 9 rfl) ?_
                  refine lv_iload_n E.1 E.2.1 dL_would_314 rfl (lv_at hl 12 rfl) ?_
                  refine lv_iload E.1 E.2.1 dL_would_315 (lv_at hl 11 rfl) ?_
                  refine r_div E dL_would_317 (by omega) (by omega) (by omega) (by omega) ?_
                  rw [show (v70) / (w3) = (D9 : Int) by rw [hv70]; exact hD1]
                  refine r_icmp_ne (tgt := 474) E dL_would_318 (by decide) (by omega) (by omega) (fun c318 => absurd c318 (by omega)) (fun c318 => ?_)
                  refine lv_iload E.1 E.2.1 dL_would_321 (lv_at hl 8 rfl) ?_
                  refine r_if_lt (tgt := 474) E dL_would_323 (by decide) (by omega) (fun c323 => absurd c323 (by omega)) (fun c323 => ?_)
                  refine lv_iload E.1 E.2.1 dL_would_326 (lv_at hl 8 rfl) ?_
                  refine r_bipush E dL_would_328 (by decide) ?_
                  refine r_icmp_gt (tgt := 474) E dL_would_330 (by decide) (by omega) (by omega) (fun c330 => absurd c330 (by omega)) (fun c330 => ?_)
                  refine lv_iload E.1 E.2.1 dL_would_333 (lv_at hl 8 rfl) ?_
                  refine r_if_le (tgt := 342) E dL_would_335 (by decide) (by omega) (fun c335 => ?_) (fun c335 => ?_)
                  · refine r_const E dL_would_342 ?_
                    refine lv_iload E.1 E.2.1 dL_would_343 (lv_at hl 9 rfl) ?_
                    refine r_if_le (tgt := 352) E dL_would_345 (by decide) (by omega) (fun c345 => ?_) (fun c345 => absurd c345 (by omega))
                    refine r_const E dL_would_352 ?_
                    refine r_icmp_ne (tgt := 474) E dL_would_353 (by decide) (by omega) (by omega) (fun c353 => absurd c353 (by omega)) (fun c353 => ?_)
                    exact J356_10 ls locs (lv_sub hl [0, 1, 2, 3, 4, 5, 6, 7, 8, 9, 10, 11, 12, 13, 14] rfl) hL
                  · refine r_const E dL_would_338 ?_
                    refine lv_goto (tgt := 343) E.1 E.2.1 dL_would_339 (by decide) ?_
                    refine lv_iload E.1 E.2.1 dL_would_343 (lv_at hl 9 rfl) ?_
                    refine r_if_le (tgt := 352) E dL_would_345 (by decide) (by omega) (fun c345 => absurd c345 (by omega)) (fun c345 => ?_)
                    refine r_const E dL_would_348 ?_
                    refine lv_goto (tgt := 353) E.1 E.2.1 dL_would_349 (by decide) ?_
                    refine r_icmp_ne (tgt := 474) E dL_would_353 (by decide) (by omega) (by omega) (fun c353 => absurd c353 (by omega)) (fun c353 => ?_)
                    exact J356_10 ls locs (lv_sub hl [0, 1, 2, 3, 4, 5, 6, 7, 8, 9, 10, 11, 12, 13, 14] rfl) hL
                · refine lv_iload E.1 E.2.1 dL_would_295 (lv_at hl 9 rfl) ?_
                  refine r_bipush E dL_would_297 (by decide) ?_
                  refine r_icmp_ne (tgt := 474) E dL_would_299 (by decide) (by omega) (by omega) (fun c299 => absurd c299 (by omega)) (fun c299 => ?_)
                  refine lv_iload E.1 E.2.1 dL_would_302 (lv_at hl 8 rfl) ?_
                  refine r_bipush E dL_would_304 (by decide) ?_
                  refine r_icmp_ne (tgt := 474) E dL_would_306 (by decide) (by omega) (by omega) (fun c306 => absurd c306 (by omega)) (fun c306 => ?_)
                  refine lv_goto (tgt := 356) E.1 E.2.1 dL_would_309 (by decide) ?_
                  exact J356_10 ls locs (lv_sub hl [0, 1, 2, 3, 4, 5, 6, 7, 8, 9, 10, 11, 12, 13, 14] rfl) hL
              refine lv_iload_n E.1 E.2.1 dL_would_275 rfl (lv_at hl 12 rfl) ?_
              refine r_bipush E dL_would_276 (by decide) ?_
              refine r_icmp_le (tgt := 286) E dL_would_278 (by decide) (by omega) (by omega) (fun c278 => ?_) (fun c278 => ?_)
              · refine lv_iload_n E.1 E.2.1 dL_would_286 rfl (lv_at hl 12 rfl) ?_
                exact J287_9 _ (by omega) ls locs (lv_sub hl [0, 1, 2, 3, 4, 5, 6, 7, 8, 9, 10, 11, 12, 13, 14] rfl) hL
              · refine r_bipush E dL_would_281 (by decide) ?_
                refine lv_goto (tgt := 287) E.1 E.2.1 dL_would_283 (by decide) ?_
                exact J287_9 _ (by omega) ls locs (lv_sub hl [0, 1, 2, 3, 4, 5, 6, 7, 8, 9, 10, 11, 12, 13, 14] rfl) hL
            refine lv_iload E.1 E.2.1 dL_would_202 (lv_at hl 5 rfl) ?_
            refine r_if_ne (tgt := 268) E dL_would_204 (by decide) (by omega) (fun c204 => ?_) (fun c204 => ?_)
            · refine r_const E dL_would_268 ?_
              exact J269_8 _ (by omega) ls locs (lv_sub hl [0, 1, 2, 3, 4, 5, 6, 7, 8, 9, 10, 11, 12, 13] rfl) hL
            · obtain ⟨q, hq⟩ : ∃ q : Nat, w5 - 1 = (q : Int) := ⟨(w5 - 1).toNat, by omega⟩
              have hq2 : q < 240 := by omega
              have hvi2 : vi = oI (validD σ (dmH σ q)) := by rw [← hvi, hq]; exact vif_in σ hq2
              have hub := spUse_b σ (q : Int)
              rcases hvd : validD σ (dm σ) with _ | v1
              · have h6 : sv = -6 := by rw [← hsv2, hvd]; rfl
                have h7 : vi = -6 := by rw [hvi2, vif_none hvd]; rfl
                obtain ⟨us, hus⟩ : ∃ a, spUse σ (w5 - 1) = a := ⟨_, rfl⟩
                rw [← hq, hus] at hub
                refine lv_aload_n E.1 E.2.1 dL_would_207 rfl (lv_at hl 12 rfl) ?_
                refine lv_iload E.1 E.2.1 dL_would_208 (lv_at hl 6 rfl) ?_
                refine kVRE (As := [.int (iI (w5 - 1))]) E cw_L_46 (c_X5_use G l x fb fl σ hs tx len hI hT hfx hgx (w5 - 1) (by unfold okI; omega)) hP.1 ⟨_, _, rfl⟩ hP hL hl.1 rfl rfl (Nat.le_of_ble_eq_true rfl) ⟨Nat.le_of_ble_eq_true rfl, Nat.le_of_ble_eq_true rfl⟩ ⟨rfl, rfl⟩ ⟨Nat.le_of_ble_eq_true rfl, Nat.le_of_ble_eq_true rfl⟩ dL_would_210 (fun locs hL => ?_)
                rw [hus]
                refine r_const E dL_would_213 ?_
                refine r_icmp_ne (tgt := 268) E dL_would_214 (by decide) (by omega) (by omega) (fun c214 => ?_) (fun c214 => ?_)
                · refine r_const E dL_would_268 ?_
                  exact J269_8 _ (by omega) ls locs (lv_sub hl [0, 1, 2, 3, 4, 5, 6, 7, 8, 9, 10, 11, 12, 13] rfl) hL
                · refine lv_aload_n E.1 E.2.1 dL_would_217 rfl (lv_at hl 12 rfl) ?_
                  refine kVRE (As := []) E cw_L_55 (c_X5_valid G l x fb fl σ hs tx len hI hT hfx hgx  ) hP.1 ⟨_, _, rfl⟩ hP hL hl.1 rfl rfl (Nat.le_of_ble_eq_true rfl) ⟨Nat.le_of_ble_eq_true rfl, Nat.le_of_ble_eq_true rfl⟩ ⟨rfl, rfl⟩ ⟨Nat.le_of_ble_eq_true rfl, Nat.le_of_ble_eq_true rfl⟩ dL_would_218 (fun locs hL => ?_)
                  rw [hsv]
                  refine r_bipush E dL_would_221 (by decide) ?_
                  refine r_icmp_eq (tgt := 268) E dL_would_223 (by decide) (by omega) (by omega) (fun c223 => ?_) (fun c223 => absurd c223 (by omega))
                  refine r_const E dL_would_268 ?_
                  exact J269_8 _ (by omega) ls locs (lv_sub hl [0, 1, 2, 3, 4, 5, 6, 7, 8, 9, 10, 11, 12, 13] rfl) hL
              · have h6 : sv = (v1 : Int) := by rw [← hsv2, hvd]; rfl
                have hvm := validD_lt hvd
                have hrow := hI.row hvm
                by_cases hrg : se σ v1 1 ≤ q ∧ q < se σ v1 1 + se σ v1 3
                · have h7 : vi < (v1 : Int) := by rw [hvi2]; exact vif_lead hvd hrg.1 hrg.2
                  have hus : spUse σ (w5 - 1) = 1 := by rw [hq]; exact use_lead hI hvm hrg.1 hrg.2
                  refine lv_aload_n E.1 E.2.1 dL_would_207 rfl (lv_at hl 12 rfl) ?_
                  refine lv_iload E.1 E.2.1 dL_would_208 (lv_at hl 6 rfl) ?_
                  refine kVRE (As := [.int (iI (w5 - 1))]) E cw_L_46 (c_X5_use G l x fb fl σ hs tx len hI hT hfx hgx (w5 - 1) (by unfold okI; omega)) hP.1 ⟨_, _, rfl⟩ hP hL hl.1 rfl rfl (Nat.le_of_ble_eq_true rfl) ⟨Nat.le_of_ble_eq_true rfl, Nat.le_of_ble_eq_true rfl⟩ ⟨rfl, rfl⟩ ⟨Nat.le_of_ble_eq_true rfl, Nat.le_of_ble_eq_true rfl⟩ dL_would_210 (fun locs hL => ?_)
                  rw [hus]
                  refine r_const E dL_would_213 ?_
                  refine r_icmp_ne (tgt := 268) E dL_would_214 (by decide) (by omega) (by omega) (fun c214 => absurd c214 (by omega)) (fun c214 => ?_)
                  refine lv_aload_n E.1 E.2.1 dL_would_217 rfl (lv_at hl 12 rfl) ?_
                  refine kVRE (As := []) E cw_L_55 (c_X5_valid G l x fb fl σ hs tx len hI hT hfx hgx  ) hP.1 ⟨_, _, rfl⟩ hP hL hl.1 rfl rfl (Nat.le_of_ble_eq_true rfl) ⟨Nat.le_of_ble_eq_true rfl, Nat.le_of_ble_eq_true rfl⟩ ⟨rfl, rfl⟩ ⟨Nat.le_of_ble_eq_true rfl, Nat.le_of_ble_eq_true rfl⟩ dL_would_218 (fun locs hL => ?_)
                  rw [hsv]
                  refine r_bipush E dL_would_221 (by decide) ?_
                  refine r_icmp_eq (tgt := 268) E dL_would_223 (by decide) (by omega) (by omega) (fun c223 => absurd c223 (by omega)) (fun c223 => ?_)
                  refine lv_iload E.1 E.2.1 dL_would_226 (lv_at hl 6 rfl) ?_
                  refine lv_aload_n E.1 E.2.1 dL_would_228 rfl (lv_at hl 12 rfl) ?_
                  refine lv_aload_n E.1 E.2.1 dL_would_229 rfl (lv_at hl 12 rfl) ?_
                  refine kVRE (As := []) E cw_L_55 (c_X5_valid G l x fb fl σ hs tx len hI hT hfx hgx  ) hP.1 ⟨_, _, rfl⟩ hP hL hl.1 rfl rfl (Nat.le_of_ble_eq_true rfl) ⟨Nat.le_of_ble_eq_true rfl, Nat.le_of_ble_eq_true rfl⟩ ⟨rfl, rfl⟩ ⟨Nat.le_of_ble_eq_true rfl, Nat.le_of_ble_eq_true rfl⟩ dL_would_230 (fun locs hL => ?_)
                  rw [hsv]
                  refine r_const E dL_would_233 ?_
                  rw [show ((sv : Int)) = (v1 : Int) by omega]
                  refine kVRE (As := [.int (iI ((v1 : Int))), .int (iI (1))]) E cw_L_29 (c_X5_session G l x fb fl σ hs tx len hI hT hfx hgx ((v1 : Int)) (1) (by unfold okI; omega) (by unfold okI; omega)) hP.1 ⟨_, _, rfl⟩ hP hL hl.1 rfl rfl (Nat.le_of_ble_eq_true rfl) ⟨Nat.le_of_ble_eq_true rfl, Nat.le_of_ble_eq_true rfl⟩ ⟨rfl, rfl⟩ ⟨Nat.le_of_ble_eq_true rfl, Nat.le_of_ble_eq_true rfl⟩ dL_would_234 (fun locs hL => ?_)
                  rw [spSes1 hvm]
                  refine r_icmp_lt (tgt := 268) E dL_would_237 (by decide) (by omega) (by omega) (fun c237 => absurd c237 (by omega)) (fun c237 => ?_)
                  refine lv_iload E.1 E.2.1 dL_would_240 (lv_at hl 6 rfl) ?_
                  refine lv_aload_n E.1 E.2.1 dL_would_242 rfl (lv_at hl 12 rfl) ?_
                  refine lv_aload_n E.1 E.2.1 dL_would_243 rfl (lv_at hl 12 rfl) ?_
                  refine kVRE (As := []) E cw_L_55 (c_X5_valid G l x fb fl σ hs tx len hI hT hfx hgx  ) hP.1 ⟨_, _, rfl⟩ hP hL hl.1 rfl rfl (Nat.le_of_ble_eq_true rfl) ⟨Nat.le_of_ble_eq_true rfl, Nat.le_of_ble_eq_true rfl⟩ ⟨rfl, rfl⟩ ⟨Nat.le_of_ble_eq_true rfl, Nat.le_of_ble_eq_true rfl⟩ dL_would_244 (fun locs hL => ?_)
                  rw [hsv]
                  refine r_const E dL_would_247 ?_
                  rw [show ((sv : Int)) = (v1 : Int) by omega]
                  refine kVRE (As := [.int (iI ((v1 : Int))), .int (iI (1))]) E cw_L_29 (c_X5_session G l x fb fl σ hs tx len hI hT hfx hgx ((v1 : Int)) (1) (by unfold okI; omega) (by unfold okI; omega)) hP.1 ⟨_, _, rfl⟩ hP hL hl.1 rfl rfl (Nat.le_of_ble_eq_true rfl) ⟨Nat.le_of_ble_eq_true rfl, Nat.le_of_ble_eq_true rfl⟩ ⟨rfl, rfl⟩ ⟨Nat.le_of_ble_eq_true rfl, Nat.le_of_ble_eq_true rfl⟩ dL_would_248 (fun locs hL => ?_)
                  rw [spSes1 hvm]
                  refine lv_aload_n E.1 E.2.1 dL_would_251 rfl (lv_at hl 12 rfl) ?_
                  refine lv_aload_n E.1 E.2.1 dL_would_252 rfl (lv_at hl 12 rfl) ?_
                  refine kVRE (As := []) E cw_L_55 (c_X5_valid G l x fb fl σ hs tx len hI hT hfx hgx  ) hP.1 ⟨_, _, rfl⟩ hP hL hl.1 rfl rfl (Nat.le_of_ble_eq_true rfl) ⟨Nat.le_of_ble_eq_true rfl, Nat.le_of_ble_eq_true rfl⟩ ⟨rfl, rfl⟩ ⟨Nat.le_of_ble_eq_true rfl, Nat.le_of_ble_eq_true rfl⟩ dL_would_253 (fun locs hL => ?_)
                  rw [hsv]
                  refine r_const E dL_would_256 ?_
                  rw [show ((sv : Int)) = (v1 : Int) by omega]
                  refine kVRE (As := [.int (iI ((v1 : Int))), .int (iI (3))]) E cw_L_29 (c_X5_session G l x fb fl σ hs tx len hI hT hfx hgx ((v1 : Int)) (3) (by unfold okI; omega) (by unfold okI; omega)) hP.1 ⟨_, _, rfl⟩ hP hL hl.1 rfl rfl (Nat.le_of_ble_eq_true rfl) ⟨Nat.le_of_ble_eq_true rfl, Nat.le_of_ble_eq_true rfl⟩ ⟨rfl, rfl⟩ ⟨Nat.le_of_ble_eq_true rfl, Nat.le_of_ble_eq_true rfl⟩ dL_would_257 (fun locs hL => ?_)
                  rw [spSes3 hvm]
                  refine r_add E dL_would_260 ?_
                  refine r_icmp_ge (tgt := 268) E dL_would_261 (by decide) (by omega) (by omega) (fun c261 => absurd c261 (by omega)) (fun c261 => ?_)
                  refine r_const E dL_would_264 ?_
                  refine lv_goto (tgt := 269) E.1 E.2.1 dL_would_265 (by decide) ?_
                  exact J269_8 _ (by omega) ls locs (lv_sub hl [0, 1, 2, 3, 4, 5, 6, 7, 8, 9, 10, 11, 12, 13] rfl) hL
                · have h7 : vi = (v1 : Int) := by rw [hvi2, vif_same hvd hrg]; rfl
                  obtain ⟨us, hus⟩ : ∃ a, spUse σ (w5 - 1) = a := ⟨_, rfl⟩
                  rw [← hq, hus] at hub
                  refine lv_aload_n E.1 E.2.1 dL_would_207 rfl (lv_at hl 12 rfl) ?_
                  refine lv_iload E.1 E.2.1 dL_would_208 (lv_at hl 6 rfl) ?_
                  refine kVRE (As := [.int (iI (w5 - 1))]) E cw_L_46 (c_X5_use G l x fb fl σ hs tx len hI hT hfx hgx (w5 - 1) (by unfold okI; omega)) hP.1 ⟨_, _, rfl⟩ hP hL hl.1 rfl rfl (Nat.le_of_ble_eq_true rfl) ⟨Nat.le_of_ble_eq_true rfl, Nat.le_of_ble_eq_true rfl⟩ ⟨rfl, rfl⟩ ⟨Nat.le_of_ble_eq_true rfl, Nat.le_of_ble_eq_true rfl⟩ dL_would_210 (fun locs hL => ?_)
                  rw [hus]
                  refine r_const E dL_would_213 ?_
                  refine r_icmp_ne (tgt := 268) E dL_would_214 (by decide) (by omega) (by omega) (fun c214 => ?_) (fun c214 => ?_)
                  · refine r_const E dL_would_268 ?_
                    exact J269_8 _ (by omega) ls locs (lv_sub hl [0, 1, 2, 3, 4, 5, 6, 7, 8, 9, 10, 11, 12, 13] rfl) hL
                  · refine lv_aload_n E.1 E.2.1 dL_would_217 rfl (lv_at hl 12 rfl) ?_
                    refine kVRE (As := []) E cw_L_55 (c_X5_valid G l x fb fl σ hs tx len hI hT hfx hgx  ) hP.1 ⟨_, _, rfl⟩ hP hL hl.1 rfl rfl (Nat.le_of_ble_eq_true rfl) ⟨Nat.le_of_ble_eq_true rfl, Nat.le_of_ble_eq_true rfl⟩ ⟨rfl, rfl⟩ ⟨Nat.le_of_ble_eq_true rfl, Nat.le_of_ble_eq_true rfl⟩ dL_would_218 (fun locs hL => ?_)
                    rw [hsv]
                    refine r_bipush E dL_would_221 (by decide) ?_
                    refine r_icmp_eq (tgt := 268) E dL_would_223 (by decide) (by omega) (by omega) (fun c223 => absurd c223 (by omega)) (fun c223 => ?_)
                    refine lv_iload E.1 E.2.1 dL_would_226 (lv_at hl 6 rfl) ?_
                    refine lv_aload_n E.1 E.2.1 dL_would_228 rfl (lv_at hl 12 rfl) ?_
                    refine lv_aload_n E.1 E.2.1 dL_would_229 rfl (lv_at hl 12 rfl) ?_
                    refine kVRE (As := []) E cw_L_55 (c_X5_valid G l x fb fl σ hs tx len hI hT hfx hgx  ) hP.1 ⟨_, _, rfl⟩ hP hL hl.1 rfl rfl (Nat.le_of_ble_eq_true rfl) ⟨Nat.le_of_ble_eq_true rfl, Nat.le_of_ble_eq_true rfl⟩ ⟨rfl, rfl⟩ ⟨Nat.le_of_ble_eq_true rfl, Nat.le_of_ble_eq_true rfl⟩ dL_would_230 (fun locs hL => ?_)
                    rw [hsv]
                    refine r_const E dL_would_233 ?_
                    rw [show ((sv : Int)) = (v1 : Int) by omega]
                    refine kVRE (As := [.int (iI ((v1 : Int))), .int (iI (1))]) E cw_L_29 (c_X5_session G l x fb fl σ hs tx len hI hT hfx hgx ((v1 : Int)) (1) (by unfold okI; omega) (by unfold okI; omega)) hP.1 ⟨_, _, rfl⟩ hP hL hl.1 rfl rfl (Nat.le_of_ble_eq_true rfl) ⟨Nat.le_of_ble_eq_true rfl, Nat.le_of_ble_eq_true rfl⟩ ⟨rfl, rfl⟩ ⟨Nat.le_of_ble_eq_true rfl, Nat.le_of_ble_eq_true rfl⟩ dL_would_234 (fun locs hL => ?_)
                    rw [spSes1 hvm]
                    refine r_icmp_lt (tgt := 268) E dL_would_237 (by decide) (by omega) (by omega) (fun c237 => ?_) (fun c237 => ?_)
                    · refine r_const E dL_would_268 ?_
                      exact J269_8 _ (by omega) ls locs (lv_sub hl [0, 1, 2, 3, 4, 5, 6, 7, 8, 9, 10, 11, 12, 13] rfl) hL
                    · refine lv_iload E.1 E.2.1 dL_would_240 (lv_at hl 6 rfl) ?_
                      refine lv_aload_n E.1 E.2.1 dL_would_242 rfl (lv_at hl 12 rfl) ?_
                      refine lv_aload_n E.1 E.2.1 dL_would_243 rfl (lv_at hl 12 rfl) ?_
                      refine kVRE (As := []) E cw_L_55 (c_X5_valid G l x fb fl σ hs tx len hI hT hfx hgx  ) hP.1 ⟨_, _, rfl⟩ hP hL hl.1 rfl rfl (Nat.le_of_ble_eq_true rfl) ⟨Nat.le_of_ble_eq_true rfl, Nat.le_of_ble_eq_true rfl⟩ ⟨rfl, rfl⟩ ⟨Nat.le_of_ble_eq_true rfl, Nat.le_of_ble_eq_true rfl⟩ dL_would_244 (fun locs hL => ?_)
                      rw [hsv]
                      refine r_const E dL_would_247 ?_
                      rw [show ((sv : Int)) = (v1 : Int) by omega]
                      refine kVRE (As := [.int (iI ((v1 : Int))), .int (iI (1))]) E cw_L_29 (c_X5_session G l x fb fl σ hs tx len hI hT hfx hgx ((v1 : Int)) (1) (by unfold okI; omega) (by unfold okI; omega)) hP.1 ⟨_, _, rfl⟩ hP hL hl.1 rfl rfl (Nat.le_of_ble_eq_true rfl) ⟨Nat.le_of_ble_eq_true rfl, Nat.le_of_ble_eq_true rfl⟩ ⟨rfl, rfl⟩ ⟨Nat.le_of_ble_eq_true rfl, Nat.le_of_ble_eq_true rfl⟩ dL_would_248 (fun locs hL => ?_)
                      rw [spSes1 hvm]
                      refine lv_aload_n E.1 E.2.1 dL_would_251 rfl (lv_at hl 12 rfl) ?_
                      refine lv_aload_n E.1 E.2.1 dL_would_252 rfl (lv_at hl 12 rfl) ?_
                      refine kVRE (As := []) E cw_L_55 (c_X5_valid G l x fb fl σ hs tx len hI hT hfx hgx  ) hP.1 ⟨_, _, rfl⟩ hP hL hl.1 rfl rfl (Nat.le_of_ble_eq_true rfl) ⟨Nat.le_of_ble_eq_true rfl, Nat.le_of_ble_eq_true rfl⟩ ⟨rfl, rfl⟩ ⟨Nat.le_of_ble_eq_true rfl, Nat.le_of_ble_eq_true rfl⟩ dL_would_253 (fun locs hL => ?_)
                      rw [hsv]
                      refine r_const E dL_would_256 ?_
                      rw [show ((sv : Int)) = (v1 : Int) by omega]
                      refine kVRE (As := [.int (iI ((v1 : Int))), .int (iI (3))]) E cw_L_29 (c_X5_session G l x fb fl σ hs tx len hI hT hfx hgx ((v1 : Int)) (3) (by unfold okI; omega) (by unfold okI; omega)) hP.1 ⟨_, _, rfl⟩ hP hL hl.1 rfl rfl (Nat.le_of_ble_eq_true rfl) ⟨Nat.le_of_ble_eq_true rfl, Nat.le_of_ble_eq_true rfl⟩ ⟨rfl, rfl⟩ ⟨Nat.le_of_ble_eq_true rfl, Nat.le_of_ble_eq_true rfl⟩ dL_would_257 (fun locs hL => ?_)
                      rw [spSes3 hvm]
                      refine r_add E dL_would_260 ?_
                      refine r_icmp_ge (tgt := 268) E dL_would_261 (by decide) (by omega) (by omega) (fun c261 => ?_) (fun c261 => absurd c261 (by omega))
                      refine r_const E dL_would_268 ?_
                      exact J269_8 _ (by omega) ls locs (lv_sub hl [0, 1, 2, 3, 4, 5, 6, 7, 8, 9, 10, 11, 12, 13] rfl) hL
          refine lv_iload E.1 E.2.1 dL_would_169 (lv_at hl 0 rfl) ?_
          refine r_if_lt (tgt := 181) E dL_would_171 (by decide) (by omega) (fun c171 => ?_) (fun c171 => ?_)
          · refine r_const E dL_would_181 ?_
            refine lv_goto (tgt := 186) E.1 E.2.1 dL_would_182 (by decide) ?_
            exact J186_7 _ (by omega) ls locs (lv_sub hl [0, 1, 2, 3, 4, 5, 6, 7, 8, 9, 10] rfl) hL
          · refine lv_iload E.1 E.2.1 dL_would_174 (lv_at hl 0 rfl) ?_
            refine r_bipush E dL_would_176 (by decide) ?_
            refine r_icmp_le (tgt := 185) E dL_would_178 (by decide) (by omega) (by omega) (fun c178 => ?_) (fun c178 => ?_)
            · refine r_const E dL_would_185 ?_
              exact J186_7 _ (by omega) ls locs (lv_sub hl [0, 1, 2, 3, 4, 5, 6, 7, 8, 9, 10] rfl) hL
            · refine r_const E dL_would_181 ?_
              refine lv_goto (tgt := 186) E.1 E.2.1 dL_would_182 (by decide) ?_
              exact J186_7 _ (by omega) ls locs (lv_sub hl [0, 1, 2, 3, 4, 5, 6, 7, 8, 9, 10] rfl) hL
        refine lv_iload E.1 E.2.1 dL_would_128 (lv_at hl 0 rfl) ?_
        refine r_if_lt (tgt := 141) E dL_would_130 (by decide) (by omega) (fun c130 => ?_) (fun c130 => ?_)
        · refine r_const E dL_would_141 ?_
          refine lv_goto (tgt := 146) E.1 E.2.1 dL_would_142 (by decide) ?_
          exact J146_5 _ (by omega) ls locs (lv_sub hl [0, 1, 2, 3, 4, 5, 6, 7] rfl) hL
        · refine lv_iload E.1 E.2.1 dL_would_133 (lv_at hl 0 rfl) ?_
          refine r_sipush E dL_would_135 (by decide) ?_
          refine r_icmp_le (tgt := 145) E dL_would_138 (by decide) (by omega) (by omega) (fun c138 => ?_) (fun c138 => ?_)
          · refine r_const E dL_would_145 ?_
            exact J146_5 _ (by omega) ls locs (lv_sub hl [0, 1, 2, 3, 4, 5, 6, 7] rfl) hL
          · refine r_const E dL_would_141 ?_
            refine lv_goto (tgt := 146) E.1 E.2.1 dL_would_142 (by decide) ?_
            exact J146_5 _ (by omega) ls locs (lv_sub hl [0, 1, 2, 3, 4, 5, 6, 7] rfl) hL
      refine lv_iload E.1 E.2.1 dL_would_79 (lv_at hl 0 rfl) ?_
      refine r_if_eq (tgt := 91) E dL_would_81 (by decide) (by omega) (fun c81 => ?_) (fun c81 => ?_)
      · refine r_const E dL_would_91 ?_
        refine lv_goto (tgt := 96) E.1 E.2.1 dL_would_92 (by decide) ?_
        exact J96_3 _ (by omega) ls locs (lv_sub hl [0, 1, 2, 3] rfl) hL
      · refine lv_iload E.1 E.2.1 dL_would_84 (lv_at hl 0 rfl) ?_
        refine r_bipush E dL_would_86 (by decide) ?_
        refine r_icmp_ne (tgt := 95) E dL_would_88 (by decide) (by omega) (by omega) (fun c88 => ?_) (fun c88 => ?_)
        · refine r_const E dL_would_95 ?_
          exact J96_3 _ (by omega) ls locs (lv_sub hl [0, 1, 2, 3] rfl) hL
        · refine r_const E dL_would_91 ?_
          refine lv_goto (tgt := 96) E.1 E.2.1 dL_would_92 (by decide) ?_
          exact J96_3 _ (by omega) ls locs (lv_sub hl [0, 1, 2, 3] rfl) hL
    refine lv_iload_n E.1 E.2.1 dL_would_61 rfl (lv_at hl 0 rfl) ?_
    refine r_if_ge (tgt := 69) E dL_would_62 (by decide) (by omega) (fun c62 => ?_) (fun c62 => ?_)
    · refine lv_iload_n E.1 E.2.1 dL_would_69 rfl (lv_at hl 0 rfl) ?_
      exact J70_1 _ (by omega) ls locs (lv_sub hl [0, 1, 2] rfl) hL
    · refine r_const E dL_would_65 ?_
      refine lv_goto (tgt := 70) E.1 E.2.1 dL_would_66 (by decide) ?_
      exact J70_1 _ (by omega) ls locs (lv_sub hl [0, 1, 2] rfl) hL
  refine lv_aload_n E.1 E.2.1 dL_would_0 rfl (lv_at hl 0 rfl) ?_
  refine kSRE (As := [.ref (x)]) E cw_L_68 (c_L_open G l x fb fl σ hs tx len hI hT hfx hgx) hP hL hl.1 rfl rfl (Nat.le_of_ble_eq_true rfl) ⟨Nat.le_of_ble_eq_true rfl, Nat.le_of_ble_eq_true rfl⟩ ⟨rfl, rfl⟩ ⟨Nat.le_of_ble_eq_true rfl, Nat.le_of_ble_eq_true rfl⟩ dL_would_1 (fun locs hL => ?_)
  rcases hop : opn σ with _ | n
  · rw [show oI none = -6 from rfl]
    refine lv_istore_n (lv' := [(2, .int (iI ((-6)))), (0, .ref (x)), (1, .int (v))]) E.1 E.2.1 dL_would_4 rfl hl (by decide) rfl (fun ls hl => ?_)
    refine lv_iload_n E.1 E.2.1 dL_would_5 rfl (lv_at hl 0 rfl) ?_
    refine r_if_lt (tgt := 27) E dL_would_6 (by decide) (by omega) (fun c6 => ?_) (fun c6 => absurd c6 (by omega))
    refine lv_aload_n E.1 E.2.1 dL_would_27 rfl (lv_at hl 1 rfl) ?_
    refine kVRE (As := []) E cw_L_26 (c_X5_sessions G l x fb fl σ hs tx len hI hT hfx hgx  ) hP.1 ⟨_, _, rfl⟩ hP hL hl.1 rfl rfl (Nat.le_of_ble_eq_true rfl) ⟨Nat.le_of_ble_eq_true rfl, Nat.le_of_ble_eq_true rfl⟩ ⟨rfl, rfl⟩ ⟨Nat.le_of_ble_eq_true rfl, Nat.le_of_ble_eq_true rfl⟩ dL_would_28 (fun locs hL => ?_)
    refine r_bipush E dL_would_31 (by decide) ?_
    refine r_icmp_ne (tgt := 40) E dL_would_33 (by decide) (by omega) (by omega) (fun c33 => ?_) (fun c33 => ?_)
    · have hrm := room_new hop (by omega)
      refine r_sipush E dL_would_40 (by decide) ?_
      refine lv_aload_n E.1 E.2.1 dL_would_43 rfl (lv_at hl 1 rfl) ?_
      refine kVRE (As := []) E cw_L_13 (c_X5_next G l x fb fl σ hs tx len hI hT hfx hgx  ) hP.1 ⟨_, _, rfl⟩ hP hL hl.1 rfl rfl (Nat.le_of_ble_eq_true rfl) ⟨Nat.le_of_ble_eq_true rfl, Nat.le_of_ble_eq_true rfl⟩ ⟨rfl, rfl⟩ ⟨Nat.le_of_ble_eq_true rfl, Nat.le_of_ble_eq_true rfl⟩ dL_would_44 (fun locs hL => ?_)
      refine r_sub E dL_would_47 ?_
      refine lv_aload_n E.1 E.2.1 dL_would_48 rfl (lv_at hl 1 rfl) ?_
      refine r_const E dL_would_49 ?_
      refine kVRE (As := [.int (iI (0))]) E cw_L_19 (c_X5_setting G l x fb fl σ hs tx len hI hT hfx hgx (0) (by unfold okI; omega)) hP.1 ⟨_, _, rfl⟩ hP hL hl.1 rfl rfl (Nat.le_of_ble_eq_true rfl) ⟨Nat.le_of_ble_eq_true rfl, Nat.le_of_ble_eq_true rfl⟩ ⟨rfl, rfl⟩ ⟨Nat.le_of_ble_eq_true rfl, Nat.le_of_ble_eq_true rfl⟩ dL_would_50 (fun locs hL => ?_)
      rw [spSet_0 σ]
      refine r_sub E dL_would_53 ?_
      refine lv_aload_n E.1 E.2.1 dL_would_54 rfl (lv_at hl 1 rfl) ?_
      refine r_const E dL_would_55 ?_
      refine kVRE (As := [.int (iI (1))]) E cw_L_19 (c_X5_setting G l x fb fl σ hs tx len hI hT hfx hgx (1) (by unfold okI; omega)) hP.1 ⟨_, _, rfl⟩ hP hL hl.1 rfl rfl (Nat.le_of_ble_eq_true rfl) ⟨Nat.le_of_ble_eq_true rfl, Nat.le_of_ble_eq_true rfl⟩ ⟨rfl, rfl⟩ ⟨Nat.le_of_ble_eq_true rfl, Nat.le_of_ble_eq_true rfl⟩ dL_would_56 (fun locs hL => ?_)
      rw [spSet_1 σ]
      refine r_sub E dL_would_59 ?_
      exact J60_0 _ (by omega) ls locs (lv_sub hl [1, 2] rfl) hL
    · have hrm := room_full hop (by omega)
      refine r_const E dL_would_36 ?_
      refine lv_goto (tgt := 60) E.1 E.2.1 dL_would_37 (by decide) ?_
      exact J60_0 _ (by omega) ls locs (lv_sub hl [1, 2] rfl) hL
  · rw [show oI (some n) = (n : Int) from rfl]
    have hn := opn_some hop
    have hnm : n < mn σ := by omega
    have hrm := room_some hop
    have hrow := hI.row hnm
    refine lv_istore_n (lv' := [(2, .int (iI ((n : Int)))), (0, .ref (x)), (1, .int (v))]) E.1 E.2.1 dL_would_4 rfl hl (by decide) rfl (fun ls hl => ?_)
    refine lv_iload_n E.1 E.2.1 dL_would_5 rfl (lv_at hl 0 rfl) ?_
    refine r_if_lt (tgt := 27) E dL_would_6 (by decide) (by omega) (fun c6 => absurd c6 (by omega)) (fun c6 => ?_)
    refine r_sipush E dL_would_9 (by decide) ?_
    refine lv_aload_n E.1 E.2.1 dL_would_12 rfl (lv_at hl 1 rfl) ?_
    refine kVRE (As := []) E cw_L_13 (c_X5_next G l x fb fl σ hs tx len hI hT hfx hgx  ) hP.1 ⟨_, _, rfl⟩ hP hL hl.1 rfl rfl (Nat.le_of_ble_eq_true rfl) ⟨Nat.le_of_ble_eq_true rfl, Nat.le_of_ble_eq_true rfl⟩ ⟨rfl, rfl⟩ ⟨Nat.le_of_ble_eq_true rfl, Nat.le_of_ble_eq_true rfl⟩ dL_would_13 (fun locs hL => ?_)
    refine r_sub E dL_would_16 ?_
    refine lv_aload_n E.1 E.2.1 dL_would_17 rfl (lv_at hl 1 rfl) ?_
    refine lv_iload_n E.1 E.2.1 dL_would_18 rfl (lv_at hl 0 rfl) ?_
    refine r_const E dL_would_19 ?_
    refine kVRE (As := [.int (iI ((n : Int))), .int (iI (4))]) E cw_L_29 (c_X5_session G l x fb fl σ hs tx len hI hT hfx hgx ((n : Int)) (4) (by unfold okI; omega) (by unfold okI; omega)) hP.1 ⟨_, _, rfl⟩ hP hL hl.1 rfl rfl (Nat.le_of_ble_eq_true rfl) ⟨Nat.le_of_ble_eq_true rfl, Nat.le_of_ble_eq_true rfl⟩ ⟨rfl, rfl⟩ ⟨Nat.le_of_ble_eq_true rfl, Nat.le_of_ble_eq_true rfl⟩ dL_would_20 (fun locs hL => ?_)
    rw [spSes4 hnm]
    refine r_sub E dL_would_23 ?_
    refine lv_goto (tgt := 60) E.1 E.2.1 dL_would_24 (by decide) ?_
    exact J60_0 _ (by omega) ls locs (lv_sub hl [1, 2] rfl) hL
