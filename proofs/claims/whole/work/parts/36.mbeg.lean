def srcE (σ : St) (y : Int) : Nat → Option Fil := fun k => if y = 1 then foundF σ k else none
def bR (σ : St) (src : Nat → Option Fil) : St := sMn (tS (sSe (sSe (sSe (sSe (sSe (sSe (bS σ src 20) (mn σ) 0 0) (mn σ) 1 (nx σ)) (mn σ) 2 0) (mn σ) 3 (s0 σ)) (mn σ) 4 (s1 σ)) (mn σ) 5 0) (mn σ) (s0 σ)) (mn σ + 1)
theorem bR_eq {σ : St} {y : Int} (h1 : y = 0 ∨ y = 1) (h2 : opn σ = none) (h3 : ¬ (12 ≤ mn σ ∨ 240 < nx σ + s0 σ + s1 σ)) : (spBegin σ y).1 = mn σ ∧ encI (bR σ (srcE σ y)) = encI (spBegin σ y).2 := by
  unfold spBegin
  rw [if_neg (by omega), if_neg (by rw [h2]; decide), if_neg h3]
  refine ⟨rfl, encN_ext rfl rfl rfl rfl rfl rfl (fun n w hw => ?_) (fun n k hk => ?_)⟩
  · by_cases h : n = mn σ
    · rcases (show w = 0 ∨ w = 1 ∨ w = 2 ∨ w = 3 ∨ w = 4 ∨ w = 5 by omega) with rfl | rfl | rfl | rfl | rfl | rfl <;> simp [bR, sMn, tS, sSe, sNx, bS, va_up, h, se_mk]
    · simp [bR, sMn, tS, sSe, sNx, bS, va_up, h, se_mk]
  · by_cases h : n = mn σ
    · simp [bR, sMn, tS, sSe, sNx, bS, va_up, h, en_mk, hk, srcE]
    · simp [bR, sMn, tS, sSe, sNx, bS, va_up, h, en_mk]
set_option maxHeartbeats 4000000 in
set_option maxRecDepth 100000 in
theorem c_X6_goBegin (G : GG) (l : Launch) (g : Nat) (σ : St) (v3 v5 v6 v7 v8 v9 v10 : Int32) (hI : Inv σ) (y : Int) (hy : okI y) (hga : G.2.2 ≤ g) : Ct G l yX6_goBegin cX6_goBegin 5 (some .int) ({ frames := 4, cells := 0, slots := 0, locals := 87 } : Room) [.ref (g), .int (iI (y))] (fun H => MR G g σ v3 v5 v6 v7 v8 v9 v10 H) (WE (iI (spBegin σ y).1) (MW G g (spBegin σ y).2 v3 v5 v6 v7 v8 v9 v10)) := by
  refine Ct.of (by decide +kernel) (Nat.le_of_ble_eq_true rfl) ?_
  intro p e s m args below meth c ls E hnm hP hl
  obtain ⟨ho, ha⟩ := hP
  have i1 := hI.mn12
  have i2 := hI.nx240
  have i3 := hI.s0b
  have i4 := hI.s1b
  obtain ⟨hy1, hy2⟩ := hy
  have hS : FrS (g + 1) (g + 2) s.heap s.heap := FrS.rf
  have hl : lv_has ls 5 [(0, .ref (g)), (1, .int (iI (y)))] := hl
  have hL : Lk G [] := Lk.nil
  generalize ([] : List Loc) = locs at hL ⊢
  refine lv_iload_n E.1 E.2.1 dX6_goBegin_0 rfl (lv_at hl 1 rfl) ?_
  refine r_const E dX6_goBegin_1 ?_
  refine r_const E dX6_goBegin_2 ?_
  refine kSRE (As := [.int (iI (y)), .int (iI (0)), .int (iI (1))]) E cw_X6_30 (c_X6_in G l (y) (0) (1) (by unfold okI; omega) (by unfold okI; omega) (by unfold okI; omega)) trivial hL hl.1 rfl rfl (Nat.le_of_ble_eq_true rfl) ⟨Nat.le_of_ble_eq_true rfl, Nat.le_of_ble_eq_true rfl⟩ ⟨rfl, rfl⟩ ⟨Nat.le_of_ble_eq_true rfl, Nat.le_of_ble_eq_true rfl⟩ dX6_goBegin_3 (fun locs hL => ?_)
  refine r_bif_ne (tgt := 12) E dX6_goBegin_6 (by decide)  (fun c6 => ?_) (fun c6 => ?_)
  · have c6 := of_decide_eq_true c6
    refine lv_aload_n E.1 E.2.1 dX6_goBegin_12 rfl (lv_at hl 0 rfl) ?_
    refine kVRE (As := []) E cw_X6_63 (c_X6_openOne G l g σ _ _ _ _ _ _ _ hI) ho ⟨_, _, rfl⟩ ⟨ho, ha⟩ hL hl.1 rfl rfl (Nat.le_of_ble_eq_true rfl) ⟨Nat.le_of_ble_eq_true rfl, Nat.le_of_ble_eq_true rfl⟩ ⟨rfl, rfl⟩ ⟨Nat.le_of_ble_eq_true rfl, Nat.le_of_ble_eq_true rfl⟩ dX6_goBegin_13 (fun locs hL => ?_)
    rcases hop : opn σ with _ | n
    · rw [show oI none = -6 from rfl]
      refine r_if_lt (tgt := 22) E dX6_goBegin_16 (by decide) (by omega) (fun c16 => ?_) (fun c16 => absurd c16 (by omega))
      refine lv_aload_n E.1 E.2.1 dX6_goBegin_22 rfl (lv_at hl 0 rfl) ?_
      refine m_get E ho fw_X6_7 rfl dX6_goBegin_23 ?_
      refine r_const E dX6_goBegin_26 ?_
      refine r_iald E ha (1) rfl (by decide) (by decide) dX6_goBegin_27 ?_
      rw [show encI σ (1) = iI ((mn σ : Nat) : Int) from rfl]
      refine r_bipush E dX6_goBegin_28 (by decide) ?_
      refine r_icmp_eq (tgt := 59) E dX6_goBegin_30 (by decide) (by omega) (by omega) (fun c30 => ?_) (fun c30 => ?_)
      · refine r_bipush E dX6_goBegin_59 (by decide) ?_
        refine e_iret (rm := ({ frames := 4, cells := 0, slots := 0, locals := 87 } : Room)) (v := iI ((-4))) E hL dX6_goBegin_61 ?_
        have hsp : spBegin σ y = (-4, σ) := by unfold spBegin; rw [if_neg (by omega), if_neg (by rw [hop]; decide), if_pos (by omega)]
        rw [hsp]
        exact ⟨rfl, ⟨⟨ho, ha⟩, hS⟩⟩
      · refine lv_aload_n E.1 E.2.1 dX6_goBegin_33 rfl (lv_at hl 0 rfl) ?_
        refine m_get E ho fw_X6_7 rfl dX6_goBegin_34 ?_
        refine r_const E dX6_goBegin_37 ?_
        refine r_iald E ha (0) rfl (by decide) (by decide) dX6_goBegin_38 ?_
        rw [show encI σ (0) = iI ((nx σ : Nat) : Int) from rfl]
        refine lv_aload_n E.1 E.2.1 dX6_goBegin_39 rfl (lv_at hl 0 rfl) ?_
        refine m_get E ho fw_X6_7 rfl dX6_goBegin_40 ?_
        refine r_const E dX6_goBegin_43 ?_
        refine r_iald E ha (2) rfl (by decide) (by decide) dX6_goBegin_44 ?_
        rw [show encI σ (2) = iI ((s0 σ : Nat) : Int) from rfl]
        refine r_add E dX6_goBegin_45 ?_
        refine lv_aload_n E.1 E.2.1 dX6_goBegin_46 rfl (lv_at hl 0 rfl) ?_
        refine m_get E ho fw_X6_7 rfl dX6_goBegin_47 ?_
        refine r_const E dX6_goBegin_50 ?_
        refine r_iald E ha (3) rfl (by decide) (by decide) dX6_goBegin_51 ?_
        rw [show encI σ (3) = iI ((s1 σ : Nat) : Int) from rfl]
        refine r_add E dX6_goBegin_52 ?_
        refine r_sipush E dX6_goBegin_53 (by decide) ?_
        refine r_icmp_le (tgt := 62) E dX6_goBegin_56 (by decide) (by omega) (by omega) (fun c56 => ?_) (fun c56 => ?_)
        · obtain ⟨N, hN⟩ : ∃ N, N = mn σ := ⟨_, rfl⟩
          have hvo : ∀ q, validD σ (dm σ) = some q → q < mn σ := fun q h => validD_lt h
          refine lv_iload_n E.1 E.2.1 dX6_goBegin_62 rfl (lv_at hl 1 rfl) ?_
          refine r_const E dX6_goBegin_63 ?_
          refine r_icmp_ne (tgt := 74) E dX6_goBegin_64 (by decide) (by omega) (by omega) (fun c64 => ?_) (fun c64 => ?_)
          · refine r_bipush E dX6_goBegin_74 (by decide) ?_
            refine lv_istore_n (lv' := [(2, .int (iI ((-6)))), (0, .ref (g)), (1, .int (iI (y)))]) E.1 E.2.1 dX6_goBegin_76 rfl hl (by decide) rfl (fun ls hl => ?_)
            refine lv_aload_n E.1 E.2.1 dX6_goBegin_77 rfl (lv_at hl 1 rfl) ?_
            refine m_get E ho fw_X6_7 rfl dX6_goBegin_78 ?_
            refine r_const E dX6_goBegin_81 ?_
            refine r_iald E ha (1) rfl (by decide) (by decide) dX6_goBegin_82 ?_
            rw [show encI σ (1) = iI ((mn σ : Nat) : Int) from rfl]
            refine lv_istore_n (lv' := [(3, .int (iI ((mn σ : Int)))), (2, .int (iI ((-6)))), (0, .ref (g)), (1, .int (iI (y)))]) E.1 E.2.1 dX6_goBegin_83 rfl hl (by decide) rfl (fun ls hl => ?_)
            refine r_const E dX6_goBegin_84 ?_
            refine lv_istore (lv' := [(4, .int (iI (0))), (3, .int (iI ((mn σ : Int)))), (2, .int (iI ((-6)))), (0, .ref (g)), (1, .int (iI (y)))]) E.1 E.2.1 dX6_goBegin_85 hl (by decide) rfl (fun ls hl => ?_)
            have LP87 : ∀ (kin87 : Nat) (k : Nat) (H : Heap) (u : Int) (ls : Array Slot) (locs : List Loc) (hk : k ≤ 20) (hu : u = (k : Int)) (ho : Ob G g 6 [.ref (g + 1), .ref (g + 2), .ref (g + 3), .int v3, .ref (g + 4), .int v5, .int v6, .int v7, .int v8, .int v9, .int v10] H) (ha : Ia G (g + 1) 0 344 (encI (bS σ (srcE σ y) k)) H) (hS : FrS (g + 1) (g + 2) s.heap H) (hkin87 : 20 - k = kin87) (hl : lv_has ls 5 [(4, .int (iI (u))), (3, .int (iI ((mn σ : Int)))), (2, .int (iI ((-6)))), (0, .ref (g)), (1, .int (iI (y)))]) (hL : Lk G locs), W p l e ({ frames := 4, cells := 0, slots := 0, locals := 87 } : Room) s m args below meth c H locs 0 0 (QQ G below args s ({ frames := 4, cells := 0, slots := 0, locals := 87 } : Room) (WE (iI (spBegin σ y).1) (MW G g (spBegin σ y).2 v3 v5 v6 v7 v8 v9 v10))) (F0 m 87 ls []) := by
              intro kin87
              induction kin87 using Nat.strongRecOn with
              | ind kin87 ihin87 =>
                intro k H u ls locs hk hu ho ha hS hkin87 hl hL
                refine lv_iload E.1 E.2.1 dX6_goBegin_87 (lv_at hl 0 rfl) ?_
                refine r_bipush E dX6_goBegin_89 (by decide) ?_
                refine r_icmp_ge (tgt := 130) E dX6_goBegin_91 (by decide) (by omega) (by omega) (fun c91 => ?_) (fun c91 => ?_)
                · have hk20 : k = 20 := by omega
                  subst hk20
                  obtain ⟨τ0, hτ0⟩ : ∃ τ, τ = (bS σ (srcE σ y) 20) := ⟨_, rfl⟩
                  rw [← hτ0] at ha
                  have ht0 : mn τ0 = mn σ ∧ s0 τ0 = s0 σ ∧ s1 τ0 = s1 σ := by rw [hτ0]; exact ⟨rfl, rfl, rfl⟩
                  have hn0 : nx τ0 = nx σ := by rw [hτ0]; exact rfl
                  refine lv_aload_n E.1 E.2.1 dX6_goBegin_130 rfl (lv_at hl 3 rfl) ?_
                  refine lv_iload_n E.1 E.2.1 dX6_goBegin_131 rfl (lv_at hl 1 rfl) ?_
                  refine r_const E dX6_goBegin_132 ?_
                  refine r_const E dX6_goBegin_133 ?_
                  refine kVWV (As := [.int (iI ((mn σ : Int))), .int (iI (0)), .int (iI (0))]) E cw_X6_59 (c_X6_lays G l g τ0 _ _ _ _ _ _ _ (mn σ) (0) (0) (by omega) (by omega) hga) ho ⟨_, _, rfl⟩ ⟨ho, ha⟩ hL hl.1 rfl rfl (Nat.le_of_ble_eq_true rfl) ⟨Nat.le_of_ble_eq_true rfl, Nat.le_of_ble_eq_true rfl⟩ ⟨Nat.le_of_ble_eq_true rfl, Nat.le_of_ble_eq_true rfl⟩ dX6_goBegin_134 (fun H1 locs hL hw_ => ?_)
                  obtain ⟨⟨ho, ha⟩, hq⟩ := hw_
                  have hS := hS.trans hq
                  obtain ⟨τ1, hτ1⟩ : ∃ τ, τ = (sSe τ0 (mn σ) (0) (0)) := ⟨_, rfl⟩
                  rw [← hτ1] at ha
                  have ht1 : mn τ1 = mn σ ∧ s0 τ1 = s0 σ ∧ s1 τ1 = s1 σ := by rw [hτ1]; exact ht0
                  have hn1 : nx τ1 = nx σ := by rw [hτ1]; exact hn0
                  refine lv_aload_n E.1 E.2.1 dX6_goBegin_137 rfl (lv_at hl 3 rfl) ?_
                  refine lv_iload_n E.1 E.2.1 dX6_goBegin_138 rfl (lv_at hl 1 rfl) ?_
                  refine r_const E dX6_goBegin_139 ?_
                  refine lv_aload_n E.1 E.2.1 dX6_goBegin_140 rfl (lv_at hl 3 rfl) ?_
                  refine m_get E ho fw_X6_7 rfl dX6_goBegin_141 ?_
                  refine r_const E dX6_goBegin_144 ?_
                  refine r_iald E ha (0) rfl (by decide) (by decide) dX6_goBegin_145 ?_
                  rw [show encI τ1 (0) = iI ((nx τ1 : Nat) : Int) from rfl]
                  rw [show nx τ1 = nx σ from hn1]
                  refine kVWV (As := [.int (iI ((mn σ : Int))), .int (iI (1)), .int (iI ((nx σ : Int)))]) E cw_X6_59 (c_X6_lays G l g τ1 _ _ _ _ _ _ _ (mn σ) (1) (nx σ) (by omega) (by omega) hga) ho ⟨_, _, rfl⟩ ⟨ho, ha⟩ hL hl.1 rfl rfl (Nat.le_of_ble_eq_true rfl) ⟨Nat.le_of_ble_eq_true rfl, Nat.le_of_ble_eq_true rfl⟩ ⟨Nat.le_of_ble_eq_true rfl, Nat.le_of_ble_eq_true rfl⟩ dX6_goBegin_146 (fun H2 locs hL hw_ => ?_)
                  obtain ⟨⟨ho, ha⟩, hq⟩ := hw_
                  have hS := hS.trans hq
                  obtain ⟨τ2, hτ2⟩ : ∃ τ, τ = (sSe τ1 (mn σ) (1) (nx σ)) := ⟨_, rfl⟩
                  rw [← hτ2] at ha
                  have ht2 : mn τ2 = mn σ ∧ s0 τ2 = s0 σ ∧ s1 τ2 = s1 σ := by rw [hτ2]; exact ht1
                  have hn2 : nx τ2 = nx σ := by rw [hτ2]; exact hn1
                  refine lv_aload_n E.1 E.2.1 dX6_goBegin_149 rfl (lv_at hl 3 rfl) ?_
                  refine lv_iload_n E.1 E.2.1 dX6_goBegin_150 rfl (lv_at hl 1 rfl) ?_
                  refine r_const E dX6_goBegin_151 ?_
                  refine r_const E dX6_goBegin_152 ?_
                  refine kVWV (As := [.int (iI ((mn σ : Int))), .int (iI (2)), .int (iI (0))]) E cw_X6_59 (c_X6_lays G l g τ2 _ _ _ _ _ _ _ (mn σ) (2) (0) (by omega) (by omega) hga) ho ⟨_, _, rfl⟩ ⟨ho, ha⟩ hL hl.1 rfl rfl (Nat.le_of_ble_eq_true rfl) ⟨Nat.le_of_ble_eq_true rfl, Nat.le_of_ble_eq_true rfl⟩ ⟨Nat.le_of_ble_eq_true rfl, Nat.le_of_ble_eq_true rfl⟩ dX6_goBegin_153 (fun H3 locs hL hw_ => ?_)
                  obtain ⟨⟨ho, ha⟩, hq⟩ := hw_
                  have hS := hS.trans hq
                  obtain ⟨τ3, hτ3⟩ : ∃ τ, τ = (sSe τ2 (mn σ) (2) (0)) := ⟨_, rfl⟩
                  rw [← hτ3] at ha
                  have ht3 : mn τ3 = mn σ ∧ s0 τ3 = s0 σ ∧ s1 τ3 = s1 σ := by rw [hτ3]; exact ht2
                  have hn3 : nx τ3 = nx σ := by rw [hτ3]; exact hn2
                  refine lv_aload_n E.1 E.2.1 dX6_goBegin_156 rfl (lv_at hl 3 rfl) ?_
                  refine lv_iload_n E.1 E.2.1 dX6_goBegin_157 rfl (lv_at hl 1 rfl) ?_
                  refine r_const E dX6_goBegin_158 ?_
                  refine lv_aload_n E.1 E.2.1 dX6_goBegin_159 rfl (lv_at hl 3 rfl) ?_
                  refine m_get E ho fw_X6_7 rfl dX6_goBegin_160 ?_
                  refine r_const E dX6_goBegin_163 ?_
                  refine r_iald E ha (2) rfl (by decide) (by decide) dX6_goBegin_164 ?_
                  rw [show encI τ3 (2) = iI ((s0 τ3 : Nat) : Int) from rfl]
                  rw [show s0 τ3 = s0 σ from ht3.2.1]
                  refine kVWV (As := [.int (iI ((mn σ : Int))), .int (iI (3)), .int (iI ((s0 σ : Int)))]) E cw_X6_59 (c_X6_lays G l g τ3 _ _ _ _ _ _ _ (mn σ) (3) (s0 σ) (by omega) (by omega) hga) ho ⟨_, _, rfl⟩ ⟨ho, ha⟩ hL hl.1 rfl rfl (Nat.le_of_ble_eq_true rfl) ⟨Nat.le_of_ble_eq_true rfl, Nat.le_of_ble_eq_true rfl⟩ ⟨Nat.le_of_ble_eq_true rfl, Nat.le_of_ble_eq_true rfl⟩ dX6_goBegin_165 (fun H4 locs hL hw_ => ?_)
                  obtain ⟨⟨ho, ha⟩, hq⟩ := hw_
                  have hS := hS.trans hq
                  obtain ⟨τ4, hτ4⟩ : ∃ τ, τ = (sSe τ3 (mn σ) (3) (s0 σ)) := ⟨_, rfl⟩
                  rw [← hτ4] at ha
                  have ht4 : mn τ4 = mn σ ∧ s0 τ4 = s0 σ ∧ s1 τ4 = s1 σ := by rw [hτ4]; exact ht3
                  have hn4 : nx τ4 = nx σ := by rw [hτ4]; exact hn3
                  refine lv_aload_n E.1 E.2.1 dX6_goBegin_168 rfl (lv_at hl 3 rfl) ?_
                  refine lv_iload_n E.1 E.2.1 dX6_goBegin_169 rfl (lv_at hl 1 rfl) ?_
                  refine r_const E dX6_goBegin_170 ?_
                  refine lv_aload_n E.1 E.2.1 dX6_goBegin_171 rfl (lv_at hl 3 rfl) ?_
                  refine m_get E ho fw_X6_7 rfl dX6_goBegin_172 ?_
                  refine r_const E dX6_goBegin_175 ?_
                  refine r_iald E ha (3) rfl (by decide) (by decide) dX6_goBegin_176 ?_
                  rw [show encI τ4 (3) = iI ((s1 τ4 : Nat) : Int) from rfl]
                  rw [show s1 τ4 = s1 σ from ht4.2.2]
                  refine kVWV (As := [.int (iI ((mn σ : Int))), .int (iI (4)), .int (iI ((s1 σ : Int)))]) E cw_X6_59 (c_X6_lays G l g τ4 _ _ _ _ _ _ _ (mn σ) (4) (s1 σ) (by omega) (by omega) hga) ho ⟨_, _, rfl⟩ ⟨ho, ha⟩ hL hl.1 rfl rfl (Nat.le_of_ble_eq_true rfl) ⟨Nat.le_of_ble_eq_true rfl, Nat.le_of_ble_eq_true rfl⟩ ⟨Nat.le_of_ble_eq_true rfl, Nat.le_of_ble_eq_true rfl⟩ dX6_goBegin_177 (fun H5 locs hL hw_ => ?_)
                  obtain ⟨⟨ho, ha⟩, hq⟩ := hw_
                  have hS := hS.trans hq
                  obtain ⟨τ5, hτ5⟩ : ∃ τ, τ = (sSe τ4 (mn σ) (4) (s1 σ)) := ⟨_, rfl⟩
                  rw [← hτ5] at ha
                  have ht5 : mn τ5 = mn σ ∧ s0 τ5 = s0 σ ∧ s1 τ5 = s1 σ := by rw [hτ5]; exact ht4
                  have hn5 : nx τ5 = nx σ := by rw [hτ5]; exact hn4
                  refine lv_aload_n E.1 E.2.1 dX6_goBegin_180 rfl (lv_at hl 3 rfl) ?_
                  refine lv_iload_n E.1 E.2.1 dX6_goBegin_181 rfl (lv_at hl 1 rfl) ?_
                  refine r_const E dX6_goBegin_182 ?_
                  refine r_const E dX6_goBegin_183 ?_
                  refine kVWV (As := [.int (iI ((mn σ : Int))), .int (iI (5)), .int (iI (0))]) E cw_X6_59 (c_X6_lays G l g τ5 _ _ _ _ _ _ _ (mn σ) (5) (0) (by omega) (by omega) hga) ho ⟨_, _, rfl⟩ ⟨ho, ha⟩ hL hl.1 rfl rfl (Nat.le_of_ble_eq_true rfl) ⟨Nat.le_of_ble_eq_true rfl, Nat.le_of_ble_eq_true rfl⟩ ⟨Nat.le_of_ble_eq_true rfl, Nat.le_of_ble_eq_true rfl⟩ dX6_goBegin_184 (fun H6 locs hL hw_ => ?_)
                  obtain ⟨⟨ho, ha⟩, hq⟩ := hw_
                  have hS := hS.trans hq
                  obtain ⟨τ6, hτ6⟩ : ∃ τ, τ = (sSe τ5 (mn σ) (5) (0)) := ⟨_, rfl⟩
                  rw [← hτ6] at ha
                  have ht6 : mn τ6 = mn σ ∧ s0 τ6 = s0 σ ∧ s1 τ6 = s1 σ := by rw [hτ6]; exact ht5
                  have hn6 : nx τ6 = nx σ := by rw [hτ6]; exact hn5
                  refine lv_aload_n E.1 E.2.1 dX6_goBegin_187 rfl (lv_at hl 3 rfl) ?_
                  refine lv_iload_n E.1 E.2.1 dX6_goBegin_188 rfl (lv_at hl 1 rfl) ?_
                  refine lv_aload_n E.1 E.2.1 dX6_goBegin_189 rfl (lv_at hl 3 rfl) ?_
                  refine m_get E ho fw_X6_7 rfl dX6_goBegin_190 ?_
                  refine r_const E dX6_goBegin_193 ?_
                  refine r_iald E ha (2) rfl (by decide) (by decide) dX6_goBegin_194 ?_
                  rw [show encI τ6 (2) = iI ((s0 τ6 : Nat) : Int) from rfl]
                  rw [show s0 τ6 = s0 σ from ht6.2.1]
                  refine kVWV (As := [.int (iI ((mn σ : Int))), .int (iI ((s0 σ : Int)))]) E cw_X6_70 (c_X6_takesSectors G l g τ6 _ _ _ _ _ _ _ (mn σ) (s0 σ) (by omega) hga) ho ⟨_, _, rfl⟩ ⟨ho, ha⟩ hL hl.1 rfl rfl (Nat.le_of_ble_eq_true rfl) ⟨Nat.le_of_ble_eq_true rfl, Nat.le_of_ble_eq_true rfl⟩ ⟨Nat.le_of_ble_eq_true rfl, Nat.le_of_ble_eq_true rfl⟩ dX6_goBegin_195 (fun H7 locs hL hw_ => ?_)
                  obtain ⟨⟨ho, ha⟩, hq⟩ := hw_
                  have hS := hS.trans hq
                  obtain ⟨τ7, hτ7⟩ : ∃ τ, τ = (tS τ6 (mn σ) (s0 σ)) := ⟨_, rfl⟩
                  rw [← hτ7] at ha
                  have ht7 : mn τ7 = mn σ ∧ s0 τ7 = s0 σ ∧ s1 τ7 = s1 σ := by rw [hτ7]; exact ht6
                  refine lv_aload_n E.1 E.2.1 dX6_goBegin_198 rfl (lv_at hl 3 rfl) ?_
                  refine m_get E ho fw_X6_7 rfl dX6_goBegin_199 ?_
                  refine r_const E dX6_goBegin_202 ?_
                  refine lv_dup2_11 E.1 E.2.1 dX6_goBegin_203 rfl rfl ?_
                  refine r_iald E ha (1) rfl (by decide) (by decide) dX6_goBegin_204 ?_
                  rw [show encI τ7 (1) = iI ((mn τ7 : Nat) : Int) from rfl]
                  rw [show mn τ7 = mn σ from ht7.1]
                  refine r_const E dX6_goBegin_205 ?_
                  refine r_add E dX6_goBegin_206 ?_
                  refine r_iast E ha (1) rfl (by decide) (by decide) hL (by omega) dX6_goBegin_207 (fun H8 locs hL hO_ hF_ => ?_)
                  have ho := ho.kept (hF_.2 _ (by omega))
                  have hS := hS.trans (FrS.of1 (lo := g + 1) (hi := g + 2) hF_ (by omega) (by omega))
                  have ha : Ia G (g + 1) 0 344 (upd (encI τ7) (1) (iI ((mn σ : Int) + 1))) H8 := hO_
                  clear hO_
                  have ha : Ia G (g + 1) 0 344 (encI (sMn τ7 (mn σ + 1))) H8 := ha.to (enc_to (up_mn τ7 (mn σ + 1)) (by omega))
                  have hbr := bR_eq (σ := σ) (y := y) (by omega) hop (by omega)
                  have hbe : sMn τ7 (mn σ + 1) = bR σ (srcE σ y) := by rw [hτ7, hτ6, hτ5, hτ4, hτ3, hτ2, hτ1, hτ0]; rfl
                  rw [hbe, hbr.2] at ha
                  refine lv_iload_n E.1 E.2.1 dX6_goBegin_208 rfl (lv_at hl 1 rfl) ?_
                  refine e_iret (rm := ({ frames := 4, cells := 0, slots := 0, locals := 87 } : Room)) (v := iI ((mn σ : Int))) E hL dX6_goBegin_209 ?_
                  exact ⟨by rw [hbr.1], ⟨⟨ho, ha⟩, hS⟩⟩
                · subst hu
                  refine lv_aload_n E.1 E.2.1 dX6_goBegin_94 rfl (lv_at hl 3 rfl) ?_
                  refine m_get E ho fw_X6_7 rfl dX6_goBegin_95 ?_
                  refine r_bipush E dX6_goBegin_98 (by decide) ?_
                  refine r_bipush E dX6_goBegin_100 (by decide) ?_
                  refine lv_iload_n E.1 E.2.1 dX6_goBegin_102 rfl (lv_at hl 1 rfl) ?_
                  refine r_mul E dX6_goBegin_103 ?_
                  refine r_add E dX6_goBegin_104 ?_
                  refine lv_iload E.1 E.2.1 dX6_goBegin_105 (lv_at hl 0 rfl) ?_
                  refine r_add E dX6_goBegin_107 ?_
                  refine lv_iload_n E.1 E.2.1 dX6_goBegin_108 rfl (lv_at hl 2 rfl) ?_
                  refine r_if_ge (tgt := 116) E dX6_goBegin_109 (by decide) (by omega) (fun c109 => absurd c109 (by omega)) (fun c109 => ?_)
                  refine r_const E dX6_goBegin_112 ?_
                  refine lv_goto (tgt := 123) E.1 E.2.1 dX6_goBegin_113 (by decide) ?_
                  refine r_iast E ha (104 + 20 * mn σ + k) (by omega) (by omega) (by decide) hL (by omega) dX6_goBegin_123 (fun H1 locs hL hO_ hF_ => ?_)
                  have ho := ho.kept (hF_.2 _ (by omega))
                  have hS := hS.trans (FrS.of1 (lo := g + 1) (hi := g + 2) hF_ (by omega) (by omega))
                  have ha : Ia G (g + 1) 0 344 (upd (encI (bS σ (srcE σ y) k)) (104 + 20 * mn σ + k) (iI (0))) H1 := hO_
                  clear hO_
                  have hsr : srcE σ y k = none := by
                    unfold srcE
                    first
                    | (rw [if_neg (by omega)]; done)
                    | (rw [if_pos (by omega)]; simp only [foundF, hv]; done)
                  have ha : Ia G (g + 1) 0 344 (encI (bS σ (srcE σ y) (k + 1))) H1 := ha.to (enc_to (bS_up (by omega)) (by rw [hsr]; rfl))
                  refine r_inc (lv' := [(4, .int (iI ((k : Int) + 1))), (3, .int (iI ((mn σ : Int)))), (2, .int (iI ((-6)))), (0, .ref (g)), (1, .int (iI (y)))]) E dX6_goBegin_124 hl (k := 0) rfl (by decide) rfl (fun ls hl => ?_)
                  refine lv_goto (tgt := 87) E.1 E.2.1 dX6_goBegin_127 (by decide) ?_
                  refine ihin87 _ ?_ (k + 1) H1 ((k : Int) + 1) ls locs ?_ ?_ ?_ ?_ ?_ rfl (lv_sub hl [0, 1, 2, 3, 4] rfl) hL
                  · omega
                  · omega
                  · omega
                  · exact ho
                  · exact ha
                  · exact hS
            refine LP87 _ 0 s.heap 0 ls locs ?_ ?_ ?_ ?_ ?_ rfl (lv_sub hl [0, 1, 2, 3, 4] rfl) hL
            · omega
            · rfl
            · exact ho
            · exact ha.to (fun j _ => by rw [bS_0])
            · exact hS
          · refine lv_aload_n E.1 E.2.1 dX6_goBegin_67 rfl (lv_at hl 0 rfl) ?_
            refine kVRE (As := []) E cw_X6_67 (c_X6_validOne G l g σ _ _ _ _ _ _ _ hI) ho ⟨_, _, rfl⟩ ⟨ho, ha⟩ hL hl.1 rfl rfl (Nat.le_of_ble_eq_true rfl) ⟨Nat.le_of_ble_eq_true rfl, Nat.le_of_ble_eq_true rfl⟩ ⟨rfl, rfl⟩ ⟨Nat.le_of_ble_eq_true rfl, Nat.le_of_ble_eq_true rfl⟩ dX6_goBegin_68 (fun locs hL => ?_)
            rcases hv : validD σ (dm σ) with _ | q
            · rw [show oI none = -6 from rfl]
              refine lv_goto (tgt := 76) E.1 E.2.1 dX6_goBegin_71 (by decide) ?_
              refine lv_istore_n (lv' := [(2, .int (iI ((-6)))), (0, .ref (g)), (1, .int (iI (y)))]) E.1 E.2.1 dX6_goBegin_76 rfl hl (by decide) rfl (fun ls hl => ?_)
              refine lv_aload_n E.1 E.2.1 dX6_goBegin_77 rfl (lv_at hl 1 rfl) ?_
              refine m_get E ho fw_X6_7 rfl dX6_goBegin_78 ?_
              refine r_const E dX6_goBegin_81 ?_
              refine r_iald E ha (1) rfl (by decide) (by decide) dX6_goBegin_82 ?_
              rw [show encI σ (1) = iI ((mn σ : Nat) : Int) from rfl]
              refine lv_istore_n (lv' := [(3, .int (iI ((mn σ : Int)))), (2, .int (iI ((-6)))), (0, .ref (g)), (1, .int (iI (y)))]) E.1 E.2.1 dX6_goBegin_83 rfl hl (by decide) rfl (fun ls hl => ?_)
              refine r_const E dX6_goBegin_84 ?_
              refine lv_istore (lv' := [(4, .int (iI (0))), (3, .int (iI ((mn σ : Int)))), (2, .int (iI ((-6)))), (0, .ref (g)), (1, .int (iI (y)))]) E.1 E.2.1 dX6_goBegin_85 hl (by decide) rfl (fun ls hl => ?_)
              have LP87 : ∀ (kin87 : Nat) (k : Nat) (H : Heap) (u : Int) (ls : Array Slot) (locs : List Loc) (hk : k ≤ 20) (hu : u = (k : Int)) (ho : Ob G g 6 [.ref (g + 1), .ref (g + 2), .ref (g + 3), .int v3, .ref (g + 4), .int v5, .int v6, .int v7, .int v8, .int v9, .int v10] H) (ha : Ia G (g + 1) 0 344 (encI (bS σ (srcE σ y) k)) H) (hS : FrS (g + 1) (g + 2) s.heap H) (hkin87 : 20 - k = kin87) (hl : lv_has ls 5 [(4, .int (iI (u))), (3, .int (iI ((mn σ : Int)))), (2, .int (iI ((-6)))), (0, .ref (g)), (1, .int (iI (y)))]) (hL : Lk G locs), W p l e ({ frames := 4, cells := 0, slots := 0, locals := 87 } : Room) s m args below meth c H locs 0 0 (QQ G below args s ({ frames := 4, cells := 0, slots := 0, locals := 87 } : Room) (WE (iI (spBegin σ y).1) (MW G g (spBegin σ y).2 v3 v5 v6 v7 v8 v9 v10))) (F0 m 87 ls []) := by
                intro kin87
                induction kin87 using Nat.strongRecOn with
                | ind kin87 ihin87 =>
                  intro k H u ls locs hk hu ho ha hS hkin87 hl hL
                  refine lv_iload E.1 E.2.1 dX6_goBegin_87 (lv_at hl 0 rfl) ?_
                  refine r_bipush E dX6_goBegin_89 (by decide) ?_
                  refine r_icmp_ge (tgt := 130) E dX6_goBegin_91 (by decide) (by omega) (by omega) (fun c91 => ?_) (fun c91 => ?_)
                  · have hk20 : k = 20 := by omega
                    subst hk20
                    obtain ⟨τ0, hτ0⟩ : ∃ τ, τ = (bS σ (srcE σ y) 20) := ⟨_, rfl⟩
                    rw [← hτ0] at ha
                    have ht0 : mn τ0 = mn σ ∧ s0 τ0 = s0 σ ∧ s1 τ0 = s1 σ := by rw [hτ0]; exact ⟨rfl, rfl, rfl⟩
                    have hn0 : nx τ0 = nx σ := by rw [hτ0]; exact rfl
                    refine lv_aload_n E.1 E.2.1 dX6_goBegin_130 rfl (lv_at hl 3 rfl) ?_
                    refine lv_iload_n E.1 E.2.1 dX6_goBegin_131 rfl (lv_at hl 1 rfl) ?_
                    refine r_const E dX6_goBegin_132 ?_
                    refine r_const E dX6_goBegin_133 ?_
                    refine kVWV (As := [.int (iI ((mn σ : Int))), .int (iI (0)), .int (iI (0))]) E cw_X6_59 (c_X6_lays G l g τ0 _ _ _ _ _ _ _ (mn σ) (0) (0) (by omega) (by omega) hga) ho ⟨_, _, rfl⟩ ⟨ho, ha⟩ hL hl.1 rfl rfl (Nat.le_of_ble_eq_true rfl) ⟨Nat.le_of_ble_eq_true rfl, Nat.le_of_ble_eq_true rfl⟩ ⟨Nat.le_of_ble_eq_true rfl, Nat.le_of_ble_eq_true rfl⟩ dX6_goBegin_134 (fun H1 locs hL hw_ => ?_)
                    obtain ⟨⟨ho, ha⟩, hq⟩ := hw_
                    have hS := hS.trans hq
                    obtain ⟨τ1, hτ1⟩ : ∃ τ, τ = (sSe τ0 (mn σ) (0) (0)) := ⟨_, rfl⟩
                    rw [← hτ1] at ha
                    have ht1 : mn τ1 = mn σ ∧ s0 τ1 = s0 σ ∧ s1 τ1 = s1 σ := by rw [hτ1]; exact ht0
                    have hn1 : nx τ1 = nx σ := by rw [hτ1]; exact hn0
                    refine lv_aload_n E.1 E.2.1 dX6_goBegin_137 rfl (lv_at hl 3 rfl) ?_
                    refine lv_iload_n E.1 E.2.1 dX6_goBegin_138 rfl (lv_at hl 1 rfl) ?_
                    refine r_const E dX6_goBegin_139 ?_
                    refine lv_aload_n E.1 E.2.1 dX6_goBegin_140 rfl (lv_at hl 3 rfl) ?_
                    refine m_get E ho fw_X6_7 rfl dX6_goBegin_141 ?_
                    refine r_const E dX6_goBegin_144 ?_
                    refine r_iald E ha (0) rfl (by decide) (by decide) dX6_goBegin_145 ?_
                    rw [show encI τ1 (0) = iI ((nx τ1 : Nat) : Int) from rfl]
                    rw [show nx τ1 = nx σ from hn1]
                    refine kVWV (As := [.int (iI ((mn σ : Int))), .int (iI (1)), .int (iI ((nx σ : Int)))]) E cw_X6_59 (c_X6_lays G l g τ1 _ _ _ _ _ _ _ (mn σ) (1) (nx σ) (by omega) (by omega) hga) ho ⟨_, _, rfl⟩ ⟨ho, ha⟩ hL hl.1 rfl rfl (Nat.le_of_ble_eq_true rfl) ⟨Nat.le_of_ble_eq_true rfl, Nat.le_of_ble_eq_true rfl⟩ ⟨Nat.le_of_ble_eq_true rfl, Nat.le_of_ble_eq_true rfl⟩ dX6_goBegin_146 (fun H2 locs hL hw_ => ?_)
                    obtain ⟨⟨ho, ha⟩, hq⟩ := hw_
                    have hS := hS.trans hq
                    obtain ⟨τ2, hτ2⟩ : ∃ τ, τ = (sSe τ1 (mn σ) (1) (nx σ)) := ⟨_, rfl⟩
                    rw [← hτ2] at ha
                    have ht2 : mn τ2 = mn σ ∧ s0 τ2 = s0 σ ∧ s1 τ2 = s1 σ := by rw [hτ2]; exact ht1
                    have hn2 : nx τ2 = nx σ := by rw [hτ2]; exact hn1
                    refine lv_aload_n E.1 E.2.1 dX6_goBegin_149 rfl (lv_at hl 3 rfl) ?_
                    refine lv_iload_n E.1 E.2.1 dX6_goBegin_150 rfl (lv_at hl 1 rfl) ?_
                    refine r_const E dX6_goBegin_151 ?_
                    refine r_const E dX6_goBegin_152 ?_
                    refine kVWV (As := [.int (iI ((mn σ : Int))), .int (iI (2)), .int (iI (0))]) E cw_X6_59 (c_X6_lays G l g τ2 _ _ _ _ _ _ _ (mn σ) (2) (0) (by omega) (by omega) hga) ho ⟨_, _, rfl⟩ ⟨ho, ha⟩ hL hl.1 rfl rfl (Nat.le_of_ble_eq_true rfl) ⟨Nat.le_of_ble_eq_true rfl, Nat.le_of_ble_eq_true rfl⟩ ⟨Nat.le_of_ble_eq_true rfl, Nat.le_of_ble_eq_true rfl⟩ dX6_goBegin_153 (fun H3 locs hL hw_ => ?_)
                    obtain ⟨⟨ho, ha⟩, hq⟩ := hw_
                    have hS := hS.trans hq
                    obtain ⟨τ3, hτ3⟩ : ∃ τ, τ = (sSe τ2 (mn σ) (2) (0)) := ⟨_, rfl⟩
                    rw [← hτ3] at ha
                    have ht3 : mn τ3 = mn σ ∧ s0 τ3 = s0 σ ∧ s1 τ3 = s1 σ := by rw [hτ3]; exact ht2
                    have hn3 : nx τ3 = nx σ := by rw [hτ3]; exact hn2
                    refine lv_aload_n E.1 E.2.1 dX6_goBegin_156 rfl (lv_at hl 3 rfl) ?_
                    refine lv_iload_n E.1 E.2.1 dX6_goBegin_157 rfl (lv_at hl 1 rfl) ?_
                    refine r_const E dX6_goBegin_158 ?_
                    refine lv_aload_n E.1 E.2.1 dX6_goBegin_159 rfl (lv_at hl 3 rfl) ?_
                    refine m_get E ho fw_X6_7 rfl dX6_goBegin_160 ?_
                    refine r_const E dX6_goBegin_163 ?_
                    refine r_iald E ha (2) rfl (by decide) (by decide) dX6_goBegin_164 ?_
                    rw [show encI τ3 (2) = iI ((s0 τ3 : Nat) : Int) from rfl]
                    rw [show s0 τ3 = s0 σ from ht3.2.1]
                    refine kVWV (As := [.int (iI ((mn σ : Int))), .int (iI (3)), .int (iI ((s0 σ : Int)))]) E cw_X6_59 (c_X6_lays G l g τ3 _ _ _ _ _ _ _ (mn σ) (3) (s0 σ) (by omega) (by omega) hga) ho ⟨_, _, rfl⟩ ⟨ho, ha⟩ hL hl.1 rfl rfl (Nat.le_of_ble_eq_true rfl) ⟨Nat.le_of_ble_eq_true rfl, Nat.le_of_ble_eq_true rfl⟩ ⟨Nat.le_of_ble_eq_true rfl, Nat.le_of_ble_eq_true rfl⟩ dX6_goBegin_165 (fun H4 locs hL hw_ => ?_)
                    obtain ⟨⟨ho, ha⟩, hq⟩ := hw_
                    have hS := hS.trans hq
                    obtain ⟨τ4, hτ4⟩ : ∃ τ, τ = (sSe τ3 (mn σ) (3) (s0 σ)) := ⟨_, rfl⟩
                    rw [← hτ4] at ha
                    have ht4 : mn τ4 = mn σ ∧ s0 τ4 = s0 σ ∧ s1 τ4 = s1 σ := by rw [hτ4]; exact ht3
                    have hn4 : nx τ4 = nx σ := by rw [hτ4]; exact hn3
                    refine lv_aload_n E.1 E.2.1 dX6_goBegin_168 rfl (lv_at hl 3 rfl) ?_
                    refine lv_iload_n E.1 E.2.1 dX6_goBegin_169 rfl (lv_at hl 1 rfl) ?_
                    refine r_const E dX6_goBegin_170 ?_
                    refine lv_aload_n E.1 E.2.1 dX6_goBegin_171 rfl (lv_at hl 3 rfl) ?_
                    refine m_get E ho fw_X6_7 rfl dX6_goBegin_172 ?_
                    refine r_const E dX6_goBegin_175 ?_
                    refine r_iald E ha (3) rfl (by decide) (by decide) dX6_goBegin_176 ?_
                    rw [show encI τ4 (3) = iI ((s1 τ4 : Nat) : Int) from rfl]
                    rw [show s1 τ4 = s1 σ from ht4.2.2]
                    refine kVWV (As := [.int (iI ((mn σ : Int))), .int (iI (4)), .int (iI ((s1 σ : Int)))]) E cw_X6_59 (c_X6_lays G l g τ4 _ _ _ _ _ _ _ (mn σ) (4) (s1 σ) (by omega) (by omega) hga) ho ⟨_, _, rfl⟩ ⟨ho, ha⟩ hL hl.1 rfl rfl (Nat.le_of_ble_eq_true rfl) ⟨Nat.le_of_ble_eq_true rfl, Nat.le_of_ble_eq_true rfl⟩ ⟨Nat.le_of_ble_eq_true rfl, Nat.le_of_ble_eq_true rfl⟩ dX6_goBegin_177 (fun H5 locs hL hw_ => ?_)
                    obtain ⟨⟨ho, ha⟩, hq⟩ := hw_
                    have hS := hS.trans hq
                    obtain ⟨τ5, hτ5⟩ : ∃ τ, τ = (sSe τ4 (mn σ) (4) (s1 σ)) := ⟨_, rfl⟩
                    rw [← hτ5] at ha
                    have ht5 : mn τ5 = mn σ ∧ s0 τ5 = s0 σ ∧ s1 τ5 = s1 σ := by rw [hτ5]; exact ht4
                    have hn5 : nx τ5 = nx σ := by rw [hτ5]; exact hn4
                    refine lv_aload_n E.1 E.2.1 dX6_goBegin_180 rfl (lv_at hl 3 rfl) ?_
                    refine lv_iload_n E.1 E.2.1 dX6_goBegin_181 rfl (lv_at hl 1 rfl) ?_
                    refine r_const E dX6_goBegin_182 ?_
                    refine r_const E dX6_goBegin_183 ?_
                    refine kVWV (As := [.int (iI ((mn σ : Int))), .int (iI (5)), .int (iI (0))]) E cw_X6_59 (c_X6_lays G l g τ5 _ _ _ _ _ _ _ (mn σ) (5) (0) (by omega) (by omega) hga) ho ⟨_, _, rfl⟩ ⟨ho, ha⟩ hL hl.1 rfl rfl (Nat.le_of_ble_eq_true rfl) ⟨Nat.le_of_ble_eq_true rfl, Nat.le_of_ble_eq_true rfl⟩ ⟨Nat.le_of_ble_eq_true rfl, Nat.le_of_ble_eq_true rfl⟩ dX6_goBegin_184 (fun H6 locs hL hw_ => ?_)
                    obtain ⟨⟨ho, ha⟩, hq⟩ := hw_
                    have hS := hS.trans hq
                    obtain ⟨τ6, hτ6⟩ : ∃ τ, τ = (sSe τ5 (mn σ) (5) (0)) := ⟨_, rfl⟩
                    rw [← hτ6] at ha
                    have ht6 : mn τ6 = mn σ ∧ s0 τ6 = s0 σ ∧ s1 τ6 = s1 σ := by rw [hτ6]; exact ht5
                    have hn6 : nx τ6 = nx σ := by rw [hτ6]; exact hn5
                    refine lv_aload_n E.1 E.2.1 dX6_goBegin_187 rfl (lv_at hl 3 rfl) ?_
                    refine lv_iload_n E.1 E.2.1 dX6_goBegin_188 rfl (lv_at hl 1 rfl) ?_
                    refine lv_aload_n E.1 E.2.1 dX6_goBegin_189 rfl (lv_at hl 3 rfl) ?_
                    refine m_get E ho fw_X6_7 rfl dX6_goBegin_190 ?_
                    refine r_const E dX6_goBegin_193 ?_
                    refine r_iald E ha (2) rfl (by decide) (by decide) dX6_goBegin_194 ?_
                    rw [show encI τ6 (2) = iI ((s0 τ6 : Nat) : Int) from rfl]
                    rw [show s0 τ6 = s0 σ from ht6.2.1]
                    refine kVWV (As := [.int (iI ((mn σ : Int))), .int (iI ((s0 σ : Int)))]) E cw_X6_70 (c_X6_takesSectors G l g τ6 _ _ _ _ _ _ _ (mn σ) (s0 σ) (by omega) hga) ho ⟨_, _, rfl⟩ ⟨ho, ha⟩ hL hl.1 rfl rfl (Nat.le_of_ble_eq_true rfl) ⟨Nat.le_of_ble_eq_true rfl, Nat.le_of_ble_eq_true rfl⟩ ⟨Nat.le_of_ble_eq_true rfl, Nat.le_of_ble_eq_true rfl⟩ dX6_goBegin_195 (fun H7 locs hL hw_ => ?_)
                    obtain ⟨⟨ho, ha⟩, hq⟩ := hw_
                    have hS := hS.trans hq
                    obtain ⟨τ7, hτ7⟩ : ∃ τ, τ = (tS τ6 (mn σ) (s0 σ)) := ⟨_, rfl⟩
                    rw [← hτ7] at ha
                    have ht7 : mn τ7 = mn σ ∧ s0 τ7 = s0 σ ∧ s1 τ7 = s1 σ := by rw [hτ7]; exact ht6
                    refine lv_aload_n E.1 E.2.1 dX6_goBegin_198 rfl (lv_at hl 3 rfl) ?_
                    refine m_get E ho fw_X6_7 rfl dX6_goBegin_199 ?_
                    refine r_const E dX6_goBegin_202 ?_
                    refine lv_dup2_11 E.1 E.2.1 dX6_goBegin_203 rfl rfl ?_
                    refine r_iald E ha (1) rfl (by decide) (by decide) dX6_goBegin_204 ?_
                    rw [show encI τ7 (1) = iI ((mn τ7 : Nat) : Int) from rfl]
                    rw [show mn τ7 = mn σ from ht7.1]
                    refine r_const E dX6_goBegin_205 ?_
                    refine r_add E dX6_goBegin_206 ?_
                    refine r_iast E ha (1) rfl (by decide) (by decide) hL (by omega) dX6_goBegin_207 (fun H8 locs hL hO_ hF_ => ?_)
                    have ho := ho.kept (hF_.2 _ (by omega))
                    have hS := hS.trans (FrS.of1 (lo := g + 1) (hi := g + 2) hF_ (by omega) (by omega))
                    have ha : Ia G (g + 1) 0 344 (upd (encI τ7) (1) (iI ((mn σ : Int) + 1))) H8 := hO_
                    clear hO_
                    have ha : Ia G (g + 1) 0 344 (encI (sMn τ7 (mn σ + 1))) H8 := ha.to (enc_to (up_mn τ7 (mn σ + 1)) (by omega))
                    have hbr := bR_eq (σ := σ) (y := y) (by omega) hop (by omega)
                    have hbe : sMn τ7 (mn σ + 1) = bR σ (srcE σ y) := by rw [hτ7, hτ6, hτ5, hτ4, hτ3, hτ2, hτ1, hτ0]; rfl
                    rw [hbe, hbr.2] at ha
                    refine lv_iload_n E.1 E.2.1 dX6_goBegin_208 rfl (lv_at hl 1 rfl) ?_
                    refine e_iret (rm := ({ frames := 4, cells := 0, slots := 0, locals := 87 } : Room)) (v := iI ((mn σ : Int))) E hL dX6_goBegin_209 ?_
                    exact ⟨by rw [hbr.1], ⟨⟨ho, ha⟩, hS⟩⟩
                  · subst hu
                    refine lv_aload_n E.1 E.2.1 dX6_goBegin_94 rfl (lv_at hl 3 rfl) ?_
                    refine m_get E ho fw_X6_7 rfl dX6_goBegin_95 ?_
                    refine r_bipush E dX6_goBegin_98 (by decide) ?_
                    refine r_bipush E dX6_goBegin_100 (by decide) ?_
                    refine lv_iload_n E.1 E.2.1 dX6_goBegin_102 rfl (lv_at hl 1 rfl) ?_
                    refine r_mul E dX6_goBegin_103 ?_
                    refine r_add E dX6_goBegin_104 ?_
                    refine lv_iload E.1 E.2.1 dX6_goBegin_105 (lv_at hl 0 rfl) ?_
                    refine r_add E dX6_goBegin_107 ?_
                    refine lv_iload_n E.1 E.2.1 dX6_goBegin_108 rfl (lv_at hl 2 rfl) ?_
                    refine r_if_ge (tgt := 116) E dX6_goBegin_109 (by decide) (by omega) (fun c109 => absurd c109 (by omega)) (fun c109 => ?_)
                    refine r_const E dX6_goBegin_112 ?_
                    refine lv_goto (tgt := 123) E.1 E.2.1 dX6_goBegin_113 (by decide) ?_
                    refine r_iast E ha (104 + 20 * mn σ + k) (by omega) (by omega) (by decide) hL (by omega) dX6_goBegin_123 (fun H1 locs hL hO_ hF_ => ?_)
                    have ho := ho.kept (hF_.2 _ (by omega))
                    have hS := hS.trans (FrS.of1 (lo := g + 1) (hi := g + 2) hF_ (by omega) (by omega))
                    have ha : Ia G (g + 1) 0 344 (upd (encI (bS σ (srcE σ y) k)) (104 + 20 * mn σ + k) (iI (0))) H1 := hO_
                    clear hO_
                    have hsr : srcE σ y k = none := by
                      unfold srcE
                      first
                      | (rw [if_neg (by omega)]; done)
                      | (rw [if_pos (by omega)]; simp only [foundF, hv]; done)
                    have ha : Ia G (g + 1) 0 344 (encI (bS σ (srcE σ y) (k + 1))) H1 := ha.to (enc_to (bS_up (by omega)) (by rw [hsr]; rfl))
                    refine r_inc (lv' := [(4, .int (iI ((k : Int) + 1))), (3, .int (iI ((mn σ : Int)))), (2, .int (iI ((-6)))), (0, .ref (g)), (1, .int (iI (y)))]) E dX6_goBegin_124 hl (k := 0) rfl (by decide) rfl (fun ls hl => ?_)
                    refine lv_goto (tgt := 87) E.1 E.2.1 dX6_goBegin_127 (by decide) ?_
                    refine ihin87 _ ?_ (k + 1) H1 ((k : Int) + 1) ls locs ?_ ?_ ?_ ?_ ?_ rfl (lv_sub hl [0, 1, 2, 3, 4] rfl) hL
                    · omega
                    · omega
                    · omega
                    · exact ho
                    · exact ha
                    · exact hS
              refine LP87 _ 0 s.heap 0 ls locs ?_ ?_ ?_ ?_ ?_ rfl (lv_sub hl [0, 1, 2, 3, 4] rfl) hL
              · omega
              · rfl
              · exact ho
              · exact ha.to (fun j _ => by rw [bS_0])
              · exact hS
            · have hvq := validD_lt hv
              rw [show oI (some q) = (q : Int) from rfl]
              refine lv_goto (tgt := 76) E.1 E.2.1 dX6_goBegin_71 (by decide) ?_
              refine lv_istore_n (lv' := [(2, .int (iI ((q : Int)))), (0, .ref (g)), (1, .int (iI (y)))]) E.1 E.2.1 dX6_goBegin_76 rfl hl (by decide) rfl (fun ls hl => ?_)
              refine lv_aload_n E.1 E.2.1 dX6_goBegin_77 rfl (lv_at hl 1 rfl) ?_
              refine m_get E ho fw_X6_7 rfl dX6_goBegin_78 ?_
              refine r_const E dX6_goBegin_81 ?_
              refine r_iald E ha (1) rfl (by decide) (by decide) dX6_goBegin_82 ?_
              rw [show encI σ (1) = iI ((mn σ : Nat) : Int) from rfl]
              refine lv_istore_n (lv' := [(3, .int (iI ((mn σ : Int)))), (2, .int (iI ((q : Int)))), (0, .ref (g)), (1, .int (iI (y)))]) E.1 E.2.1 dX6_goBegin_83 rfl hl (by decide) rfl (fun ls hl => ?_)
              refine r_const E dX6_goBegin_84 ?_
              refine lv_istore (lv' := [(4, .int (iI (0))), (3, .int (iI ((mn σ : Int)))), (2, .int (iI ((q : Int)))), (0, .ref (g)), (1, .int (iI (y)))]) E.1 E.2.1 dX6_goBegin_85 hl (by decide) rfl (fun ls hl => ?_)
              have LP87 : ∀ (kin87 : Nat) (k : Nat) (H : Heap) (u : Int) (ls : Array Slot) (locs : List Loc) (hk : k ≤ 20) (hu : u = (k : Int)) (ho : Ob G g 6 [.ref (g + 1), .ref (g + 2), .ref (g + 3), .int v3, .ref (g + 4), .int v5, .int v6, .int v7, .int v8, .int v9, .int v10] H) (ha : Ia G (g + 1) 0 344 (encI (bS σ (srcE σ y) k)) H) (hS : FrS (g + 1) (g + 2) s.heap H) (hkin87 : 20 - k = kin87) (hl : lv_has ls 5 [(4, .int (iI (u))), (3, .int (iI ((mn σ : Int)))), (2, .int (iI ((q : Int)))), (0, .ref (g)), (1, .int (iI (y)))]) (hL : Lk G locs), W p l e ({ frames := 4, cells := 0, slots := 0, locals := 87 } : Room) s m args below meth c H locs 0 0 (QQ G below args s ({ frames := 4, cells := 0, slots := 0, locals := 87 } : Room) (WE (iI (spBegin σ y).1) (MW G g (spBegin σ y).2 v3 v5 v6 v7 v8 v9 v10))) (F0 m 87 ls []) := by
                intro kin87
                induction kin87 using Nat.strongRecOn with
                | ind kin87 ihin87 =>
                  intro k H u ls locs hk hu ho ha hS hkin87 hl hL
                  refine lv_iload E.1 E.2.1 dX6_goBegin_87 (lv_at hl 0 rfl) ?_
                  refine r_bipush E dX6_goBegin_89 (by decide) ?_
                  refine r_icmp_ge (tgt := 130) E dX6_goBegin_91 (by decide) (by omega) (by omega) (fun c91 => ?_) (fun c91 => ?_)
                  · have hk20 : k = 20 := by omega
                    subst hk20
                    obtain ⟨τ0, hτ0⟩ : ∃ τ, τ = (bS σ (srcE σ y) 20) := ⟨_, rfl⟩
                    rw [← hτ0] at ha
                    have ht0 : mn τ0 = mn σ ∧ s0 τ0 = s0 σ ∧ s1 τ0 = s1 σ := by rw [hτ0]; exact ⟨rfl, rfl, rfl⟩
                    have hn0 : nx τ0 = nx σ := by rw [hτ0]; exact rfl
                    refine lv_aload_n E.1 E.2.1 dX6_goBegin_130 rfl (lv_at hl 3 rfl) ?_
                    refine lv_iload_n E.1 E.2.1 dX6_goBegin_131 rfl (lv_at hl 1 rfl) ?_
                    refine r_const E dX6_goBegin_132 ?_
                    refine r_const E dX6_goBegin_133 ?_
                    refine kVWV (As := [.int (iI ((mn σ : Int))), .int (iI (0)), .int (iI (0))]) E cw_X6_59 (c_X6_lays G l g τ0 _ _ _ _ _ _ _ (mn σ) (0) (0) (by omega) (by omega) hga) ho ⟨_, _, rfl⟩ ⟨ho, ha⟩ hL hl.1 rfl rfl (Nat.le_of_ble_eq_true rfl) ⟨Nat.le_of_ble_eq_true rfl, Nat.le_of_ble_eq_true rfl⟩ ⟨Nat.le_of_ble_eq_true rfl, Nat.le_of_ble_eq_true rfl⟩ dX6_goBegin_134 (fun H1 locs hL hw_ => ?_)
                    obtain ⟨⟨ho, ha⟩, hq⟩ := hw_
                    have hS := hS.trans hq
                    obtain ⟨τ1, hτ1⟩ : ∃ τ, τ = (sSe τ0 (mn σ) (0) (0)) := ⟨_, rfl⟩
                    rw [← hτ1] at ha
                    have ht1 : mn τ1 = mn σ ∧ s0 τ1 = s0 σ ∧ s1 τ1 = s1 σ := by rw [hτ1]; exact ht0
                    have hn1 : nx τ1 = nx σ := by rw [hτ1]; exact hn0
                    refine lv_aload_n E.1 E.2.1 dX6_goBegin_137 rfl (lv_at hl 3 rfl) ?_
                    refine lv_iload_n E.1 E.2.1 dX6_goBegin_138 rfl (lv_at hl 1 rfl) ?_
                    refine r_const E dX6_goBegin_139 ?_
                    refine lv_aload_n E.1 E.2.1 dX6_goBegin_140 rfl (lv_at hl 3 rfl) ?_
                    refine m_get E ho fw_X6_7 rfl dX6_goBegin_141 ?_
                    refine r_const E dX6_goBegin_144 ?_
                    refine r_iald E ha (0) rfl (by decide) (by decide) dX6_goBegin_145 ?_
                    rw [show encI τ1 (0) = iI ((nx τ1 : Nat) : Int) from rfl]
                    rw [show nx τ1 = nx σ from hn1]
                    refine kVWV (As := [.int (iI ((mn σ : Int))), .int (iI (1)), .int (iI ((nx σ : Int)))]) E cw_X6_59 (c_X6_lays G l g τ1 _ _ _ _ _ _ _ (mn σ) (1) (nx σ) (by omega) (by omega) hga) ho ⟨_, _, rfl⟩ ⟨ho, ha⟩ hL hl.1 rfl rfl (Nat.le_of_ble_eq_true rfl) ⟨Nat.le_of_ble_eq_true rfl, Nat.le_of_ble_eq_true rfl⟩ ⟨Nat.le_of_ble_eq_true rfl, Nat.le_of_ble_eq_true rfl⟩ dX6_goBegin_146 (fun H2 locs hL hw_ => ?_)
                    obtain ⟨⟨ho, ha⟩, hq⟩ := hw_
                    have hS := hS.trans hq
                    obtain ⟨τ2, hτ2⟩ : ∃ τ, τ = (sSe τ1 (mn σ) (1) (nx σ)) := ⟨_, rfl⟩
                    rw [← hτ2] at ha
                    have ht2 : mn τ2 = mn σ ∧ s0 τ2 = s0 σ ∧ s1 τ2 = s1 σ := by rw [hτ2]; exact ht1
                    have hn2 : nx τ2 = nx σ := by rw [hτ2]; exact hn1
                    refine lv_aload_n E.1 E.2.1 dX6_goBegin_149 rfl (lv_at hl 3 rfl) ?_
                    refine lv_iload_n E.1 E.2.1 dX6_goBegin_150 rfl (lv_at hl 1 rfl) ?_
                    refine r_const E dX6_goBegin_151 ?_
                    refine r_const E dX6_goBegin_152 ?_
                    refine kVWV (As := [.int (iI ((mn σ : Int))), .int (iI (2)), .int (iI (0))]) E cw_X6_59 (c_X6_lays G l g τ2 _ _ _ _ _ _ _ (mn σ) (2) (0) (by omega) (by omega) hga) ho ⟨_, _, rfl⟩ ⟨ho, ha⟩ hL hl.1 rfl rfl (Nat.le_of_ble_eq_true rfl) ⟨Nat.le_of_ble_eq_true rfl, Nat.le_of_ble_eq_true rfl⟩ ⟨Nat.le_of_ble_eq_true rfl, Nat.le_of_ble_eq_true rfl⟩ dX6_goBegin_153 (fun H3 locs hL hw_ => ?_)
                    obtain ⟨⟨ho, ha⟩, hq⟩ := hw_
                    have hS := hS.trans hq
                    obtain ⟨τ3, hτ3⟩ : ∃ τ, τ = (sSe τ2 (mn σ) (2) (0)) := ⟨_, rfl⟩
                    rw [← hτ3] at ha
                    have ht3 : mn τ3 = mn σ ∧ s0 τ3 = s0 σ ∧ s1 τ3 = s1 σ := by rw [hτ3]; exact ht2
                    have hn3 : nx τ3 = nx σ := by rw [hτ3]; exact hn2
                    refine lv_aload_n E.1 E.2.1 dX6_goBegin_156 rfl (lv_at hl 3 rfl) ?_
                    refine lv_iload_n E.1 E.2.1 dX6_goBegin_157 rfl (lv_at hl 1 rfl) ?_
                    refine r_const E dX6_goBegin_158 ?_
                    refine lv_aload_n E.1 E.2.1 dX6_goBegin_159 rfl (lv_at hl 3 rfl) ?_
                    refine m_get E ho fw_X6_7 rfl dX6_goBegin_160 ?_
                    refine r_const E dX6_goBegin_163 ?_
                    refine r_iald E ha (2) rfl (by decide) (by decide) dX6_goBegin_164 ?_
                    rw [show encI τ3 (2) = iI ((s0 τ3 : Nat) : Int) from rfl]
                    rw [show s0 τ3 = s0 σ from ht3.2.1]
                    refine kVWV (As := [.int (iI ((mn σ : Int))), .int (iI (3)), .int (iI ((s0 σ : Int)))]) E cw_X6_59 (c_X6_lays G l g τ3 _ _ _ _ _ _ _ (mn σ) (3) (s0 σ) (by omega) (by omega) hga) ho ⟨_, _, rfl⟩ ⟨ho, ha⟩ hL hl.1 rfl rfl (Nat.le_of_ble_eq_true rfl) ⟨Nat.le_of_ble_eq_true rfl, Nat.le_of_ble_eq_true rfl⟩ ⟨Nat.le_of_ble_eq_true rfl, Nat.le_of_ble_eq_true rfl⟩ dX6_goBegin_165 (fun H4 locs hL hw_ => ?_)
                    obtain ⟨⟨ho, ha⟩, hq⟩ := hw_
                    have hS := hS.trans hq
                    obtain ⟨τ4, hτ4⟩ : ∃ τ, τ = (sSe τ3 (mn σ) (3) (s0 σ)) := ⟨_, rfl⟩
                    rw [← hτ4] at ha
                    have ht4 : mn τ4 = mn σ ∧ s0 τ4 = s0 σ ∧ s1 τ4 = s1 σ := by rw [hτ4]; exact ht3
                    have hn4 : nx τ4 = nx σ := by rw [hτ4]; exact hn3
                    refine lv_aload_n E.1 E.2.1 dX6_goBegin_168 rfl (lv_at hl 3 rfl) ?_
                    refine lv_iload_n E.1 E.2.1 dX6_goBegin_169 rfl (lv_at hl 1 rfl) ?_
                    refine r_const E dX6_goBegin_170 ?_
                    refine lv_aload_n E.1 E.2.1 dX6_goBegin_171 rfl (lv_at hl 3 rfl) ?_
                    refine m_get E ho fw_X6_7 rfl dX6_goBegin_172 ?_
                    refine r_const E dX6_goBegin_175 ?_
                    refine r_iald E ha (3) rfl (by decide) (by decide) dX6_goBegin_176 ?_
                    rw [show encI τ4 (3) = iI ((s1 τ4 : Nat) : Int) from rfl]
                    rw [show s1 τ4 = s1 σ from ht4.2.2]
                    refine kVWV (As := [.int (iI ((mn σ : Int))), .int (iI (4)), .int (iI ((s1 σ : Int)))]) E cw_X6_59 (c_X6_lays G l g τ4 _ _ _ _ _ _ _ (mn σ) (4) (s1 σ) (by omega) (by omega) hga) ho ⟨_, _, rfl⟩ ⟨ho, ha⟩ hL hl.1 rfl rfl (Nat.le_of_ble_eq_true rfl) ⟨Nat.le_of_ble_eq_true rfl, Nat.le_of_ble_eq_true rfl⟩ ⟨Nat.le_of_ble_eq_true rfl, Nat.le_of_ble_eq_true rfl⟩ dX6_goBegin_177 (fun H5 locs hL hw_ => ?_)
                    obtain ⟨⟨ho, ha⟩, hq⟩ := hw_
                    have hS := hS.trans hq
                    obtain ⟨τ5, hτ5⟩ : ∃ τ, τ = (sSe τ4 (mn σ) (4) (s1 σ)) := ⟨_, rfl⟩
                    rw [← hτ5] at ha
                    have ht5 : mn τ5 = mn σ ∧ s0 τ5 = s0 σ ∧ s1 τ5 = s1 σ := by rw [hτ5]; exact ht4
                    have hn5 : nx τ5 = nx σ := by rw [hτ5]; exact hn4
                    refine lv_aload_n E.1 E.2.1 dX6_goBegin_180 rfl (lv_at hl 3 rfl) ?_
                    refine lv_iload_n E.1 E.2.1 dX6_goBegin_181 rfl (lv_at hl 1 rfl) ?_
                    refine r_const E dX6_goBegin_182 ?_
                    refine r_const E dX6_goBegin_183 ?_
                    refine kVWV (As := [.int (iI ((mn σ : Int))), .int (iI (5)), .int (iI (0))]) E cw_X6_59 (c_X6_lays G l g τ5 _ _ _ _ _ _ _ (mn σ) (5) (0) (by omega) (by omega) hga) ho ⟨_, _, rfl⟩ ⟨ho, ha⟩ hL hl.1 rfl rfl (Nat.le_of_ble_eq_true rfl) ⟨Nat.le_of_ble_eq_true rfl, Nat.le_of_ble_eq_true rfl⟩ ⟨Nat.le_of_ble_eq_true rfl, Nat.le_of_ble_eq_true rfl⟩ dX6_goBegin_184 (fun H6 locs hL hw_ => ?_)
                    obtain ⟨⟨ho, ha⟩, hq⟩ := hw_
                    have hS := hS.trans hq
                    obtain ⟨τ6, hτ6⟩ : ∃ τ, τ = (sSe τ5 (mn σ) (5) (0)) := ⟨_, rfl⟩
                    rw [← hτ6] at ha
                    have ht6 : mn τ6 = mn σ ∧ s0 τ6 = s0 σ ∧ s1 τ6 = s1 σ := by rw [hτ6]; exact ht5
                    have hn6 : nx τ6 = nx σ := by rw [hτ6]; exact hn5
                    refine lv_aload_n E.1 E.2.1 dX6_goBegin_187 rfl (lv_at hl 3 rfl) ?_
                    refine lv_iload_n E.1 E.2.1 dX6_goBegin_188 rfl (lv_at hl 1 rfl) ?_
                    refine lv_aload_n E.1 E.2.1 dX6_goBegin_189 rfl (lv_at hl 3 rfl) ?_
                    refine m_get E ho fw_X6_7 rfl dX6_goBegin_190 ?_
                    refine r_const E dX6_goBegin_193 ?_
                    refine r_iald E ha (2) rfl (by decide) (by decide) dX6_goBegin_194 ?_
                    rw [show encI τ6 (2) = iI ((s0 τ6 : Nat) : Int) from rfl]
                    rw [show s0 τ6 = s0 σ from ht6.2.1]
                    refine kVWV (As := [.int (iI ((mn σ : Int))), .int (iI ((s0 σ : Int)))]) E cw_X6_70 (c_X6_takesSectors G l g τ6 _ _ _ _ _ _ _ (mn σ) (s0 σ) (by omega) hga) ho ⟨_, _, rfl⟩ ⟨ho, ha⟩ hL hl.1 rfl rfl (Nat.le_of_ble_eq_true rfl) ⟨Nat.le_of_ble_eq_true rfl, Nat.le_of_ble_eq_true rfl⟩ ⟨Nat.le_of_ble_eq_true rfl, Nat.le_of_ble_eq_true rfl⟩ dX6_goBegin_195 (fun H7 locs hL hw_ => ?_)
                    obtain ⟨⟨ho, ha⟩, hq⟩ := hw_
                    have hS := hS.trans hq
                    obtain ⟨τ7, hτ7⟩ : ∃ τ, τ = (tS τ6 (mn σ) (s0 σ)) := ⟨_, rfl⟩
                    rw [← hτ7] at ha
                    have ht7 : mn τ7 = mn σ ∧ s0 τ7 = s0 σ ∧ s1 τ7 = s1 σ := by rw [hτ7]; exact ht6
                    refine lv_aload_n E.1 E.2.1 dX6_goBegin_198 rfl (lv_at hl 3 rfl) ?_
                    refine m_get E ho fw_X6_7 rfl dX6_goBegin_199 ?_
                    refine r_const E dX6_goBegin_202 ?_
                    refine lv_dup2_11 E.1 E.2.1 dX6_goBegin_203 rfl rfl ?_
                    refine r_iald E ha (1) rfl (by decide) (by decide) dX6_goBegin_204 ?_
                    rw [show encI τ7 (1) = iI ((mn τ7 : Nat) : Int) from rfl]
                    rw [show mn τ7 = mn σ from ht7.1]
                    refine r_const E dX6_goBegin_205 ?_
                    refine r_add E dX6_goBegin_206 ?_
                    refine r_iast E ha (1) rfl (by decide) (by decide) hL (by omega) dX6_goBegin_207 (fun H8 locs hL hO_ hF_ => ?_)
                    have ho := ho.kept (hF_.2 _ (by omega))
                    have hS := hS.trans (FrS.of1 (lo := g + 1) (hi := g + 2) hF_ (by omega) (by omega))
                    have ha : Ia G (g + 1) 0 344 (upd (encI τ7) (1) (iI ((mn σ : Int) + 1))) H8 := hO_
                    clear hO_
                    have ha : Ia G (g + 1) 0 344 (encI (sMn τ7 (mn σ + 1))) H8 := ha.to (enc_to (up_mn τ7 (mn σ + 1)) (by omega))
                    have hbr := bR_eq (σ := σ) (y := y) (by omega) hop (by omega)
                    have hbe : sMn τ7 (mn σ + 1) = bR σ (srcE σ y) := by rw [hτ7, hτ6, hτ5, hτ4, hτ3, hτ2, hτ1, hτ0]; rfl
                    rw [hbe, hbr.2] at ha
                    refine lv_iload_n E.1 E.2.1 dX6_goBegin_208 rfl (lv_at hl 1 rfl) ?_
                    refine e_iret (rm := ({ frames := 4, cells := 0, slots := 0, locals := 87 } : Room)) (v := iI ((mn σ : Int))) E hL dX6_goBegin_209 ?_
                    exact ⟨by rw [hbr.1], ⟨⟨ho, ha⟩, hS⟩⟩
                  · subst hu
                    refine lv_aload_n E.1 E.2.1 dX6_goBegin_94 rfl (lv_at hl 3 rfl) ?_
                    refine m_get E ho fw_X6_7 rfl dX6_goBegin_95 ?_
                    refine r_bipush E dX6_goBegin_98 (by decide) ?_
                    refine r_bipush E dX6_goBegin_100 (by decide) ?_
                    refine lv_iload_n E.1 E.2.1 dX6_goBegin_102 rfl (lv_at hl 1 rfl) ?_
                    refine r_mul E dX6_goBegin_103 ?_
                    refine r_add E dX6_goBegin_104 ?_
                    refine lv_iload E.1 E.2.1 dX6_goBegin_105 (lv_at hl 0 rfl) ?_
                    refine r_add E dX6_goBegin_107 ?_
                    refine lv_iload_n E.1 E.2.1 dX6_goBegin_108 rfl (lv_at hl 2 rfl) ?_
                    refine r_if_ge (tgt := 116) E dX6_goBegin_109 (by decide) (by omega) (fun c109 => ?_) (fun c109 => absurd c109 (by omega))
                    refine lv_aload_n E.1 E.2.1 dX6_goBegin_116 rfl (lv_at hl 3 rfl) ?_
                    refine lv_iload_n E.1 E.2.1 dX6_goBegin_117 rfl (lv_at hl 2 rfl) ?_
                    refine lv_iload E.1 E.2.1 dX6_goBegin_118 (lv_at hl 0 rfl) ?_
                    refine kVRE (As := [.int (iI ((q : Int))), .int (iI ((k : Int)))]) E cw_X6_38 (c_X6_entryOf G l g (bS σ (srcE σ y) k) _ _ _ _ _ _ _ q k (by omega) (by omega)) ho ⟨_, _, rfl⟩ ⟨ho, ha⟩ hL hl.1 rfl rfl (Nat.le_of_ble_eq_true rfl) ⟨Nat.le_of_ble_eq_true rfl, Nat.le_of_ble_eq_true rfl⟩ ⟨rfl, rfl⟩ ⟨Nat.le_of_ble_eq_true rfl, Nat.le_of_ble_eq_true rfl⟩ dX6_goBegin_120 (fun locs hL => ?_)
                    rw [bS_en (src := srcE σ y) (k := k) (n := q) (j := k) (by omega)]
                    refine r_iast E ha (104 + 20 * mn σ + k) (by omega) (by omega) (by decide) hL (by omega) dX6_goBegin_123 (fun H1 locs hL hO_ hF_ => ?_)
                    have ho := ho.kept (hF_.2 _ (by omega))
                    have hS := hS.trans (FrS.of1 (lo := g + 1) (hi := g + 2) hF_ (by omega) (by omega))
                    have ha : Ia G (g + 1) 0 344 (upd (encI (bS σ (srcE σ y) k)) (104 + 20 * mn σ + k) (iI ((encO (en σ q k) : Int)))) H1 := hO_
                    clear hO_
                    have hsr : srcE σ y k = en σ q k := by
                      unfold srcE
                      rw [if_pos (by omega)]
                      simp only [foundF, hv]
                    have ha : Ia G (g + 1) 0 344 (encI (bS σ (srcE σ y) (k + 1))) H1 := ha.to (enc_to (bS_up (by omega)) (by rw [hsr]))
                    refine r_inc (lv' := [(4, .int (iI ((k : Int) + 1))), (3, .int (iI ((mn σ : Int)))), (2, .int (iI ((q : Int)))), (0, .ref (g)), (1, .int (iI (y)))]) E dX6_goBegin_124 hl (k := 0) rfl (by decide) rfl (fun ls hl => ?_)
                    refine lv_goto (tgt := 87) E.1 E.2.1 dX6_goBegin_127 (by decide) ?_
                    refine ihin87 _ ?_ (k + 1) H1 ((k : Int) + 1) ls locs ?_ ?_ ?_ ?_ ?_ rfl (lv_sub hl [0, 1, 2, 3, 4] rfl) hL
                    · omega
                    · omega
                    · omega
                    · exact ho
                    · exact ha
                    · exact hS
              refine LP87 _ 0 s.heap 0 ls locs ?_ ?_ ?_ ?_ ?_ rfl (lv_sub hl [0, 1, 2, 3, 4] rfl) hL
              · omega
              · rfl
              · exact ho
              · exact ha.to (fun j _ => by rw [bS_0])
              · exact hS
        · refine r_bipush E dX6_goBegin_59 (by decide) ?_
          refine e_iret (rm := ({ frames := 4, cells := 0, slots := 0, locals := 87 } : Room)) (v := iI ((-4))) E hL dX6_goBegin_61 ?_
          have hsp : spBegin σ y = (-4, σ) := by unfold spBegin; rw [if_neg (by omega), if_neg (by rw [hop]; decide), if_pos (by omega)]
          rw [hsp]
          exact ⟨rfl, ⟨⟨ho, ha⟩, hS⟩⟩
    · have hn := (opn_some hop).1
      have hn0 := (opn_some hop).2
      have hrow := hI.row (n := n) (by omega)
      rw [show oI (some n) = (n : Int) from rfl]
      refine r_if_lt (tgt := 22) E dX6_goBegin_16 (by decide) (by omega) (fun c16 => absurd c16 (by omega)) (fun c16 => ?_)
      refine r_bipush E dX6_goBegin_19 (by decide) ?_
      refine e_iret (rm := ({ frames := 4, cells := 0, slots := 0, locals := 87 } : Room)) (v := iI ((-5))) E hL dX6_goBegin_21 ?_
      have hsp : spBegin σ y = (-5, σ) := by unfold spBegin; rw [if_neg (by omega), if_pos (by rw [hop]; rfl)]
      rw [hsp]
      exact ⟨rfl, ⟨⟨ho, ha⟩, hS⟩⟩
  · have c6 := of_decide_eq_false c6
    refine r_bipush E dX6_goBegin_9 (by decide) ?_
    refine e_iret (rm := ({ frames := 4, cells := 0, slots := 0, locals := 87 } : Room)) (v := iI ((-2))) E hL dX6_goBegin_11 ?_
    have hsp : spBegin σ y = (-2, σ) := by unfold spBegin; rw [if_pos (by omega)]
    rw [hsp]
    exact ⟨rfl, ⟨⟨ho, ha⟩, hS⟩⟩
