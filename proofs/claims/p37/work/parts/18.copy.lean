set_option maxHeartbeats 4000000 in
set_option maxRecDepth 100000 in
theorem c_X1_copyAll (G : GG) (l : Launch) (b b2 fb : Nat) (fl : Nat → Option Fil) (σ τ : St) (hmn : mn τ ≤ 12) (hga : G.2.2 ≤ b) (hd : b + 29 ≤ b2 ∨ b2 + 29 ≤ b) (hfb : b + 29 ≤ fb) : Ct G l yX1_copyAll cX1_copyAll 3 none ({ frames := 2, cells := 0, slots := 0, locals := 43 } : Room) [.ref (b), .ref (b2)] (fun H => DiscAt G b fl σ H ∧ DiscAt G b2 fl τ H ∧ FlAt G fb fl H) (WV (fun H H1 => DiscAt G b fl τ H1 ∧ FrS b (b + 29) H H1)) := by
  refine Ct.of (by decide +kernel) (Nat.le_of_ble_eq_true rfl) ?_
  intro p e s m args below meth c ls E hnm hP hl
  obtain ⟨hP, hP20, hFl0⟩ := hP
  obtain ⟨hb0, hb1, hb2, hb3, hb4, hbD, -⟩ := hP
  have hb20 := hP20.1
  have hF : FrS b (b + 29) s.heap s.heap := FrS.rf
  have hl : lv_has ls 3 [(0, .ref (b)), (1, .ref (b2))] := hl
  have hL : Lk G [] := Lk.nil
  generalize ([] : List Loc) = locs at hL ⊢
  refine lv_aload_n E.1 E.2.1 dX1_copyAll_0 rfl (lv_at hl 0 rfl) ?_
  refine lv_aload_n E.1 E.2.1 dX1_copyAll_1 rfl (lv_at hl 1 rfl) ?_
  refine m_get E hb20 fw_X1_29 rfl dX1_copyAll_2 ?_
  refine m_put E hb0 fw_X1_29 fp_X1_4 rfl rfl (Nat.le_of_ble_eq_true rfl) hL (by omega) dX1_copyAll_5 (fun H1 locs hL hO_ hF_ => ?_)
  have hb1 := hb1.kept (hF_.2 _ (by omega))
  have hb2 := hb2.kept (hF_.2 _ (by omega))
  have hb3 := hb3.kept (hF_.2 _ (by omega))
  have hb4 := hb4.kept (hF_.2 _ (by omega))
  have hb20 := hb20.kept (hF_.2 _ (by omega))
  have hF := hF.trans (FrS.of1 (lo := b) (hi := b + 29) hF_ (by omega) (by omega))
  have hbD : ∀ n, n < 12 → SesD G (b + 5 + 2 * n) H1 := fun n hn => (hbD n hn).kept (hF_.2 _ (by omega)) (hF_.2 _ (by omega))
  have hb0 : Ob G (b) 1 [.ref (b + 1), .ref (b + 2), .ref (b + 3), .ref (b + 4), .int (iI ((mn τ : Int))), .int (iI ((nx σ : Int))), .int (iI ((cntB (dm σ) 240 : Int)))] H1 := hO_
  clear hO_
  refine lv_aload_n E.1 E.2.1 dX1_copyAll_8 rfl (lv_at hl 0 rfl) ?_
  refine lv_aload_n E.1 E.2.1 dX1_copyAll_9 rfl (lv_at hl 1 rfl) ?_
  refine m_get E hb20 fw_X1_33 rfl dX1_copyAll_10 ?_
  refine m_put E hb0 fw_X1_33 fp_X1_5 rfl rfl (Nat.le_of_ble_eq_true rfl) hL (by omega) dX1_copyAll_13 (fun H2 locs hL hO_ hF_ => ?_)
  have hb1 := hb1.kept (hF_.2 _ (by omega))
  have hb2 := hb2.kept (hF_.2 _ (by omega))
  have hb3 := hb3.kept (hF_.2 _ (by omega))
  have hb4 := hb4.kept (hF_.2 _ (by omega))
  have hb20 := hb20.kept (hF_.2 _ (by omega))
  have hF := hF.trans (FrS.of1 (lo := b) (hi := b + 29) hF_ (by omega) (by omega))
  have hbD : ∀ n, n < 12 → SesD G (b + 5 + 2 * n) H2 := fun n hn => (hbD n hn).kept (hF_.2 _ (by omega)) (hF_.2 _ (by omega))
  have hb0 : Ob G (b) 1 [.ref (b + 1), .ref (b + 2), .ref (b + 3), .ref (b + 4), .int (iI ((mn τ : Int))), .int (iI ((nx τ : Int))), .int (iI ((cntB (dm σ) 240 : Int)))] H2 := hO_
  clear hO_
  refine lv_aload_n E.1 E.2.1 dX1_copyAll_16 rfl (lv_at hl 0 rfl) ?_
  refine lv_aload_n E.1 E.2.1 dX1_copyAll_17 rfl (lv_at hl 1 rfl) ?_
  refine m_get E hb20 fw_X1_36 rfl dX1_copyAll_18 ?_
  refine m_put E hb0 fw_X1_36 fp_X1_6 rfl rfl (Nat.le_of_ble_eq_true rfl) hL (by omega) dX1_copyAll_21 (fun H3 locs hL hO_ hF_ => ?_)
  have hb1 := hb1.kept (hF_.2 _ (by omega))
  have hb2 := hb2.kept (hF_.2 _ (by omega))
  have hb3 := hb3.kept (hF_.2 _ (by omega))
  have hb4 := hb4.kept (hF_.2 _ (by omega))
  have hb20 := hb20.kept (hF_.2 _ (by omega))
  have hF := hF.trans (FrS.of1 (lo := b) (hi := b + 29) hF_ (by omega) (by omega))
  have hbD : ∀ n, n < 12 → SesD G (b + 5 + 2 * n) H3 := fun n hn => (hbD n hn).kept (hF_.2 _ (by omega)) (hF_.2 _ (by omega))
  have hb0 : Ob G (b) 1 [.ref (b + 1), .ref (b + 2), .ref (b + 3), .ref (b + 4), .int (iI ((mn τ : Int))), .int (iI ((nx τ : Int))), .int (iI ((cntB (dm τ) 240 : Int)))] H3 := hO_
  clear hO_
  have hC : CopyAt G b fl τ 0 (fun k => b2i (dm σ k)) (fun k => iI (vr σ k)) (fun k => if k = 0 then iI (s0 σ) else iI (s1 σ)) H3 := ⟨hb0, hb1, hb2, hb3, hb4, hbD, fun n hn => absurd hn (Nat.not_lt_zero n)⟩
  have J61 : ∀ (K : Nat) (H : Heap) (ls : Array Slot) (locs : List Loc) (hK : mn τ ≤ K ∨ 12 ≤ K) (hC : CopyAt G b fl τ K (fun k => b2i (dm σ k)) (fun k => iI (vr σ k)) (fun k => if k = 0 then iI (s0 σ) else iI (s1 σ)) H) (hF : FrS b (b + 29) s.heap H) (hl : lv_has ls 3 [(0, .ref (b)), (1, .ref (b2))]) (hL : Lk G locs), W p l e ({ frames := 2, cells := 0, slots := 0, locals := 43 } : Room) s m args below meth c H locs 0 0 (QQ G below args s ({ frames := 2, cells := 0, slots := 0, locals := 43 } : Room) (WV (fun H H1 => DiscAt G b fl τ H1 ∧ FrS b (b + 29) H H1))) (F0 m 61 ls []) := by
    intro K H ls locs hK hC hF hl hL
    refine r_const E dX1_copyAll_61 ?_
    refine lv_istore_n (lv' := [(2, .int (iI (0))), (0, .ref (b)), (1, .ref (b2))]) E.1 E.2.1 dX1_copyAll_62 rfl hl (by decide) rfl (fun ls hl => ?_)
    have LP63 : ∀ (kin63 : Nat) (k : Nat) (H : Heap) (u : Int) (ls : Array Slot) (locs : List Loc) (hk : k ≤ 240) (hu : u = (k : Int)) (hC : CopyAt G b fl τ K (fun j => if j < k then (fun k => b2i (dm τ k)) j else (fun k => b2i (dm σ k)) j) (fun k => iI (vr σ k)) (fun k => if k = 0 then iI (s0 σ) else iI (s1 σ)) H) (hF : FrS b (b + 29) s.heap H) (hkin63 : 240 - k = kin63) (hl : lv_has ls 3 [(2, .int (iI (u))), (0, .ref (b)), (1, .ref (b2))]) (hL : Lk G locs), W p l e ({ frames := 2, cells := 0, slots := 0, locals := 43 } : Room) s m args below meth c H locs 0 0 (QQ G below args s ({ frames := 2, cells := 0, slots := 0, locals := 43 } : Room) (WV (fun H H1 => DiscAt G b fl τ H1 ∧ FrS b (b + 29) H H1))) (F0 m 63 ls []) := by
      intro kin63
      induction kin63 using Nat.strongRecOn with
      | ind kin63 ihin63 =>
        intro k H u ls locs hk hu hC hF hkin63 hl hL
        have hP2 : DiscAt G b2 fl τ H := hP20.kept (fun q h1 h2 => hF.2 q (by omega))
        have hcur := hC.2.2.1
        refine lv_iload_n E.1 E.2.1 dX1_copyAll_63 rfl (lv_at hl 0 rfl) ?_
        refine r_sipush E dX1_copyAll_64 (by decide) ?_
        refine r_icmp_ge (tgt := 88) E dX1_copyAll_67 (by decide) (by omega) (by omega) (fun c67 => ?_) (fun c67 => ?_)
        · refine r_const E dX1_copyAll_88 ?_
          refine lv_istore_n (lv' := [(2, .int (iI (0))), (0, .ref (b)), (1, .ref (b2))]) E.1 E.2.1 dX1_copyAll_89 rfl hl (by decide) rfl (fun ls hl => ?_)
          have LP90 : ∀ (kin90 : Nat) (k : Nat) (H : Heap) (u : Int) (ls : Array Slot) (locs : List Loc) (hk : k ≤ 20) (hu : u = (k : Int)) (hC : CopyAt G b fl τ K (fun k => b2i (dm τ k)) (fun j => if j < k then (fun k => iI (vr τ k)) j else (fun k => iI (vr σ k)) j) (fun k => if k = 0 then iI (s0 σ) else iI (s1 σ)) H) (hF : FrS b (b + 29) s.heap H) (hkin90 : 20 - k = kin90) (hl : lv_has ls 3 [(2, .int (iI (u))), (0, .ref (b)), (1, .ref (b2))]) (hL : Lk G locs), W p l e ({ frames := 2, cells := 0, slots := 0, locals := 43 } : Room) s m args below meth c H locs 0 0 (QQ G below args s ({ frames := 2, cells := 0, slots := 0, locals := 43 } : Room) (WV (fun H H1 => DiscAt G b fl τ H1 ∧ FrS b (b + 29) H H1))) (F0 m 90 ls []) := by
            intro kin90
            induction kin90 using Nat.strongRecOn with
            | ind kin90 ihin90 =>
              intro k H u ls locs hk hu hC hF hkin90 hl hL
              have hP2 : DiscAt G b2 fl τ H := hP20.kept (fun q h1 h2 => hF.2 q (by omega))
              have hcur := hC.2.2.2.1
              refine lv_iload_n E.1 E.2.1 dX1_copyAll_90 rfl (lv_at hl 0 rfl) ?_
              refine r_bipush E dX1_copyAll_91 (by decide) ?_
              refine r_icmp_ge (tgt := 114) E dX1_copyAll_93 (by decide) (by omega) (by omega) (fun c93 => ?_) (fun c93 => ?_)
              · refine r_const E dX1_copyAll_114 ?_
                refine lv_istore_n (lv' := [(2, .int (iI (0))), (0, .ref (b)), (1, .ref (b2))]) E.1 E.2.1 dX1_copyAll_115 rfl hl (by decide) rfl (fun ls hl => ?_)
                have LP116 : ∀ (kin116 : Nat) (k : Nat) (H : Heap) (u : Int) (ls : Array Slot) (locs : List Loc) (hk : k ≤ 2) (hu : u = (k : Int)) (hC : CopyAt G b fl τ K (fun k => b2i (dm τ k)) (fun k => iI (vr τ k)) (fun j => if j < k then (fun k => if k = 0 then iI (s0 τ) else iI (s1 τ)) j else (fun k => if k = 0 then iI (s0 σ) else iI (s1 σ)) j) H) (hF : FrS b (b + 29) s.heap H) (hkin116 : 2 - k = kin116) (hl : lv_has ls 3 [(2, .int (iI (u))), (0, .ref (b)), (1, .ref (b2))]) (hL : Lk G locs), W p l e ({ frames := 2, cells := 0, slots := 0, locals := 43 } : Room) s m args below meth c H locs 0 0 (QQ G below args s ({ frames := 2, cells := 0, slots := 0, locals := 43 } : Room) (WV (fun H H1 => DiscAt G b fl τ H1 ∧ FrS b (b + 29) H H1))) (F0 m 116 ls []) := by
                  intro kin116
                  induction kin116 using Nat.strongRecOn with
                  | ind kin116 ihin116 =>
                    intro k H u ls locs hk hu hC hF hkin116 hl hL
                    have hP2 : DiscAt G b2 fl τ H := hP20.kept (fun q h1 h2 => hF.2 q (by omega))
                    have hcur := hC.2.2.2.2.1
                    refine lv_iload_n E.1 E.2.1 dX1_copyAll_116 rfl (lv_at hl 0 rfl) ?_
                    refine r_const E dX1_copyAll_117 ?_
                    refine r_icmp_ge (tgt := 139) E dX1_copyAll_118 (by decide) (by omega) (by omega) (fun c118 => ?_) (fun c118 => ?_)
                    · refine e_vret (rm := ({ frames := 2, cells := 0, slots := 0, locals := 43 } : Room)) E hL dX1_copyAll_139 ⟨rfl, ?_⟩
                      refine ⟨?_, hF⟩
                      exact hC.done hK (fun j _ => rfl) (fun j _ => rfl) (fun j hj => if_pos (by omega))
                    · subst hu
                      refine lv_aload_n E.1 E.2.1 dX1_copyAll_121 rfl (lv_at hl 1 rfl) ?_
                      refine m_get E hC.1 fw_X1_25 rfl dX1_copyAll_122 ?_
                      refine lv_iload_n E.1 E.2.1 dX1_copyAll_125 rfl (lv_at hl 0 rfl) ?_
                      refine lv_aload_n E.1 E.2.1 dX1_copyAll_126 rfl (lv_at hl 2 rfl) ?_
                      refine m_get E hP2.1 fw_X1_25 rfl dX1_copyAll_127 ?_
                      refine lv_iload_n E.1 E.2.1 dX1_copyAll_130 rfl (lv_at hl 0 rfl) ?_
                      refine r_iald E hP2.2.2.2.2.1 (k) rfl (by omega) (by decide) dX1_copyAll_131 ?_
                      refine r_iast E hcur (k) rfl (by omega) (by decide) hL (by omega) dX1_copyAll_132 (fun H4 locs hL hO_ hF_ => ?_)
                      have hF9 := hF_
                      have hcur : Ia G (b + 4) 0 2 (upd ((fun j => if j < k then (fun k => if k = 0 then iI (s0 τ) else iI (s1 τ)) j else (fun k => if k = 0 then iI (s0 σ) else iI (s1 σ)) j)) (k) (if k = 0 then iI (s0 τ) else iI (s1 τ))) H4 := hO_
                      clear hO_
                      refine r_inc (lv' := [(2, .int (iI ((k : Int) + 1))), (0, .ref (b)), (1, .ref (b2))]) E dX1_copyAll_133 hl (k := 0) rfl (by decide) rfl (fun ls hl => ?_)
                      refine lv_goto (tgt := 116) E.1 E.2.1 dX1_copyAll_136 (by decide) ?_
                      refine ihin116 _ ?_ (k + 1) H4 ((k : Int) + 1) ls locs ?_ ?_ ?_ ?_ rfl (lv_sub hl [0, 1, 2] rfl) hL
                      · omega
                      · omega
                      · omega
                      · exact hC.ps (hcur.to (fun j _ => upd_if j)) hF9
                      · exact hF.trans (FrS.of1 hF9 (by omega) (by omega))
                refine LP116 _ 0 H 0 ls locs ?_ ?_ ?_ ?_ rfl (lv_sub hl [0, 1, 2] rfl) hL
                · omega
                · rfl
                · obtain ⟨g1, g2, g3, g4, g5, g6, g7⟩ := hC
                  exact ⟨g1, g2, g3, g4.to (fun j hj => by simp; omega), g5, g6, g7⟩
                · exact hF
              · subst hu
                refine lv_aload_n E.1 E.2.1 dX1_copyAll_96 rfl (lv_at hl 1 rfl) ?_
                refine m_get E hC.1 fw_X1_21 rfl dX1_copyAll_97 ?_
                refine lv_iload_n E.1 E.2.1 dX1_copyAll_100 rfl (lv_at hl 0 rfl) ?_
                refine lv_aload_n E.1 E.2.1 dX1_copyAll_101 rfl (lv_at hl 2 rfl) ?_
                refine m_get E hP2.1 fw_X1_21 rfl dX1_copyAll_102 ?_
                refine lv_iload_n E.1 E.2.1 dX1_copyAll_105 rfl (lv_at hl 0 rfl) ?_
                refine r_iald E hP2.2.2.2.1 (k) rfl (by omega) (by decide) dX1_copyAll_106 ?_
                refine r_iast E hcur (k) rfl (by omega) (by decide) hL (by omega) dX1_copyAll_107 (fun H4 locs hL hO_ hF_ => ?_)
                have hF9 := hF_
                have hcur : Ia G (b + 3) 0 20 (upd ((fun j => if j < k then (fun k => iI (vr τ k)) j else (fun k => iI (vr σ k)) j)) (k) (iI (vr τ k))) H4 := hO_
                clear hO_
                refine r_inc (lv' := [(2, .int (iI ((k : Int) + 1))), (0, .ref (b)), (1, .ref (b2))]) E dX1_copyAll_108 hl (k := 0) rfl (by decide) rfl (fun ls hl => ?_)
                refine lv_goto (tgt := 90) E.1 E.2.1 dX1_copyAll_111 (by decide) ?_
                refine ihin90 _ ?_ (k + 1) H4 ((k : Int) + 1) ls locs ?_ ?_ ?_ ?_ rfl (lv_sub hl [0, 1, 2] rfl) hL
                · omega
                · omega
                · omega
                · exact hC.pv (hcur.to (fun j _ => upd_if j)) hF9
                · exact hF.trans (FrS.of1 hF9 (by omega) (by omega))
          refine LP90 _ 0 H 0 ls locs ?_ ?_ ?_ ?_ rfl (lv_sub hl [0, 1, 2] rfl) hL
          · omega
          · rfl
          · obtain ⟨g1, g2, g3, g4, g5, g6, g7⟩ := hC
            exact ⟨g1, g2, g3.to (fun j hj => by simp; omega), g4, g5, g6, g7⟩
          · exact hF
        · subst hu
          refine lv_aload_n E.1 E.2.1 dX1_copyAll_70 rfl (lv_at hl 1 rfl) ?_
          refine m_get E hC.1 fw_X1_17 rfl dX1_copyAll_71 ?_
          refine lv_iload_n E.1 E.2.1 dX1_copyAll_74 rfl (lv_at hl 0 rfl) ?_
          refine lv_aload_n E.1 E.2.1 dX1_copyAll_75 rfl (lv_at hl 2 rfl) ?_
          refine m_get E hP2.1 fw_X1_17 rfl dX1_copyAll_76 ?_
          refine lv_iload_n E.1 E.2.1 dX1_copyAll_79 rfl (lv_at hl 0 rfl) ?_
          refine r_zald E hP2.2.2.1 (k) rfl (by omega) (by decide) dX1_copyAll_80 ?_
          refine r_zast E hcur (k) rfl (by omega) (by decide) hL (by omega) dX1_copyAll_81 (fun H4 locs hL hO_ hF_ => ?_)
          have hF9 := hF_
          have hcur : Ia G (b + 2) 1 240 (upd ((fun j => if j < k then (fun k => b2i (dm τ k)) j else (fun k => b2i (dm σ k)) j)) (k) (b2i (dm τ k))) H4 := hO_
          clear hO_
          refine r_inc (lv' := [(2, .int (iI ((k : Int) + 1))), (0, .ref (b)), (1, .ref (b2))]) E dX1_copyAll_82 hl (k := 0) rfl (by decide) rfl (fun ls hl => ?_)
          refine lv_goto (tgt := 63) E.1 E.2.1 dX1_copyAll_85 (by decide) ?_
          refine ihin63 _ ?_ (k + 1) H4 ((k : Int) + 1) ls locs ?_ ?_ ?_ ?_ rfl (lv_sub hl [0, 1, 2] rfl) hL
          · omega
          · omega
          · omega
          · exact hC.pd (hcur.to (fun j _ => upd_if j)) hF9
          · exact hF.trans (FrS.of1 hF9 (by omega) (by omega))
    refine LP63 _ 0 H 0 ls locs ?_ ?_ ?_ ?_ rfl (lv_sub hl [0, 1, 2] rfl) hL
    · omega
    · rfl
    · exact hC
    · exact hF
  refine r_const E dX1_copyAll_24 ?_
  refine lv_istore_n (lv' := [(2, .int (iI (0))), (0, .ref (b)), (1, .ref (b2))]) E.1 E.2.1 dX1_copyAll_25 rfl hl (by decide) rfl (fun ls hl => ?_)
  have LP26 : ∀ (kin26 : Nat) (k : Nat) (H : Heap) (u : Int) (ls : Array Slot) (locs : List Loc) (hk : k ≤ 12) (hu : u = (k : Int)) (hC : CopyAt G b fl τ k (fun k => b2i (dm σ k)) (fun k => iI (vr σ k)) (fun k => if k = 0 then iI (s0 σ) else iI (s1 σ)) H) (hF : FrS b (b + 29) s.heap H) (hkin26 : 12 - k = kin26) (hl : lv_has ls 3 [(2, .int (iI (u))), (0, .ref (b)), (1, .ref (b2))]) (hL : Lk G locs), W p l e ({ frames := 2, cells := 0, slots := 0, locals := 43 } : Room) s m args below meth c H locs 0 0 (QQ G below args s ({ frames := 2, cells := 0, slots := 0, locals := 43 } : Room) (WV (fun H H1 => DiscAt G b fl τ H1 ∧ FrS b (b + 29) H H1))) (F0 m 26 ls []) := by
    intro kin26
    induction kin26 using Nat.strongRecOn with
    | ind kin26 ihin26 =>
      intro k H u ls locs hk hu hC hF hkin26 hl hL
      have hP2 : DiscAt G b2 fl τ H := hP20.kept (fun q h1 h2 => hF.2 q (by omega))
      have hFl : FlAt G fb fl H := hFl0.kept (fun q h1 _ => hF.2 q (by omega))
      refine lv_iload_n E.1 E.2.1 dX1_copyAll_26 rfl (lv_at hl 0 rfl) ?_
      refine r_bipush E dX1_copyAll_27 (by decide) ?_
      refine r_icmp_ge (tgt := 61) E dX1_copyAll_29 (by decide) (by omega) (by omega) (fun c29 => ?_) (fun c29 => ?_)
      · exact J61 k H ls locs (by omega) hC hF (lv_sub hl [1, 2] rfl) hL
      · refine lv_iload_n E.1 E.2.1 dX1_copyAll_32 rfl (lv_at hl 0 rfl) ?_
        refine lv_aload_n E.1 E.2.1 dX1_copyAll_33 rfl (lv_at hl 1 rfl) ?_
        refine m_get E hC.1 fw_X1_29 rfl dX1_copyAll_34 ?_
        refine r_icmp_ge (tgt := 61) E dX1_copyAll_37 (by decide) (by omega) (by omega) (fun c37 => ?_) (fun c37 => ?_)
        · exact J61 k H ls locs (by omega) hC hF (lv_sub hl [1, 2] rfl) hL
        · subst hu
          obtain ⟨wd, td, hod, hrd⟩ := hC.2.2.2.2.2.1 k (by omega)
          obtain ⟨t_, ho_, hr_, ht_⟩ := hP2.live (n := k) (by omega) (by omega)
          have hT : TabF G fb t_ H := ht_.F hFl
          refine lv_aload_n E.1 E.2.1 dX1_copyAll_40 rfl (lv_at hl 1 rfl) ?_
          refine m_get E hC.1 fw_X1_11 rfl dX1_copyAll_41 ?_
          refine lv_iload_n E.1 E.2.1 dX1_copyAll_44 rfl (lv_at hl 0 rfl) ?_
          refine r_aald E hC.2.1 rfl (k) rfl (by omega) (by decide) dX1_copyAll_45 ?_
          refine lv_aload_n E.1 E.2.1 dX1_copyAll_46 rfl (lv_at hl 2 rfl) ?_
          refine m_get E hP2.1 fw_X1_11 rfl dX1_copyAll_47 ?_
          refine lv_iload_n E.1 E.2.1 dX1_copyAll_50 rfl (lv_at hl 0 rfl) ?_
          refine r_aald E hP2.2.1 rfl (k) rfl (by omega) (by decide) dX1_copyAll_51 ?_
          refine kVWV (As := [.ref (b2 + 5 + 2 * k)]) E cw_X1_39 (c_X3_copyAll G l (b + 5 + 2 * k) (b2 + 5 + 2 * k) fb wd (encR (se τ k)) td t_ (by omega) (by omega) (by omega)) hod ⟨_, _, rfl⟩ ⟨⟨hod, hrd⟩, ⟨ho_, hr_⟩, hT⟩ hL hl.1 rfl rfl (Nat.le_of_ble_eq_true rfl) ⟨Nat.le_of_ble_eq_true rfl, Nat.le_of_ble_eq_true rfl⟩ ⟨Nat.le_of_ble_eq_true rfl, Nat.le_of_ble_eq_true rfl⟩ dX1_copyAll_52 (fun H4 locs hL hw_ => ?_)
          obtain ⟨⟨ho4, hr4⟩, hq⟩ := hw_
          have hC := hC.pn (by omega) ⟨t_, ho4, hr4, ht_⟩ hq
          have hF := hF.trans (hq.wide (lo' := b) (hi' := b + 29) (by omega) (by omega))
          refine r_inc (lv' := [(2, .int (iI ((k : Int) + 1))), (0, .ref (b)), (1, .ref (b2))]) E dX1_copyAll_55 hl (k := 0) rfl (by decide) rfl (fun ls hl => ?_)
          refine lv_goto (tgt := 26) E.1 E.2.1 dX1_copyAll_58 (by decide) ?_
          refine ihin26 _ ?_ (k + 1) H4 ((k : Int) + 1) ls locs ?_ ?_ ?_ ?_ rfl (lv_sub hl [0, 1, 2] rfl) hL
          · omega
          · omega
          · omega
          · exact hC
          · exact hF
  refine LP26 _ 0 H3 0 ls locs ?_ ?_ ?_ ?_ rfl (lv_sub hl [0, 1, 2] rfl) hL
  · omega
  · rfl
  · exact hC
  · exact hF
