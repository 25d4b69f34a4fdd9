set_option maxHeartbeats 4000000 in
set_option maxRecDepth 100000 in
theorem c_X6_takesCommand (G : GG) (l : Launch) (g : Nat) (v3 : Int32) (tx : Nat → Int) (len p1 : Nat) (le fi sc : Int) (hT : TxOk tx len) (hp : p1 ≤ len) (hga : G.2.2 ≤ g) : Ct G l yX6_takesCommand cX6_takesCommand 3 none ({ frames := 2, cells := 0, slots := 0, locals := 45 } : Room) [.ref (g)] (fun H => TM G g v3 tx len p1 1 le fi sc H) (WV (fun H H1 => (∃ le fi sc, TM G g v3 tx len (pCmd tx len p1).1 (if (pCmd tx len p1).2.isSome then 1 else 0) le fi sc H1 ∧ okCmd (pCmd tx len p1).2 le fi sc) ∧ FrS g (g + 1) H H1)) := by
  refine Ct.of (by decide +kernel) (Nat.le_of_ble_eq_true rfl) ?_
  intro p e s m args below meth c ls E hnm hP hl
  obtain ⟨ho, htx⟩ := hP
  have hl80 := hT.1
  have hS : FrS g (g + 1) s.heap s.heap := FrS.rf
  have hl : lv_has ls 3 [(0, .ref (g))] := hl
  have hL : Lk G [] := Lk.nil
  generalize ([] : List Loc) = locs at hL ⊢
  refine lv_aload_n E.1 E.2.1 dX6_takesCommand_0 rfl (lv_at hl 0 rfl) ?_
  refine lv_aload_n E.1 E.2.1 dX6_takesCommand_1 rfl (lv_at hl 0 rfl) ?_
  refine kVRE (As := []) E cw_X6_135 (c_X6_here G l g v3 tx len (p1) (1) (le) (fi) (sc) hT (by omega)) ho ⟨_, _, rfl⟩ ⟨ho, htx⟩ hL hl.1 rfl rfl (Nat.le_of_ble_eq_true rfl) ⟨Nat.le_of_ble_eq_true rfl, Nat.le_of_ble_eq_true rfl⟩ ⟨rfl, rfl⟩ ⟨Nat.le_of_ble_eq_true rfl, Nat.le_of_ble_eq_true rfl⟩ dX6_takesCommand_2 (fun locs hL => ?_)
  have hb_ := h0_b hT (p1)
  refine m_put E ho fw_X6_142 fp_X6_8 rfl rfl (Nat.le_of_ble_eq_true rfl) hL (by omega) dX6_takesCommand_5 (fun H1 locs hL hO_ hF_ => ?_)
  have htx := htx.kept (hF_.2 _ (by omega))
  have hS := hS.trans (FrS.of1 (lo := g) (hi := g + 1) hF_ (by omega) (by omega))
  have ho : Ob G (g) 6 [.ref (g + 1), .ref (g + 2), .ref (g + 3), .int (v3), .ref (g + 4), .int (iI ((len : Int))), .int (iI ((p1 : Int))), .int (iI (1)), .int (iI (h0 tx len (p1))), .int (iI (fi)), .int (iI (sc))] H1 := hO_
  clear hO_
  have hb0 := hb_
  by_cases hL99 : h0 tx len p1 = 99
  · have hrL : hr tx len p1 = 99 := by omega
    refine lv_aload_n E.1 E.2.1 dX6_takesCommand_8 rfl (lv_at hl 0 rfl) ?_
    refine m_get E ho fw_X6_142 rfl dX6_takesCommand_9 ?_
    refine r_bipush E dX6_takesCommand_12 (by decide) ?_
    refine r_icmp_eq (tgt := 26) E dX6_takesCommand_14 (by decide) (by omega) (by omega) (fun c14 => ?_) (fun c14 => absurd c14 (by omega))
    refine r_const E dX6_takesCommand_26 ?_
    refine lv_goto (tgt := 31) E.1 E.2.1 dX6_takesCommand_27 (by decide) ?_
    refine lv_istore_n (lv' := [(1, .int (iI (1))), (0, .ref (g))]) E.1 E.2.1 dX6_takesCommand_31 rfl hl (by decide) rfl (fun ls hl => ?_)
    refine lv_aload_n E.1 E.2.1 dX6_takesCommand_32 rfl (lv_at hl 1 rfl) ?_
    refine m_get E ho fw_X6_142 rfl dX6_takesCommand_33 ?_
    refine r_bipush E dX6_takesCommand_36 (by decide) ?_
    refine r_icmp_eq (tgt := 59) E dX6_takesCommand_38 (by decide) (by omega) (by omega) (fun c38 => absurd c38 (by omega)) (fun c38 => ?_)
    refine lv_aload_n E.1 E.2.1 dX6_takesCommand_41 rfl (lv_at hl 1 rfl) ?_
    refine m_get E ho fw_X6_142 rfl dX6_takesCommand_42 ?_
    refine r_bipush E dX6_takesCommand_45 (by decide) ?_
    refine r_icmp_eq (tgt := 59) E dX6_takesCommand_47 (by decide) (by omega) (by omega) (fun c47 => absurd c47 (by omega)) (fun c47 => ?_)
    refine lv_aload_n E.1 E.2.1 dX6_takesCommand_50 rfl (lv_at hl 1 rfl) ?_
    refine m_get E ho fw_X6_142 rfl dX6_takesCommand_51 ?_
    refine r_bipush E dX6_takesCommand_54 (by decide) ?_
    refine r_icmp_ne (tgt := 63) E dX6_takesCommand_56 (by decide) (by omega) (by omega) (fun c56 => ?_) (fun c56 => absurd c56 (by omega))
    refine r_const E dX6_takesCommand_63 ?_
    refine lv_istore_n (lv' := [(2, .int (iI (0))), (1, .int (iI (1))), (0, .ref (g))]) E.1 E.2.1 dX6_takesCommand_64 rfl hl (by decide) rfl (fun ls hl => ?_)
    refine lv_aload_n E.1 E.2.1 dX6_takesCommand_65 rfl (lv_at hl 2 rfl) ?_
    refine lv_iload_n E.1 E.2.1 dX6_takesCommand_66 rfl (lv_at hl 1 rfl) ?_
    refine r_if_ne (tgt := 92) E dX6_takesCommand_67 (by decide) (by omega) (fun c67 => ?_) (fun c67 => absurd c67 (by omega))
    refine r_const E dX6_takesCommand_92 ?_
    refine lv_goto (tgt := 97) E.1 E.2.1 dX6_takesCommand_93 (by decide) ?_
    refine kVWV (As := [.int (iI (1))]) E cw_X6_138 (c_X6_takes G l g v3 tx len (p1) (1) ((h0 tx len p1)) (fi) (sc) hT (1) (by omega) (by omega) (by omega) (by omega)) ho ⟨_, _, rfl⟩ ⟨ho, htx⟩ hL hl.1 rfl rfl (Nat.le_of_ble_eq_true rfl) ⟨Nat.le_of_ble_eq_true rfl, Nat.le_of_ble_eq_true rfl⟩ ⟨Nat.le_of_ble_eq_true rfl, Nat.le_of_ble_eq_true rfl⟩ dX6_takesCommand_97 (fun H2 locs hL hw_ => ?_)
    rw [if_pos (by decide), if_pos (by decide)] at hw_
    obtain ⟨⟨ho, htx⟩, hq⟩ := hw_
    have hS := hS.trans hq
    refine lv_aload_n E.1 E.2.1 dX6_takesCommand_100 rfl (lv_at hl 2 rfl) ?_
    refine m_get E ho fw_X6_131 rfl dX6_takesCommand_101 ?_
    refine r_if_eq (tgt := 111) E dX6_takesCommand_104 (by decide) (by omega) (fun c104 => absurd c104 (by omega)) (fun c104 => ?_)
    refine lv_iload_n E.1 E.2.1 dX6_takesCommand_107 rfl (lv_at hl 1 rfl) ?_
    refine r_if_eq (tgt := 112) E dX6_takesCommand_108 (by decide) (by omega) (fun c108 => absurd c108 (by omega)) (fun c108 => ?_)
    refine e_vret (rm := ({ frames := 2, cells := 0, slots := 0, locals := 45 } : Room)) E hL dX6_takesCommand_111 ⟨rfl, ?_⟩
    have hc : pCmd tx len p1 = (p1 + 1, some (hr tx len p1, 0, 0)) := pCmd_ce (by omega)
    rw [hc]
    rw [if_pos (by rfl)]
    refine ⟨⟨_, _, _, ⟨ho, htx⟩, ?_⟩, hS⟩
    intro c x y h; cases h
    exact ⟨by omega, fun h9 => by omega, fun h9 => by omega⟩
  by_cases hL101 : h0 tx len p1 = 101
  · have hrL : hr tx len p1 = 101 := by omega
    refine lv_aload_n E.1 E.2.1 dX6_takesCommand_8 rfl (lv_at hl 0 rfl) ?_
    refine m_get E ho fw_X6_142 rfl dX6_takesCommand_9 ?_
    refine r_bipush E dX6_takesCommand_12 (by decide) ?_
    refine r_icmp_eq (tgt := 26) E dX6_takesCommand_14 (by decide) (by omega) (by omega) (fun c14 => absurd c14 (by omega)) (fun c14 => ?_)
    refine lv_aload_n E.1 E.2.1 dX6_takesCommand_17 rfl (lv_at hl 0 rfl) ?_
    refine m_get E ho fw_X6_142 rfl dX6_takesCommand_18 ?_
    refine r_bipush E dX6_takesCommand_21 (by decide) ?_
    refine r_icmp_ne (tgt := 30) E dX6_takesCommand_23 (by decide) (by omega) (by omega) (fun c23 => absurd c23 (by omega)) (fun c23 => ?_)
    refine r_const E dX6_takesCommand_26 ?_
    refine lv_goto (tgt := 31) E.1 E.2.1 dX6_takesCommand_27 (by decide) ?_
    refine lv_istore_n (lv' := [(1, .int (iI (1))), (0, .ref (g))]) E.1 E.2.1 dX6_takesCommand_31 rfl hl (by decide) rfl (fun ls hl => ?_)
    refine lv_aload_n E.1 E.2.1 dX6_takesCommand_32 rfl (lv_at hl 1 rfl) ?_
    refine m_get E ho fw_X6_142 rfl dX6_takesCommand_33 ?_
    refine r_bipush E dX6_takesCommand_36 (by decide) ?_
    refine r_icmp_eq (tgt := 59) E dX6_takesCommand_38 (by decide) (by omega) (by omega) (fun c38 => absurd c38 (by omega)) (fun c38 => ?_)
    refine lv_aload_n E.1 E.2.1 dX6_takesCommand_41 rfl (lv_at hl 1 rfl) ?_
    refine m_get E ho fw_X6_142 rfl dX6_takesCommand_42 ?_
    refine r_bipush E dX6_takesCommand_45 (by decide) ?_
    refine r_icmp_eq (tgt := 59) E dX6_takesCommand_47 (by decide) (by omega) (by omega) (fun c47 => absurd c47 (by omega)) (fun c47 => ?_)
    refine lv_aload_n E.1 E.2.1 dX6_takesCommand_50 rfl (lv_at hl 1 rfl) ?_
    refine m_get E ho fw_X6_142 rfl dX6_takesCommand_51 ?_
    refine r_bipush E dX6_takesCommand_54 (by decide) ?_
    refine r_icmp_ne (tgt := 63) E dX6_takesCommand_56 (by decide) (by omega) (by omega) (fun c56 => ?_) (fun c56 => absurd c56 (by omega))
    refine r_const E dX6_takesCommand_63 ?_
    refine lv_istore_n (lv' := [(2, .int (iI (0))), (1, .int (iI (1))), (0, .ref (g))]) E.1 E.2.1 dX6_takesCommand_64 rfl hl (by decide) rfl (fun ls hl => ?_)
    refine lv_aload_n E.1 E.2.1 dX6_takesCommand_65 rfl (lv_at hl 2 rfl) ?_
    refine lv_iload_n E.1 E.2.1 dX6_takesCommand_66 rfl (lv_at hl 1 rfl) ?_
    refine r_if_ne (tgt := 92) E dX6_takesCommand_67 (by decide) (by omega) (fun c67 => ?_) (fun c67 => absurd c67 (by omega))
    refine r_const E dX6_takesCommand_92 ?_
    refine lv_goto (tgt := 97) E.1 E.2.1 dX6_takesCommand_93 (by decide) ?_
    refine kVWV (As := [.int (iI (1))]) E cw_X6_138 (c_X6_takes G l g v3 tx len (p1) (1) ((h0 tx len p1)) (fi) (sc) hT (1) (by omega) (by omega) (by omega) (by omega)) ho ⟨_, _, rfl⟩ ⟨ho, htx⟩ hL hl.1 rfl rfl (Nat.le_of_ble_eq_true rfl) ⟨Nat.le_of_ble_eq_true rfl, Nat.le_of_ble_eq_true rfl⟩ ⟨Nat.le_of_ble_eq_true rfl, Nat.le_of_ble_eq_true rfl⟩ dX6_takesCommand_97 (fun H2 locs hL hw_ => ?_)
    rw [if_pos (by decide), if_pos (by decide)] at hw_
    obtain ⟨⟨ho, htx⟩, hq⟩ := hw_
    have hS := hS.trans hq
    refine lv_aload_n E.1 E.2.1 dX6_takesCommand_100 rfl (lv_at hl 2 rfl) ?_
    refine m_get E ho fw_X6_131 rfl dX6_takesCommand_101 ?_
    refine r_if_eq (tgt := 111) E dX6_takesCommand_104 (by decide) (by omega) (fun c104 => absurd c104 (by omega)) (fun c104 => ?_)
    refine lv_iload_n E.1 E.2.1 dX6_takesCommand_107 rfl (lv_at hl 1 rfl) ?_
    refine r_if_eq (tgt := 112) E dX6_takesCommand_108 (by decide) (by omega) (fun c108 => absurd c108 (by omega)) (fun c108 => ?_)
    refine e_vret (rm := ({ frames := 2, cells := 0, slots := 0, locals := 45 } : Room)) E hL dX6_takesCommand_111 ⟨rfl, ?_⟩
    have hc : pCmd tx len p1 = (p1 + 1, some (hr tx len p1, 0, 0)) := pCmd_ce (by omega)
    rw [hc]
    rw [if_pos (by rfl)]
    refine ⟨⟨_, _, _, ⟨ho, htx⟩, ?_⟩, hS⟩
    intro c x y h; cases h
    exact ⟨by omega, fun h9 => by omega, fun h9 => by omega⟩
  by_cases hL98 : h0 tx len p1 = 98
  · have hrL : hr tx len p1 = 98 := by omega
    refine lv_aload_n E.1 E.2.1 dX6_takesCommand_8 rfl (lv_at hl 0 rfl) ?_
    refine m_get E ho fw_X6_142 rfl dX6_takesCommand_9 ?_
    refine r_bipush E dX6_takesCommand_12 (by decide) ?_
    refine r_icmp_eq (tgt := 26) E dX6_takesCommand_14 (by decide) (by omega) (by omega) (fun c14 => absurd c14 (by omega)) (fun c14 => ?_)
    refine lv_aload_n E.1 E.2.1 dX6_takesCommand_17 rfl (lv_at hl 0 rfl) ?_
    refine m_get E ho fw_X6_142 rfl dX6_takesCommand_18 ?_
    refine r_bipush E dX6_takesCommand_21 (by decide) ?_
    refine r_icmp_ne (tgt := 30) E dX6_takesCommand_23 (by decide) (by omega) (by omega) (fun c23 => ?_) (fun c23 => absurd c23 (by omega))
    refine r_const E dX6_takesCommand_30 ?_
    refine lv_istore_n (lv' := [(1, .int (iI (0))), (0, .ref (g))]) E.1 E.2.1 dX6_takesCommand_31 rfl hl (by decide) rfl (fun ls hl => ?_)
    refine lv_aload_n E.1 E.2.1 dX6_takesCommand_32 rfl (lv_at hl 1 rfl) ?_
    refine m_get E ho fw_X6_142 rfl dX6_takesCommand_33 ?_
    refine r_bipush E dX6_takesCommand_36 (by decide) ?_
    refine r_icmp_eq (tgt := 59) E dX6_takesCommand_38 (by decide) (by omega) (by omega) (fun c38 => absurd c38 (by omega)) (fun c38 => ?_)
    refine lv_aload_n E.1 E.2.1 dX6_takesCommand_41 rfl (lv_at hl 1 rfl) ?_
    refine m_get E ho fw_X6_142 rfl dX6_takesCommand_42 ?_
    refine r_bipush E dX6_takesCommand_45 (by decide) ?_
    refine r_icmp_eq (tgt := 59) E dX6_takesCommand_47 (by decide) (by omega) (by omega) (fun c47 => absurd c47 (by omega)) (fun c47 => ?_)
    refine lv_aload_n E.1 E.2.1 dX6_takesCommand_50 rfl (lv_at hl 1 rfl) ?_
    refine m_get E ho fw_X6_142 rfl dX6_takesCommand_51 ?_
    refine r_bipush E dX6_takesCommand_54 (by decide) ?_
    refine r_icmp_ne (tgt := 63) E dX6_takesCommand_56 (by decide) (by omega) (by omega) (fun c56 => ?_) (fun c56 => absurd c56 (by omega))
    refine r_const E dX6_takesCommand_63 ?_
    refine lv_istore_n (lv' := [(2, .int (iI (0))), (1, .int (iI (0))), (0, .ref (g))]) E.1 E.2.1 dX6_takesCommand_64 rfl hl (by decide) rfl (fun ls hl => ?_)
    refine lv_aload_n E.1 E.2.1 dX6_takesCommand_65 rfl (lv_at hl 2 rfl) ?_
    refine lv_iload_n E.1 E.2.1 dX6_takesCommand_66 rfl (lv_at hl 1 rfl) ?_
    refine r_if_ne (tgt := 92) E dX6_takesCommand_67 (by decide) (by omega) (fun c67 => absurd c67 (by omega)) (fun c67 => ?_)
    refine lv_iload_n E.1 E.2.1 dX6_takesCommand_70 rfl (lv_at hl 0 rfl) ?_
    refine r_if_ne (tgt := 92) E dX6_takesCommand_71 (by decide) (by omega) (fun c71 => absurd c71 (by omega)) (fun c71 => ?_)
    refine lv_aload_n E.1 E.2.1 dX6_takesCommand_74 rfl (lv_at hl 2 rfl) ?_
    refine m_get E ho fw_X6_142 rfl dX6_takesCommand_75 ?_
    refine r_bipush E dX6_takesCommand_78 (by decide) ?_
    refine r_icmp_eq (tgt := 92) E dX6_takesCommand_80 (by decide) (by omega) (by omega) (fun c80 => ?_) (fun c80 => absurd c80 (by omega))
    refine r_const E dX6_takesCommand_92 ?_
    refine lv_goto (tgt := 97) E.1 E.2.1 dX6_takesCommand_93 (by decide) ?_
    refine kVWV (As := [.int (iI (1))]) E cw_X6_138 (c_X6_takes G l g v3 tx len (p1) (1) ((h0 tx len p1)) (fi) (sc) hT (1) (by omega) (by omega) (by omega) (by omega)) ho ⟨_, _, rfl⟩ ⟨ho, htx⟩ hL hl.1 rfl rfl (Nat.le_of_ble_eq_true rfl) ⟨Nat.le_of_ble_eq_true rfl, Nat.le_of_ble_eq_true rfl⟩ ⟨Nat.le_of_ble_eq_true rfl, Nat.le_of_ble_eq_true rfl⟩ dX6_takesCommand_97 (fun H2 locs hL hw_ => ?_)
    rw [if_pos (by decide), if_pos (by decide)] at hw_
    obtain ⟨⟨ho, htx⟩, hq⟩ := hw_
    have hS := hS.trans hq
    refine lv_aload_n E.1 E.2.1 dX6_takesCommand_100 rfl (lv_at hl 2 rfl) ?_
    refine m_get E ho fw_X6_131 rfl dX6_takesCommand_101 ?_
    refine r_if_eq (tgt := 111) E dX6_takesCommand_104 (by decide) (by omega) (fun c104 => absurd c104 (by omega)) (fun c104 => ?_)
    refine lv_iload_n E.1 E.2.1 dX6_takesCommand_107 rfl (lv_at hl 1 rfl) ?_
    refine r_if_eq (tgt := 112) E dX6_takesCommand_108 (by decide) (by omega) (fun c108 => ?_) (fun c108 => absurd c108 (by omega))
    refine lv_aload_n E.1 E.2.1 dX6_takesCommand_112 rfl (lv_at hl 2 rfl) ?_
    refine lv_aload_n E.1 E.2.1 dX6_takesCommand_113 rfl (lv_at hl 2 rfl) ?_
    refine r_const E dX6_takesCommand_114 ?_
    refine lv_aload_n E.1 E.2.1 dX6_takesCommand_115 rfl (lv_at hl 2 rfl) ?_
    refine m_get E ho fw_X6_142 rfl dX6_takesCommand_116 ?_
    refine r_bipush E dX6_takesCommand_119 (by decide) ?_
    refine r_icmp_ne (tgt := 128) E dX6_takesCommand_121 (by decide) (by omega) (by omega) (fun c121 => absurd c121 (by omega)) (fun c121 => ?_)
    refine r_const E dX6_takesCommand_124 ?_
    refine lv_goto (tgt := 145) E.1 E.2.1 dX6_takesCommand_125 (by decide) ?_
    refine kVWE (As := [.int (iI (0)), .int (iI (1))]) E cw_X6_145 (c_X6_takesNumber G l g v3 tx len ((p1 + 1)) ((h0 tx len p1)) (fi) (sc) hT 0 1 (by omega) (by omega) (by omega) (by omega)) ho ⟨_, _, rfl⟩ ⟨ho, htx⟩ hL hl.1 rfl rfl (Nat.le_of_ble_eq_true rfl) ⟨Nat.le_of_ble_eq_true rfl, Nat.le_of_ble_eq_true rfl⟩ ⟨Nat.le_of_ble_eq_true rfl, Nat.le_of_ble_eq_true rfl⟩ dX6_takesCommand_145 (fun H3 locs hL hw_ => ?_)
    have hpb_ := pNum_b tx len ((p1 + 1)) 0 1
    rcases hn145 : (pNum tx len ((p1 + 1)) 0 1).2 with _ | hn145v
    · rw [hn145, if_neg (by decide)] at hw_
      rw [show nmV tx len ((p1 + 1)) 0 1 = h0 tx len ((p1 + 1)) - 48 by unfold nmV; rw [hn145]]
      obtain ⟨⟨ho, htx⟩, hq⟩ := hw_
      have hS := hS.trans hq
      refine m_put E ho fw_X6_148 fp_X6_9 rfl rfl (Nat.le_of_ble_eq_true rfl) hL (by omega) dX6_takesCommand_148 (fun H4 locs hL hO_ hF_ => ?_)
      have htx := htx.kept (hF_.2 _ (by omega))
      have hS := hS.trans (FrS.of1 (lo := g) (hi := g + 1) hF_ (by omega) (by omega))
      have ho : Ob G (g) 6 [.ref (g + 1), .ref (g + 2), .ref (g + 3), .int (v3), .ref (g + 4), .int (iI ((len : Int))), .int (iI ((((pNum tx len ((p1 + 1)) 0 1).1 : Nat) : Int))), .int (iI (0)), .int (iI ((h0 tx len p1))), .int (iI (h0 tx len ((p1 + 1)) - 48)), .int (iI (sc))] H4 := hO_
      clear hO_
      refine lv_aload_n E.1 E.2.1 dX6_takesCommand_151 rfl (lv_at hl 2 rfl) ?_
      refine m_get E ho fw_X6_142 rfl dX6_takesCommand_152 ?_
      refine r_bipush E dX6_takesCommand_155 (by decide) ?_
      refine r_icmp_ne (tgt := 200) E dX6_takesCommand_157 (by decide) (by omega) (by omega) (fun c157 => ?_) (fun c157 => absurd c157 (by omega))
      refine lv_aload_n E.1 E.2.1 dX6_takesCommand_200 rfl (lv_at hl 2 rfl) ?_
      refine m_get E ho fw_X6_142 rfl dX6_takesCommand_201 ?_
      refine r_bipush E dX6_takesCommand_204 (by decide) ?_
      refine r_icmp_ne (tgt := 249) E dX6_takesCommand_206 (by decide) (by omega) (by omega) (fun c206 => ?_) (fun c206 => absurd c206 (by omega))
      refine e_vret (rm := ({ frames := 2, cells := 0, slots := 0, locals := 45 } : Room)) E hL dX6_takesCommand_249 ⟨rfl, ?_⟩
      have hc : pCmd tx len p1 = ((pNum tx len (p1 + 1) 0 1).1, none) := by rw [pCmd_b hrL, hn145]; rfl
      rw [hc]
      exact ⟨⟨_, _, _, ⟨ho, htx⟩, fun c x y h => by cases h⟩, hS⟩
    · have hvb_ := hpb_.2.2 hn145v hn145
      rw [hn145, if_pos (by rfl)] at hw_
      rw [show nmV tx len ((p1 + 1)) 0 1 = (hn145v : Int) by unfold nmV; rw [hn145]]
      obtain ⟨⟨ho, htx⟩, hq⟩ := hw_
      have hS := hS.trans hq
      refine m_put E ho fw_X6_148 fp_X6_9 rfl rfl (Nat.le_of_ble_eq_true rfl) hL (by omega) dX6_takesCommand_148 (fun H4 locs hL hO_ hF_ => ?_)
      have htx := htx.kept (hF_.2 _ (by omega))
      have hS := hS.trans (FrS.of1 (lo := g) (hi := g + 1) hF_ (by omega) (by omega))
      have ho : Ob G (g) 6 [.ref (g + 1), .ref (g + 2), .ref (g + 3), .int (v3), .ref (g + 4), .int (iI ((len : Int))), .int (iI ((((pNum tx len ((p1 + 1)) 0 1).1 : Nat) : Int))), .int (iI (1)), .int (iI ((h0 tx len p1))), .int (iI ((hn145v : Int))), .int (iI (sc))] H4 := hO_
      clear hO_
      refine lv_aload_n E.1 E.2.1 dX6_takesCommand_151 rfl (lv_at hl 2 rfl) ?_
      refine m_get E ho fw_X6_142 rfl dX6_takesCommand_152 ?_
      refine r_bipush E dX6_takesCommand_155 (by decide) ?_
      refine r_icmp_ne (tgt := 200) E dX6_takesCommand_157 (by decide) (by omega) (by omega) (fun c157 => ?_) (fun c157 => absurd c157 (by omega))
      refine lv_aload_n E.1 E.2.1 dX6_takesCommand_200 rfl (lv_at hl 2 rfl) ?_
      refine m_get E ho fw_X6_142 rfl dX6_takesCommand_201 ?_
      refine r_bipush E dX6_takesCommand_204 (by decide) ?_
      refine r_icmp_ne (tgt := 249) E dX6_takesCommand_206 (by decide) (by omega) (by omega) (fun c206 => ?_) (fun c206 => absurd c206 (by omega))
      refine e_vret (rm := ({ frames := 2, cells := 0, slots := 0, locals := 45 } : Room)) E hL dX6_takesCommand_249 ⟨rfl, ?_⟩
      have hc : pCmd tx len p1 = ((pNum tx len (p1 + 1) 0 1).1, some (98, hn145v, 0)) := by rw [pCmd_b hrL, hn145]; rfl
      rw [hc]
      rw [if_pos (by rfl)]
      refine ⟨⟨_, _, _, ⟨ho, htx⟩, ?_⟩, hS⟩
      intro c x y h; cases h
      exact ⟨hL98, fun _ => rfl, fun h9 => by omega⟩
  by_cases hL114 : h0 tx len p1 = 114
  · have hrL : hr tx len p1 = 114 := by omega
    refine lv_aload_n E.1 E.2.1 dX6_takesCommand_8 rfl (lv_at hl 0 rfl) ?_
    refine m_get E ho fw_X6_142 rfl dX6_takesCommand_9 ?_
    refine r_bipush E dX6_takesCommand_12 (by decide) ?_
    refine r_icmp_eq (tgt := 26) E dX6_takesCommand_14 (by decide) (by omega) (by omega) (fun c14 => absurd c14 (by omega)) (fun c14 => ?_)
    refine lv_aload_n E.1 E.2.1 dX6_takesCommand_17 rfl (lv_at hl 0 rfl) ?_
    refine m_get E ho fw_X6_142 rfl dX6_takesCommand_18 ?_
    refine r_bipush E dX6_takesCommand_21 (by decide) ?_
    refine r_icmp_ne (tgt := 30) E dX6_takesCommand_23 (by decide) (by omega) (by omega) (fun c23 => ?_) (fun c23 => absurd c23 (by omega))
    refine r_const E dX6_takesCommand_30 ?_
    refine lv_istore_n (lv' := [(1, .int (iI (0))), (0, .ref (g))]) E.1 E.2.1 dX6_takesCommand_31 rfl hl (by decide) rfl (fun ls hl => ?_)
    refine lv_aload_n E.1 E.2.1 dX6_takesCommand_32 rfl (lv_at hl 1 rfl) ?_
    refine m_get E ho fw_X6_142 rfl dX6_takesCommand_33 ?_
    refine r_bipush E dX6_takesCommand_36 (by decide) ?_
    refine r_icmp_eq (tgt := 59) E dX6_takesCommand_38 (by decide) (by omega) (by omega) (fun c38 => absurd c38 (by omega)) (fun c38 => ?_)
    refine lv_aload_n E.1 E.2.1 dX6_takesCommand_41 rfl (lv_at hl 1 rfl) ?_
    refine m_get E ho fw_X6_142 rfl dX6_takesCommand_42 ?_
    refine r_bipush E dX6_takesCommand_45 (by decide) ?_
    refine r_icmp_eq (tgt := 59) E dX6_takesCommand_47 (by decide) (by omega) (by omega) (fun c47 => ?_) (fun c47 => absurd c47 (by omega))
    refine r_const E dX6_takesCommand_59 ?_
    refine lv_goto (tgt := 64) E.1 E.2.1 dX6_takesCommand_60 (by decide) ?_
    refine lv_istore_n (lv' := [(2, .int (iI (1))), (1, .int (iI (0))), (0, .ref (g))]) E.1 E.2.1 dX6_takesCommand_64 rfl hl (by decide) rfl (fun ls hl => ?_)
    refine lv_aload_n E.1 E.2.1 dX6_takesCommand_65 rfl (lv_at hl 2 rfl) ?_
    refine lv_iload_n E.1 E.2.1 dX6_takesCommand_66 rfl (lv_at hl 1 rfl) ?_
    refine r_if_ne (tgt := 92) E dX6_takesCommand_67 (by decide) (by omega) (fun c67 => absurd c67 (by omega)) (fun c67 => ?_)
    refine lv_iload_n E.1 E.2.1 dX6_takesCommand_70 rfl (lv_at hl 0 rfl) ?_
    refine r_if_ne (tgt := 92) E dX6_takesCommand_71 (by decide) (by omega) (fun c71 => ?_) (fun c71 => absurd c71 (by omega))
    refine r_const E dX6_takesCommand_92 ?_
    refine lv_goto (tgt := 97) E.1 E.2.1 dX6_takesCommand_93 (by decide) ?_
    refine kVWV (As := [.int (iI (1))]) E cw_X6_138 (c_X6_takes G l g v3 tx len (p1) (1) ((h0 tx len p1)) (fi) (sc) hT (1) (by omega) (by omega) (by omega) (by omega)) ho ⟨_, _, rfl⟩ ⟨ho, htx⟩ hL hl.1 rfl rfl (Nat.le_of_ble_eq_true rfl) ⟨Nat.le_of_ble_eq_true rfl, Nat.le_of_ble_eq_true rfl⟩ ⟨Nat.le_of_ble_eq_true rfl, Nat.le_of_ble_eq_true rfl⟩ dX6_takesCommand_97 (fun H2 locs hL hw_ => ?_)
    rw [if_pos (by decide), if_pos (by decide)] at hw_
    obtain ⟨⟨ho, htx⟩, hq⟩ := hw_
    have hS := hS.trans hq
    refine lv_aload_n E.1 E.2.1 dX6_takesCommand_100 rfl (lv_at hl 2 rfl) ?_
    refine m_get E ho fw_X6_131 rfl dX6_takesCommand_101 ?_
    refine r_if_eq (tgt := 111) E dX6_takesCommand_104 (by decide) (by omega) (fun c104 => absurd c104 (by omega)) (fun c104 => ?_)
    refine lv_iload_n E.1 E.2.1 dX6_takesCommand_107 rfl (lv_at hl 1 rfl) ?_
    refine r_if_eq (tgt := 112) E dX6_takesCommand_108 (by decide) (by omega) (fun c108 => ?_) (fun c108 => absurd c108 (by omega))
    refine lv_aload_n E.1 E.2.1 dX6_takesCommand_112 rfl (lv_at hl 2 rfl) ?_
    refine lv_aload_n E.1 E.2.1 dX6_takesCommand_113 rfl (lv_at hl 2 rfl) ?_
    refine r_const E dX6_takesCommand_114 ?_
    refine lv_aload_n E.1 E.2.1 dX6_takesCommand_115 rfl (lv_at hl 2 rfl) ?_
    refine m_get E ho fw_X6_142 rfl dX6_takesCommand_116 ?_
    refine r_bipush E dX6_takesCommand_119 (by decide) ?_
    refine r_icmp_ne (tgt := 128) E dX6_takesCommand_121 (by decide) (by omega) (by omega) (fun c121 => ?_) (fun c121 => absurd c121 (by omega))
    refine lv_aload_n E.1 E.2.1 dX6_takesCommand_128 rfl (lv_at hl 2 rfl) ?_
    refine m_get E ho fw_X6_142 rfl dX6_takesCommand_129 ?_
    refine r_bipush E dX6_takesCommand_132 (by decide) ?_
    refine r_icmp_ne (tgt := 143) E dX6_takesCommand_134 (by decide) (by omega) (by omega) (fun c134 => ?_) (fun c134 => absurd c134 (by omega))
    refine r_bipush E dX6_takesCommand_143 (by decide) ?_
    refine kVWE (As := [.int (iI (0)), .int (iI (19))]) E cw_X6_145 (c_X6_takesNumber G l g v3 tx len ((p1 + 1)) ((h0 tx len p1)) (fi) (sc) hT 0 19 (by omega) (by omega) (by omega) (by omega)) ho ⟨_, _, rfl⟩ ⟨ho, htx⟩ hL hl.1 rfl rfl (Nat.le_of_ble_eq_true rfl) ⟨Nat.le_of_ble_eq_true rfl, Nat.le_of_ble_eq_true rfl⟩ ⟨Nat.le_of_ble_eq_true rfl, Nat.le_of_ble_eq_true rfl⟩ dX6_takesCommand_145 (fun H3 locs hL hw_ => ?_)
    have hpb_ := pNum_b tx len ((p1 + 1)) 0 19
    rcases hn145 : (pNum tx len ((p1 + 1)) 0 19).2 with _ | hn145v
    · rw [hn145, if_neg (by decide)] at hw_
      rw [show nmV tx len ((p1 + 1)) 0 19 = h0 tx len ((p1 + 1)) - 48 by unfold nmV; rw [hn145]]
      obtain ⟨⟨ho, htx⟩, hq⟩ := hw_
      have hS := hS.trans hq
      refine m_put E ho fw_X6_148 fp_X6_9 rfl rfl (Nat.le_of_ble_eq_true rfl) hL (by omega) dX6_takesCommand_148 (fun H4 locs hL hO_ hF_ => ?_)
      have htx := htx.kept (hF_.2 _ (by omega))
      have hS := hS.trans (FrS.of1 (lo := g) (hi := g + 1) hF_ (by omega) (by omega))
      have ho : Ob G (g) 6 [.ref (g + 1), .ref (g + 2), .ref (g + 3), .int (v3), .ref (g + 4), .int (iI ((len : Int))), .int (iI ((((pNum tx len ((p1 + 1)) 0 19).1 : Nat) : Int))), .int (iI (0)), .int (iI ((h0 tx len p1))), .int (iI (h0 tx len ((p1 + 1)) - 48)), .int (iI (sc))] H4 := hO_
      clear hO_
      refine lv_aload_n E.1 E.2.1 dX6_takesCommand_151 rfl (lv_at hl 2 rfl) ?_
      refine m_get E ho fw_X6_142 rfl dX6_takesCommand_152 ?_
      refine r_bipush E dX6_takesCommand_155 (by decide) ?_
      refine r_icmp_ne (tgt := 200) E dX6_takesCommand_157 (by decide) (by omega) (by omega) (fun c157 => ?_) (fun c157 => absurd c157 (by omega))
      refine lv_aload_n E.1 E.2.1 dX6_takesCommand_200 rfl (lv_at hl 2 rfl) ?_
      refine m_get E ho fw_X6_142 rfl dX6_takesCommand_201 ?_
      refine r_bipush E dX6_takesCommand_204 (by decide) ?_
      refine r_icmp_ne (tgt := 249) E dX6_takesCommand_206 (by decide) (by omega) (by omega) (fun c206 => ?_) (fun c206 => absurd c206 (by omega))
      refine e_vret (rm := ({ frames := 2, cells := 0, slots := 0, locals := 45 } : Room)) E hL dX6_takesCommand_249 ⟨rfl, ?_⟩
      have hc : pCmd tx len p1 = ((pNum tx len (p1 + 1) 0 19).1, none) := by rw [pCmd_r hrL, hn145]; rfl
      rw [hc]
      exact ⟨⟨_, _, _, ⟨ho, htx⟩, fun c x y h => by cases h⟩, hS⟩
    · have hvb_ := hpb_.2.2 hn145v hn145
      rw [hn145, if_pos (by rfl)] at hw_
      rw [show nmV tx len ((p1 + 1)) 0 19 = (hn145v : Int) by unfold nmV; rw [hn145]]
      obtain ⟨⟨ho, htx⟩, hq⟩ := hw_
      have hS := hS.trans hq
      refine m_put E ho fw_X6_148 fp_X6_9 rfl rfl (Nat.le_of_ble_eq_true rfl) hL (by omega) dX6_takesCommand_148 (fun H4 locs hL hO_ hF_ => ?_)
      have htx := htx.kept (hF_.2 _ (by omega))
      have hS := hS.trans (FrS.of1 (lo := g) (hi := g + 1) hF_ (by omega) (by omega))
      have ho : Ob G (g) 6 [.ref (g + 1), .ref (g + 2), .ref (g + 3), .int (v3), .ref (g + 4), .int (iI ((len : Int))), .int (iI ((((pNum tx len ((p1 + 1)) 0 19).1 : Nat) : Int))), .int (iI (1)), .int (iI ((h0 tx len p1))), .int (iI ((hn145v : Int))), .int (iI (sc))] H4 := hO_
      clear hO_
      refine lv_aload_n E.1 E.2.1 dX6_takesCommand_151 rfl (lv_at hl 2 rfl) ?_
      refine m_get E ho fw_X6_142 rfl dX6_takesCommand_152 ?_
      refine r_bipush E dX6_takesCommand_155 (by decide) ?_
      refine r_icmp_ne (tgt := 200) E dX6_takesCommand_157 (by decide) (by omega) (by omega) (fun c157 => ?_) (fun c157 => absurd c157 (by omega))
      refine lv_aload_n E.1 E.2.1 dX6_takesCommand_200 rfl (lv_at hl 2 rfl) ?_
      refine m_get E ho fw_X6_142 rfl dX6_takesCommand_201 ?_
      refine r_bipush E dX6_takesCommand_204 (by decide) ?_
      refine r_icmp_ne (tgt := 249) E dX6_takesCommand_206 (by decide) (by omega) (by omega) (fun c206 => ?_) (fun c206 => absurd c206 (by omega))
      refine e_vret (rm := ({ frames := 2, cells := 0, slots := 0, locals := 45 } : Room)) E hL dX6_takesCommand_249 ⟨rfl, ?_⟩
      have hc : pCmd tx len p1 = ((pNum tx len (p1 + 1) 0 19).1, some (114, hn145v, 0)) := by rw [pCmd_r hrL, hn145]; rfl
      rw [hc]
      rw [if_pos (by rfl)]
      refine ⟨⟨_, _, _, ⟨ho, htx⟩, ?_⟩, hS⟩
      intro c x y h; cases h
      exact ⟨hL114, fun _ => rfl, fun h9 => by omega⟩
  by_cases hL100 : h0 tx len p1 = 100
  · have hrL : hr tx len p1 = 100 := by omega
    refine lv_aload_n E.1 E.2.1 dX6_takesCommand_8 rfl (lv_at hl 0 rfl) ?_
    refine m_get E ho fw_X6_142 rfl dX6_takesCommand_9 ?_
    refine r_bipush E dX6_takesCommand_12 (by decide) ?_
    refine r_icmp_eq (tgt := 26) E dX6_takesCommand_14 (by decide) (by omega) (by omega) (fun c14 => absurd c14 (by omega)) (fun c14 => ?_)
    refine lv_aload_n E.1 E.2.1 dX6_takesCommand_17 rfl (lv_at hl 0 rfl) ?_
    refine m_get E ho fw_X6_142 rfl dX6_takesCommand_18 ?_
    refine r_bipush E dX6_takesCommand_21 (by decide) ?_
    refine r_icmp_ne (tgt := 30) E dX6_takesCommand_23 (by decide) (by omega) (by omega) (fun c23 => ?_) (fun c23 => absurd c23 (by omega))
    refine r_const E dX6_takesCommand_30 ?_
    refine lv_istore_n (lv' := [(1, .int (iI (0))), (0, .ref (g))]) E.1 E.2.1 dX6_takesCommand_31 rfl hl (by decide) rfl (fun ls hl => ?_)
    refine lv_aload_n E.1 E.2.1 dX6_takesCommand_32 rfl (lv_at hl 1 rfl) ?_
    refine m_get E ho fw_X6_142 rfl dX6_takesCommand_33 ?_
    refine r_bipush E dX6_takesCommand_36 (by decide) ?_
    refine r_icmp_eq (tgt := 59) E dX6_takesCommand_38 (by decide) (by omega) (by omega) (fun c38 => absurd c38 (by omega)) (fun c38 => ?_)
    refine lv_aload_n E.1 E.2.1 dX6_takesCommand_41 rfl (lv_at hl 1 rfl) ?_
    refine m_get E ho fw_X6_142 rfl dX6_takesCommand_42 ?_
    refine r_bipush E dX6_takesCommand_45 (by decide) ?_
    refine r_icmp_eq (tgt := 59) E dX6_takesCommand_47 (by decide) (by omega) (by omega) (fun c47 => absurd c47 (by omega)) (fun c47 => ?_)
    refine lv_aload_n E.1 E.2.1 dX6_takesCommand_50 rfl (lv_at hl 1 rfl) ?_
    refine m_get E ho fw_X6_142 rfl dX6_takesCommand_51 ?_
    refine r_bipush E dX6_takesCommand_54 (by decide) ?_
    refine r_icmp_ne (tgt := 63) E dX6_takesCommand_56 (by decide) (by omega) (by omega) (fun c56 => ?_) (fun c56 => absurd c56 (by omega))
    refine r_const E dX6_takesCommand_63 ?_
    refine lv_istore_n (lv' := [(2, .int (iI (0))), (1, .int (iI (0))), (0, .ref (g))]) E.1 E.2.1 dX6_takesCommand_64 rfl hl (by decide) rfl (fun ls hl => ?_)
    refine lv_aload_n E.1 E.2.1 dX6_takesCommand_65 rfl (lv_at hl 2 rfl) ?_
    refine lv_iload_n E.1 E.2.1 dX6_takesCommand_66 rfl (lv_at hl 1 rfl) ?_
    refine r_if_ne (tgt := 92) E dX6_takesCommand_67 (by decide) (by omega) (fun c67 => absurd c67 (by omega)) (fun c67 => ?_)
    refine lv_iload_n E.1 E.2.1 dX6_takesCommand_70 rfl (lv_at hl 0 rfl) ?_
    refine r_if_ne (tgt := 92) E dX6_takesCommand_71 (by decide) (by omega) (fun c71 => absurd c71 (by omega)) (fun c71 => ?_)
    refine lv_aload_n E.1 E.2.1 dX6_takesCommand_74 rfl (lv_at hl 2 rfl) ?_
    refine m_get E ho fw_X6_142 rfl dX6_takesCommand_75 ?_
    refine r_bipush E dX6_takesCommand_78 (by decide) ?_
    refine r_icmp_eq (tgt := 92) E dX6_takesCommand_80 (by decide) (by omega) (by omega) (fun c80 => absurd c80 (by omega)) (fun c80 => ?_)
    refine lv_aload_n E.1 E.2.1 dX6_takesCommand_83 rfl (lv_at hl 2 rfl) ?_
    refine m_get E ho fw_X6_142 rfl dX6_takesCommand_84 ?_
    refine r_bipush E dX6_takesCommand_87 (by decide) ?_
    refine r_icmp_ne (tgt := 96) E dX6_takesCommand_89 (by decide) (by omega) (by omega) (fun c89 => absurd c89 (by omega)) (fun c89 => ?_)
    refine r_const E dX6_takesCommand_92 ?_
    refine lv_goto (tgt := 97) E.1 E.2.1 dX6_takesCommand_93 (by decide) ?_
    refine kVWV (As := [.int (iI (1))]) E cw_X6_138 (c_X6_takes G l g v3 tx len (p1) (1) ((h0 tx len p1)) (fi) (sc) hT (1) (by omega) (by omega) (by omega) (by omega)) ho ⟨_, _, rfl⟩ ⟨ho, htx⟩ hL hl.1 rfl rfl (Nat.le_of_ble_eq_true rfl) ⟨Nat.le_of_ble_eq_true rfl, Nat.le_of_ble_eq_true rfl⟩ ⟨Nat.le_of_ble_eq_true rfl, Nat.le_of_ble_eq_true rfl⟩ dX6_takesCommand_97 (fun H2 locs hL hw_ => ?_)
    rw [if_pos (by decide), if_pos (by decide)] at hw_
    obtain ⟨⟨ho, htx⟩, hq⟩ := hw_
    have hS := hS.trans hq
    refine lv_aload_n E.1 E.2.1 dX6_takesCommand_100 rfl (lv_at hl 2 rfl) ?_
    refine m_get E ho fw_X6_131 rfl dX6_takesCommand_101 ?_
    refine r_if_eq (tgt := 111) E dX6_takesCommand_104 (by decide) (by omega) (fun c104 => absurd c104 (by omega)) (fun c104 => ?_)
    refine lv_iload_n E.1 E.2.1 dX6_takesCommand_107 rfl (lv_at hl 1 rfl) ?_
    refine r_if_eq (tgt := 112) E dX6_takesCommand_108 (by decide) (by omega) (fun c108 => ?_) (fun c108 => absurd c108 (by omega))
    refine lv_aload_n E.1 E.2.1 dX6_takesCommand_112 rfl (lv_at hl 2 rfl) ?_
    refine lv_aload_n E.1 E.2.1 dX6_takesCommand_113 rfl (lv_at hl 2 rfl) ?_
    refine r_const E dX6_takesCommand_114 ?_
    refine lv_aload_n E.1 E.2.1 dX6_takesCommand_115 rfl (lv_at hl 2 rfl) ?_
    refine m_get E ho fw_X6_142 rfl dX6_takesCommand_116 ?_
    refine r_bipush E dX6_takesCommand_119 (by decide) ?_
    refine r_icmp_ne (tgt := 128) E dX6_takesCommand_121 (by decide) (by omega) (by omega) (fun c121 => ?_) (fun c121 => absurd c121 (by omega))
    refine lv_aload_n E.1 E.2.1 dX6_takesCommand_128 rfl (lv_at hl 2 rfl) ?_
    refine m_get E ho fw_X6_142 rfl dX6_takesCommand_129 ?_
    refine r_bipush E dX6_takesCommand_132 (by decide) ?_
    refine r_icmp_ne (tgt := 143) E dX6_takesCommand_134 (by decide) (by omega) (by omega) (fun c134 => absurd c134 (by omega)) (fun c134 => ?_)
    refine r_sipush E dX6_takesCommand_137 (by decide) ?_
    refine lv_goto (tgt := 145) E.1 E.2.1 dX6_takesCommand_140 (by decide) ?_
    refine kVWE (As := [.int (iI (0)), .int (iI (239))]) E cw_X6_145 (c_X6_takesNumber G l g v3 tx len ((p1 + 1)) ((h0 tx len p1)) (fi) (sc) hT 0 239 (by omega) (by omega) (by omega) (by omega)) ho ⟨_, _, rfl⟩ ⟨ho, htx⟩ hL hl.1 rfl rfl (Nat.le_of_ble_eq_true rfl) ⟨Nat.le_of_ble_eq_true rfl, Nat.le_of_ble_eq_true rfl⟩ ⟨Nat.le_of_ble_eq_true rfl, Nat.le_of_ble_eq_true rfl⟩ dX6_takesCommand_145 (fun H3 locs hL hw_ => ?_)
    have hpb_ := pNum_b tx len ((p1 + 1)) 0 239
    rcases hn145 : (pNum tx len ((p1 + 1)) 0 239).2 with _ | hn145v
    · rw [hn145, if_neg (by decide)] at hw_
      rw [show nmV tx len ((p1 + 1)) 0 239 = h0 tx len ((p1 + 1)) - 48 by unfold nmV; rw [hn145]]
      obtain ⟨⟨ho, htx⟩, hq⟩ := hw_
      have hS := hS.trans hq
      refine m_put E ho fw_X6_148 fp_X6_9 rfl rfl (Nat.le_of_ble_eq_true rfl) hL (by omega) dX6_takesCommand_148 (fun H4 locs hL hO_ hF_ => ?_)
      have htx := htx.kept (hF_.2 _ (by omega))
      have hS := hS.trans (FrS.of1 (lo := g) (hi := g + 1) hF_ (by omega) (by omega))
      have ho : Ob G (g) 6 [.ref (g + 1), .ref (g + 2), .ref (g + 3), .int (v3), .ref (g + 4), .int (iI ((len : Int))), .int (iI ((((pNum tx len ((p1 + 1)) 0 239).1 : Nat) : Int))), .int (iI (0)), .int (iI ((h0 tx len p1))), .int (iI (h0 tx len ((p1 + 1)) - 48)), .int (iI (sc))] H4 := hO_
      clear hO_
      refine lv_aload_n E.1 E.2.1 dX6_takesCommand_151 rfl (lv_at hl 2 rfl) ?_
      refine m_get E ho fw_X6_142 rfl dX6_takesCommand_152 ?_
      refine r_bipush E dX6_takesCommand_155 (by decide) ?_
      refine r_icmp_ne (tgt := 200) E dX6_takesCommand_157 (by decide) (by omega) (by omega) (fun c157 => ?_) (fun c157 => absurd c157 (by omega))
      refine lv_aload_n E.1 E.2.1 dX6_takesCommand_200 rfl (lv_at hl 2 rfl) ?_
      refine m_get E ho fw_X6_142 rfl dX6_takesCommand_201 ?_
      refine r_bipush E dX6_takesCommand_204 (by decide) ?_
      refine r_icmp_ne (tgt := 249) E dX6_takesCommand_206 (by decide) (by omega) (by omega) (fun c206 => ?_) (fun c206 => absurd c206 (by omega))
      refine e_vret (rm := ({ frames := 2, cells := 0, slots := 0, locals := 45 } : Room)) E hL dX6_takesCommand_249 ⟨rfl, ?_⟩
      have hc : pCmd tx len p1 = ((pNum tx len (p1 + 1) 0 239).1, none) := by rw [pCmd_d hrL, hn145]; rfl
      rw [hc]
      exact ⟨⟨_, _, _, ⟨ho, htx⟩, fun c x y h => by cases h⟩, hS⟩
    · have hvb_ := hpb_.2.2 hn145v hn145
      rw [hn145, if_pos (by rfl)] at hw_
      rw [show nmV tx len ((p1 + 1)) 0 239 = (hn145v : Int) by unfold nmV; rw [hn145]]
      obtain ⟨⟨ho, htx⟩, hq⟩ := hw_
      have hS := hS.trans hq
      refine m_put E ho fw_X6_148 fp_X6_9 rfl rfl (Nat.le_of_ble_eq_true rfl) hL (by omega) dX6_takesCommand_148 (fun H4 locs hL hO_ hF_ => ?_)
      have htx := htx.kept (hF_.2 _ (by omega))
      have hS := hS.trans (FrS.of1 (lo := g) (hi := g + 1) hF_ (by omega) (by omega))
      have ho : Ob G (g) 6 [.ref (g + 1), .ref (g + 2), .ref (g + 3), .int (v3), .ref (g + 4), .int (iI ((len : Int))), .int (iI ((((pNum tx len ((p1 + 1)) 0 239).1 : Nat) : Int))), .int (iI (1)), .int (iI ((h0 tx len p1))), .int (iI ((hn145v : Int))), .int (iI (sc))] H4 := hO_
      clear hO_
      refine lv_aload_n E.1 E.2.1 dX6_takesCommand_151 rfl (lv_at hl 2 rfl) ?_
      refine m_get E ho fw_X6_142 rfl dX6_takesCommand_152 ?_
      refine r_bipush E dX6_takesCommand_155 (by decide) ?_
      refine r_icmp_ne (tgt := 200) E dX6_takesCommand_157 (by decide) (by omega) (by omega) (fun c157 => ?_) (fun c157 => absurd c157 (by omega))
      refine lv_aload_n E.1 E.2.1 dX6_takesCommand_200 rfl (lv_at hl 2 rfl) ?_
      refine m_get E ho fw_X6_142 rfl dX6_takesCommand_201 ?_
      refine r_bipush E dX6_takesCommand_204 (by decide) ?_
      refine r_icmp_ne (tgt := 249) E dX6_takesCommand_206 (by decide) (by omega) (by omega) (fun c206 => ?_) (fun c206 => absurd c206 (by omega))
      refine e_vret (rm := ({ frames := 2, cells := 0, slots := 0, locals := 45 } : Room)) E hL dX6_takesCommand_249 ⟨rfl, ?_⟩
      have hc : pCmd tx len p1 = ((pNum tx len (p1 + 1) 0 239).1, some (100, hn145v, 0)) := by rw [pCmd_d hrL, hn145]; rfl
      rw [hc]
      rw [if_pos (by rfl)]
      refine ⟨⟨_, _, _, ⟨ho, htx⟩, ?_⟩, hS⟩
      intro c x y h; cases h
      exact ⟨hL100, fun _ => rfl, fun h9 => by omega⟩
  by_cases hL119 : h0 tx len p1 = 119
  · have hrL : hr tx len p1 = 119 := by omega
    refine lv_aload_n E.1 E.2.1 dX6_takesCommand_8 rfl (lv_at hl 0 rfl) ?_
    refine m_get E ho fw_X6_142 rfl dX6_takesCommand_9 ?_
    refine r_bipush E dX6_takesCommand_12 (by decide) ?_
    refine r_icmp_eq (tgt := 26) E dX6_takesCommand_14 (by decide) (by omega) (by omega) (fun c14 => absurd c14 (by omega)) (fun c14 => ?_)
    refine lv_aload_n E.1 E.2.1 dX6_takesCommand_17 rfl (lv_at hl 0 rfl) ?_
    refine m_get E ho fw_X6_142 rfl dX6_takesCommand_18 ?_
    refine r_bipush E dX6_takesCommand_21 (by decide) ?_
    refine r_icmp_ne (tgt := 30) E dX6_takesCommand_23 (by decide) (by omega) (by omega) (fun c23 => ?_) (fun c23 => absurd c23 (by omega))
    refine r_const E dX6_takesCommand_30 ?_
    refine lv_istore_n (lv' := [(1, .int (iI (0))), (0, .ref (g))]) E.1 E.2.1 dX6_takesCommand_31 rfl hl (by decide) rfl (fun ls hl => ?_)
    refine lv_aload_n E.1 E.2.1 dX6_takesCommand_32 rfl (lv_at hl 1 rfl) ?_
    refine m_get E ho fw_X6_142 rfl dX6_takesCommand_33 ?_
    refine r_bipush E dX6_takesCommand_36 (by decide) ?_
    refine r_icmp_eq (tgt := 59) E dX6_takesCommand_38 (by decide) (by omega) (by omega) (fun c38 => ?_) (fun c38 => absurd c38 (by omega))
    refine r_const E dX6_takesCommand_59 ?_
    refine lv_goto (tgt := 64) E.1 E.2.1 dX6_takesCommand_60 (by decide) ?_
    refine lv_istore_n (lv' := [(2, .int (iI (1))), (1, .int (iI (0))), (0, .ref (g))]) E.1 E.2.1 dX6_takesCommand_64 rfl hl (by decide) rfl (fun ls hl => ?_)
    refine lv_aload_n E.1 E.2.1 dX6_takesCommand_65 rfl (lv_at hl 2 rfl) ?_
    refine lv_iload_n E.1 E.2.1 dX6_takesCommand_66 rfl (lv_at hl 1 rfl) ?_
    refine r_if_ne (tgt := 92) E dX6_takesCommand_67 (by decide) (by omega) (fun c67 => absurd c67 (by omega)) (fun c67 => ?_)
    refine lv_iload_n E.1 E.2.1 dX6_takesCommand_70 rfl (lv_at hl 0 rfl) ?_
    refine r_if_ne (tgt := 92) E dX6_takesCommand_71 (by decide) (by omega) (fun c71 => ?_) (fun c71 => absurd c71 (by omega))
    refine r_const E dX6_takesCommand_92 ?_
    refine lv_goto (tgt := 97) E.1 E.2.1 dX6_takesCommand_93 (by decide) ?_
    refine kVWV (As := [.int (iI (1))]) E cw_X6_138 (c_X6_takes G l g v3 tx len (p1) (1) ((h0 tx len p1)) (fi) (sc) hT (1) (by omega) (by omega) (by omega) (by omega)) ho ⟨_, _, rfl⟩ ⟨ho, htx⟩ hL hl.1 rfl rfl (Nat.le_of_ble_eq_true rfl) ⟨Nat.le_of_ble_eq_true rfl, Nat.le_of_ble_eq_true rfl⟩ ⟨Nat.le_of_ble_eq_true rfl, Nat.le_of_ble_eq_true rfl⟩ dX6_takesCommand_97 (fun H2 locs hL hw_ => ?_)
    rw [if_pos (by decide), if_pos (by decide)] at hw_
    obtain ⟨⟨ho, htx⟩, hq⟩ := hw_
    have hS := hS.trans hq
    refine lv_aload_n E.1 E.2.1 dX6_takesCommand_100 rfl (lv_at hl 2 rfl) ?_
    refine m_get E ho fw_X6_131 rfl dX6_takesCommand_101 ?_
    refine r_if_eq (tgt := 111) E dX6_takesCommand_104 (by decide) (by omega) (fun c104 => absurd c104 (by omega)) (fun c104 => ?_)
    refine lv_iload_n E.1 E.2.1 dX6_takesCommand_107 rfl (lv_at hl 1 rfl) ?_
    refine r_if_eq (tgt := 112) E dX6_takesCommand_108 (by decide) (by omega) (fun c108 => ?_) (fun c108 => absurd c108 (by omega))
    refine lv_aload_n E.1 E.2.1 dX6_takesCommand_112 rfl (lv_at hl 2 rfl) ?_
    refine lv_aload_n E.1 E.2.1 dX6_takesCommand_113 rfl (lv_at hl 2 rfl) ?_
    refine r_const E dX6_takesCommand_114 ?_
    refine lv_aload_n E.1 E.2.1 dX6_takesCommand_115 rfl (lv_at hl 2 rfl) ?_
    refine m_get E ho fw_X6_142 rfl dX6_takesCommand_116 ?_
    refine r_bipush E dX6_takesCommand_119 (by decide) ?_
    refine r_icmp_ne (tgt := 128) E dX6_takesCommand_121 (by decide) (by omega) (by omega) (fun c121 => ?_) (fun c121 => absurd c121 (by omega))
    refine lv_aload_n E.1 E.2.1 dX6_takesCommand_128 rfl (lv_at hl 2 rfl) ?_
    refine m_get E ho fw_X6_142 rfl dX6_takesCommand_129 ?_
    refine r_bipush E dX6_takesCommand_132 (by decide) ?_
    refine r_icmp_ne (tgt := 143) E dX6_takesCommand_134 (by decide) (by omega) (by omega) (fun c134 => ?_) (fun c134 => absurd c134 (by omega))
    refine r_bipush E dX6_takesCommand_143 (by decide) ?_
    refine kVWE (As := [.int (iI (0)), .int (iI (19))]) E cw_X6_145 (c_X6_takesNumber G l g v3 tx len ((p1 + 1)) ((h0 tx len p1)) (fi) (sc) hT 0 19 (by omega) (by omega) (by omega) (by omega)) ho ⟨_, _, rfl⟩ ⟨ho, htx⟩ hL hl.1 rfl rfl (Nat.le_of_ble_eq_true rfl) ⟨Nat.le_of_ble_eq_true rfl, Nat.le_of_ble_eq_true rfl⟩ ⟨Nat.le_of_ble_eq_true rfl, Nat.le_of_ble_eq_true rfl⟩ dX6_takesCommand_145 (fun H3 locs hL hw_ => ?_)
    have hpb_ := pNum_b tx len ((p1 + 1)) 0 19
    rcases hn145 : (pNum tx len ((p1 + 1)) 0 19).2 with _ | hn145v
    · rw [hn145, if_neg (by decide)] at hw_
      rw [show nmV tx len ((p1 + 1)) 0 19 = h0 tx len ((p1 + 1)) - 48 by unfold nmV; rw [hn145]]
      obtain ⟨⟨ho, htx⟩, hq⟩ := hw_
      have hS := hS.trans hq
      refine m_put E ho fw_X6_148 fp_X6_9 rfl rfl (Nat.le_of_ble_eq_true rfl) hL (by omega) dX6_takesCommand_148 (fun H4 locs hL hO_ hF_ => ?_)
      have htx := htx.kept (hF_.2 _ (by omega))
      have hS := hS.trans (FrS.of1 (lo := g) (hi := g + 1) hF_ (by omega) (by omega))
      have ho : Ob G (g) 6 [.ref (g + 1), .ref (g + 2), .ref (g + 3), .int (v3), .ref (g + 4), .int (iI ((len : Int))), .int (iI ((((pNum tx len ((p1 + 1)) 0 19).1 : Nat) : Int))), .int (iI (0)), .int (iI ((h0 tx len p1))), .int (iI (h0 tx len ((p1 + 1)) - 48)), .int (iI (sc))] H4 := hO_
      clear hO_
      refine lv_aload_n E.1 E.2.1 dX6_takesCommand_151 rfl (lv_at hl 2 rfl) ?_
      refine m_get E ho fw_X6_142 rfl dX6_takesCommand_152 ?_
      refine r_bipush E dX6_takesCommand_155 (by decide) ?_
      refine r_icmp_ne (tgt := 200) E dX6_takesCommand_157 (by decide) (by omega) (by omega) (fun c157 => absurd c157 (by omega)) (fun c157 => ?_)
      refine lv_aload_n E.1 E.2.1 dX6_takesCommand_160 rfl (lv_at hl 2 rfl) ?_
      refine lv_aload_n E.1 E.2.1 dX6_takesCommand_161 rfl (lv_at hl 2 rfl) ?_
      refine kVRE (As := []) E cw_X6_135 (c_X6_here G l g v3 tx len ((pNum tx len ((p1 + 1)) 0 19).1) (0) ((h0 tx len p1)) ((h0 tx len ((p1 + 1)) - 48)) ((sc)) hT (by omega)) ho ⟨_, _, rfl⟩ ⟨ho, htx⟩ hL hl.1 rfl rfl (Nat.le_of_ble_eq_true rfl) ⟨Nat.le_of_ble_eq_true rfl, Nat.le_of_ble_eq_true rfl⟩ ⟨rfl, rfl⟩ ⟨Nat.le_of_ble_eq_true rfl, Nat.le_of_ble_eq_true rfl⟩ dX6_takesCommand_162 (fun locs hL => ?_)
      have hb_ := h0_b hT ((pNum tx len ((p1 + 1)) 0 19).1)
      refine r_bipush E dX6_takesCommand_165 (by decide) ?_
      refine r_icmp_ne (tgt := 174) E dX6_takesCommand_167 (by decide) (by omega) (by omega) (fun c167 => ?_) (fun c167 => ?_)
      · refine r_const E dX6_takesCommand_174 ?_
        refine kVWV (As := [.int (iI (0))]) E cw_X6_138 (c_X6_takes G l g v3 tx len ((pNum tx len ((p1 + 1)) 0 19).1) (0) ((h0 tx len p1)) ((h0 tx len ((p1 + 1)) - 48)) ((sc)) hT (0) (by omega) (by omega) (by omega) (by omega)) ho ⟨_, _, rfl⟩ ⟨ho, htx⟩ hL hl.1 rfl rfl (Nat.le_of_ble_eq_true rfl) ⟨Nat.le_of_ble_eq_true rfl, Nat.le_of_ble_eq_true rfl⟩ ⟨Nat.le_of_ble_eq_true rfl, Nat.le_of_ble_eq_true rfl⟩ dX6_takesCommand_175 (fun H5 locs hL hw_ => ?_)
        rw [if_neg (by decide), if_neg (by decide)] at hw_
        obtain ⟨⟨ho, htx⟩, hq⟩ := hw_
        have hS := hS.trans hq
        refine lv_aload_n E.1 E.2.1 dX6_takesCommand_178 rfl (lv_at hl 2 rfl) ?_
        refine lv_aload_n E.1 E.2.1 dX6_takesCommand_179 rfl (lv_at hl 2 rfl) ?_
        refine m_get E ho fw_X6_131 rfl dX6_takesCommand_180 ?_
        refine r_if_eq (tgt := 196) E dX6_takesCommand_183 (by decide) (by omega) (fun c183 => ?_) (fun c183 => absurd c183 (by omega))
        refine r_const E dX6_takesCommand_196 ?_
        refine m_put E ho fw_X6_151 fp_X6_10 rfl rfl (Nat.le_of_ble_eq_true rfl) hL (by omega) dX6_takesCommand_197 (fun H6 locs hL hO_ hF_ => ?_)
        have htx := htx.kept (hF_.2 _ (by omega))
        have hS := hS.trans (FrS.of1 (lo := g) (hi := g + 1) hF_ (by omega) (by omega))
        have ho : Ob G (g) 6 [.ref (g + 1), .ref (g + 2), .ref (g + 3), .int (v3), .ref (g + 4), .int (iI ((len : Int))), .int (iI ((((pNum tx len ((p1 + 1)) 0 19).1 : Nat) : Int))), .int (iI (0)), .int (iI ((h0 tx len p1))), .int (iI ((h0 tx len ((p1 + 1)) - 48))), .int (iI (0))] H6 := hO_
        clear hO_
        refine lv_aload_n E.1 E.2.1 dX6_takesCommand_200 rfl (lv_at hl 2 rfl) ?_
        refine m_get E ho fw_X6_142 rfl dX6_takesCommand_201 ?_
        refine r_bipush E dX6_takesCommand_204 (by decide) ?_
        refine r_icmp_ne (tgt := 249) E dX6_takesCommand_206 (by decide) (by omega) (by omega) (fun c206 => ?_) (fun c206 => absurd c206 (by omega))
        refine e_vret (rm := ({ frames := 2, cells := 0, slots := 0, locals := 45 } : Room)) E hL dX6_takesCommand_249 ⟨rfl, ?_⟩
        have hc : pCmd tx len p1 = ((pNum tx len (p1 + 1) 0 19).1, none) := pCmd_w0 hrL hn145
        rw [hc]
        exact ⟨⟨_, _, _, ⟨ho, htx⟩, fun c x y h => by cases h⟩, hS⟩
      · refine r_const E dX6_takesCommand_170 ?_
        refine lv_goto (tgt := 175) E.1 E.2.1 dX6_takesCommand_171 (by decide) ?_
        refine kVWV (As := [.int (iI (1))]) E cw_X6_138 (c_X6_takes G l g v3 tx len ((pNum tx len ((p1 + 1)) 0 19).1) (0) ((h0 tx len p1)) ((h0 tx len ((p1 + 1)) - 48)) ((sc)) hT (1) (by omega) (by omega) (by omega) (by omega)) ho ⟨_, _, rfl⟩ ⟨ho, htx⟩ hL hl.1 rfl rfl (Nat.le_of_ble_eq_true rfl) ⟨Nat.le_of_ble_eq_true rfl, Nat.le_of_ble_eq_true rfl⟩ ⟨Nat.le_of_ble_eq_true rfl, Nat.le_of_ble_eq_true rfl⟩ dX6_takesCommand_175 (fun H5 locs hL hw_ => ?_)
        rw [if_neg (by decide), if_neg (by decide)] at hw_
        obtain ⟨⟨ho, htx⟩, hq⟩ := hw_
        have hS := hS.trans hq
        refine lv_aload_n E.1 E.2.1 dX6_takesCommand_178 rfl (lv_at hl 2 rfl) ?_
        refine lv_aload_n E.1 E.2.1 dX6_takesCommand_179 rfl (lv_at hl 2 rfl) ?_
        refine m_get E ho fw_X6_131 rfl dX6_takesCommand_180 ?_
        refine r_if_eq (tgt := 196) E dX6_takesCommand_183 (by decide) (by omega) (fun c183 => ?_) (fun c183 => absurd c183 (by omega))
        refine r_const E dX6_takesCommand_196 ?_
        refine m_put E ho fw_X6_151 fp_X6_10 rfl rfl (Nat.le_of_ble_eq_true rfl) hL (by omega) dX6_takesCommand_197 (fun H6 locs hL hO_ hF_ => ?_)
        have htx := htx.kept (hF_.2 _ (by omega))
        have hS := hS.trans (FrS.of1 (lo := g) (hi := g + 1) hF_ (by omega) (by omega))
        have ho : Ob G (g) 6 [.ref (g + 1), .ref (g + 2), .ref (g + 3), .int (v3), .ref (g + 4), .int (iI ((len : Int))), .int (iI ((((pNum tx len ((p1 + 1)) 0 19).1 : Nat) : Int))), .int (iI (0)), .int (iI ((h0 tx len p1))), .int (iI ((h0 tx len ((p1 + 1)) - 48))), .int (iI (0))] H6 := hO_
        clear hO_
        refine lv_aload_n E.1 E.2.1 dX6_takesCommand_200 rfl (lv_at hl 2 rfl) ?_
        refine m_get E ho fw_X6_142 rfl dX6_takesCommand_201 ?_
        refine r_bipush E dX6_takesCommand_204 (by decide) ?_
        refine r_icmp_ne (tgt := 249) E dX6_takesCommand_206 (by decide) (by omega) (by omega) (fun c206 => ?_) (fun c206 => absurd c206 (by omega))
        refine e_vret (rm := ({ frames := 2, cells := 0, slots := 0, locals := 45 } : Room)) E hL dX6_takesCommand_249 ⟨rfl, ?_⟩
        have hc : pCmd tx len p1 = ((pNum tx len (p1 + 1) 0 19).1, none) := pCmd_w0 hrL hn145
        rw [hc]
        exact ⟨⟨_, _, _, ⟨ho, htx⟩, fun c x y h => by cases h⟩, hS⟩
    · have hvb_ := hpb_.2.2 hn145v hn145
      rw [hn145, if_pos (by rfl)] at hw_
      rw [show nmV tx len ((p1 + 1)) 0 19 = (hn145v : Int) by unfold nmV; rw [hn145]]
      obtain ⟨⟨ho, htx⟩, hq⟩ := hw_
      have hS := hS.trans hq
      refine m_put E ho fw_X6_148 fp_X6_9 rfl rfl (Nat.le_of_ble_eq_true rfl) hL (by omega) dX6_takesCommand_148 (fun H4 locs hL hO_ hF_ => ?_)
      have htx := htx.kept (hF_.2 _ (by omega))
      have hS := hS.trans (FrS.of1 (lo := g) (hi := g + 1) hF_ (by omega) (by omega))
      have ho : Ob G (g) 6 [.ref (g + 1), .ref (g + 2), .ref (g + 3), .int (v3), .ref (g + 4), .int (iI ((len : Int))), .int (iI ((((pNum tx len ((p1 + 1)) 0 19).1 : Nat) : Int))), .int (iI (1)), .int (iI ((h0 tx len p1))), .int (iI ((hn145v : Int))), .int (iI (sc))] H4 := hO_
      clear hO_
      refine lv_aload_n E.1 E.2.1 dX6_takesCommand_151 rfl (lv_at hl 2 rfl) ?_
      refine m_get E ho fw_X6_142 rfl dX6_takesCommand_152 ?_
      refine r_bipush E dX6_takesCommand_155 (by decide) ?_
      refine r_icmp_ne (tgt := 200) E dX6_takesCommand_157 (by decide) (by omega) (by omega) (fun c157 => absurd c157 (by omega)) (fun c157 => ?_)
      refine lv_aload_n E.1 E.2.1 dX6_takesCommand_160 rfl (lv_at hl 2 rfl) ?_
      refine lv_aload_n E.1 E.2.1 dX6_takesCommand_161 rfl (lv_at hl 2 rfl) ?_
      refine kVRE (As := []) E cw_X6_135 (c_X6_here G l g v3 tx len ((pNum tx len ((p1 + 1)) 0 19).1) (1) ((h0 tx len p1)) (((hn145v : Int))) ((sc)) hT (by omega)) ho ⟨_, _, rfl⟩ ⟨ho, htx⟩ hL hl.1 rfl rfl (Nat.le_of_ble_eq_true rfl) ⟨Nat.le_of_ble_eq_true rfl, Nat.le_of_ble_eq_true rfl⟩ ⟨rfl, rfl⟩ ⟨Nat.le_of_ble_eq_true rfl, Nat.le_of_ble_eq_true rfl⟩ dX6_takesCommand_162 (fun locs hL => ?_)
      have hb_ := h0_b hT ((pNum tx len ((p1 + 1)) 0 19).1)
      refine r_bipush E dX6_takesCommand_165 (by decide) ?_
      refine r_icmp_ne (tgt := 174) E dX6_takesCommand_167 (by decide) (by omega) (by omega) (fun c167 => ?_) (fun c167 => ?_)
      · refine r_const E dX6_takesCommand_174 ?_
        refine kVWV (As := [.int (iI (0))]) E cw_X6_138 (c_X6_takes G l g v3 tx len ((pNum tx len ((p1 + 1)) 0 19).1) (1) ((h0 tx len p1)) (((hn145v : Int))) ((sc)) hT (0) (by omega) (by omega) (by omega) (by omega)) ho ⟨_, _, rfl⟩ ⟨ho, htx⟩ hL hl.1 rfl rfl (Nat.le_of_ble_eq_true rfl) ⟨Nat.le_of_ble_eq_true rfl, Nat.le_of_ble_eq_true rfl⟩ ⟨Nat.le_of_ble_eq_true rfl, Nat.le_of_ble_eq_true rfl⟩ dX6_takesCommand_175 (fun H5 locs hL hw_ => ?_)
        rw [if_neg (by decide), if_neg (by decide)] at hw_
        obtain ⟨⟨ho, htx⟩, hq⟩ := hw_
        have hS := hS.trans hq
        refine lv_aload_n E.1 E.2.1 dX6_takesCommand_178 rfl (lv_at hl 2 rfl) ?_
        refine lv_aload_n E.1 E.2.1 dX6_takesCommand_179 rfl (lv_at hl 2 rfl) ?_
        refine m_get E ho fw_X6_131 rfl dX6_takesCommand_180 ?_
        refine r_if_eq (tgt := 196) E dX6_takesCommand_183 (by decide) (by omega) (fun c183 => ?_) (fun c183 => absurd c183 (by omega))
        refine r_const E dX6_takesCommand_196 ?_
        refine m_put E ho fw_X6_151 fp_X6_10 rfl rfl (Nat.le_of_ble_eq_true rfl) hL (by omega) dX6_takesCommand_197 (fun H6 locs hL hO_ hF_ => ?_)
        have htx := htx.kept (hF_.2 _ (by omega))
        have hS := hS.trans (FrS.of1 (lo := g) (hi := g + 1) hF_ (by omega) (by omega))
        have ho : Ob G (g) 6 [.ref (g + 1), .ref (g + 2), .ref (g + 3), .int (v3), .ref (g + 4), .int (iI ((len : Int))), .int (iI ((((pNum tx len ((p1 + 1)) 0 19).1 : Nat) : Int))), .int (iI (0)), .int (iI ((h0 tx len p1))), .int (iI (((hn145v : Int)))), .int (iI (0))] H6 := hO_
        clear hO_
        refine lv_aload_n E.1 E.2.1 dX6_takesCommand_200 rfl (lv_at hl 2 rfl) ?_
        refine m_get E ho fw_X6_142 rfl dX6_takesCommand_201 ?_
        refine r_bipush E dX6_takesCommand_204 (by decide) ?_
        refine r_icmp_ne (tgt := 249) E dX6_takesCommand_206 (by decide) (by omega) (by omega) (fun c206 => ?_) (fun c206 => absurd c206 (by omega))
        refine e_vret (rm := ({ frames := 2, cells := 0, slots := 0, locals := 45 } : Room)) E hL dX6_takesCommand_249 ⟨rfl, ?_⟩
        have hc : pCmd tx len p1 = ((pNum tx len (p1 + 1) 0 19).1, none) := by rw [pCmd_w1 hrL hn145, pSec_no (by omega)]
        rw [hc]
        exact ⟨⟨_, _, _, ⟨ho, htx⟩, fun c x y h => by cases h⟩, hS⟩
      · refine r_const E dX6_takesCommand_170 ?_
        refine lv_goto (tgt := 175) E.1 E.2.1 dX6_takesCommand_171 (by decide) ?_
        refine kVWV (As := [.int (iI (1))]) E cw_X6_138 (c_X6_takes G l g v3 tx len ((pNum tx len ((p1 + 1)) 0 19).1) (1) ((h0 tx len p1)) (((hn145v : Int))) ((sc)) hT (1) (by omega) (by omega) (by omega) (by omega)) ho ⟨_, _, rfl⟩ ⟨ho, htx⟩ hL hl.1 rfl rfl (Nat.le_of_ble_eq_true rfl) ⟨Nat.le_of_ble_eq_true rfl, Nat.le_of_ble_eq_true rfl⟩ ⟨Nat.le_of_ble_eq_true rfl, Nat.le_of_ble_eq_true rfl⟩ dX6_takesCommand_175 (fun H5 locs hL hw_ => ?_)
        rw [if_pos (by decide), if_pos (by decide)] at hw_
        obtain ⟨⟨ho, htx⟩, hq⟩ := hw_
        have hS := hS.trans hq
        refine lv_aload_n E.1 E.2.1 dX6_takesCommand_178 rfl (lv_at hl 2 rfl) ?_
        refine lv_aload_n E.1 E.2.1 dX6_takesCommand_179 rfl (lv_at hl 2 rfl) ?_
        refine m_get E ho fw_X6_131 rfl dX6_takesCommand_180 ?_
        refine r_if_eq (tgt := 196) E dX6_takesCommand_183 (by decide) (by omega) (fun c183 => absurd c183 (by omega)) (fun c183 => ?_)
        refine lv_aload_n E.1 E.2.1 dX6_takesCommand_186 rfl (lv_at hl 2 rfl) ?_
        refine r_const E dX6_takesCommand_187 ?_
        refine r_bipush E dX6_takesCommand_188 (by decide) ?_
        refine kVWE (As := [.int (iI (1)), .int (iI (40))]) E cw_X6_145 (c_X6_takesNumber G l g v3 tx len (((pNum tx len ((p1 + 1)) 0 19).1 + 1)) ((h0 tx len p1)) (((hn145v : Int))) ((sc)) hT 1 40 (by omega) (by omega) (by omega) (by omega)) ho ⟨_, _, rfl⟩ ⟨ho, htx⟩ hL hl.1 rfl rfl (Nat.le_of_ble_eq_true rfl) ⟨Nat.le_of_ble_eq_true rfl, Nat.le_of_ble_eq_true rfl⟩ ⟨Nat.le_of_ble_eq_true rfl, Nat.le_of_ble_eq_true rfl⟩ dX6_takesCommand_190 (fun H6 locs hL hw_ => ?_)
        have hpb_ := pNum_b tx len (((pNum tx len ((p1 + 1)) 0 19).1 + 1)) 1 40
        rcases hn190 : (pNum tx len (((pNum tx len ((p1 + 1)) 0 19).1 + 1)) 1 40).2 with _ | hn190v
        · rw [hn190, if_neg (by decide)] at hw_
          rw [show nmV tx len (((pNum tx len ((p1 + 1)) 0 19).1 + 1)) 1 40 = h0 tx len (((pNum tx len ((p1 + 1)) 0 19).1 + 1)) - 48 by unfold nmV; rw [hn190]]
          obtain ⟨⟨ho, htx⟩, hq⟩ := hw_
          have hS := hS.trans hq
          refine lv_goto (tgt := 197) E.1 E.2.1 dX6_takesCommand_193 (by decide) ?_
          refine m_put E ho fw_X6_151 fp_X6_10 rfl rfl (Nat.le_of_ble_eq_true rfl) hL (by omega) dX6_takesCommand_197 (fun H7 locs hL hO_ hF_ => ?_)
          have htx := htx.kept (hF_.2 _ (by omega))
          have hS := hS.trans (FrS.of1 (lo := g) (hi := g + 1) hF_ (by omega) (by omega))
          have ho : Ob G (g) 6 [.ref (g + 1), .ref (g + 2), .ref (g + 3), .int (v3), .ref (g + 4), .int (iI ((len : Int))), .int (iI ((((pNum tx len (((pNum tx len ((p1 + 1)) 0 19).1 + 1)) 1 40).1 : Nat) : Int))), .int (iI (0)), .int (iI ((h0 tx len p1))), .int (iI (((hn145v : Int)))), .int (iI (h0 tx len (((pNum tx len ((p1 + 1)) 0 19).1 + 1)) - 48))] H7 := hO_
          clear hO_
          refine lv_aload_n E.1 E.2.1 dX6_takesCommand_200 rfl (lv_at hl 2 rfl) ?_
          refine m_get E ho fw_X6_142 rfl dX6_takesCommand_201 ?_
          refine r_bipush E dX6_takesCommand_204 (by decide) ?_
          refine r_icmp_ne (tgt := 249) E dX6_takesCommand_206 (by decide) (by omega) (by omega) (fun c206 => ?_) (fun c206 => absurd c206 (by omega))
          refine e_vret (rm := ({ frames := 2, cells := 0, slots := 0, locals := 45 } : Room)) E hL dX6_takesCommand_249 ⟨rfl, ?_⟩
          have hc : pCmd tx len p1 = ((pNum tx len ((pNum tx len (p1 + 1) 0 19).1 + 1) 1 40).1, none) := by rw [pCmd_w1 hrL hn145, pSec_yes (by omega), hn190]; rfl
          rw [hc]
          exact ⟨⟨_, _, _, ⟨ho, htx⟩, fun c x y h => by cases h⟩, hS⟩
        · have hvb_ := hpb_.2.2 hn190v hn190
          rw [hn190, if_pos (by rfl)] at hw_
          rw [show nmV tx len (((pNum tx len ((p1 + 1)) 0 19).1 + 1)) 1 40 = (hn190v : Int) by unfold nmV; rw [hn190]]
          obtain ⟨⟨ho, htx⟩, hq⟩ := hw_
          have hS := hS.trans hq
          refine lv_goto (tgt := 197) E.1 E.2.1 dX6_takesCommand_193 (by decide) ?_
          refine m_put E ho fw_X6_151 fp_X6_10 rfl rfl (Nat.le_of_ble_eq_true rfl) hL (by omega) dX6_takesCommand_197 (fun H7 locs hL hO_ hF_ => ?_)
          have htx := htx.kept (hF_.2 _ (by omega))
          have hS := hS.trans (FrS.of1 (lo := g) (hi := g + 1) hF_ (by omega) (by omega))
          have ho : Ob G (g) 6 [.ref (g + 1), .ref (g + 2), .ref (g + 3), .int (v3), .ref (g + 4), .int (iI ((len : Int))), .int (iI ((((pNum tx len (((pNum tx len ((p1 + 1)) 0 19).1 + 1)) 1 40).1 : Nat) : Int))), .int (iI (1)), .int (iI ((h0 tx len p1))), .int (iI (((hn145v : Int)))), .int (iI ((hn190v : Int)))] H7 := hO_
          clear hO_
          refine lv_aload_n E.1 E.2.1 dX6_takesCommand_200 rfl (lv_at hl 2 rfl) ?_
          refine m_get E ho fw_X6_142 rfl dX6_takesCommand_201 ?_
          refine r_bipush E dX6_takesCommand_204 (by decide) ?_
          refine r_icmp_ne (tgt := 249) E dX6_takesCommand_206 (by decide) (by omega) (by omega) (fun c206 => ?_) (fun c206 => absurd c206 (by omega))
          refine e_vret (rm := ({ frames := 2, cells := 0, slots := 0, locals := 45 } : Room)) E hL dX6_takesCommand_249 ⟨rfl, ?_⟩
          have hc : pCmd tx len p1 = ((pNum tx len ((pNum tx len (p1 + 1) 0 19).1 + 1) 1 40).1, some (119, hn145v, hn190v)) := by rw [pCmd_w1 hrL hn145, pSec_yes (by omega), hn190]; rfl
          rw [hc]
          rw [if_pos (by rfl)]
          refine ⟨⟨_, _, _, ⟨ho, htx⟩, ?_⟩, hS⟩
          intro c x y h; cases h
          exact ⟨hL119, fun _ => rfl, fun _ => rfl⟩
  by_cases hL107 : h0 tx len p1 = 107
  · have hrL : hr tx len p1 = 107 := by omega
    refine lv_aload_n E.1 E.2.1 dX6_takesCommand_8 rfl (lv_at hl 0 rfl) ?_
    refine m_get E ho fw_X6_142 rfl dX6_takesCommand_9 ?_
    refine r_bipush E dX6_takesCommand_12 (by decide) ?_
    refine r_icmp_eq (tgt := 26) E dX6_takesCommand_14 (by decide) (by omega) (by omega) (fun c14 => absurd c14 (by omega)) (fun c14 => ?_)
    refine lv_aload_n E.1 E.2.1 dX6_takesCommand_17 rfl (lv_at hl 0 rfl) ?_
    refine m_get E ho fw_X6_142 rfl dX6_takesCommand_18 ?_
    refine r_bipush E dX6_takesCommand_21 (by decide) ?_
    refine r_icmp_ne (tgt := 30) E dX6_takesCommand_23 (by decide) (by omega) (by omega) (fun c23 => ?_) (fun c23 => absurd c23 (by omega))
    refine r_const E dX6_takesCommand_30 ?_
    refine lv_istore_n (lv' := [(1, .int (iI (0))), (0, .ref (g))]) E.1 E.2.1 dX6_takesCommand_31 rfl hl (by decide) rfl (fun ls hl => ?_)
    refine lv_aload_n E.1 E.2.1 dX6_takesCommand_32 rfl (lv_at hl 1 rfl) ?_
    refine m_get E ho fw_X6_142 rfl dX6_takesCommand_33 ?_
    refine r_bipush E dX6_takesCommand_36 (by decide) ?_
    refine r_icmp_eq (tgt := 59) E dX6_takesCommand_38 (by decide) (by omega) (by omega) (fun c38 => absurd c38 (by omega)) (fun c38 => ?_)
    refine lv_aload_n E.1 E.2.1 dX6_takesCommand_41 rfl (lv_at hl 1 rfl) ?_
    refine m_get E ho fw_X6_142 rfl dX6_takesCommand_42 ?_
    refine r_bipush E dX6_takesCommand_45 (by decide) ?_
    refine r_icmp_eq (tgt := 59) E dX6_takesCommand_47 (by decide) (by omega) (by omega) (fun c47 => absurd c47 (by omega)) (fun c47 => ?_)
    refine lv_aload_n E.1 E.2.1 dX6_takesCommand_50 rfl (lv_at hl 1 rfl) ?_
    refine m_get E ho fw_X6_142 rfl dX6_takesCommand_51 ?_
    refine r_bipush E dX6_takesCommand_54 (by decide) ?_
    refine r_icmp_ne (tgt := 63) E dX6_takesCommand_56 (by decide) (by omega) (by omega) (fun c56 => absurd c56 (by omega)) (fun c56 => ?_)
    refine r_const E dX6_takesCommand_59 ?_
    refine lv_goto (tgt := 64) E.1 E.2.1 dX6_takesCommand_60 (by decide) ?_
    refine lv_istore_n (lv' := [(2, .int (iI (1))), (1, .int (iI (0))), (0, .ref (g))]) E.1 E.2.1 dX6_takesCommand_64 rfl hl (by decide) rfl (fun ls hl => ?_)
    refine lv_aload_n E.1 E.2.1 dX6_takesCommand_65 rfl (lv_at hl 2 rfl) ?_
    refine lv_iload_n E.1 E.2.1 dX6_takesCommand_66 rfl (lv_at hl 1 rfl) ?_
    refine r_if_ne (tgt := 92) E dX6_takesCommand_67 (by decide) (by omega) (fun c67 => absurd c67 (by omega)) (fun c67 => ?_)
    refine lv_iload_n E.1 E.2.1 dX6_takesCommand_70 rfl (lv_at hl 0 rfl) ?_
    refine r_if_ne (tgt := 92) E dX6_takesCommand_71 (by decide) (by omega) (fun c71 => ?_) (fun c71 => absurd c71 (by omega))
    refine r_const E dX6_takesCommand_92 ?_
    refine lv_goto (tgt := 97) E.1 E.2.1 dX6_takesCommand_93 (by decide) ?_
    refine kVWV (As := [.int (iI (1))]) E cw_X6_138 (c_X6_takes G l g v3 tx len (p1) (1) ((h0 tx len p1)) (fi) (sc) hT (1) (by omega) (by omega) (by omega) (by omega)) ho ⟨_, _, rfl⟩ ⟨ho, htx⟩ hL hl.1 rfl rfl (Nat.le_of_ble_eq_true rfl) ⟨Nat.le_of_ble_eq_true rfl, Nat.le_of_ble_eq_true rfl⟩ ⟨Nat.le_of_ble_eq_true rfl, Nat.le_of_ble_eq_true rfl⟩ dX6_takesCommand_97 (fun H2 locs hL hw_ => ?_)
    rw [if_pos (by decide), if_pos (by decide)] at hw_
    obtain ⟨⟨ho, htx⟩, hq⟩ := hw_
    have hS := hS.trans hq
    refine lv_aload_n E.1 E.2.1 dX6_takesCommand_100 rfl (lv_at hl 2 rfl) ?_
    refine m_get E ho fw_X6_131 rfl dX6_takesCommand_101 ?_
    refine r_if_eq (tgt := 111) E dX6_takesCommand_104 (by decide) (by omega) (fun c104 => absurd c104 (by omega)) (fun c104 => ?_)
    refine lv_iload_n E.1 E.2.1 dX6_takesCommand_107 rfl (lv_at hl 1 rfl) ?_
    refine r_if_eq (tgt := 112) E dX6_takesCommand_108 (by decide) (by omega) (fun c108 => ?_) (fun c108 => absurd c108 (by omega))
    refine lv_aload_n E.1 E.2.1 dX6_takesCommand_112 rfl (lv_at hl 2 rfl) ?_
    refine lv_aload_n E.1 E.2.1 dX6_takesCommand_113 rfl (lv_at hl 2 rfl) ?_
    refine r_const E dX6_takesCommand_114 ?_
    refine lv_aload_n E.1 E.2.1 dX6_takesCommand_115 rfl (lv_at hl 2 rfl) ?_
    refine m_get E ho fw_X6_142 rfl dX6_takesCommand_116 ?_
    refine r_bipush E dX6_takesCommand_119 (by decide) ?_
    refine r_icmp_ne (tgt := 128) E dX6_takesCommand_121 (by decide) (by omega) (by omega) (fun c121 => ?_) (fun c121 => absurd c121 (by omega))
    refine lv_aload_n E.1 E.2.1 dX6_takesCommand_128 rfl (lv_at hl 2 rfl) ?_
    refine m_get E ho fw_X6_142 rfl dX6_takesCommand_129 ?_
    refine r_bipush E dX6_takesCommand_132 (by decide) ?_
    refine r_icmp_ne (tgt := 143) E dX6_takesCommand_134 (by decide) (by omega) (by omega) (fun c134 => ?_) (fun c134 => absurd c134 (by omega))
    refine r_bipush E dX6_takesCommand_143 (by decide) ?_
    refine kVWE (As := [.int (iI (0)), .int (iI (19))]) E cw_X6_145 (c_X6_takesNumber G l g v3 tx len ((p1 + 1)) ((h0 tx len p1)) (fi) (sc) hT 0 19 (by omega) (by omega) (by omega) (by omega)) ho ⟨_, _, rfl⟩ ⟨ho, htx⟩ hL hl.1 rfl rfl (Nat.le_of_ble_eq_true rfl) ⟨Nat.le_of_ble_eq_true rfl, Nat.le_of_ble_eq_true rfl⟩ ⟨Nat.le_of_ble_eq_true rfl, Nat.le_of_ble_eq_true rfl⟩ dX6_takesCommand_145 (fun H3 locs hL hw_ => ?_)
    have hpb_ := pNum_b tx len ((p1 + 1)) 0 19
    rcases hn145 : (pNum tx len ((p1 + 1)) 0 19).2 with _ | hn145v
    · rw [hn145, if_neg (by decide)] at hw_
      rw [show nmV tx len ((p1 + 1)) 0 19 = h0 tx len ((p1 + 1)) - 48 by unfold nmV; rw [hn145]]
      obtain ⟨⟨ho, htx⟩, hq⟩ := hw_
      have hS := hS.trans hq
      refine m_put E ho fw_X6_148 fp_X6_9 rfl rfl (Nat.le_of_ble_eq_true rfl) hL (by omega) dX6_takesCommand_148 (fun H4 locs hL hO_ hF_ => ?_)
      have htx := htx.kept (hF_.2 _ (by omega))
      have hS := hS.trans (FrS.of1 (lo := g) (hi := g + 1) hF_ (by omega) (by omega))
      have ho : Ob G (g) 6 [.ref (g + 1), .ref (g + 2), .ref (g + 3), .int (v3), .ref (g + 4), .int (iI ((len : Int))), .int (iI ((((pNum tx len ((p1 + 1)) 0 19).1 : Nat) : Int))), .int (iI (0)), .int (iI ((h0 tx len p1))), .int (iI (h0 tx len ((p1 + 1)) - 48)), .int (iI (sc))] H4 := hO_
      clear hO_
      refine lv_aload_n E.1 E.2.1 dX6_takesCommand_151 rfl (lv_at hl 2 rfl) ?_
      refine m_get E ho fw_X6_142 rfl dX6_takesCommand_152 ?_
      refine r_bipush E dX6_takesCommand_155 (by decide) ?_
      refine r_icmp_ne (tgt := 200) E dX6_takesCommand_157 (by decide) (by omega) (by omega) (fun c157 => ?_) (fun c157 => absurd c157 (by omega))
      refine lv_aload_n E.1 E.2.1 dX6_takesCommand_200 rfl (lv_at hl 2 rfl) ?_
      refine m_get E ho fw_X6_142 rfl dX6_takesCommand_201 ?_
      refine r_bipush E dX6_takesCommand_204 (by decide) ?_
      refine r_icmp_ne (tgt := 249) E dX6_takesCommand_206 (by decide) (by omega) (by omega) (fun c206 => absurd c206 (by omega)) (fun c206 => ?_)
      refine lv_aload_n E.1 E.2.1 dX6_takesCommand_209 rfl (lv_at hl 2 rfl) ?_
      refine lv_aload_n E.1 E.2.1 dX6_takesCommand_210 rfl (lv_at hl 2 rfl) ?_
      refine kVRE (As := []) E cw_X6_135 (c_X6_here G l g v3 tx len ((pNum tx len ((p1 + 1)) 0 19).1) (0) ((h0 tx len p1)) (((h0 tx len ((p1 + 1)) - 48))) (((sc))) hT (by omega)) ho ⟨_, _, rfl⟩ ⟨ho, htx⟩ hL hl.1 rfl rfl (Nat.le_of_ble_eq_true rfl) ⟨Nat.le_of_ble_eq_true rfl, Nat.le_of_ble_eq_true rfl⟩ ⟨rfl, rfl⟩ ⟨Nat.le_of_ble_eq_true rfl, Nat.le_of_ble_eq_true rfl⟩ dX6_takesCommand_211 (fun locs hL => ?_)
      have hb_ := h0_b hT ((pNum tx len ((p1 + 1)) 0 19).1)
      refine r_bipush E dX6_takesCommand_214 (by decide) ?_
      refine r_icmp_ne (tgt := 223) E dX6_takesCommand_216 (by decide) (by omega) (by omega) (fun c216 => ?_) (fun c216 => ?_)
      · refine r_const E dX6_takesCommand_223 ?_
        refine kVWV (As := [.int (iI (0))]) E cw_X6_138 (c_X6_takes G l g v3 tx len ((pNum tx len ((p1 + 1)) 0 19).1) (0) ((h0 tx len p1)) (((h0 tx len ((p1 + 1)) - 48))) (((sc))) hT (0) (by omega) (by omega) (by omega) (by omega)) ho ⟨_, _, rfl⟩ ⟨ho, htx⟩ hL hl.1 rfl rfl (Nat.le_of_ble_eq_true rfl) ⟨Nat.le_of_ble_eq_true rfl, Nat.le_of_ble_eq_true rfl⟩ ⟨Nat.le_of_ble_eq_true rfl, Nat.le_of_ble_eq_true rfl⟩ dX6_takesCommand_224 (fun H5 locs hL hw_ => ?_)
        rw [if_neg (by decide), if_neg (by decide)] at hw_
        obtain ⟨⟨ho, htx⟩, hq⟩ := hw_
        have hS := hS.trans hq
        refine lv_aload_n E.1 E.2.1 dX6_takesCommand_227 rfl (lv_at hl 2 rfl) ?_
        refine lv_aload_n E.1 E.2.1 dX6_takesCommand_228 rfl (lv_at hl 2 rfl) ?_
        refine m_get E ho fw_X6_131 rfl dX6_takesCommand_229 ?_
        refine r_if_eq (tgt := 245) E dX6_takesCommand_232 (by decide) (by omega) (fun c232 => ?_) (fun c232 => absurd c232 (by omega))
        refine r_const E dX6_takesCommand_245 ?_
        refine m_put E ho fw_X6_151 fp_X6_10 rfl rfl (Nat.le_of_ble_eq_true rfl) hL (by omega) dX6_takesCommand_246 (fun H6 locs hL hO_ hF_ => ?_)
        have htx := htx.kept (hF_.2 _ (by omega))
        have hS := hS.trans (FrS.of1 (lo := g) (hi := g + 1) hF_ (by omega) (by omega))
        have ho : Ob G (g) 6 [.ref (g + 1), .ref (g + 2), .ref (g + 3), .int (v3), .ref (g + 4), .int (iI ((len : Int))), .int (iI ((((pNum tx len ((p1 + 1)) 0 19).1 : Nat) : Int))), .int (iI (0)), .int (iI ((h0 tx len p1))), .int (iI (((h0 tx len ((p1 + 1)) - 48)))), .int (iI (0))] H6 := hO_
        clear hO_
        refine e_vret (rm := ({ frames := 2, cells := 0, slots := 0, locals := 45 } : Room)) E hL dX6_takesCommand_249 ⟨rfl, ?_⟩
        have hc : pCmd tx len p1 = ((pNum tx len (p1 + 1) 0 19).1, none) := pCmd_k0 hrL hn145
        rw [hc]
        exact ⟨⟨_, _, _, ⟨ho, htx⟩, fun c x y h => by cases h⟩, hS⟩
      · refine r_const E dX6_takesCommand_219 ?_
        refine lv_goto (tgt := 224) E.1 E.2.1 dX6_takesCommand_220 (by decide) ?_
        refine kVWV (As := [.int (iI (1))]) E cw_X6_138 (c_X6_takes G l g v3 tx len ((pNum tx len ((p1 + 1)) 0 19).1) (0) ((h0 tx len p1)) (((h0 tx len ((p1 + 1)) - 48))) (((sc))) hT (1) (by omega) (by omega) (by omega) (by omega)) ho ⟨_, _, rfl⟩ ⟨ho, htx⟩ hL hl.1 rfl rfl (Nat.le_of_ble_eq_true rfl) ⟨Nat.le_of_ble_eq_true rfl, Nat.le_of_ble_eq_true rfl⟩ ⟨Nat.le_of_ble_eq_true rfl, Nat.le_of_ble_eq_true rfl⟩ dX6_takesCommand_224 (fun H5 locs hL hw_ => ?_)
        rw [if_neg (by decide), if_neg (by decide)] at hw_
        obtain ⟨⟨ho, htx⟩, hq⟩ := hw_
        have hS := hS.trans hq
        refine lv_aload_n E.1 E.2.1 dX6_takesCommand_227 rfl (lv_at hl 2 rfl) ?_
        refine lv_aload_n E.1 E.2.1 dX6_takesCommand_228 rfl (lv_at hl 2 rfl) ?_
        refine m_get E ho fw_X6_131 rfl dX6_takesCommand_229 ?_
        refine r_if_eq (tgt := 245) E dX6_takesCommand_232 (by decide) (by omega) (fun c232 => ?_) (fun c232 => absurd c232 (by omega))
        refine r_const E dX6_takesCommand_245 ?_
        refine m_put E ho fw_X6_151 fp_X6_10 rfl rfl (Nat.le_of_ble_eq_true rfl) hL (by omega) dX6_takesCommand_246 (fun H6 locs hL hO_ hF_ => ?_)
        have htx := htx.kept (hF_.2 _ (by omega))
        have hS := hS.trans (FrS.of1 (lo := g) (hi := g + 1) hF_ (by omega) (by omega))
        have ho : Ob G (g) 6 [.ref (g + 1), .ref (g + 2), .ref (g + 3), .int (v3), .ref (g + 4), .int (iI ((len : Int))), .int (iI ((((pNum tx len ((p1 + 1)) 0 19).1 : Nat) : Int))), .int (iI (0)), .int (iI ((h0 tx len p1))), .int (iI (((h0 tx len ((p1 + 1)) - 48)))), .int (iI (0))] H6 := hO_
        clear hO_
        refine e_vret (rm := ({ frames := 2, cells := 0, slots := 0, locals := 45 } : Room)) E hL dX6_takesCommand_249 ⟨rfl, ?_⟩
        have hc : pCmd tx len p1 = ((pNum tx len (p1 + 1) 0 19).1, none) := pCmd_k0 hrL hn145
        rw [hc]
        exact ⟨⟨_, _, _, ⟨ho, htx⟩, fun c x y h => by cases h⟩, hS⟩
    · have hvb_ := hpb_.2.2 hn145v hn145
      rw [hn145, if_pos (by rfl)] at hw_
      rw [show nmV tx len ((p1 + 1)) 0 19 = (hn145v : Int) by unfold nmV; rw [hn145]]
      obtain ⟨⟨ho, htx⟩, hq⟩ := hw_
      have hS := hS.trans hq
      refine m_put E ho fw_X6_148 fp_X6_9 rfl rfl (Nat.le_of_ble_eq_true rfl) hL (by omega) dX6_takesCommand_148 (fun H4 locs hL hO_ hF_ => ?_)
      have htx := htx.kept (hF_.2 _ (by omega))
      have hS := hS.trans (FrS.of1 (lo := g) (hi := g + 1) hF_ (by omega) (by omega))
      have ho : Ob G (g) 6 [.ref (g + 1), .ref (g + 2), .ref (g + 3), .int (v3), .ref (g + 4), .int (iI ((len : Int))), .int (iI ((((pNum tx len ((p1 + 1)) 0 19).1 : Nat) : Int))), .int (iI (1)), .int (iI ((h0 tx len p1))), .int (iI ((hn145v : Int))), .int (iI (sc))] H4 := hO_
      clear hO_
      refine lv_aload_n E.1 E.2.1 dX6_takesCommand_151 rfl (lv_at hl 2 rfl) ?_
      refine m_get E ho fw_X6_142 rfl dX6_takesCommand_152 ?_
      refine r_bipush E dX6_takesCommand_155 (by decide) ?_
      refine r_icmp_ne (tgt := 200) E dX6_takesCommand_157 (by decide) (by omega) (by omega) (fun c157 => ?_) (fun c157 => absurd c157 (by omega))
      refine lv_aload_n E.1 E.2.1 dX6_takesCommand_200 rfl (lv_at hl 2 rfl) ?_
      refine m_get E ho fw_X6_142 rfl dX6_takesCommand_201 ?_
      refine r_bipush E dX6_takesCommand_204 (by decide) ?_
      refine r_icmp_ne (tgt := 249) E dX6_takesCommand_206 (by decide) (by omega) (by omega) (fun c206 => absurd c206 (by omega)) (fun c206 => ?_)
      refine lv_aload_n E.1 E.2.1 dX6_takesCommand_209 rfl (lv_at hl 2 rfl) ?_
      refine lv_aload_n E.1 E.2.1 dX6_takesCommand_210 rfl (lv_at hl 2 rfl) ?_
      refine kVRE (As := []) E cw_X6_135 (c_X6_here G l g v3 tx len ((pNum tx len ((p1 + 1)) 0 19).1) (1) ((h0 tx len p1)) ((((hn145v : Int)))) (((sc))) hT (by omega)) ho ⟨_, _, rfl⟩ ⟨ho, htx⟩ hL hl.1 rfl rfl (Nat.le_of_ble_eq_true rfl) ⟨Nat.le_of_ble_eq_true rfl, Nat.le_of_ble_eq_true rfl⟩ ⟨rfl, rfl⟩ ⟨Nat.le_of_ble_eq_true rfl, Nat.le_of_ble_eq_true rfl⟩ dX6_takesCommand_211 (fun locs hL => ?_)
      have hb_ := h0_b hT ((pNum tx len ((p1 + 1)) 0 19).1)
      refine r_bipush E dX6_takesCommand_214 (by decide) ?_
      refine r_icmp_ne (tgt := 223) E dX6_takesCommand_216 (by decide) (by omega) (by omega) (fun c216 => ?_) (fun c216 => ?_)
      · refine r_const E dX6_takesCommand_223 ?_
        refine kVWV (As := [.int (iI (0))]) E cw_X6_138 (c_X6_takes G l g v3 tx len ((pNum tx len ((p1 + 1)) 0 19).1) (1) ((h0 tx len p1)) ((((hn145v : Int)))) (((sc))) hT (0) (by omega) (by omega) (by omega) (by omega)) ho ⟨_, _, rfl⟩ ⟨ho, htx⟩ hL hl.1 rfl rfl (Nat.le_of_ble_eq_true rfl) ⟨Nat.le_of_ble_eq_true rfl, Nat.le_of_ble_eq_true rfl⟩ ⟨Nat.le_of_ble_eq_true rfl, Nat.le_of_ble_eq_true rfl⟩ dX6_takesCommand_224 (fun H5 locs hL hw_ => ?_)
        rw [if_neg (by decide), if_neg (by decide)] at hw_
        obtain ⟨⟨ho, htx⟩, hq⟩ := hw_
        have hS := hS.trans hq
        refine lv_aload_n E.1 E.2.1 dX6_takesCommand_227 rfl (lv_at hl 2 rfl) ?_
        refine lv_aload_n E.1 E.2.1 dX6_takesCommand_228 rfl (lv_at hl 2 rfl) ?_
        refine m_get E ho fw_X6_131 rfl dX6_takesCommand_229 ?_
        refine r_if_eq (tgt := 245) E dX6_takesCommand_232 (by decide) (by omega) (fun c232 => ?_) (fun c232 => absurd c232 (by omega))
        refine r_const E dX6_takesCommand_245 ?_
        refine m_put E ho fw_X6_151 fp_X6_10 rfl rfl (Nat.le_of_ble_eq_true rfl) hL (by omega) dX6_takesCommand_246 (fun H6 locs hL hO_ hF_ => ?_)
        have htx := htx.kept (hF_.2 _ (by omega))
        have hS := hS.trans (FrS.of1 (lo := g) (hi := g + 1) hF_ (by omega) (by omega))
        have ho : Ob G (g) 6 [.ref (g + 1), .ref (g + 2), .ref (g + 3), .int (v3), .ref (g + 4), .int (iI ((len : Int))), .int (iI ((((pNum tx len ((p1 + 1)) 0 19).1 : Nat) : Int))), .int (iI (0)), .int (iI ((h0 tx len p1))), .int (iI ((((hn145v : Int))))), .int (iI (0))] H6 := hO_
        clear hO_
        refine e_vret (rm := ({ frames := 2, cells := 0, slots := 0, locals := 45 } : Room)) E hL dX6_takesCommand_249 ⟨rfl, ?_⟩
        have hc : pCmd tx len p1 = ((pNum tx len (p1 + 1) 0 19).1, none) := by rw [pCmd_k1 hrL hn145, pSec_no (by omega)]
        rw [hc]
        exact ⟨⟨_, _, _, ⟨ho, htx⟩, fun c x y h => by cases h⟩, hS⟩
      · refine r_const E dX6_takesCommand_219 ?_
        refine lv_goto (tgt := 224) E.1 E.2.1 dX6_takesCommand_220 (by decide) ?_
        refine kVWV (As := [.int (iI (1))]) E cw_X6_138 (c_X6_takes G l g v3 tx len ((pNum tx len ((p1 + 1)) 0 19).1) (1) ((h0 tx len p1)) ((((hn145v : Int)))) (((sc))) hT (1) (by omega) (by omega) (by omega) (by omega)) ho ⟨_, _, rfl⟩ ⟨ho, htx⟩ hL hl.1 rfl rfl (Nat.le_of_ble_eq_true rfl) ⟨Nat.le_of_ble_eq_true rfl, Nat.le_of_ble_eq_true rfl⟩ ⟨Nat.le_of_ble_eq_true rfl, Nat.le_of_ble_eq_true rfl⟩ dX6_takesCommand_224 (fun H5 locs hL hw_ => ?_)
        rw [if_pos (by decide), if_pos (by decide)] at hw_
        obtain ⟨⟨ho, htx⟩, hq⟩ := hw_
        have hS := hS.trans hq
        refine lv_aload_n E.1 E.2.1 dX6_takesCommand_227 rfl (lv_at hl 2 rfl) ?_
        refine lv_aload_n E.1 E.2.1 dX6_takesCommand_228 rfl (lv_at hl 2 rfl) ?_
        refine m_get E ho fw_X6_131 rfl dX6_takesCommand_229 ?_
        refine r_if_eq (tgt := 245) E dX6_takesCommand_232 (by decide) (by omega) (fun c232 => absurd c232 (by omega)) (fun c232 => ?_)
        refine lv_aload_n E.1 E.2.1 dX6_takesCommand_235 rfl (lv_at hl 2 rfl) ?_
        refine r_const E dX6_takesCommand_236 ?_
        refine r_bipush E dX6_takesCommand_237 (by decide) ?_
        refine kVWE (As := [.int (iI (0)), .int (iI (11))]) E cw_X6_145 (c_X6_takesNumber G l g v3 tx len (((pNum tx len ((p1 + 1)) 0 19).1 + 1)) ((h0 tx len p1)) ((((hn145v : Int)))) (((sc))) hT 0 11 (by omega) (by omega) (by omega) (by omega)) ho ⟨_, _, rfl⟩ ⟨ho, htx⟩ hL hl.1 rfl rfl (Nat.le_of_ble_eq_true rfl) ⟨Nat.le_of_ble_eq_true rfl, Nat.le_of_ble_eq_true rfl⟩ ⟨Nat.le_of_ble_eq_true rfl, Nat.le_of_ble_eq_true rfl⟩ dX6_takesCommand_239 (fun H6 locs hL hw_ => ?_)
        have hpb_ := pNum_b tx len (((pNum tx len ((p1 + 1)) 0 19).1 + 1)) 0 11
        rcases hn239 : (pNum tx len (((pNum tx len ((p1 + 1)) 0 19).1 + 1)) 0 11).2 with _ | hn239v
        · rw [hn239, if_neg (by decide)] at hw_
          rw [show nmV tx len (((pNum tx len ((p1 + 1)) 0 19).1 + 1)) 0 11 = h0 tx len (((pNum tx len ((p1 + 1)) 0 19).1 + 1)) - 48 by unfold nmV; rw [hn239]]
          obtain ⟨⟨ho, htx⟩, hq⟩ := hw_
          have hS := hS.trans hq
          refine lv_goto (tgt := 246) E.1 E.2.1 dX6_takesCommand_242 (by decide) ?_
          refine m_put E ho fw_X6_151 fp_X6_10 rfl rfl (Nat.le_of_ble_eq_true rfl) hL (by omega) dX6_takesCommand_246 (fun H7 locs hL hO_ hF_ => ?_)
          have htx := htx.kept (hF_.2 _ (by omega))
          have hS := hS.trans (FrS.of1 (lo := g) (hi := g + 1) hF_ (by omega) (by omega))
          have ho : Ob G (g) 6 [.ref (g + 1), .ref (g + 2), .ref (g + 3), .int (v3), .ref (g + 4), .int (iI ((len : Int))), .int (iI ((((pNum tx len (((pNum tx len ((p1 + 1)) 0 19).1 + 1)) 0 11).1 : Nat) : Int))), .int (iI (0)), .int (iI ((h0 tx len p1))), .int (iI ((((hn145v : Int))))), .int (iI (h0 tx len (((pNum tx len ((p1 + 1)) 0 19).1 + 1)) - 48))] H7 := hO_
          clear hO_
          refine e_vret (rm := ({ frames := 2, cells := 0, slots := 0, locals := 45 } : Room)) E hL dX6_takesCommand_249 ⟨rfl, ?_⟩
          have hc : pCmd tx len p1 = ((pNum tx len ((pNum tx len (p1 + 1) 0 19).1 + 1) 0 11).1, none) := by rw [pCmd_k1 hrL hn145, pSec_yes (by omega), hn239]; rfl
          rw [hc]
          exact ⟨⟨_, _, _, ⟨ho, htx⟩, fun c x y h => by cases h⟩, hS⟩
        · have hvb_ := hpb_.2.2 hn239v hn239
          rw [hn239, if_pos (by rfl)] at hw_
          rw [show nmV tx len (((pNum tx len ((p1 + 1)) 0 19).1 + 1)) 0 11 = (hn239v : Int) by unfold nmV; rw [hn239]]
          obtain ⟨⟨ho, htx⟩, hq⟩ := hw_
          have hS := hS.trans hq
          refine lv_goto (tgt := 246) E.1 E.2.1 dX6_takesCommand_242 (by decide) ?_
          refine m_put E ho fw_X6_151 fp_X6_10 rfl rfl (Nat.le_of_ble_eq_true rfl) hL (by omega) dX6_takesCommand_246 (fun H7 locs hL hO_ hF_ => ?_)
          have htx := htx.kept (hF_.2 _ (by omega))
          have hS := hS.trans (FrS.of1 (lo := g) (hi := g + 1) hF_ (by omega) (by omega))
          have ho : Ob G (g) 6 [.ref (g + 1), .ref (g + 2), .ref (g + 3), .int (v3), .ref (g + 4), .int (iI ((len : Int))), .int (iI ((((pNum tx len (((pNum tx len ((p1 + 1)) 0 19).1 + 1)) 0 11).1 : Nat) : Int))), .int (iI (1)), .int (iI ((h0 tx len p1))), .int (iI ((((hn145v : Int))))), .int (iI ((hn239v : Int)))] H7 := hO_
          clear hO_
          refine e_vret (rm := ({ frames := 2, cells := 0, slots := 0, locals := 45 } : Room)) E hL dX6_takesCommand_249 ⟨rfl, ?_⟩
          have hc : pCmd tx len p1 = ((pNum tx len ((pNum tx len (p1 + 1) 0 19).1 + 1) 0 11).1, some (107, hn145v, hn239v)) := by rw [pCmd_k1 hrL hn145, pSec_yes (by omega), hn239]; rfl
          rw [hc]
          rw [if_pos (by rfl)]
          refine ⟨⟨_, _, _, ⟨ho, htx⟩, ?_⟩, hS⟩
          intro c x y h; cases h
          exact ⟨hL107, fun _ => rfl, fun _ => rfl⟩
  refine lv_aload_n E.1 E.2.1 dX6_takesCommand_8 rfl (lv_at hl 0 rfl) ?_
  refine m_get E ho fw_X6_142 rfl dX6_takesCommand_9 ?_
  refine r_bipush E dX6_takesCommand_12 (by decide) ?_
  refine r_icmp_eq (tgt := 26) E dX6_takesCommand_14 (by decide) (by omega) (by omega) (fun c14 => absurd c14 (by omega)) (fun c14 => ?_)
  refine lv_aload_n E.1 E.2.1 dX6_takesCommand_17 rfl (lv_at hl 0 rfl) ?_
  refine m_get E ho fw_X6_142 rfl dX6_takesCommand_18 ?_
  refine r_bipush E dX6_takesCommand_21 (by decide) ?_
  refine r_icmp_ne (tgt := 30) E dX6_takesCommand_23 (by decide) (by omega) (by omega) (fun c23 => ?_) (fun c23 => absurd c23 (by omega))
  refine r_const E dX6_takesCommand_30 ?_
  refine lv_istore_n (lv' := [(1, .int (iI (0))), (0, .ref (g))]) E.1 E.2.1 dX6_takesCommand_31 rfl hl (by decide) rfl (fun ls hl => ?_)
  refine lv_aload_n E.1 E.2.1 dX6_takesCommand_32 rfl (lv_at hl 1 rfl) ?_
  refine m_get E ho fw_X6_142 rfl dX6_takesCommand_33 ?_
  refine r_bipush E dX6_takesCommand_36 (by decide) ?_
  refine r_icmp_eq (tgt := 59) E dX6_takesCommand_38 (by decide) (by omega) (by omega) (fun c38 => absurd c38 (by omega)) (fun c38 => ?_)
  refine lv_aload_n E.1 E.2.1 dX6_takesCommand_41 rfl (lv_at hl 1 rfl) ?_
  refine m_get E ho fw_X6_142 rfl dX6_takesCommand_42 ?_
  refine r_bipush E dX6_takesCommand_45 (by decide) ?_
  refine r_icmp_eq (tgt := 59) E dX6_takesCommand_47 (by decide) (by omega) (by omega) (fun c47 => absurd c47 (by omega)) (fun c47 => ?_)
  refine lv_aload_n E.1 E.2.1 dX6_takesCommand_50 rfl (lv_at hl 1 rfl) ?_
  refine m_get E ho fw_X6_142 rfl dX6_takesCommand_51 ?_
  refine r_bipush E dX6_takesCommand_54 (by decide) ?_
  refine r_icmp_ne (tgt := 63) E dX6_takesCommand_56 (by decide) (by omega) (by omega) (fun c56 => ?_) (fun c56 => absurd c56 (by omega))
  refine r_const E dX6_takesCommand_63 ?_
  refine lv_istore_n (lv' := [(2, .int (iI (0))), (1, .int (iI (0))), (0, .ref (g))]) E.1 E.2.1 dX6_takesCommand_64 rfl hl (by decide) rfl (fun ls hl => ?_)
  refine lv_aload_n E.1 E.2.1 dX6_takesCommand_65 rfl (lv_at hl 2 rfl) ?_
  refine lv_iload_n E.1 E.2.1 dX6_takesCommand_66 rfl (lv_at hl 1 rfl) ?_
  refine r_if_ne (tgt := 92) E dX6_takesCommand_67 (by decide) (by omega) (fun c67 => absurd c67 (by omega)) (fun c67 => ?_)
  refine lv_iload_n E.1 E.2.1 dX6_takesCommand_70 rfl (lv_at hl 0 rfl) ?_
  refine r_if_ne (tgt := 92) E dX6_takesCommand_71 (by decide) (by omega) (fun c71 => absurd c71 (by omega)) (fun c71 => ?_)
  refine lv_aload_n E.1 E.2.1 dX6_takesCommand_74 rfl (lv_at hl 2 rfl) ?_
  refine m_get E ho fw_X6_142 rfl dX6_takesCommand_75 ?_
  refine r_bipush E dX6_takesCommand_78 (by decide) ?_
  refine r_icmp_eq (tgt := 92) E dX6_takesCommand_80 (by decide) (by omega) (by omega) (fun c80 => absurd c80 (by omega)) (fun c80 => ?_)
  refine lv_aload_n E.1 E.2.1 dX6_takesCommand_83 rfl (lv_at hl 2 rfl) ?_
  refine m_get E ho fw_X6_142 rfl dX6_takesCommand_84 ?_
  refine r_bipush E dX6_takesCommand_87 (by decide) ?_
  refine r_icmp_ne (tgt := 96) E dX6_takesCommand_89 (by decide) (by omega) (by omega) (fun c89 => ?_) (fun c89 => absurd c89 (by omega))
  refine r_const E dX6_takesCommand_96 ?_
  refine kVWV (As := [.int (iI (0))]) E cw_X6_138 (c_X6_takes G l g v3 tx len (p1) (1) ((h0 tx len p1)) (fi) (sc) hT (0) (by omega) (by omega) (by omega) (by omega)) ho ⟨_, _, rfl⟩ ⟨ho, htx⟩ hL hl.1 rfl rfl (Nat.le_of_ble_eq_true rfl) ⟨Nat.le_of_ble_eq_true rfl, Nat.le_of_ble_eq_true rfl⟩ ⟨Nat.le_of_ble_eq_true rfl, Nat.le_of_ble_eq_true rfl⟩ dX6_takesCommand_97 (fun H2 locs hL hw_ => ?_)
  rw [if_neg (by decide), if_neg (by decide)] at hw_
  obtain ⟨⟨ho, htx⟩, hq⟩ := hw_
  have hS := hS.trans hq
  refine lv_aload_n E.1 E.2.1 dX6_takesCommand_100 rfl (lv_at hl 2 rfl) ?_
  refine m_get E ho fw_X6_131 rfl dX6_takesCommand_101 ?_
  refine r_if_eq (tgt := 111) E dX6_takesCommand_104 (by decide) (by omega) (fun c104 => ?_) (fun c104 => absurd c104 (by omega))
  refine e_vret (rm := ({ frames := 2, cells := 0, slots := 0, locals := 45 } : Room)) E hL dX6_takesCommand_111 ⟨rfl, ?_⟩
  have hc : pCmd tx len p1 = (p1, none) := pCmd_no (by omega)
  rw [hc]
  exact ⟨⟨_, _, _, ⟨ho, htx⟩, fun c x y h => by cases h⟩, hS⟩

set_option maxHeartbeats 4000000 in
set_option maxRecDepth 100000 in
theorem c_X6_isText (G : GG) (l : Launch) (g : Nat) (v3 v6 v7 v8 v9 v10 : Int32) (tx : Nat → Int) (len : Nat) (hT : TxOk tx len) (hga : G.2.2 ≤ g) : Ct G l yX6_isText cX6_isText 1 (some .boolean) ({ frames := 3, cells := 0, slots := 0, locals := 67 } : Room) [.ref (g)] (fun H => Ob G g 6 [.ref (g + 1), .ref (g + 2), .ref (g + 3), .int v3, .ref (g + 4), .int (iI (len : Int)), .int v6, .int v7, .int v8, .int v9, .int v10] H ∧ Ia G (g + 4) 0 80 (fun k => iI (tx k)) H) (WE (b2i (decide (pFlt tx len 0 = -6))) (fun H H1 => (∃ p fo le fi sc, TM G g v3 tx len p fo le fi sc H1 ∧ (pFlt tx len 0 = -6 → fo = 1) ∧ (¬ pFlt tx len 0 = -6 → (p : Int) = pFlt tx len 0)) ∧ FrS g (g + 1) H H1)) := by
  refine Ct.of (by decide +kernel) (Nat.le_of_ble_eq_true rfl) ?_
  intro p e s m args below meth c ls E hnm hP hl
  obtain ⟨ho, htx⟩ := hP
  have hl80 := hT.1
  obtain ⟨le, -, rfl⟩ := iI_of v8
  obtain ⟨fi, -, rfl⟩ := iI_of v9
  obtain ⟨sc, -, rfl⟩ := iI_of v10
  have hS : FrS g (g + 1) s.heap s.heap := FrS.rf
  have hl : lv_has ls 1 [(0, .ref (g))] := hl
  have hL : Lk G [] := Lk.nil
  generalize ([] : List Loc) = locs at hL ⊢
  refine lv_aload_n E.1 E.2.1 dX6_isText_0 rfl (lv_at hl 0 rfl) ?_
  refine r_const E dX6_isText_1 ?_
  refine m_put E ho fw_X6_128 fp_X6_6 rfl rfl (Nat.le_of_ble_eq_true rfl) hL (by omega) dX6_isText_2 (fun H1 locs hL hO_ hF_ => ?_)
  have htx := htx.kept (hF_.2 _ (by omega))
  have hS := hS.trans (FrS.of1 (lo := g) (hi := g + 1) hF_ (by omega) (by omega))
  have ho : Ob G (g) 6 [.ref (g + 1), .ref (g + 2), .ref (g + 3), .int (v3), .ref (g + 4), .int (iI ((len : Int))), .int (iI (0)), .int (v7), .int (iI (le)), .int (iI (fi)), .int (iI (sc))] H1 := hO_
  clear hO_
  refine lv_aload_n E.1 E.2.1 dX6_isText_5 rfl (lv_at hl 0 rfl) ?_
  refine r_const E dX6_isText_6 ?_
  refine m_put E ho fw_X6_131 fp_X6_7 rfl rfl (Nat.le_of_ble_eq_true rfl) hL (by omega) dX6_isText_7 (fun H2 locs hL hO_ hF_ => ?_)
  have htx := htx.kept (hF_.2 _ (by omega))
  have hS := hS.trans (FrS.of1 (lo := g) (hi := g + 1) hF_ (by omega) (by omega))
  have ho : Ob G (g) 6 [.ref (g + 1), .ref (g + 2), .ref (g + 3), .int (v3), .ref (g + 4), .int (iI ((len : Int))), .int (iI (0)), .int (iI (1)), .int (iI (le)), .int (iI (fi)), .int (iI (sc))] H2 := hO_
  clear hO_
  refine lv_aload_n E.1 E.2.1 dX6_isText_10 rfl (lv_at hl 0 rfl) ?_
  refine kVWV (As := []) E cw_X6_154 (c_X6_takesCommand G l g v3 tx len (0) (le) (fi) (sc) hT (by omega) (by omega)) ho ⟨_, _, rfl⟩ ⟨ho, htx⟩ hL hl.1 rfl rfl (Nat.le_of_ble_eq_true rfl) ⟨Nat.le_of_ble_eq_true rfl, Nat.le_of_ble_eq_true rfl⟩ ⟨Nat.le_of_ble_eq_true rfl, Nat.le_of_ble_eq_true rfl⟩ dX6_isText_11 (fun H3 locs hL hw_ => ?_)
  obtain ⟨⟨le, fi, sc, ⟨ho, htx⟩, hok⟩, hq⟩ := hw_
  have hS := hS.trans hq
  have hpc := pCmd_all hT (0)
  have LP14 : ∀ (kin14 : Nat) (x : Nat) (H : Heap) (le fi sc : Int) (ls : Array Slot) (locs : List Loc) (hx9 : x ≤ len) (hTx : TM G g v3 tx len (pCmd tx len x).1 (if (pCmd tx len x).2.isSome then 1 else 0) le fi sc H) (hS : FrS g (g + 1) s.heap H) (hfl : pFlt tx len 0 = pFlt tx len x) (hkin14 : len - x = kin14) (hl : lv_has ls 1 [(0, .ref (g))]) (hL : Lk G locs), W p l e ({ frames := 3, cells := 0, slots := 0, locals := 67 } : Room) s m args below meth c H locs 0 0 (QQ G below args s ({ frames := 3, cells := 0, slots := 0, locals := 67 } : Room) (WE (b2i (decide (pFlt tx len 0 = -6))) (fun H H1 => (∃ p fo le fi sc, TM G g v3 tx len p fo le fi sc H1 ∧ (pFlt tx len 0 = -6 → fo = 1) ∧ (¬ pFlt tx len 0 = -6 → (p : Int) = pFlt tx len 0)) ∧ FrS g (g + 1) H H1))) (F0 m 14 ls []) := by
    intro kin14
    induction kin14 using Nat.strongRecOn with
    | ind kin14 ihin14 =>
      intro x H le fi sc ls locs hx9 hTx hS hfl hkin14 hl hL
      obtain ⟨ho, htx⟩ := hTx
      have hpc := pCmd_all hT x
      refine lv_aload_n E.1 E.2.1 dX6_isText_14 rfl (lv_at hl 0 rfl) ?_
      rcases hcm : (pCmd tx len x).2 with _ | cmd
      · rw [hcm, if_neg (by decide)] at ho
        refine m_get E ho fw_X6_131 rfl dX6_isText_15 ?_
        refine r_if_eq (tgt := 64) E dX6_isText_18 (by decide) (by omega) (fun c18 => ?_) (fun c18 => absurd c18 (by omega))
        refine lv_aload_n E.1 E.2.1 dX6_isText_64 rfl (lv_at hl 0 rfl) ?_
        refine m_get E ho fw_X6_131 rfl dX6_isText_65 ?_
        refine e_zret (rm := ({ frames := 3, cells := 0, slots := 0, locals := 67 } : Room)) (v := iI (0)) E hL rfl dX6_isText_68 ?_
        have hf9 : pFlt tx len 0 = (((pCmd tx len x).1 : Nat) : Int) := by rw [hfl, pFlt, if_pos hcm]
        have hf8 : ¬ pFlt tx len 0 = -6 := by omega
        exact ⟨by rw [decide_eq_false hf8]; rfl, ⟨_, _, _, _, _, ⟨ho, htx⟩, fun h => absurd h hf8, fun _ => hf9.symm⟩, hS⟩
      · rw [hcm, if_pos (by rfl)] at ho
        have hpc2 := hpc.2.2 cmd.1 cmd.2.1 cmd.2.2 hcm
        refine m_get E ho fw_X6_131 rfl dX6_isText_15 ?_
        refine r_if_eq (tgt := 64) E dX6_isText_18 (by decide) (by omega) (fun c18 => absurd c18 (by omega)) (fun c18 => ?_)
        refine lv_aload_n E.1 E.2.1 dX6_isText_21 rfl (lv_at hl 0 rfl) ?_
        refine m_get E ho fw_X6_128 rfl dX6_isText_22 ?_
        refine lv_aload_n E.1 E.2.1 dX6_isText_25 rfl (lv_at hl 0 rfl) ?_
        refine m_get E ho fw_X6_125 rfl dX6_isText_26 ?_
        refine r_icmp_ge (tgt := 64) E dX6_isText_29 (by decide) (by omega) (by omega) (fun c29 => ?_) (fun c29 => ?_)
        · refine lv_aload_n E.1 E.2.1 dX6_isText_64 rfl (lv_at hl 0 rfl) ?_
          refine m_get E ho fw_X6_131 rfl dX6_isText_65 ?_
          refine e_zret (rm := ({ frames := 3, cells := 0, slots := 0, locals := 67 } : Room)) (v := iI (1)) E hL rfl dX6_isText_68 ?_
          have hf9 : pFlt tx len 0 = -6 := by rw [hfl, pFlt, if_neg (by rw [hcm]; exact Option.some_ne_none _), if_pos (by omega)]
          exact ⟨by rw [decide_eq_true hf9]; rfl, ⟨_, _, _, _, _, ⟨ho, htx⟩, fun _ => rfl, fun h => absurd hf9 h⟩, hS⟩
        · refine lv_aload_n E.1 E.2.1 dX6_isText_32 rfl (lv_at hl 0 rfl) ?_
          refine lv_aload_n E.1 E.2.1 dX6_isText_33 rfl (lv_at hl 0 rfl) ?_
          refine kVRE (As := []) E cw_X6_135 (c_X6_here G l g v3 tx len ((pCmd tx len x).1) (1) (le) (fi) (sc) hT (by omega)) ho ⟨_, _, rfl⟩ ⟨ho, htx⟩ hL hl.1 rfl rfl (Nat.le_of_ble_eq_true rfl) ⟨Nat.le_of_ble_eq_true rfl, Nat.le_of_ble_eq_true rfl⟩ ⟨rfl, rfl⟩ ⟨Nat.le_of_ble_eq_true rfl, Nat.le_of_ble_eq_true rfl⟩ dX6_isText_34 (fun locs hL => ?_)
          have hb_ := h0_b hT ((pCmd tx len x).1)
          refine r_bipush E dX6_isText_37 (by decide) ?_
          refine r_icmp_ne (tgt := 46) E dX6_isText_39 (by decide) (by omega) (by omega) (fun c39 => ?_) (fun c39 => ?_)
          · refine r_const E dX6_isText_46 ?_
            refine kVWV (As := [.int (iI (0))]) E cw_X6_138 (c_X6_takes G l g v3 tx len ((pCmd tx len x).1) (1) (le) (fi) (sc) hT (0) (by omega) (by omega) (by omega) (by omega)) ho ⟨_, _, rfl⟩ ⟨ho, htx⟩ hL hl.1 rfl rfl (Nat.le_of_ble_eq_true rfl) ⟨Nat.le_of_ble_eq_true rfl, Nat.le_of_ble_eq_true rfl⟩ ⟨Nat.le_of_ble_eq_true rfl, Nat.le_of_ble_eq_true rfl⟩ dX6_isText_47 (fun H4 locs hL hw_ => ?_)
            rw [if_neg (by decide), if_neg (by decide)] at hw_
            obtain ⟨⟨ho, htx⟩, hq⟩ := hw_
            have hS := hS.trans hq
            refine lv_aload_n E.1 E.2.1 dX6_isText_50 rfl (lv_at hl 0 rfl) ?_
            refine m_get E ho fw_X6_131 rfl dX6_isText_51 ?_
            refine r_if_eq (tgt := 14) E dX6_isText_54 (by decide) (by omega) (fun c54 => ?_) (fun c54 => absurd c54 (by omega))
            refine lv_aload_n E.1 E.2.1 dX6_isText_14 rfl (lv_at hl 0 rfl) ?_
            refine m_get E ho fw_X6_131 rfl dX6_isText_15 ?_
            refine r_if_eq (tgt := 64) E dX6_isText_18 (by decide) (by omega) (fun c18 => ?_) (fun c18 => absurd c18 (by omega))
            refine lv_aload_n E.1 E.2.1 dX6_isText_64 rfl (lv_at hl 0 rfl) ?_
            refine m_get E ho fw_X6_131 rfl dX6_isText_65 ?_
            refine e_zret (rm := ({ frames := 3, cells := 0, slots := 0, locals := 67 } : Room)) (v := iI (0)) E hL rfl dX6_isText_68 ?_
            have hf9 : pFlt tx len 0 = (((pCmd tx len x).1 : Nat) : Int) := by rw [hfl, pFlt, if_neg (by rw [hcm]; exact Option.some_ne_none _), if_neg (by omega), dif_neg (by omega)]
            have hf8 : ¬ pFlt tx len 0 = -6 := by omega
            exact ⟨by rw [decide_eq_false hf8]; rfl, ⟨_, _, _, _, _, ⟨ho, htx⟩, fun h => absurd h hf8, fun _ => hf9.symm⟩, hS⟩
          · refine r_const E dX6_isText_42 ?_
            refine lv_goto (tgt := 47) E.1 E.2.1 dX6_isText_43 (by decide) ?_
            refine kVWV (As := [.int (iI (1))]) E cw_X6_138 (c_X6_takes G l g v3 tx len ((pCmd tx len x).1) (1) (le) (fi) (sc) hT (1) (by omega) (by omega) (by omega) (by omega)) ho ⟨_, _, rfl⟩ ⟨ho, htx⟩ hL hl.1 rfl rfl (Nat.le_of_ble_eq_true rfl) ⟨Nat.le_of_ble_eq_true rfl, Nat.le_of_ble_eq_true rfl⟩ ⟨Nat.le_of_ble_eq_true rfl, Nat.le_of_ble_eq_true rfl⟩ dX6_isText_47 (fun H4 locs hL hw_ => ?_)
            rw [if_pos (by decide), if_pos (by decide)] at hw_
            obtain ⟨⟨ho, htx⟩, hq⟩ := hw_
            have hS := hS.trans hq
            refine lv_aload_n E.1 E.2.1 dX6_isText_50 rfl (lv_at hl 0 rfl) ?_
            refine m_get E ho fw_X6_131 rfl dX6_isText_51 ?_
            refine r_if_eq (tgt := 14) E dX6_isText_54 (by decide) (by omega) (fun c54 => absurd c54 (by omega)) (fun c54 => ?_)
            refine lv_aload_n E.1 E.2.1 dX6_isText_57 rfl (lv_at hl 0 rfl) ?_
            refine kVWV (As := []) E cw_X6_154 (c_X6_takesCommand G l g v3 tx len (((pCmd tx len x).1 + 1)) (le) (fi) (sc) hT (by omega) (by omega)) ho ⟨_, _, rfl⟩ ⟨ho, htx⟩ hL hl.1 rfl rfl (Nat.le_of_ble_eq_true rfl) ⟨Nat.le_of_ble_eq_true rfl, Nat.le_of_ble_eq_true rfl⟩ ⟨Nat.le_of_ble_eq_true rfl, Nat.le_of_ble_eq_true rfl⟩ dX6_isText_58 (fun H5 locs hL hw_ => ?_)
            obtain ⟨⟨le, fi, sc, ⟨ho, htx⟩, hok⟩, hq⟩ := hw_
            have hS := hS.trans hq
            have hpc := pCmd_all hT (((pCmd tx len x).1 + 1))
            refine lv_goto (tgt := 14) E.1 E.2.1 dX6_isText_61 (by decide) ?_
            refine ihin14 _ ?_ ((pCmd tx len x).1 + 1) H5 le fi sc ls locs ?_ ?_ ?_ ?_ rfl (lv_sub hl [0] rfl) hL
            · omega
            · omega
            · exact ⟨ho, htx⟩
            · exact hS
            · rw [hfl, pFlt, if_neg (by rw [hcm]; exact Option.some_ne_none _), if_neg (by omega), dif_pos ⟨by omega, by omega, by omega⟩]
  refine LP14 _ 0 H3 le fi sc ls locs ?_ ?_ ?_ ?_ rfl (lv_sub hl [0] rfl) hL
  · omega
  · exact ⟨ho, htx⟩
  · exact hS
  · rfl
