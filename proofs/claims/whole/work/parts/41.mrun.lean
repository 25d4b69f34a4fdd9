set_option maxHeartbeats 4000000 in
set_option maxRecDepth 100000 in
theorem c_X6_fault (G : GG) (l : Launch) (g : Nat) (σ : St) (hs : List St) (tx : Nat → Int) (len : Nat) (hI : Inv σ) (hT : TxOk tx len) (hga : G.2.2 ≤ g) : Ct G l yX6_fault cX6_fault 1 (some .int) ({ frames := 4, cells := 0, slots := 0, locals := 87 } : Room) [.ref (g)] (fun H => MAt G g σ hs tx len H) (WE (iI (pFlt tx len 0)) (MP G g σ hs tx len)) := by
  refine Ct.of (by decide +kernel) (Nat.le_of_ble_eq_true rfl) ?_
  intro p e s m args below meth c ls E hnm hP hl
  obtain ⟨bf, pf, v6, v7, v8, v9, v10, ho, ha, hbf, hpf, hpk, htx⟩ := hP
  have i1 := hI.mn12
  have i2 := hI.nx240
  have hT80 := hT.1
  have hp4 := hpk.1
  have hS : FrS g (g + 5) s.heap s.heap := FrS.rf
  have hl : lv_has ls 1 [(0, .ref (g))] := hl
  have hL : Lk G [] := Lk.nil
  generalize ([] : List Loc) = locs at hL ⊢
  refine lv_aload_n E.1 E.2.1 dX6_fault_0 rfl (lv_at hl 0 rfl) ?_
  refine kVWE (As := []) E cw_X6_157 (c_X6_isText G l g _ _ _ _ _ _ tx len hT (by omega)) ho ⟨_, _, rfl⟩ ⟨ho, htx⟩ hL hl.1 rfl rfl (Nat.le_of_ble_eq_true rfl) ⟨Nat.le_of_ble_eq_true rfl, Nat.le_of_ble_eq_true rfl⟩ ⟨Nat.le_of_ble_eq_true rfl, Nat.le_of_ble_eq_true rfl⟩ dX6_fault_1 (fun H1 locs hL hw_ => ?_)
  obtain ⟨⟨tp, fo, le, fi, sc, ⟨ho, htx⟩, ht1, ht2⟩, hq⟩ := hw_
  have ha := ha.kept (hq.2 _ (by omega))
  have hbf := hbf.kept (hq.2 _ (by omega))
  have hpf := hpf.kept (hq.2 _ (by omega))
  have hS := hS.trans (hq.wide (lo' := g) (hi' := g + 5) (by omega) (by omega))
  refine r_bif_eq (tgt := 12) E dX6_fault_4 (by decide)  (fun c4 => ?_) (fun c4 => ?_)
  · have c4 := of_decide_eq_false c4
    refine lv_aload_n E.1 E.2.1 dX6_fault_12 rfl (lv_at hl 0 rfl) ?_
    refine m_get E ho fw_X6_128 rfl dX6_fault_13 ?_
    refine e_iret (rm := ({ frames := 4, cells := 0, slots := 0, locals := 87 } : Room)) (v := iI ((tp : Int))) E hL dX6_fault_16 ?_
    rw [← ht2 c4]
    exact ⟨rfl, ⟨⟨_, _, _, _, _, _, _, ho, ha, hbf, hpf, hpk, htx⟩, hS⟩⟩
  · have c4 := of_decide_eq_true c4
    refine r_bipush E dX6_fault_7 (by decide) ?_
    refine lv_goto (tgt := 16) E.1 E.2.1 dX6_fault_9 (by decide) ?_
    refine e_iret (rm := ({ frames := 4, cells := 0, slots := 0, locals := 87 } : Room)) (v := iI ((-6))) E hL dX6_fault_16 ?_
    rw [c4]
    exact ⟨rfl, ⟨⟨_, _, _, _, _, _, _, ho, ha, hbf, hpf, hpk, htx⟩, hS⟩⟩

set_option maxHeartbeats 4000000 in
set_option maxRecDepth 100000 in
theorem c_X6_doesCommand (G : GG) (l : Launch) (g : Nat) (σ : St) (v3 v5 v6 v7 : Int32) (hI : Inv σ) (le fi sc : Int) (cc_ : Int) (X Y : Nat) (hok : okCmd (some (cc_, X, Y)) le fi sc) (hcc : (cc_ = 99 ∨ cc_ = 101) ∨ (cc_ = 98 ∧ X ≤ 1) ∨ (cc_ = 114 ∧ X ≤ 19) ∨ (cc_ = 100 ∧ X ≤ 239) ∨ (cc_ = 119 ∧ X ≤ 19 ∧ 1 ≤ Y ∧ Y ≤ 40) ∨ (cc_ = 107 ∧ X ≤ 19 ∧ Y ≤ 11)) (hga : G.2.2 ≤ g) : Ct G l yX6_doesCommand cX6_doesCommand 1 (some .int) ({ frames := 5, cells := 0, slots := 0, locals := 111 } : Room) [.ref (g)] (fun H => MR G g σ v3 v5 v6 v7 (iI le) (iI fi) (iI sc) H) (WE (iI (spCmd σ (cc_, X, Y)).1) (MW G g (spCmd σ (cc_, X, Y)).2 v3 v5 v6 v7 (iI le) (iI fi) (iI sc))) := by
  refine Ct.of (by decide +kernel) (Nat.le_of_ble_eq_true rfl) ?_
  intro p e s m args below meth c ls E hnm hP hl
  obtain ⟨ho, ha⟩ := hP
  have i1 := hI.mn12
  obtain ⟨hle, hok2⟩ := hok cc_ X Y rfl
  have hl : lv_has ls 1 [(0, .ref (g))] := hl
  have hL : Lk G [] := Lk.nil
  generalize ([] : List Loc) = locs at hL ⊢
  refine lv_aload_n E.1 E.2.1 dX6_doesCommand_0 rfl (lv_at hl 0 rfl) ?_
  refine m_get E ho fw_X6_142 rfl dX6_doesCommand_1 ?_
  by_cases ts98 : (le) = 98
  · refine lv_lookup (off := 60) (tgt := 64) E.1 E.2.1 dX6_doesCommand_4 (by decide) (by rw [iI_toInt (by omega) (by omega), ts98]; rfl) (by decide) ?_
    have hfi : fi = (X : Int) := hok2.1 (by omega)
    subst hfi
    refine lv_aload_n E.1 E.2.1 dX6_doesCommand_64 rfl (lv_at hl 0 rfl) ?_
    refine lv_aload_n E.1 E.2.1 dX6_doesCommand_65 rfl (lv_at hl 0 rfl) ?_
    refine m_get E ho fw_X6_148 rfl dX6_doesCommand_66 ?_
    refine kVWE (As := [.int (iI ((X : Int)))]) E cw_X6_95 (c_X6_goBegin G l g σ _ _ _ _ _ _ _ hI ((X : Int)) (by unfold okI; omega) (by omega)) ho ⟨_, _, rfl⟩ ⟨ho, ha⟩ hL hl.1 rfl rfl (Nat.le_of_ble_eq_true rfl) ⟨Nat.le_of_ble_eq_true rfl, Nat.le_of_ble_eq_true rfl⟩ ⟨Nat.le_of_ble_eq_true rfl, Nat.le_of_ble_eq_true rfl⟩ dX6_doesCommand_69 (fun H1 locs hL hw_ => ?_)
    have hcm : spCmd σ (cc_, X, Y) = spBegin σ ((X : Int)) := by
      have he9 : cc_ = 98 := by omega
      subst he9
      rfl
    refine e_iret (rm := ({ frames := 5, cells := 0, slots := 0, locals := 111 } : Room)) (v := iI ((spBegin σ ((X : Int))).1)) E hL dX6_doesCommand_72 ?_
    rw [hcm]
    exact ⟨rfl, hw_⟩
  by_cases ts99 : (le) = 99
  · refine lv_lookup (off := 104) (tgt := 108) E.1 E.2.1 dX6_doesCommand_4 (by decide) (by rw [iI_toInt (by omega) (by omega), ts99]; rfl) (by decide) ?_
    refine lv_aload_n E.1 E.2.1 dX6_doesCommand_108 rfl (lv_at hl 0 rfl) ?_
    refine kVWE (As := []) E cw_X6_110 (c_X6_goClose G l g σ _ _ _ _ _ _ _ hI   (by omega)) ho ⟨_, _, rfl⟩ ⟨ho, ha⟩ hL hl.1 rfl rfl (Nat.le_of_ble_eq_true rfl) ⟨Nat.le_of_ble_eq_true rfl, Nat.le_of_ble_eq_true rfl⟩ ⟨Nat.le_of_ble_eq_true rfl, Nat.le_of_ble_eq_true rfl⟩ dX6_doesCommand_109 (fun H1 locs hL hw_ => ?_)
    have hcm : spCmd σ (cc_, X, Y) = spClose σ  := by
      have he9 : cc_ = 99 := by omega
      subst he9
      rfl
    refine e_iret (rm := ({ frames := 5, cells := 0, slots := 0, locals := 111 } : Room)) (v := iI ((spClose σ).1)) E hL dX6_doesCommand_112 ?_
    rw [hcm]
    exact ⟨rfl, hw_⟩
  by_cases ts101 : (le) = 101
  · refine lv_lookup (off := 109) (tgt := 113) E.1 E.2.1 dX6_doesCommand_4 (by decide) (by rw [iI_toInt (by omega) (by omega), ts101]; rfl) (by decide) ?_
    refine lv_aload_n E.1 E.2.1 dX6_doesCommand_113 rfl (lv_at hl 0 rfl) ?_
    refine kVWE (As := []) E cw_X6_113 (c_X6_goEject G l g σ _ _ _ _ _ _ _ hI   (by omega)) ho ⟨_, _, rfl⟩ ⟨ho, ha⟩ hL hl.1 rfl rfl (Nat.le_of_ble_eq_true rfl) ⟨Nat.le_of_ble_eq_true rfl, Nat.le_of_ble_eq_true rfl⟩ ⟨Nat.le_of_ble_eq_true rfl, Nat.le_of_ble_eq_true rfl⟩ dX6_doesCommand_114 (fun H1 locs hL hw_ => ?_)
    have hcm : spCmd σ (cc_, X, Y) = spEject σ  := by
      have he9 : cc_ = 101 := by omega
      subst he9
      rfl
    refine e_iret (rm := ({ frames := 5, cells := 0, slots := 0, locals := 111 } : Room)) (v := iI ((spEject σ).1)) E hL dX6_doesCommand_117 ?_
    rw [hcm]
    exact ⟨rfl, hw_⟩
  by_cases ts107 : (le) = 107
  · refine lv_lookup (off := 91) (tgt := 95) E.1 E.2.1 dX6_doesCommand_4 (by decide) (by rw [iI_toInt (by omega) (by omega), ts107]; rfl) (by decide) ?_
    have hfi : fi = (X : Int) := hok2.1 (by omega)
    subst hfi
    have hsc : sc = (Y : Int) := hok2.2 (by omega)
    subst hsc
    refine lv_aload_n E.1 E.2.1 dX6_doesCommand_95 rfl (lv_at hl 0 rfl) ?_
    refine lv_aload_n E.1 E.2.1 dX6_doesCommand_96 rfl (lv_at hl 0 rfl) ?_
    refine m_get E ho fw_X6_148 rfl dX6_doesCommand_97 ?_
    refine lv_aload_n E.1 E.2.1 dX6_doesCommand_100 rfl (lv_at hl 0 rfl) ?_
    refine m_get E ho fw_X6_151 rfl dX6_doesCommand_101 ?_
    refine kVWE (As := [.int (iI ((X : Int))), .int (iI ((Y : Int)))]) E cw_X6_107 (c_X6_goKeep G l g σ _ _ _ _ _ _ _ hI ((X : Int)) ((Y : Int)) (by unfold okI; omega) (by unfold okI; omega) (by omega)) ho ⟨_, _, rfl⟩ ⟨ho, ha⟩ hL hl.1 rfl rfl (Nat.le_of_ble_eq_true rfl) ⟨Nat.le_of_ble_eq_true rfl, Nat.le_of_ble_eq_true rfl⟩ ⟨Nat.le_of_ble_eq_true rfl, Nat.le_of_ble_eq_true rfl⟩ dX6_doesCommand_104 (fun H1 locs hL hw_ => ?_)
    have hcm : spCmd σ (cc_, X, Y) = spKeep σ ((X : Int)) ((Y : Int)) := by
      have he9 : cc_ = 107 := by omega
      subst he9
      rfl
    refine e_iret (rm := ({ frames := 5, cells := 0, slots := 0, locals := 111 } : Room)) (v := iI ((spKeep σ ((X : Int)) ((Y : Int))).1)) E hL dX6_doesCommand_107 ?_
    rw [hcm]
    exact ⟨rfl, hw_⟩
  by_cases ts114 : (le) = 114
  · refine lv_lookup (off := 82) (tgt := 86) E.1 E.2.1 dX6_doesCommand_4 (by decide) (by rw [iI_toInt (by omega) (by omega), ts114]; rfl) (by decide) ?_
    have hfi : fi = (X : Int) := hok2.1 (by omega)
    subst hfi
    refine lv_aload_n E.1 E.2.1 dX6_doesCommand_86 rfl (lv_at hl 0 rfl) ?_
    refine lv_aload_n E.1 E.2.1 dX6_doesCommand_87 rfl (lv_at hl 0 rfl) ?_
    refine m_get E ho fw_X6_148 rfl dX6_doesCommand_88 ?_
    refine kVWE (As := [.int (iI ((X : Int)))]) E cw_X6_104 (c_X6_goRemove G l g σ _ _ _ _ _ _ _ hI ((X : Int)) (by unfold okI; omega) (by omega)) ho ⟨_, _, rfl⟩ ⟨ho, ha⟩ hL hl.1 rfl rfl (Nat.le_of_ble_eq_true rfl) ⟨Nat.le_of_ble_eq_true rfl, Nat.le_of_ble_eq_true rfl⟩ ⟨Nat.le_of_ble_eq_true rfl, Nat.le_of_ble_eq_true rfl⟩ dX6_doesCommand_91 (fun H1 locs hL hw_ => ?_)
    have hcm : spCmd σ (cc_, X, Y) = spRemove σ ((X : Int)) := by
      have he9 : cc_ = 114 := by omega
      subst he9
      rfl
    refine e_iret (rm := ({ frames := 5, cells := 0, slots := 0, locals := 111 } : Room)) (v := iI ((spRemove σ ((X : Int))).1)) E hL dX6_doesCommand_94 ?_
    rw [hcm]
    exact ⟨rfl, hw_⟩
  by_cases ts119 : (le) = 119
  · refine lv_lookup (off := 69) (tgt := 73) E.1 E.2.1 dX6_doesCommand_4 (by decide) (by rw [iI_toInt (by omega) (by omega), ts119]; rfl) (by decide) ?_
    have hfi : fi = (X : Int) := hok2.1 (by omega)
    subst hfi
    have hsc : sc = (Y : Int) := hok2.2 (by omega)
    subst hsc
    refine lv_aload_n E.1 E.2.1 dX6_doesCommand_73 rfl (lv_at hl 0 rfl) ?_
    refine lv_aload_n E.1 E.2.1 dX6_doesCommand_74 rfl (lv_at hl 0 rfl) ?_
    refine m_get E ho fw_X6_148 rfl dX6_doesCommand_75 ?_
    refine lv_aload_n E.1 E.2.1 dX6_doesCommand_78 rfl (lv_at hl 0 rfl) ?_
    refine m_get E ho fw_X6_151 rfl dX6_doesCommand_79 ?_
    refine kVWE (As := [.int (iI ((X : Int))), .int (iI ((Y : Int)))]) E cw_X6_101 (c_X6_goWrite G l g σ _ _ _ _ _ _ _ hI ((X : Int)) ((Y : Int)) (by unfold okI; omega) (by unfold okI; omega) (by omega)) ho ⟨_, _, rfl⟩ ⟨ho, ha⟩ hL hl.1 rfl rfl (Nat.le_of_ble_eq_true rfl) ⟨Nat.le_of_ble_eq_true rfl, Nat.le_of_ble_eq_true rfl⟩ ⟨Nat.le_of_ble_eq_true rfl, Nat.le_of_ble_eq_true rfl⟩ dX6_doesCommand_82 (fun H1 locs hL hw_ => ?_)
    have hcm : spCmd σ (cc_, X, Y) = spWrite σ ((X : Int)) ((Y : Int)) := by
      have he9 : cc_ = 119 := by omega
      subst he9
      rfl
    refine e_iret (rm := ({ frames := 5, cells := 0, slots := 0, locals := 111 } : Room)) (v := iI ((spWrite σ ((X : Int)) ((Y : Int))).1)) E hL dX6_doesCommand_85 ?_
    rw [hcm]
    exact ⟨rfl, hw_⟩
  refine lv_lookup (off := 114) (tgt := 118) E.1 E.2.1 dX6_doesCommand_4 (by decide) (by show Op.lookupswitch.offset [(98, 60), (99, 104), (101, 109), (107, 91), (114, 82), (119, 69)] 114 _ = _; rw [lv_osw (a := 98) (k := iI 98) (fun e9 => ts98 ((iI_eq (by omega) (by omega)).mp e9)) rfl, lv_osw (a := 99) (k := iI 99) (fun e9 => ts99 ((iI_eq (by omega) (by omega)).mp e9)) rfl, lv_osw (a := 101) (k := iI 101) (fun e9 => ts101 ((iI_eq (by omega) (by omega)).mp e9)) rfl, lv_osw (a := 107) (k := iI 107) (fun e9 => ts107 ((iI_eq (by omega) (by omega)).mp e9)) rfl, lv_osw (a := 114) (k := iI 114) (fun e9 => ts114 ((iI_eq (by omega) (by omega)).mp e9)) rfl, lv_osw (a := 119) (k := iI 119) (fun e9 => ts119 ((iI_eq (by omega) (by omega)).mp e9)) rfl]; rfl) (by decide) ?_
  have hfi : fi = (X : Int) := hok2.1 (by omega)
  subst hfi
  refine lv_aload_n E.1 E.2.1 dX6_doesCommand_118 rfl (lv_at hl 0 rfl) ?_
  refine lv_aload_n E.1 E.2.1 dX6_doesCommand_119 rfl (lv_at hl 0 rfl) ?_
  refine m_get E ho fw_X6_148 rfl dX6_doesCommand_120 ?_
  refine kVWE (As := [.int (iI ((X : Int)))]) E cw_X6_119 (c_X6_goDamage G l g σ _ _ _ _ _ _ _ hI ((X : Int)) (by unfold okI; omega) (by omega)) ho ⟨_, _, rfl⟩ ⟨ho, ha⟩ hL hl.1 rfl rfl (Nat.le_of_ble_eq_true rfl) ⟨Nat.le_of_ble_eq_true rfl, Nat.le_of_ble_eq_true rfl⟩ ⟨Nat.le_of_ble_eq_true rfl, Nat.le_of_ble_eq_true rfl⟩ dX6_doesCommand_123 (fun H1 locs hL hw_ => ?_)
  have hcm : spCmd σ (cc_, X, Y) = spDamage σ ((X : Int)) := by
    have he9 : cc_ = 100 := by omega
    subst he9
    rfl
  refine e_iret (rm := ({ frames := 5, cells := 0, slots := 0, locals := 111 } : Room)) (v := iI ((spDamage σ ((X : Int))).1)) E hL dX6_doesCommand_126 ?_
  rw [hcm]
  exact ⟨rfl, hw_⟩

set_option maxHeartbeats 4000000 in
set_option maxRecDepth 100000 in
theorem c_X6_run (G : GG) (l : Launch) (g : Nat) (σ : St) (hs : List St) (tx : Nat → Int) (len : Nat) (hI : Inv σ) (hT : TxOk tx len) (hga : G.2.2 ≤ g) : Ct G l yX6_run cX6_run 3 (some .int) ({ frames := 6, cells := 0, slots := 0, locals := 131 } : Room) [.ref (g)] (fun H => MAt G g σ hs tx len H) (WE (iI (spRun σ hs tx len).1) (MP G g (spRun σ hs tx len).2.1 (spRun σ hs tx len).2.2 tx len)) := by
  refine Ct.of (by decide +kernel) (Nat.le_of_ble_eq_true rfl) ?_
  intro p e s m args below meth c ls E hnm hP hl
  obtain ⟨bf, pf, v6, v7, v8, v9, v10, ho, ha, hbf, hpf, hpk, htx⟩ := hP
  have i1 := hI.mn12
  have i2 := hI.nx240
  have hT80 := hT.1
  have hp4 := hpk.1
  have hS : FrS g (g + 5) s.heap s.heap := FrS.rf
  have hl : lv_has ls 3 [(0, .ref (g))] := hl
  have hL : Lk G [] := Lk.nil
  generalize ([] : List Loc) = locs at hL ⊢
  refine lv_aload_n E.1 E.2.1 dX6_run_0 rfl (lv_at hl 0 rfl) ?_
  refine kVWE (As := []) E cw_X6_157 (c_X6_isText G l g _ _ _ _ _ _ tx len hT (by omega)) ho ⟨_, _, rfl⟩ ⟨ho, htx⟩ hL hl.1 rfl rfl (Nat.le_of_ble_eq_true rfl) ⟨Nat.le_of_ble_eq_true rfl, Nat.le_of_ble_eq_true rfl⟩ ⟨Nat.le_of_ble_eq_true rfl, Nat.le_of_ble_eq_true rfl⟩ dX6_run_1 (fun H1 locs hL hw_ => ?_)
  obtain ⟨⟨tp, fo, le, fi, sc, ⟨ho, htx⟩, ht1, ht2⟩, hq⟩ := hw_
  have ha := ha.kept (hq.2 _ (by omega))
  have hbf := hbf.kept (hq.2 _ (by omega))
  have hpf := hpf.kept (hq.2 _ (by omega))
  have hS := hS.trans (hq.wide (lo' := g) (hi' := g + 5) (by omega) (by omega))
  refine r_bif_ne (tgt := 10) E dX6_run_4 (by decide)  (fun c4 => ?_) (fun c4 => ?_)
  · have c4 := of_decide_eq_true c4
    have hok0 : pFlt tx len 0 = -6 := c4
    have hfo := ht1 hok0
    subst hfo
    refine lv_aload_n E.1 E.2.1 dX6_run_10 rfl (lv_at hl 0 rfl) ?_
    refine kVWV (As := []) E cw_X6_92 (c_X6_begins G l g σ _ _ _ _ _ _ _ bf (by omega)) ho ⟨_, _, rfl⟩ ⟨ho, ha, hbf⟩ hL hl.1 rfl rfl (Nat.le_of_ble_eq_true rfl) ⟨Nat.le_of_ble_eq_true rfl, Nat.le_of_ble_eq_true rfl⟩ ⟨Nat.le_of_ble_eq_true rfl, Nat.le_of_ble_eq_true rfl⟩ dX6_run_11 (fun H2 locs hL hw_ => ?_)
    obtain ⟨hbf, hq⟩ := hw_
    have ho := ho.kept (hq.2 _ (by omega))
    have ha := ha.kept (hq.2 _ (by omega))
    have hpf := hpf.kept (hq.2 _ (by omega))
    have htx := htx.kept (hq.2 _ (by omega))
    have hS := hS.trans (hq.wide (lo' := g) (hi' := g + 5) (by omega) (by omega))
    refine lv_aload_n E.1 E.2.1 dX6_run_14 rfl (lv_at hl 0 rfl) ?_
    refine r_const E dX6_run_15 ?_
    refine m_put E ho fw_X6_128 fp_X6_6 rfl rfl (Nat.le_of_ble_eq_true rfl) hL (by omega) dX6_run_16 (fun H3 locs hL hO_ hF_ => ?_)
    have ha := ha.kept (hF_.2 _ (by omega))
    have hbf := hbf.kept (hF_.2 _ (by omega))
    have hpf := hpf.kept (hF_.2 _ (by omega))
    have htx := htx.kept (hF_.2 _ (by omega))
    have hS := hS.trans (FrS.of1 (lo := g) (hi := g + 5) hF_ (by omega) (by omega))
    have ho : Ob G (g) 6 [.ref (g + 1), .ref (g + 2), .ref (g + 3), .int (iI ((hs.length : Int))), .ref (g + 4), .int (iI ((len : Int))), .int (iI (0)), .int (iI (1)), .int (iI (le)), .int (iI (fi)), .int (iI (sc))] H3 := hO_
    clear hO_
    refine r_const E dX6_run_19 ?_
    refine lv_istore_n (lv' := [(1, .int (iI (0))), (0, .ref (g))]) E.1 E.2.1 dX6_run_20 rfl hl (by decide) rfl (fun ls hl => ?_)
    refine r_const E dX6_run_21 ?_
    refine lv_istore_n (lv' := [(2, .int (iI (1))), (1, .int (iI (0))), (0, .ref (g))]) E.1 E.2.1 dX6_run_22 rfl hl (by decide) rfl (fun ls hl => ?_)
    have LP23 : ∀ (kin23 : Nat) (t q : Nat) (σ1 : St) (le fi sc : Int) (H : Heap) (u v : Int) (ls : Array Slot) (locs : List Loc) (ht : 2 * t ≤ q + 1) (hu : u = 1) (hv : v = (t : Int)) (hq9 : q ≤ len + 1) (hI1 : Inv σ1) (hfq : pFlt tx len q = -6 ∨ len ≤ q) (hpr : pRun tx len σ 0 0 = pRun tx len σ1 q t) (ho : Ob G g 6 [.ref (g + 1), .ref (g + 2), .ref (g + 3), .int (iI (hs.length : Int)), .ref (g + 4), .int (iI (len : Int)), .int (iI ((q : Int))), .int (iI (1)), .int (iI le), .int (iI fi), .int (iI sc)] H) (ha : Ia G (g + 1) 0 344 (encI σ1) H) (hbf : Ia G (g + 2) 0 344 (encI σ) H) (hpf : Ia G (g + 3) 0 1376 pf H) (htx : Ia G (g + 4) 0 80 (fun k => iI (tx k)) H) (hS : FrS g (g + 5) s.heap H) (hkin23 : len + 1 - q = kin23) (hl : lv_has ls 3 [(2, .int (iI (u))), (1, .int (iI (v))), (0, .ref (g))]) (hL : Lk G locs), W p l e ({ frames := 6, cells := 0, slots := 0, locals := 131 } : Room) s m args below meth c H locs 0 0 (QQ G below args s ({ frames := 6, cells := 0, slots := 0, locals := 131 } : Room) (WE (iI (spRun σ hs tx len).1) (MP G g (spRun σ hs tx len).2.1 (spRun σ hs tx len).2.2 tx len))) (F0 m 23 ls []) := by
      intro kin23
      induction kin23 using Nat.strongRecOn with
      | ind kin23 ihin23 =>
        intro t q σ1 le fi sc H u v ls locs ht hu hv hq9 hI1 hfq hpr ho ha hbf hpf htx hS hkin23 hl hL
        subst hu
        refine lv_iload_n E.1 E.2.1 dX6_run_23 rfl (lv_at hl 0 rfl) ?_
        refine r_if_eq (tgt := 80) E dX6_run_24 (by decide) (by omega) (fun c24 => absurd c24 (by omega)) (fun c24 => ?_)
        refine lv_aload_n E.1 E.2.1 dX6_run_27 rfl (lv_at hl 2 rfl) ?_
        refine m_get E ho fw_X6_128 rfl dX6_run_28 ?_
        refine lv_aload_n E.1 E.2.1 dX6_run_31 rfl (lv_at hl 2 rfl) ?_
        refine m_get E ho fw_X6_125 rfl dX6_run_32 ?_
        refine r_icmp_ge (tgt := 80) E dX6_run_35 (by decide) (by omega) (by omega) (fun c35 => ?_) (fun c35 => ?_)
        · refine lv_aload_n E.1 E.2.1 dX6_run_80 rfl (lv_at hl 2 rfl) ?_
          refine lv_iload_n E.1 E.2.1 dX6_run_81 rfl (lv_at hl 1 rfl) ?_
          refine kVWE (As := [.int (iI (v))]) E cw_X6_98 (c_X6_records G l g hs _ _ _ _ _ _ σ pf hpk (v) (by unfold okI; omega) (by omega)) ho ⟨_, _, rfl⟩ ⟨ho, hbf, hpf⟩ hL hl.1 rfl rfl (Nat.le_of_ble_eq_true rfl) ⟨Nat.le_of_ble_eq_true rfl, Nat.le_of_ble_eq_true rfl⟩ ⟨Nat.le_of_ble_eq_true rfl, Nat.le_of_ble_eq_true rfl⟩ dX6_run_82 (fun H4 locs hL hw_ => ?_)
          obtain ⟨⟨pf1, ho, hpf, hpk⟩, hQ⟩ := hw_
          have ha := ha.kept (hQ.2 _ (by omega))
          have hbf := hbf.kept (hQ.2 _ (by omega))
          have htx := htx.kept (hQ.2 _ (by omega))
          have hS := hS.trans hQ.S
          refine e_iret (rm := ({ frames := 6, cells := 0, slots := 0, locals := 131 } : Room)) (v := iI (v)) E hL dX6_run_85 ?_
          have hsp : spRun σ hs tx len = ((t : Int), σ1, recd hs σ) := by unfold spRun; rw [if_pos hok0, hpr, pRun_end (by omega)]
          rw [hsp]
          have hve : v = (t : Int) := by omega
          rw [hve] at ho hpk ⊢
          have hha : hsA σ hs (t : Int) = recd hs σ := by unfold hsA; rw [if_neg (by omega)]
          rw [hha] at ho hpk
          exact ⟨rfl, ⟨⟨_, _, _, _, _, _, _, ho, ha, hbf, hpf, hpk, htx⟩, hS⟩⟩
        · refine lv_aload_n E.1 E.2.1 dX6_run_38 rfl (lv_at hl 2 rfl) ?_
          refine kVWV (As := []) E cw_X6_154 (c_X6_takesCommand G l g _ tx len q le fi sc hT (by omega) (by omega)) ho ⟨_, _, rfl⟩ ⟨ho, htx⟩ hL hl.1 rfl rfl (Nat.le_of_ble_eq_true rfl) ⟨Nat.le_of_ble_eq_true rfl, Nat.le_of_ble_eq_true rfl⟩ ⟨Nat.le_of_ble_eq_true rfl, Nat.le_of_ble_eq_true rfl⟩ dX6_run_39 (fun H4 locs hL hw_ => ?_)
          obtain ⟨⟨le, fi, sc, ⟨ho, htx⟩, hok⟩, hq⟩ := hw_
          have ha := ha.kept (hq.2 _ (by omega))
          have hbf := hbf.kept (hq.2 _ (by omega))
          have hpf := hpf.kept (hq.2 _ (by omega))
          have hS := hS.trans (hq.wide (lo' := g) (hi' := g + 5) (by omega) (by omega))
          have hpc := pCmd_all hT q
          have hfl := pFlt_ok (hfq.resolve_right (by omega))
          obtain ⟨⟨⟨c_, x_, y_⟩, hcm⟩, hfn⟩ := hfl
          have hpc2 := hpc.2.2 c_ x_ y_ hcm
          rw [hcm] at hok
          rw [hcm, if_pos (by rfl)] at ho
          refine lv_aload_n E.1 E.2.1 dX6_run_42 rfl (lv_at hl 2 rfl) ?_
          refine lv_dup E.1 E.2.1 dX6_run_43 rfl ?_
          refine m_get E ho fw_X6_128 rfl dX6_run_44 ?_
          refine r_const E dX6_run_47 ?_
          refine r_add E dX6_run_48 ?_
          rw [show (((((pCmd tx len q).1 : Int)) + 1 : Int)) = (((pCmd tx len q).1 + 1 : Nat) : Int) by omega]
          refine m_put E ho fw_X6_128 fp_X6_6 rfl rfl (Nat.le_of_ble_eq_true rfl) hL (by omega) dX6_run_49 (fun H5 locs hL hO_ hF_ => ?_)
          have ha := ha.kept (hF_.2 _ (by omega))
          have hbf := hbf.kept (hF_.2 _ (by omega))
          have hpf := hpf.kept (hF_.2 _ (by omega))
          have htx := htx.kept (hF_.2 _ (by omega))
          have hS := hS.trans (FrS.of1 (lo := g) (hi := g + 5) hF_ (by omega) (by omega))
          have ho : Ob G (g) 6 [.ref (g + 1), .ref (g + 2), .ref (g + 3), .int (iI ((hs.length : Int))), .ref (g + 4), .int (iI ((len : Int))), .int (iI ((((pCmd tx len q).1 + 1 : Nat) : Int))), .int (iI (1)), .int (iI (le)), .int (iI (fi)), .int (iI (sc))] H5 := hO_
          clear hO_
          refine lv_aload_n E.1 E.2.1 dX6_run_52 rfl (lv_at hl 2 rfl) ?_
          refine kVWE (As := []) E cw_X6_161 (c_X6_doesCommand G l g σ1 _ _ _ _ hI1 le fi sc c_ x_ y_ hok hpc2.2.2 (by omega)) ho ⟨_, _, rfl⟩ ⟨ho, ha⟩ hL hl.1 rfl rfl (Nat.le_of_ble_eq_true rfl) ⟨Nat.le_of_ble_eq_true rfl, Nat.le_of_ble_eq_true rfl⟩ ⟨Nat.le_of_ble_eq_true rfl, Nat.le_of_ble_eq_true rfl⟩ dX6_run_53 (fun H6 locs hL hw_ => ?_)
          have hbd := spCmd_b hI1 (c_, x_, y_)
          obtain ⟨⟨ho, ha⟩, hq⟩ := hw_
          have hbf := hbf.kept (hq.2 _ (by omega))
          have hpf := hpf.kept (hq.2 _ (by omega))
          have htx := htx.kept (hq.2 _ (by omega))
          have hS := hS.trans (hq.wide (lo' := g) (hi' := g + 5) (by omega) (by omega))
          refine r_if_lt (tgt := 63) E dX6_run_56 (by decide) (by omega) (fun c56 => ?_) (fun c56 => ?_)
          · refine r_const E dX6_run_63 ?_
            refine lv_istore_n (lv' := [(2, .int (iI (0))), (1, .int (iI (v))), (0, .ref (g))]) E.1 E.2.1 dX6_run_64 rfl hl (by decide) rfl (fun ls hl => ?_)
            refine lv_iload_n E.1 E.2.1 dX6_run_65 rfl (lv_at hl 1 rfl) ?_
            refine lv_iload_n E.1 E.2.1 dX6_run_66 rfl (lv_at hl 0 rfl) ?_
            refine r_if_eq (tgt := 74) E dX6_run_67 (by decide) (by omega) (fun c67 => ?_) (fun c67 => absurd c67 (by omega))
            refine r_const E dX6_run_74 ?_
            refine r_add E dX6_run_75 ?_
            refine lv_istore_n (lv' := [(1, .int (iI (v + 0))), (2, .int (iI (0))), (0, .ref (g))]) E.1 E.2.1 dX6_run_76 rfl hl (by decide) rfl (fun ls hl => ?_)
            refine lv_goto (tgt := 23) E.1 E.2.1 dX6_run_77 (by decide) ?_
            refine lv_iload_n E.1 E.2.1 dX6_run_23 rfl (lv_at hl 1 rfl) ?_
            refine r_if_eq (tgt := 80) E dX6_run_24 (by decide) (by omega) (fun c24 => ?_) (fun c24 => absurd c24 (by omega))
            refine lv_aload_n E.1 E.2.1 dX6_run_80 rfl (lv_at hl 2 rfl) ?_
            refine lv_iload_n E.1 E.2.1 dX6_run_81 rfl (lv_at hl 0 rfl) ?_
            refine kVWE (As := [.int (iI (v + 0))]) E cw_X6_98 (c_X6_records G l g hs _ _ _ _ _ _ σ pf hpk (v + 0) (by unfold okI; omega) (by omega)) ho ⟨_, _, rfl⟩ ⟨ho, hbf, hpf⟩ hL hl.1 rfl rfl (Nat.le_of_ble_eq_true rfl) ⟨Nat.le_of_ble_eq_true rfl, Nat.le_of_ble_eq_true rfl⟩ ⟨Nat.le_of_ble_eq_true rfl, Nat.le_of_ble_eq_true rfl⟩ dX6_run_82 (fun H7 locs hL hw_ => ?_)
            obtain ⟨⟨pf1, ho, hpf, hpk⟩, hQ⟩ := hw_
            have ha := ha.kept (hQ.2 _ (by omega))
            have hbf := hbf.kept (hQ.2 _ (by omega))
            have htx := htx.kept (hQ.2 _ (by omega))
            have hS := hS.trans hQ.S
            refine e_iret (rm := ({ frames := 6, cells := 0, slots := 0, locals := 131 } : Room)) (v := iI (v + 0)) E hL dX6_run_85 ?_
            have hce : (spCmd σ1 (c_, x_, y_)).2 = σ1 := hbd.2.2 (by omega)
            have hsp : spRun σ hs tx len = ((t : Int), σ1, recd hs σ) := by unfold spRun; rw [if_pos hok0, hpr, pRun_no hpc2.2.1 hcm (by omega)]
            rw [hce] at ha
            rw [hsp]
            have hve : v + 0 = (t : Int) := by omega
            rw [hve] at ho hpk ⊢
            have hha : hsA σ hs (t : Int) = recd hs σ := by unfold hsA; rw [if_neg (by omega)]
            rw [hha] at ho hpk
            exact ⟨rfl, ⟨⟨_, _, _, _, _, _, _, ho, ha, hbf, hpf, hpk, htx⟩, hS⟩⟩
          · refine r_const E dX6_run_59 ?_
            refine lv_goto (tgt := 64) E.1 E.2.1 dX6_run_60 (by decide) ?_
            refine lv_istore_n (lv' := [(2, .int (iI (1))), (1, .int (iI (v))), (0, .ref (g))]) E.1 E.2.1 dX6_run_64 rfl hl (by decide) rfl (fun ls hl => ?_)
            refine lv_iload_n E.1 E.2.1 dX6_run_65 rfl (lv_at hl 1 rfl) ?_
            refine lv_iload_n E.1 E.2.1 dX6_run_66 rfl (lv_at hl 0 rfl) ?_
            refine r_if_eq (tgt := 74) E dX6_run_67 (by decide) (by omega) (fun c67 => absurd c67 (by omega)) (fun c67 => ?_)
            refine r_const E dX6_run_70 ?_
            refine lv_goto (tgt := 75) E.1 E.2.1 dX6_run_71 (by decide) ?_
            refine r_add E dX6_run_75 ?_
            refine lv_istore_n (lv' := [(1, .int (iI (v + 1))), (2, .int (iI (1))), (0, .ref (g))]) E.1 E.2.1 dX6_run_76 rfl hl (by decide) rfl (fun ls hl => ?_)
            refine lv_goto (tgt := 23) E.1 E.2.1 dX6_run_77 (by decide) ?_
            refine ihin23 _ ?_ (t + 1) ((pCmd tx len q).1 + 1) ((spCmd σ1 (c_, x_, y_)).2) le fi sc H6 1 (v + 1) ls locs ?_ ?_ ?_ ?_ ?_ ?_ ?_ ?_ ?_ ?_ ?_ ?_ ?_ rfl (lv_sub hl [1, 0, 2] rfl) hL
            · omega
            · omega
            · rfl
            · omega
            · omega
            · exact hI1.cmd _
            · rcases hfn with hfn | hfn
              · exact Or.inr (by omega)
              · exact Or.inl hfn.2
            · rw [hpr, pRun_go hpc2.2.1 hcm (by omega) hpc.1]
            · exact ho
            · exact ha
            · exact hbf
            · exact hpf
            · exact htx
            · exact hS
    refine LP23 _ 0 0 σ le fi sc H3 1 0 ls locs ?_ ?_ ?_ ?_ ?_ ?_ ?_ ?_ ?_ ?_ ?_ ?_ ?_ rfl (lv_sub hl [0, 1, 2] rfl) hL
    · omega
    · rfl
    · rfl
    · omega
    · exact hI
    · exact Or.inl hok0
    · rfl
    · exact ho
    · exact ha
    · exact hbf
    · exact hpf
    · exact htx
    · exact hS
  · have c4 := of_decide_eq_false c4
    refine r_bipush E dX6_run_7 (by decide) ?_
    refine e_iret (rm := ({ frames := 6, cells := 0, slots := 0, locals := 131 } : Room)) (v := iI ((-3))) E hL dX6_run_9 ?_
    have hsp : spRun σ hs tx len = (-3, σ, hs) := by unfold spRun; rw [if_neg c4]
    rw [hsp]
    exact ⟨rfl, ⟨⟨_, _, _, _, _, _, _, ho, ha, hbf, hpf, hpk, htx⟩, hS⟩⟩
