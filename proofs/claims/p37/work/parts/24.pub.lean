set_option maxHeartbeats 4000000 in
set_option maxRecDepth 100000 in
theorem c_X5_sessions (G : GG) (l : Launch) (x fb : Nat) (fl : Nat → Option Fil) (σ : St) (hs : List St) (tx : Nat → Int) (len : Nat) (hI : Inv σ) (hT : TxOk tx len) (hfx : x + 179 ≤ fb) (hgx : G.2.2 ≤ x) : Ct G l yX5_sessions cX5_sessions 1 (some .int) ({ frames := 0, cells := 0, slots := 0, locals := 0 } : Room) [.ref (x)] (fun H => XAt G x fb fl σ hs tx len H) (RE (iI ((mn σ : Int)))) := by
  refine Ct.of (by decide +kernel) (Nat.le_of_ble_eq_true rfl) ?_
  intro p e s m args below meth c ls E hnm hP hl
  obtain ⟨hx0, hP, ⟨o, hH⟩, ⟨p1, le, fi, sc, ho, ha⟩, hFl⟩ := hP
  obtain ⟨b, hbe⟩ : ∃ b, b = x + 1 := ⟨_, rfl⟩
  obtain ⟨hh, hhe⟩ : ∃ q, q = x + 30 := ⟨_, rfl⟩
  obtain ⟨a, hae⟩ : ∃ q, q = x + 177 := ⟨_, rfl⟩
  rw [← hbe] at hx0 hP
  rw [← hhe] at hx0 hH
  rw [← hae] at hx0 ho ha
  have i1 := hI.mn12
  have i2 := hI.nx240
  have hl : lv_has ls 1 [(0, .ref (x))] := hl
  have hL : Lk G [] := Lk.nil
  generalize ([] : List Loc) = locs at hL ⊢
  refine lv_aload_n E.1 E.2.1 dX5_sessions_0 rfl (lv_at hl 0 rfl) ?_
  refine m_get E hx0 fw_X5_12 rfl dX5_sessions_1 ?_
  refine m_get E hP.1 fw_X5_102 rfl dX5_sessions_4 ?_
  refine e_iret (rm := ({ frames := 0, cells := 0, slots := 0, locals := 0 } : Room)) (v := iI ((mn σ : Int))) E hL dX5_sessions_7 ?_
  exact RE_i (by rfl)

set_option maxHeartbeats 4000000 in
set_option maxRecDepth 100000 in
theorem c_X5_next (G : GG) (l : Launch) (x fb : Nat) (fl : Nat → Option Fil) (σ : St) (hs : List St) (tx : Nat → Int) (len : Nat) (hI : Inv σ) (hT : TxOk tx len) (hfx : x + 179 ≤ fb) (hgx : G.2.2 ≤ x) : Ct G l yX5_next cX5_next 1 (some .int) ({ frames := 0, cells := 0, slots := 0, locals := 0 } : Room) [.ref (x)] (fun H => XAt G x fb fl σ hs tx len H) (RE (iI ((nx σ : Int)))) := by
  refine Ct.of (by decide +kernel) (Nat.le_of_ble_eq_true rfl) ?_
  intro p e s m args below meth c ls E hnm hP hl
  obtain ⟨hx0, hP, ⟨o, hH⟩, ⟨p1, le, fi, sc, ho, ha⟩, hFl⟩ := hP
  obtain ⟨b, hbe⟩ : ∃ b, b = x + 1 := ⟨_, rfl⟩
  obtain ⟨hh, hhe⟩ : ∃ q, q = x + 30 := ⟨_, rfl⟩
  obtain ⟨a, hae⟩ : ∃ q, q = x + 177 := ⟨_, rfl⟩
  rw [← hbe] at hx0 hP
  rw [← hhe] at hx0 hH
  rw [← hae] at hx0 ho ha
  have i1 := hI.mn12
  have i2 := hI.nx240
  have hl : lv_has ls 1 [(0, .ref (x))] := hl
  have hL : Lk G [] := Lk.nil
  generalize ([] : List Loc) = locs at hL ⊢
  refine lv_aload_n E.1 E.2.1 dX5_next_0 rfl (lv_at hl 0 rfl) ?_
  refine m_get E hx0 fw_X5_12 rfl dX5_next_1 ?_
  refine m_get E hP.1 fw_X5_155 rfl dX5_next_4 ?_
  refine e_iret (rm := ({ frames := 0, cells := 0, slots := 0, locals := 0 } : Room)) (v := iI ((nx σ : Int))) E hL dX5_next_7 ?_
  exact RE_i (by rfl)

set_option maxHeartbeats 4000000 in
set_option maxRecDepth 100000 in
theorem c_X5_valid (G : GG) (l : Launch) (x fb : Nat) (fl : Nat → Option Fil) (σ : St) (hs : List St) (tx : Nat → Int) (len : Nat) (hI : Inv σ) (hT : TxOk tx len) (hfx : x + 179 ≤ fb) (hgx : G.2.2 ≤ x) : Ct G l yX5_valid cX5_valid 1 (some .int) ({ frames := 4, cells := 0, slots := 0, locals := 94 } : Room) [.ref (x)] (fun H => XAt G x fb fl σ hs tx len H) (RE (iI (spValid σ))) := by
  refine Ct.of (by decide +kernel) (Nat.le_of_ble_eq_true rfl) ?_
  intro p e s m args below meth c ls E hnm hP hl
  obtain ⟨hx0, hP, ⟨o, hH⟩, ⟨p1, le, fi, sc, ho, ha⟩, hFl⟩ := hP
  obtain ⟨b, hbe⟩ : ∃ b, b = x + 1 := ⟨_, rfl⟩
  obtain ⟨hh, hhe⟩ : ∃ q, q = x + 30 := ⟨_, rfl⟩
  obtain ⟨a, hae⟩ : ∃ q, q = x + 177 := ⟨_, rfl⟩
  rw [← hbe] at hx0 hP
  rw [← hhe] at hx0 hH
  rw [← hae] at hx0 ho ha
  have i1 := hI.mn12
  have i2 := hI.nx240
  have hl : lv_has ls 1 [(0, .ref (x))] := hl
  have hL : Lk G [] := Lk.nil
  generalize ([] : List Loc) = locs at hL ⊢
  refine lv_aload_n E.1 E.2.1 dX5_valid_0 rfl (lv_at hl 0 rfl) ?_
  refine m_get E hx0 fw_X5_12 rfl dX5_valid_1 ?_
  refine r_const E dX5_valid_4 ?_
  refine kVRE (As := [.int (iI ((-1)))]) E cw_X5_152 (c_X1_validNumberIf G l b fl σ hI ((-1)) (by unfold okI; omega)) hP.1 ⟨_, _, rfl⟩ hP hL hl.1 rfl rfl (Nat.le_of_ble_eq_true rfl) ⟨Nat.le_of_ble_eq_true rfl, Nat.le_of_ble_eq_true rfl⟩ ⟨rfl, rfl⟩ ⟨Nat.le_of_ble_eq_true rfl, Nat.le_of_ble_eq_true rfl⟩ dX5_valid_5 (fun locs hL => ?_)
  rw [dmH_m1 (σ := σ) (h := -1) (by decide)]
  refine e_iret (rm := ({ frames := 4, cells := 0, slots := 0, locals := 94 } : Room)) (v := iI (oI (validD σ (dm σ)))) E hL dX5_valid_8 ?_
  exact RE_i (by rfl)

set_option maxHeartbeats 4000000 in
set_option maxRecDepth 100000 in
theorem c_X5_session (G : GG) (l : Launch) (x fb : Nat) (fl : Nat → Option Fil) (σ : St) (hs : List St) (tx : Nat → Int) (len : Nat) (hI : Inv σ) (hT : TxOk tx len) (hfx : x + 179 ≤ fb) (hgx : G.2.2 ≤ x) (y z : Int) (hy : okI y) (hz : okI z) : Ct G l yX5_session cX5_session 4 (some .int) ({ frames := 3, cells := 0, slots := 0, locals := 71 } : Room) [.ref (x), .int (iI (y)), .int (iI (z))] (fun H => XAt G x fb fl σ hs tx len H) (RE (iI (spSession σ y z))) := by
  refine Ct.of (by decide +kernel) (Nat.le_of_ble_eq_true rfl) ?_
  intro p e s m args below meth c ls E hnm hP hl
  obtain ⟨hx0, hP, ⟨o, hH⟩, ⟨p1, le, fi, sc, ho, ha⟩, hFl⟩ := hP
  obtain ⟨b, hbe⟩ : ∃ b, b = x + 1 := ⟨_, rfl⟩
  obtain ⟨hh, hhe⟩ : ∃ q, q = x + 30 := ⟨_, rfl⟩
  obtain ⟨a, hae⟩ : ∃ q, q = x + 177 := ⟨_, rfl⟩
  rw [← hbe] at hx0 hP
  rw [← hhe] at hx0 hH
  rw [← hae] at hx0 ho ha
  have i1 := hI.mn12
  have i2 := hI.nx240
  obtain ⟨hy1, hy2⟩ := hy
  obtain ⟨hz1, hz2⟩ := hz
  have hl : lv_has ls 4 [(0, .ref (x)), (1, .int (iI (y))), (2, .int (iI (z)))] := hl
  have hL : Lk G [] := Lk.nil
  generalize ([] : List Loc) = locs at hL ⊢
  refine lv_aload_n E.1 E.2.1 dX5_session_0 rfl (lv_at hl 0 rfl) ?_
  refine m_get E hx0 fw_X5_12 rfl dX5_session_1 ?_
  refine lv_iload_n E.1 E.2.1 dX5_session_4 rfl (lv_at hl 1 rfl) ?_
  by_cases h0 : 0 ≤ y ∧ y < mn σ
  · obtain ⟨n, rfl⟩ : ∃ n : Nat, y = (n : Int) := ⟨y.toNat, by omega⟩
    have hrow := hI.row (n := n) (by omega)
    obtain ⟨t_, ho_, hr_, ht_⟩ := hP.live (n := n) (by omega) (by omega)
    refine kVQE (As := [.int (iI ((n : Int)))]) E cw_X5_105 (c_sessionAt_s G l b fl σ hI n (by omega)) hP.1 ⟨_, _, rfl⟩ hP hL hl.1 rfl rfl (Nat.le_of_ble_eq_true rfl) ⟨Nat.le_of_ble_eq_true rfl, Nat.le_of_ble_eq_true rfl⟩ ⟨rfl, rfl⟩ ⟨Nat.le_of_ble_eq_true rfl, Nat.le_of_ble_eq_true rfl⟩ dX5_session_5 (fun locs hL => ?_)
    refine lv_astore_n (lv' := [(3, .ref (b + 5 + 2 * n)), (0, .ref (x)), (1, .int (iI ((n : Int)))), (2, .int (iI (z)))]) E.1 E.2.1 dX5_session_8 rfl hl (by decide) rfl (fun ls hl => ?_)
    refine lv_aload_n E.1 E.2.1 dX5_session_9 rfl (lv_at hl 0 rfl) ?_
    refine lv_ifnonnull (tgt := 15) E.1 E.2.1 dX5_session_10 (by decide) ?_
    refine lv_iload_n E.1 E.2.1 dX5_session_15 rfl (lv_at hl 3 rfl) ?_
    by_cases ts0 : (z) = 0
    · refine lv_tableIn (off := 48) (tgt := 64) E.1 E.2.1 dX5_session_16 (by rw [iI_toInt (by omega) (by omega)]; omega) (by rw [iI_toInt (by omega) (by omega)]; omega) (by rw [iI_toInt (by omega) (by omega), ts0]; rfl) (by decide) ?_
      refine lv_aload_n E.1 E.2.1 dX5_session_64 rfl (lv_at hl 0 rfl) ?_
      refine m_get E ho_ fw_X5_109 rfl dX5_session_65 ?_
      refine e_iret (rm := ({ frames := 3, cells := 0, slots := 0, locals := 71 } : Room)) (v := iI ((se σ n 0 : Int))) E hL dX5_session_68 ?_
      exact RE_i (by subst ts0; unfold spSession; rw [if_neg (by omega), if_pos (by omega), Int.toNat_natCast]; rfl)
    by_cases ts1 : (z) = 1
    · refine lv_tableIn (off := 53) (tgt := 69) E.1 E.2.1 dX5_session_16 (by rw [iI_toInt (by omega) (by omega)]; omega) (by rw [iI_toInt (by omega) (by omega)]; omega) (by rw [iI_toInt (by omega) (by omega), ts1]; rfl) (by decide) ?_
      refine lv_aload_n E.1 E.2.1 dX5_session_69 rfl (lv_at hl 0 rfl) ?_
      refine m_get E ho_ fw_X5_114 rfl dX5_session_70 ?_
      refine e_iret (rm := ({ frames := 3, cells := 0, slots := 0, locals := 71 } : Room)) (v := iI ((se σ n 1 : Int))) E hL dX5_session_73 ?_
      exact RE_i (by subst ts1; unfold spSession; rw [if_neg (by omega), if_pos (by omega), Int.toNat_natCast]; rfl)
    by_cases ts2 : (z) = 2
    · refine lv_tableIn (off := 58) (tgt := 74) E.1 E.2.1 dX5_session_16 (by rw [iI_toInt (by omega) (by omega)]; omega) (by rw [iI_toInt (by omega) (by omega)]; omega) (by rw [iI_toInt (by omega) (by omega), ts2]; rfl) (by decide) ?_
      refine lv_aload_n E.1 E.2.1 dX5_session_74 rfl (lv_at hl 0 rfl) ?_
      refine m_get E ho_ fw_X5_117 rfl dX5_session_75 ?_
      refine lv_aload_n E.1 E.2.1 dX5_session_78 rfl (lv_at hl 0 rfl) ?_
      refine m_get E ho_ fw_X5_114 rfl dX5_session_79 ?_
      refine r_sub E dX5_session_82 ?_
      refine e_iret (rm := ({ frames := 3, cells := 0, slots := 0, locals := 71 } : Room)) (v := iI ((((se σ n 1 : Int) + (se σ n 2 : Int))) - (se σ n 1 : Int))) E hL dX5_session_83 ?_
      exact RE_i (by subst ts2; unfold spSession; rw [if_neg (by omega), if_pos (by omega), Int.toNat_natCast]; show _ = ((se σ n 2 : Nat) : Int); omega)
    by_cases ts3 : (z) = 3
    · refine lv_tableIn (off := 68) (tgt := 84) E.1 E.2.1 dX5_session_16 (by rw [iI_toInt (by omega) (by omega)]; omega) (by rw [iI_toInt (by omega) (by omega)]; omega) (by rw [iI_toInt (by omega) (by omega), ts3]; rfl) (by decide) ?_
      refine lv_aload_n E.1 E.2.1 dX5_session_84 rfl (lv_at hl 0 rfl) ?_
      refine m_get E ho_ fw_X5_120 rfl dX5_session_85 ?_
      refine e_iret (rm := ({ frames := 3, cells := 0, slots := 0, locals := 71 } : Room)) (v := iI ((se σ n 3 : Int))) E hL dX5_session_88 ?_
      exact RE_i (by subst ts3; unfold spSession; rw [if_neg (by omega), if_pos (by omega), Int.toNat_natCast]; rfl)
    by_cases ts4 : (z) = 4
    · refine lv_tableIn (off := 73) (tgt := 89) E.1 E.2.1 dX5_session_16 (by rw [iI_toInt (by omega) (by omega)]; omega) (by rw [iI_toInt (by omega) (by omega)]; omega) (by rw [iI_toInt (by omega) (by omega), ts4]; rfl) (by decide) ?_
      refine lv_aload_n E.1 E.2.1 dX5_session_89 rfl (lv_at hl 0 rfl) ?_
      refine m_get E ho_ fw_X5_123 rfl dX5_session_90 ?_
      refine e_iret (rm := ({ frames := 3, cells := 0, slots := 0, locals := 71 } : Room)) (v := iI ((se σ n 4 : Int))) E hL dX5_session_93 ?_
      exact RE_i (by subst ts4; unfold spSession; rw [if_neg (by omega), if_pos (by omega), Int.toNat_natCast]; rfl)
    by_cases ts5 : (z) = 5
    · refine lv_tableIn (off := 78) (tgt := 94) E.1 E.2.1 dX5_session_16 (by rw [iI_toInt (by omega) (by omega)]; omega) (by rw [iI_toInt (by omega) (by omega)]; omega) (by rw [iI_toInt (by omega) (by omega), ts5]; rfl) (by decide) ?_
      refine lv_aload_n E.1 E.2.1 dX5_session_94 rfl (lv_at hl 0 rfl) ?_
      refine kVRE (As := []) E cw_X5_126 (c_X3_countEntries G l (b + 5 + 2 * n) (encR (se σ n)) t_) ho_ ⟨_, _, rfl⟩ ⟨ho_, hr_⟩ hL hl.1 rfl rfl (Nat.le_of_ble_eq_true rfl) ⟨Nat.le_of_ble_eq_true rfl, Nat.le_of_ble_eq_true rfl⟩ ⟨rfl, rfl⟩ ⟨Nat.le_of_ble_eq_true rfl, Nat.le_of_ble_eq_true rfl⟩ dX5_session_95 (fun locs hL => ?_)
      refine e_iret (rm := ({ frames := 3, cells := 0, slots := 0, locals := 71 } : Room)) (v := iI ((cntB (fun k => (t_ k).isSome) 20 : Int))) E hL dX5_session_98 ?_
      exact RE_i (by subst ts5; unfold spSession; rw [if_neg (by omega), if_neg (by omega), if_pos rfl, Int.toNat_natCast]; exact congrArg (fun z : Nat => (z : Int)) (cntB_congr (fun j hj => ht_.some hj)))
    by_cases ts6 : (z) = 6
    · refine lv_tableIn (off := 83) (tgt := 99) E.1 E.2.1 dX5_session_16 (by rw [iI_toInt (by omega) (by omega)]; omega) (by rw [iI_toInt (by omega) (by omega)]; omega) (by rw [iI_toInt (by omega) (by omega), ts6]; rfl) (by decide) ?_
      refine lv_aload_n E.1 E.2.1 dX5_session_99 rfl (lv_at hl 1 rfl) ?_
      refine m_get E hx0 fw_X5_12 rfl dX5_session_100 ?_
      refine lv_aload_n E.1 E.2.1 dX5_session_103 rfl (lv_at hl 0 rfl) ?_
      refine r_const E dX5_session_104 ?_
      refine kVRE (As := [.ref (b + 5 + 2 * n), .int (iI ((-1)))]) E cw_X5_129 (c_X1_isReadableIf G l b fl σ hI (n) ((-1)) (by unfold okI; omega) (by omega)) hP.1 ⟨_, _, rfl⟩ hP hL hl.1 rfl rfl (Nat.le_of_ble_eq_true rfl) ⟨Nat.le_of_ble_eq_true rfl, Nat.le_of_ble_eq_true rfl⟩ ⟨rfl, rfl⟩ ⟨Nat.le_of_ble_eq_true rfl, Nat.le_of_ble_eq_true rfl⟩ dX5_session_105 (fun locs hL => ?_)
      rw [dmH_m1 (σ := σ) (h := -1) (by decide)]
      refine r_bif_eq (tgt := 115) E dX5_session_108 (by decide)  (fun c108 => ?_) (fun c108 => ?_)
      · refine r_const E dX5_session_115 ?_
        refine e_iret (rm := ({ frames := 3, cells := 0, slots := 0, locals := 71 } : Room)) (v := iI (0)) E hL dX5_session_116 ?_
        exact RE_i (by subst ts6; unfold spSession; rw [if_neg (by omega), if_neg (by omega), if_neg (by omega), if_pos rfl, Int.toNat_natCast, c108]; rfl)
      · refine r_const E dX5_session_111 ?_
        refine lv_goto (tgt := 116) E.1 E.2.1 dX5_session_112 (by decide) ?_
        refine e_iret (rm := ({ frames := 3, cells := 0, slots := 0, locals := 71 } : Room)) (v := iI (1)) E hL dX5_session_116 ?_
        exact RE_i (by subst ts6; unfold spSession; rw [if_neg (by omega), if_neg (by omega), if_neg (by omega), if_pos rfl, Int.toNat_natCast, c108]; rfl)
    by_cases ts7 : (z) = 7
    · refine lv_tableIn (off := 101) (tgt := 117) E.1 E.2.1 dX5_session_16 (by rw [iI_toInt (by omega) (by omega)]; omega) (by rw [iI_toInt (by omega) (by omega)]; omega) (by rw [iI_toInt (by omega) (by omega), ts7]; rfl) (by decide) ?_
      refine lv_aload_n E.1 E.2.1 dX5_session_117 rfl (lv_at hl 0 rfl) ?_
      refine m_get E ho_ fw_X5_133 rfl dX5_session_118 ?_
      refine e_iret (rm := ({ frames := 3, cells := 0, slots := 0, locals := 71 } : Room)) (v := iI ((se σ n 5 : Int))) E hL dX5_session_121 ?_
      exact RE_i (by subst ts7; unfold spSession; rw [if_neg (by omega), if_neg (by omega), if_neg (by omega), if_neg (by omega), if_pos rfl, Int.toNat_natCast])
    refine lv_tableOut (tgt := 122) E.1 E.2.1 dX5_session_16 (by rw [iI_toInt (by omega) (by omega)]; omega) (by decide) ?_
    refine r_bipush E dX5_session_122 (by decide) ?_
    refine e_iret (rm := ({ frames := 3, cells := 0, slots := 0, locals := 71 } : Room)) (v := iI ((-2))) E hL dX5_session_124 ?_
    exact RE_i (by unfold spSession; rw [if_neg (by omega), if_neg (by omega), if_neg (by omega), if_neg (by omega), if_neg (by omega)])
  · refine kVQE (As := [.int (iI (y))]) E cw_X5_105 (c_sessionAt_n G l b fl σ hI (y) (by unfold okI; omega) (by omega)) hP.1 ⟨_, _, rfl⟩ hP hL hl.1 rfl rfl (Nat.le_of_ble_eq_true rfl) ⟨Nat.le_of_ble_eq_true rfl, Nat.le_of_ble_eq_true rfl⟩ ⟨rfl, rfl⟩ ⟨Nat.le_of_ble_eq_true rfl, Nat.le_of_ble_eq_true rfl⟩ dX5_session_5 (fun locs hL => ?_)
    refine lv_astore_nN (lv' := [(3, .null), (0, .ref (x)), (1, .int (iI (y))), (2, .int (iI (z)))]) E.1 E.2.1 dX5_session_8 rfl hl (by decide) rfl (fun ls hl => ?_)
    refine lv_aload_nN E.1 E.2.1 dX5_session_9 rfl (lv_at hl 0 rfl) ?_
    refine lv_ifnonnullN E.1 E.2.1 dX5_session_10 ?_
    refine r_const E dX5_session_13 ?_
    refine e_iret (rm := ({ frames := 3, cells := 0, slots := 0, locals := 71 } : Room)) (v := iI ((-1))) E hL dX5_session_14 ?_
    exact RE_i (by unfold spSession; rw [if_pos (by omega)])

set_option maxHeartbeats 4000000 in
set_option maxRecDepth 100000 in
theorem c_X5_entry (G : GG) (l : Launch) (x fb : Nat) (fl : Nat → Option Fil) (σ : St) (hs : List St) (tx : Nat → Int) (len : Nat) (hI : Inv σ) (hT : TxOk tx len) (hfx : x + 179 ≤ fb) (hgx : G.2.2 ≤ x) (y z u : Int) (hy : okI y) (hz : okI z) (hu : okI u) : Ct G l yX5_entry cX5_entry 6 (some .int) ({ frames := 2, cells := 0, slots := 0, locals := 41 } : Room) [.ref (x), .int (iI (y)), .int (iI (z)), .int (iI (u))] (fun H => XAt G x fb fl σ hs tx len H) (RE (iI (spEntry σ y z u))) := by
  refine Ct.of (by decide +kernel) (Nat.le_of_ble_eq_true rfl) ?_
  intro p e s m args below meth c ls E hnm hP hl
  obtain ⟨hx0, hP, ⟨o, hH⟩, ⟨p1, le, fi, sc, ho, ha⟩, hFl⟩ := hP
  obtain ⟨b, hbe⟩ : ∃ b, b = x + 1 := ⟨_, rfl⟩
  obtain ⟨hh, hhe⟩ : ∃ q, q = x + 30 := ⟨_, rfl⟩
  obtain ⟨a, hae⟩ : ∃ q, q = x + 177 := ⟨_, rfl⟩
  rw [← hbe] at hx0 hP
  rw [← hhe] at hx0 hH
  rw [← hae] at hx0 ho ha
  have i1 := hI.mn12
  have i2 := hI.nx240
  obtain ⟨hy1, hy2⟩ := hy
  obtain ⟨hz1, hz2⟩ := hz
  obtain ⟨hu1, hu2⟩ := hu
  have hl : lv_has ls 6 [(0, .ref (x)), (1, .int (iI (y))), (2, .int (iI (z))), (3, .int (iI (u)))] := hl
  have hL : Lk G [] := Lk.nil
  generalize ([] : List Loc) = locs at hL ⊢
  refine lv_aload_n E.1 E.2.1 dX5_entry_0 rfl (lv_at hl 0 rfl) ?_
  refine m_get E hx0 fw_X5_12 rfl dX5_entry_1 ?_
  refine lv_iload_n E.1 E.2.1 dX5_entry_4 rfl (lv_at hl 1 rfl) ?_
  by_cases h0 : 0 ≤ y ∧ y < mn σ
  · obtain ⟨n, rfl⟩ : ∃ n : Nat, y = (n : Int) := ⟨y.toNat, by omega⟩
    have hrow := hI.row (n := n) (by omega)
    obtain ⟨t_, ho_, hr_, ht_⟩ := hP.live (n := n) (by omega) (by omega)
    refine kVQE (As := [.int (iI ((n : Int)))]) E cw_X5_105 (c_sessionAt_s G l b fl σ hI n (by omega)) hP.1 ⟨_, _, rfl⟩ hP hL hl.1 rfl rfl (Nat.le_of_ble_eq_true rfl) ⟨Nat.le_of_ble_eq_true rfl, Nat.le_of_ble_eq_true rfl⟩ ⟨rfl, rfl⟩ ⟨Nat.le_of_ble_eq_true rfl, Nat.le_of_ble_eq_true rfl⟩ dX5_entry_5 (fun locs hL => ?_)
    refine lv_astore (lv' := [(4, .ref (b + 5 + 2 * n)), (0, .ref (x)), (1, .int (iI ((n : Int)))), (2, .int (iI (z))), (3, .int (iI (u)))]) E.1 E.2.1 dX5_entry_8 hl (by decide) rfl (fun ls hl => ?_)
    refine lv_aload E.1 E.2.1 dX5_entry_10 (lv_at hl 0 rfl) ?_
    refine lv_ifnull E.1 E.2.1 dX5_entry_12 ?_
    refine lv_iload_n E.1 E.2.1 dX5_entry_15 rfl (lv_at hl 3 rfl) ?_
    refine kSRE (As := [.int (iI (z))]) E cw_X5_136 (c_X5_isName G l (z) (by unfold okI; omega)) trivial hL hl.1 rfl rfl (Nat.le_of_ble_eq_true rfl) ⟨Nat.le_of_ble_eq_true rfl, Nat.le_of_ble_eq_true rfl⟩ ⟨rfl, rfl⟩ ⟨Nat.le_of_ble_eq_true rfl, Nat.le_of_ble_eq_true rfl⟩ dX5_entry_16 (fun locs hL => ?_)
    refine r_bif_ne (tgt := 24) E dX5_entry_19 (by decide)  (fun c19 => ?_) (fun c19 => ?_)
    · have c19 := of_decide_eq_true c19
      obtain ⟨k, rfl⟩ : ∃ k : Nat, z = (k : Int) := ⟨z.toNat, by omega⟩
      refine lv_iload_n E.1 E.2.1 dX5_entry_24 rfl (lv_at hl 4 rfl) ?_
      refine r_if_lt (tgt := 33) E dX5_entry_25 (by decide) (by omega) (fun c25 => ?_) (fun c25 => ?_)
      · refine r_bipush E dX5_entry_33 (by decide) ?_
        refine e_iret (rm := ({ frames := 2, cells := 0, slots := 0, locals := 41 } : Room)) (v := iI ((-2))) E hL dX5_entry_35 ?_
        exact RE_i (by unfold spEntry; rw [if_neg (by omega), if_pos (by omega)])
      · refine lv_iload_n E.1 E.2.1 dX5_entry_28 rfl (lv_at hl 4 rfl) ?_
        refine r_const E dX5_entry_29 ?_
        refine r_icmp_le (tgt := 36) E dX5_entry_30 (by decide) (by omega) (by omega) (fun c30 => ?_) (fun c30 => ?_)
        · refine lv_aload E.1 E.2.1 dX5_entry_36 (lv_at hl 0 rfl) ?_
          refine lv_iload_n E.1 E.2.1 dX5_entry_38 rfl (lv_at hl 3 rfl) ?_
          refine kVQE (As := [.int (iI ((k : Int)))]) E cw_X5_139 (c_fileOf_in G l (b + 5 + 2 * n) (k) (encR (se σ n)) t_ (by omega)) ho_ ⟨_, _, rfl⟩ ⟨ho_, hr_⟩ hL hl.1 rfl rfl (Nat.le_of_ble_eq_true rfl) ⟨Nat.le_of_ble_eq_true rfl, Nat.le_of_ble_eq_true rfl⟩ ⟨rfl, rfl⟩ ⟨Nat.le_of_ble_eq_true rfl, Nat.le_of_ble_eq_true rfl⟩ dX5_entry_39 (fun locs hL => ?_)
          rcases htk : t_ (k) with _ | a
          · have he : none = en σ n (k) := by have h9 := (ht_ (k) (by omega)).1; rw [htk] at h9; exact h9
            refine lv_astoreN (lv' := [(5, .null), (4, .ref (b + 5 + 2 * n)), (0, .ref (x)), (1, .int (iI ((n : Int)))), (2, .int (iI ((k : Int)))), (3, .int (iI (u)))]) E.1 E.2.1 dX5_entry_42 hl (by decide) rfl (fun ls hl => ?_)
            refine lv_aloadN E.1 E.2.1 dX5_entry_44 (lv_at hl 0 rfl) ?_
            refine lv_ifnonnullN E.1 E.2.1 dX5_entry_46 ?_
            refine r_bipush E dX5_entry_49 (by decide) ?_
            refine e_iret (rm := ({ frames := 2, cells := 0, slots := 0, locals := 41 } : Room)) (v := iI ((-6))) E hL dX5_entry_51 ?_
            exact RE_i (by unfold spEntry; rw [if_neg (by omega), if_neg (by omega), Int.toNat_natCast, Int.toNat_natCast, ← he])
          · obtain ⟨f, hf⟩ := (ht_ (k) (by omega)).2 a htk
            have he : some f = en σ n (k) := by have h9 := (ht_ (k) (by omega)).1; rw [htk] at h9; rw [← h9]; exact hf.symm
            have hfb := hI.ent2 (n := n) (k := k) (by omega) (by omega) he.symm
            refine lv_astore (lv' := [(5, .ref (a)), (4, .ref (b + 5 + 2 * n)), (0, .ref (x)), (1, .int (iI ((n : Int)))), (2, .int (iI ((k : Int)))), (3, .int (iI (u)))]) E.1 E.2.1 dX5_entry_42 hl (by decide) rfl (fun ls hl => ?_)
            refine lv_aload E.1 E.2.1 dX5_entry_44 (lv_at hl 0 rfl) ?_
            refine lv_ifnonnull (tgt := 52) E.1 E.2.1 dX5_entry_46 (by decide) ?_
            refine lv_iload_n E.1 E.2.1 dX5_entry_52 rfl (lv_at hl 5 rfl) ?_
            by_cases ts0 : (u) = 0
            · refine lv_lookup (off := 27) (tgt := 80) E.1 E.2.1 dX5_entry_53 (by decide) (by rw [iI_toInt (by omega) (by omega), ts0]; rfl) (by decide) ?_
              refine lv_aload E.1 E.2.1 dX5_entry_80 (lv_at hl 0 rfl) ?_
              refine m_get E (hFl.2 a f hf).2 fw_X5_143 rfl dX5_entry_82 ?_
              refine e_iret (rm := ({ frames := 2, cells := 0, slots := 0, locals := 41 } : Room)) (v := iI ((f.1 : Int))) E hL dX5_entry_85 ?_
              exact RE_i (by unfold spEntry; rw [if_neg (by omega), if_neg (by omega), Int.toNat_natCast, Int.toNat_natCast, ← he]; simp only []; rw [if_pos (by omega)])
            by_cases ts1 : (u) = 1
            · refine lv_lookup (off := 33) (tgt := 86) E.1 E.2.1 dX5_entry_53 (by decide) (by rw [iI_toInt (by omega) (by omega), ts1]; rfl) (by decide) ?_
              refine lv_aload E.1 E.2.1 dX5_entry_86 (lv_at hl 0 rfl) ?_
              refine m_get E (hFl.2 a f hf).2 fw_X5_146 rfl dX5_entry_88 ?_
              refine e_iret (rm := ({ frames := 2, cells := 0, slots := 0, locals := 41 } : Room)) (v := iI ((f.2.1 : Int))) E hL dX5_entry_91 ?_
              exact RE_i (by unfold spEntry; rw [if_neg (by omega), if_neg (by omega), Int.toNat_natCast, Int.toNat_natCast, ← he]; simp only []; rw [if_neg (by omega), if_pos (by omega)])
            refine lv_lookup (off := 39) (tgt := 92) E.1 E.2.1 dX5_entry_53 (by decide) (by show Op.lookupswitch.offset [(0, 27), (1, 33)] 39 _ = _; rw [lv_osw (a := 0) (k := iI 0) (fun e9 => ts0 ((iI_eq (by omega) (by omega)).mp e9)) rfl, lv_osw (a := 1) (k := iI 1) (fun e9 => ts1 ((iI_eq (by omega) (by omega)).mp e9)) rfl]; rfl) (by decide) ?_
            refine lv_aload E.1 E.2.1 dX5_entry_92 (lv_at hl 0 rfl) ?_
            refine m_get E (hFl.2 a f hf).2 fw_X5_149 rfl dX5_entry_94 ?_
            refine e_iret (rm := ({ frames := 2, cells := 0, slots := 0, locals := 41 } : Room)) (v := iI ((f.2.2 : Int))) E hL dX5_entry_97 ?_
            exact RE_i (by unfold spEntry; rw [if_neg (by omega), if_neg (by omega), Int.toNat_natCast, Int.toNat_natCast, ← he]; simp only []; rw [if_neg (by omega), if_neg (by omega)])
        · refine r_bipush E dX5_entry_33 (by decide) ?_
          refine e_iret (rm := ({ frames := 2, cells := 0, slots := 0, locals := 41 } : Room)) (v := iI ((-2))) E hL dX5_entry_35 ?_
          exact RE_i (by unfold spEntry; rw [if_neg (by omega), if_pos (by omega)])
    · have c19 := of_decide_eq_false c19
      refine r_const E dX5_entry_22 ?_
      refine e_iret (rm := ({ frames := 2, cells := 0, slots := 0, locals := 41 } : Room)) (v := iI ((-1))) E hL dX5_entry_23 ?_
      exact RE_i (by unfold spEntry; rw [if_pos (by omega)])
  · refine kVQE (As := [.int (iI (y))]) E cw_X5_105 (c_sessionAt_n G l b fl σ hI (y) (by unfold okI; omega) (by omega)) hP.1 ⟨_, _, rfl⟩ hP hL hl.1 rfl rfl (Nat.le_of_ble_eq_true rfl) ⟨Nat.le_of_ble_eq_true rfl, Nat.le_of_ble_eq_true rfl⟩ ⟨rfl, rfl⟩ ⟨Nat.le_of_ble_eq_true rfl, Nat.le_of_ble_eq_true rfl⟩ dX5_entry_5 (fun locs hL => ?_)
    refine lv_astoreN (lv' := [(4, .null), (0, .ref (x)), (1, .int (iI (y))), (2, .int (iI (z))), (3, .int (iI (u)))]) E.1 E.2.1 dX5_entry_8 hl (by decide) rfl (fun ls hl => ?_)
    refine lv_aloadN E.1 E.2.1 dX5_entry_10 (lv_at hl 0 rfl) ?_
    refine lv_ifnullN (tgt := 22) E.1 E.2.1 dX5_entry_12 (by decide) ?_
    refine r_const E dX5_entry_22 ?_
    refine e_iret (rm := ({ frames := 2, cells := 0, slots := 0, locals := 41 } : Room)) (v := iI ((-1))) E hL dX5_entry_23 ?_
    exact RE_i (by unfold spEntry; rw [if_pos (by omega)])

set_option maxHeartbeats 4000000 in
set_option maxRecDepth 100000 in
theorem c_X5_damaged (G : GG) (l : Launch) (x fb : Nat) (fl : Nat → Option Fil) (σ : St) (hs : List St) (tx : Nat → Int) (len : Nat) (hI : Inv σ) (hT : TxOk tx len) (hfx : x + 179 ≤ fb) (hgx : G.2.2 ≤ x) (y : Int) (hy : okI y) : Ct G l yX5_damaged cX5_damaged 2 (some .int) ({ frames := 1, cells := 0, slots := 0, locals := 20 } : Room) [.ref (x), .int (iI (y))] (fun H => XAt G x fb fl σ hs tx len H) (RE (iI (spDamaged σ y))) := by
  refine Ct.of (by decide +kernel) (Nat.le_of_ble_eq_true rfl) ?_
  intro p e s m args below meth c ls E hnm hP hl
  obtain ⟨hx0, hP, ⟨o, hH⟩, ⟨p1, le, fi, sc, ho, ha⟩, hFl⟩ := hP
  obtain ⟨b, hbe⟩ : ∃ b, b = x + 1 := ⟨_, rfl⟩
  obtain ⟨hh, hhe⟩ : ∃ q, q = x + 30 := ⟨_, rfl⟩
  obtain ⟨a, hae⟩ : ∃ q, q = x + 177 := ⟨_, rfl⟩
  rw [← hbe] at hx0 hP
  rw [← hhe] at hx0 hH
  rw [← hae] at hx0 ho ha
  have i1 := hI.mn12
  have i2 := hI.nx240
  obtain ⟨hy1, hy2⟩ := hy
  have hl : lv_has ls 2 [(0, .ref (x)), (1, .int (iI (y)))] := hl
  have hL : Lk G [] := Lk.nil
  generalize ([] : List Loc) = locs at hL ⊢
  refine lv_iload_n E.1 E.2.1 dX5_damaged_0 rfl (lv_at hl 1 rfl) ?_
  refine kSRE (As := [.int (iI (y))]) E cw_X5_158 (c_X5_isSector G l (y) (by unfold okI; omega)) trivial hL hl.1 rfl rfl (Nat.le_of_ble_eq_true rfl) ⟨Nat.le_of_ble_eq_true rfl, Nat.le_of_ble_eq_true rfl⟩ ⟨rfl, rfl⟩ ⟨Nat.le_of_ble_eq_true rfl, Nat.le_of_ble_eq_true rfl⟩ dX5_damaged_1 (fun locs hL => ?_)
  refine r_bif_ne (tgt := 9) E dX5_damaged_4 (by decide)  (fun c4 => ?_) (fun c4 => ?_)
  · have c4 := of_decide_eq_true c4
    obtain ⟨k, rfl⟩ : ∃ k : Nat, y = (k : Int) := ⟨y.toNat, by omega⟩
    refine lv_aload_n E.1 E.2.1 dX5_damaged_9 rfl (lv_at hl 0 rfl) ?_
    refine m_get E hx0 fw_X5_12 rfl dX5_damaged_10 ?_
    refine m_get E hP.1 fw_X5_161 rfl dX5_damaged_13 ?_
    refine lv_iload_n E.1 E.2.1 dX5_damaged_16 rfl (lv_at hl 1 rfl) ?_
    refine r_zald E hP.2.2.1 (k) rfl (by omega) (by decide) dX5_damaged_17 ?_
    refine r_bif_eq (tgt := 25) E dX5_damaged_18 (by decide)  (fun c18 => ?_) (fun c18 => ?_)
    · refine r_const E dX5_damaged_25 ?_
      refine e_iret (rm := ({ frames := 1, cells := 0, slots := 0, locals := 20 } : Room)) (v := iI (0)) E hL dX5_damaged_26 ?_
      exact RE_i (by unfold spDamaged; rw [if_neg (by omega), Int.toNat_natCast, c18]; rfl)
    · refine r_const E dX5_damaged_21 ?_
      refine lv_goto (tgt := 26) E.1 E.2.1 dX5_damaged_22 (by decide) ?_
      refine e_iret (rm := ({ frames := 1, cells := 0, slots := 0, locals := 20 } : Room)) (v := iI (1)) E hL dX5_damaged_26 ?_
      exact RE_i (by unfold spDamaged; rw [if_neg (by omega), Int.toNat_natCast, c18]; rfl)
  · have c4 := of_decide_eq_false c4
    refine r_const E dX5_damaged_7 ?_
    refine e_iret (rm := ({ frames := 1, cells := 0, slots := 0, locals := 20 } : Room)) (v := iI ((-1))) E hL dX5_damaged_8 ?_
    exact RE_i (by unfold spDamaged; rw [if_pos (by omega)])

set_option maxHeartbeats 4000000 in
set_option maxRecDepth 100000 in
theorem c_X5_use (G : GG) (l : Launch) (x fb : Nat) (fl : Nat → Option Fil) (σ : St) (hs : List St) (tx : Nat → Int) (len : Nat) (hI : Inv σ) (hT : TxOk tx len) (hfx : x + 179 ≤ fb) (hgx : G.2.2 ≤ x) (y : Int) (hy : okI y) : Ct G l yX5_use cX5_use 2 (some .int) ({ frames := 2, cells := 0, slots := 0, locals := 44 } : Room) [.ref (x), .int (iI (y))] (fun H => XAt G x fb fl σ hs tx len H) (RE (iI (spUse σ y))) := by
  refine Ct.of (by decide +kernel) (Nat.le_of_ble_eq_true rfl) ?_
  intro p e s m args below meth c ls E hnm hP hl
  obtain ⟨hx0, hP, ⟨o, hH⟩, ⟨p1, le, fi, sc, ho, ha⟩, hFl⟩ := hP
  obtain ⟨b, hbe⟩ : ∃ b, b = x + 1 := ⟨_, rfl⟩
  obtain ⟨hh, hhe⟩ : ∃ q, q = x + 30 := ⟨_, rfl⟩
  obtain ⟨a, hae⟩ : ∃ q, q = x + 177 := ⟨_, rfl⟩
  rw [← hbe] at hx0 hP
  rw [← hhe] at hx0 hH
  rw [← hae] at hx0 ho ha
  have i1 := hI.mn12
  have i2 := hI.nx240
  obtain ⟨hy1, hy2⟩ := hy
  have hl : lv_has ls 2 [(0, .ref (x)), (1, .int (iI (y)))] := hl
  have hL : Lk G [] := Lk.nil
  generalize ([] : List Loc) = locs at hL ⊢
  refine lv_iload_n E.1 E.2.1 dX5_use_0 rfl (lv_at hl 1 rfl) ?_
  refine kSRE (As := [.int (iI (y))]) E cw_X5_158 (c_X5_isSector G l (y) (by unfold okI; omega)) trivial hL hl.1 rfl rfl (Nat.le_of_ble_eq_true rfl) ⟨Nat.le_of_ble_eq_true rfl, Nat.le_of_ble_eq_true rfl⟩ ⟨rfl, rfl⟩ ⟨Nat.le_of_ble_eq_true rfl, Nat.le_of_ble_eq_true rfl⟩ dX5_use_1 (fun locs hL => ?_)
  refine r_bif_eq (tgt := 18) E dX5_use_4 (by decide)  (fun c4 => ?_) (fun c4 => ?_)
  · have c4 := of_decide_eq_false c4
    refine r_const E dX5_use_18 ?_
    refine e_iret (rm := ({ frames := 2, cells := 0, slots := 0, locals := 44 } : Room)) (v := iI ((-1))) E hL dX5_use_19 ?_
    exact RE_i (by unfold spUse; rw [if_pos (by omega)])
  · have c4 := of_decide_eq_true c4
    refine lv_aload_n E.1 E.2.1 dX5_use_7 rfl (lv_at hl 0 rfl) ?_
    refine m_get E hx0 fw_X5_12 rfl dX5_use_8 ?_
    refine lv_iload_n E.1 E.2.1 dX5_use_11 rfl (lv_at hl 1 rfl) ?_
    refine kVRE (As := [.int (iI (y))]) E cw_X5_165 (c_X1_useOf G l b fl σ hI (y) (by omega)) hP.1 ⟨_, _, rfl⟩ hP hL hl.1 rfl rfl (Nat.le_of_ble_eq_true rfl) ⟨Nat.le_of_ble_eq_true rfl, Nat.le_of_ble_eq_true rfl⟩ ⟨rfl, rfl⟩ ⟨Nat.le_of_ble_eq_true rfl, Nat.le_of_ble_eq_true rfl⟩ dX5_use_12 (fun locs hL => ?_)
    refine lv_goto (tgt := 19) E.1 E.2.1 dX5_use_15 (by decide) ?_
    refine e_iret (rm := ({ frames := 2, cells := 0, slots := 0, locals := 44 } : Room)) (v := iI (useN σ (y).toNat)) E hL dX5_use_19 ?_
    exact RE_i (by unfold spUse; rw [if_neg (by omega)])

set_option maxHeartbeats 4000000 in
set_option maxRecDepth 100000 in
theorem c_X5_setting (G : GG) (l : Launch) (x fb : Nat) (fl : Nat → Option Fil) (σ : St) (hs : List St) (tx : Nat → Int) (len : Nat) (hI : Inv σ) (hT : TxOk tx len) (hfx : x + 179 ≤ fb) (hgx : G.2.2 ≤ x) (y : Int) (hy : okI y) : Ct G l yX5_setting cX5_setting 2 (some .int) ({ frames := 1, cells := 0, slots := 0, locals := 20 } : Room) [.ref (x), .int (iI (y))] (fun H => XAt G x fb fl σ hs tx len H) (RE (iI (spSetting σ y))) := by
  refine Ct.of (by decide +kernel) (Nat.le_of_ble_eq_true rfl) ?_
  intro p e s m args below meth c ls E hnm hP hl
  obtain ⟨hx0, hP, ⟨o, hH⟩, ⟨p1, le, fi, sc, ho, ha⟩, hFl⟩ := hP
  obtain ⟨b, hbe⟩ : ∃ b, b = x + 1 := ⟨_, rfl⟩
  obtain ⟨hh, hhe⟩ : ∃ q, q = x + 30 := ⟨_, rfl⟩
  obtain ⟨a, hae⟩ : ∃ q, q = x + 177 := ⟨_, rfl⟩
  rw [← hbe] at hx0 hP
  rw [← hhe] at hx0 hH
  rw [← hae] at hx0 ho ha
  have i1 := hI.mn12
  have i2 := hI.nx240
  obtain ⟨hy1, hy2⟩ := hy
  have hl : lv_has ls 2 [(0, .ref (x)), (1, .int (iI (y)))] := hl
  have hL : Lk G [] := Lk.nil
  generalize ([] : List Loc) = locs at hL ⊢
  refine lv_iload_n E.1 E.2.1 dX5_setting_0 rfl (lv_at hl 1 rfl) ?_
  refine kSRE (As := [.int (iI (y))]) E cw_X5_168 (c_X5_isSetting G l (y) (by unfold okI; omega)) trivial hL hl.1 rfl rfl (Nat.le_of_ble_eq_true rfl) ⟨Nat.le_of_ble_eq_true rfl, Nat.le_of_ble_eq_true rfl⟩ ⟨rfl, rfl⟩ ⟨Nat.le_of_ble_eq_true rfl, Nat.le_of_ble_eq_true rfl⟩ dX5_setting_1 (fun locs hL => ?_)
  refine r_bif_eq (tgt := 19) E dX5_setting_4 (by decide)  (fun c4 => ?_) (fun c4 => ?_)
  · have c4 := of_decide_eq_false c4
    refine r_const E dX5_setting_19 ?_
    refine e_iret (rm := ({ frames := 1, cells := 0, slots := 0, locals := 20 } : Room)) (v := iI ((-1))) E hL dX5_setting_20 ?_
    exact RE_i (by unfold spSetting; rw [if_neg (by omega), if_neg (by omega)])
  · have c4 := of_decide_eq_true c4
    rcases c4 with rfl | rfl
    · refine lv_aload_n E.1 E.2.1 dX5_setting_7 rfl (lv_at hl 0 rfl) ?_
      refine m_get E hx0 fw_X5_12 rfl dX5_setting_8 ?_
      refine m_get E hP.1 fw_X5_171 rfl dX5_setting_11 ?_
      refine lv_iload_n E.1 E.2.1 dX5_setting_14 rfl (lv_at hl 1 rfl) ?_
      refine r_iald E hP.2.2.2.2.1 (0) rfl (by decide) (by decide) dX5_setting_15 ?_
      rw [if_pos rfl]
      refine lv_goto (tgt := 20) E.1 E.2.1 dX5_setting_16 (by decide) ?_
      refine e_iret (rm := ({ frames := 1, cells := 0, slots := 0, locals := 20 } : Room)) (v := iI ((s0 σ : Int))) E hL dX5_setting_20 ?_
      exact RE_i (by rfl)
    · refine lv_aload_n E.1 E.2.1 dX5_setting_7 rfl (lv_at hl 0 rfl) ?_
      refine m_get E hx0 fw_X5_12 rfl dX5_setting_8 ?_
      refine m_get E hP.1 fw_X5_171 rfl dX5_setting_11 ?_
      refine lv_iload_n E.1 E.2.1 dX5_setting_14 rfl (lv_at hl 1 rfl) ?_
      refine r_iald E hP.2.2.2.2.1 (1) rfl (by decide) (by decide) dX5_setting_15 ?_
      rw [if_neg (by decide)]
      refine lv_goto (tgt := 20) E.1 E.2.1 dX5_setting_16 (by decide) ?_
      refine e_iret (rm := ({ frames := 1, cells := 0, slots := 0, locals := 20 } : Room)) (v := iI ((s1 σ : Int))) E hL dX5_setting_20 ?_
      exact RE_i (by rfl)

set_option maxHeartbeats 4000000 in
set_option maxRecDepth 100000 in
theorem c_X5_find (G : GG) (l : Launch) (x fb : Nat) (fl : Nat → Option Fil) (σ : St) (hs : List St) (tx : Nat → Int) (len : Nat) (hI : Inv σ) (hT : TxOk tx len) (hfx : x + 179 ≤ fb) (hgx : G.2.2 ≤ x) (y : Int) (hy : okI y) : Ct G l yX5_find cX5_find 3 (some .int) ({ frames := 5, cells := 0, slots := 0, locals := 116 } : Room) [.ref (x), .int (iI (y))] (fun H => XAt G x fb fl σ hs tx len H) (RE (iI (spFind σ y))) := by
  refine Ct.of (by decide +kernel) (Nat.le_of_ble_eq_true rfl) ?_
  intro p e s m args below meth c ls E hnm hP hl
  obtain ⟨hx0, hP, ⟨o, hH⟩, ⟨p1, le, fi, sc, ho, ha⟩, hFl⟩ := hP
  obtain ⟨b, hbe⟩ : ∃ b, b = x + 1 := ⟨_, rfl⟩
  obtain ⟨hh, hhe⟩ : ∃ q, q = x + 30 := ⟨_, rfl⟩
  obtain ⟨a, hae⟩ : ∃ q, q = x + 177 := ⟨_, rfl⟩
  rw [← hbe] at hx0 hP
  rw [← hhe] at hx0 hH
  rw [← hae] at hx0 ho ha
  have i1 := hI.mn12
  have i2 := hI.nx240
  obtain ⟨hy1, hy2⟩ := hy
  have hl : lv_has ls 3 [(0, .ref (x)), (1, .int (iI (y)))] := hl
  have hL : Lk G [] := Lk.nil
  generalize ([] : List Loc) = locs at hL ⊢
  refine lv_iload_n E.1 E.2.1 dX5_find_0 rfl (lv_at hl 1 rfl) ?_
  refine kSRE (As := [.int (iI (y))]) E cw_X5_136 (c_X5_isName G l (y) (by unfold okI; omega)) trivial hL hl.1 rfl rfl (Nat.le_of_ble_eq_true rfl) ⟨Nat.le_of_ble_eq_true rfl, Nat.le_of_ble_eq_true rfl⟩ ⟨rfl, rfl⟩ ⟨Nat.le_of_ble_eq_true rfl, Nat.le_of_ble_eq_true rfl⟩ dX5_find_1 (fun locs hL => ?_)
  refine r_bif_ne (tgt := 9) E dX5_find_4 (by decide)  (fun c4 => ?_) (fun c4 => ?_)
  · have c4 := of_decide_eq_true c4
    obtain ⟨k, rfl⟩ : ∃ k : Nat, y = (k : Int) := ⟨y.toNat, by omega⟩
    refine lv_aload_n E.1 E.2.1 dX5_find_9 rfl (lv_at hl 0 rfl) ?_
    refine m_get E hx0 fw_X5_12 rfl dX5_find_10 ?_
    refine lv_iload_n E.1 E.2.1 dX5_find_13 rfl (lv_at hl 1 rfl) ?_
    refine kVQX (As := [.int (iI ((k : Int)))]) E cw_X5_175 (c_X1_foundFile G l b fl σ hI k (by omega)) hP.1 ⟨_, _, rfl⟩ hP hL hl.1 rfl rfl (Nat.le_of_ble_eq_true rfl) ⟨Nat.le_of_ble_eq_true rfl, Nat.le_of_ble_eq_true rfl⟩ ⟨rfl, rfl⟩ ⟨Nat.le_of_ble_eq_true rfl, Nat.le_of_ble_eq_true rfl⟩ dX5_find_14 (fun r locs hL hr9 => ?_)
    obtain ⟨hr9, hr8⟩ := hr9
    cases r with
    | none =>
      have he : none = foundF σ k := hr9
      refine lv_astore_nN (lv' := [(2, .null), (0, .ref (x)), (1, .int (iI ((k : Int))))]) E.1 E.2.1 dX5_find_17 rfl hl (by decide) rfl (fun ls hl => ?_)
      refine lv_aload_nN E.1 E.2.1 dX5_find_18 rfl (lv_at hl 0 rfl) ?_
      refine lv_ifnonnullN E.1 E.2.1 dX5_find_19 ?_
      refine r_bipush E dX5_find_22 (by decide) ?_
      refine lv_goto (tgt := 31) E.1 E.2.1 dX5_find_24 (by decide) ?_
      refine e_iret (rm := ({ frames := 5, cells := 0, slots := 0, locals := 116 } : Room)) (v := iI ((-6))) E hL dX5_find_31 ?_
      exact RE_i (by unfold spFind; rw [if_neg (by omega), Int.toNat_natCast, ← he])
    | some q9 =>
      obtain ⟨f, hf⟩ := hr8 q9 rfl
      have he : some f = foundF σ k := by rw [← hr9]; exact hf.symm
      have hfb := foundF_b hI (by omega) he.symm
      refine lv_astore_n (lv' := [(2, .ref (q9)), (0, .ref (x)), (1, .int (iI ((k : Int))))]) E.1 E.2.1 dX5_find_17 rfl hl (by decide) rfl (fun ls hl => ?_)
      refine lv_aload_n E.1 E.2.1 dX5_find_18 rfl (lv_at hl 0 rfl) ?_
      refine lv_ifnonnull (tgt := 27) E.1 E.2.1 dX5_find_19 (by decide) ?_
      refine lv_aload_n E.1 E.2.1 dX5_find_27 rfl (lv_at hl 0 rfl) ?_
      refine m_get E (hFl.2 q9 f hf).2 fw_X5_143 rfl dX5_find_28 ?_
      refine e_iret (rm := ({ frames := 5, cells := 0, slots := 0, locals := 116 } : Room)) (v := iI ((f.1 : Int))) E hL dX5_find_31 ?_
      exact RE_i (by unfold spFind; rw [if_neg (by omega), Int.toNat_natCast, ← he])
  · have c4 := of_decide_eq_false c4
    refine r_const E dX5_find_7 ?_
    refine e_iret (rm := ({ frames := 5, cells := 0, slots := 0, locals := 116 } : Room)) (v := iI ((-1))) E hL dX5_find_8 ?_
    exact RE_i (by unfold spFind; rw [if_pos (by omega)])

set_option maxHeartbeats 4000000 in
set_option maxRecDepth 100000 in
theorem c_X5_intact (G : GG) (l : Launch) (x fb : Nat) (fl : Nat → Option Fil) (σ : St) (hs : List St) (tx : Nat → Int) (len : Nat) (hI : Inv σ) (hT : TxOk tx len) (hfx : x + 179 ≤ fb) (hgx : G.2.2 ≤ x) (y : Int) (hy : okI y) : Ct G l yX5_intact cX5_intact 3 (some .int) ({ frames := 5, cells := 0, slots := 0, locals := 116 } : Room) [.ref (x), .int (iI (y))] (fun H => XAt G x fb fl σ hs tx len H) (RE (iI (spIntact σ y))) := by
  refine Ct.of (by decide +kernel) (Nat.le_of_ble_eq_true rfl) ?_
  intro p e s m args below meth c ls E hnm hP hl
  obtain ⟨hx0, hP, ⟨o, hH⟩, ⟨p1, le, fi, sc, ho, ha⟩, hFl⟩ := hP
  obtain ⟨b, hbe⟩ : ∃ b, b = x + 1 := ⟨_, rfl⟩
  obtain ⟨hh, hhe⟩ : ∃ q, q = x + 30 := ⟨_, rfl⟩
  obtain ⟨a, hae⟩ : ∃ q, q = x + 177 := ⟨_, rfl⟩
  rw [← hbe] at hx0 hP
  rw [← hhe] at hx0 hH
  rw [← hae] at hx0 ho ha
  have i1 := hI.mn12
  have i2 := hI.nx240
  obtain ⟨hy1, hy2⟩ := hy
  have hl : lv_has ls 3 [(0, .ref (x)), (1, .int (iI (y)))] := hl
  have hL : Lk G [] := Lk.nil
  generalize ([] : List Loc) = locs at hL ⊢
  refine lv_iload_n E.1 E.2.1 dX5_intact_0 rfl (lv_at hl 1 rfl) ?_
  refine kSRE (As := [.int (iI (y))]) E cw_X5_136 (c_X5_isName G l (y) (by unfold okI; omega)) trivial hL hl.1 rfl rfl (Nat.le_of_ble_eq_true rfl) ⟨Nat.le_of_ble_eq_true rfl, Nat.le_of_ble_eq_true rfl⟩ ⟨rfl, rfl⟩ ⟨Nat.le_of_ble_eq_true rfl, Nat.le_of_ble_eq_true rfl⟩ dX5_intact_1 (fun locs hL => ?_)
  refine r_bif_ne (tgt := 9) E dX5_intact_4 (by decide)  (fun c4 => ?_) (fun c4 => ?_)
  · have c4 := of_decide_eq_true c4
    obtain ⟨k, rfl⟩ : ∃ k : Nat, y = (k : Int) := ⟨y.toNat, by omega⟩
    refine lv_aload_n E.1 E.2.1 dX5_intact_9 rfl (lv_at hl 0 rfl) ?_
    refine m_get E hx0 fw_X5_12 rfl dX5_intact_10 ?_
    refine lv_iload_n E.1 E.2.1 dX5_intact_13 rfl (lv_at hl 1 rfl) ?_
    refine kVQX (As := [.int (iI ((k : Int)))]) E cw_X5_175 (c_X1_foundFile G l b fl σ hI k (by omega)) hP.1 ⟨_, _, rfl⟩ hP hL hl.1 rfl rfl (Nat.le_of_ble_eq_true rfl) ⟨Nat.le_of_ble_eq_true rfl, Nat.le_of_ble_eq_true rfl⟩ ⟨rfl, rfl⟩ ⟨Nat.le_of_ble_eq_true rfl, Nat.le_of_ble_eq_true rfl⟩ dX5_intact_14 (fun r locs hL hr9 => ?_)
    obtain ⟨hr9, hr8⟩ := hr9
    cases r with
    | none =>
      have he : none = foundF σ k := hr9
      refine lv_astore_nN (lv' := [(2, .null), (0, .ref (x)), (1, .int (iI ((k : Int))))]) E.1 E.2.1 dX5_intact_17 rfl hl (by decide) rfl (fun ls hl => ?_)
      refine lv_aload_nN E.1 E.2.1 dX5_intact_18 rfl (lv_at hl 0 rfl) ?_
      refine lv_ifnonnullN E.1 E.2.1 dX5_intact_19 ?_
      refine r_bipush E dX5_intact_22 (by decide) ?_
      refine e_iret (rm := ({ frames := 5, cells := 0, slots := 0, locals := 116 } : Room)) (v := iI ((-6))) E hL dX5_intact_24 ?_
      exact RE_i (by unfold spIntact; rw [if_neg (by omega), Int.toNat_natCast, ← he])
    | some q9 =>
      obtain ⟨f, hf⟩ := hr8 q9 rfl
      have he : some f = foundF σ k := by rw [← hr9]; exact hf.symm
      have hfb := foundF_b hI (by omega) he.symm
      refine lv_astore_n (lv' := [(2, .ref (q9)), (0, .ref (x)), (1, .int (iI ((k : Int))))]) E.1 E.2.1 dX5_intact_17 rfl hl (by decide) rfl (fun ls hl => ?_)
      refine lv_aload_n E.1 E.2.1 dX5_intact_18 rfl (lv_at hl 0 rfl) ?_
      refine lv_ifnonnull (tgt := 25) E.1 E.2.1 dX5_intact_19 (by decide) ?_
      refine lv_aload_n E.1 E.2.1 dX5_intact_25 rfl (lv_at hl 1 rfl) ?_
      refine m_get E hx0 fw_X5_12 rfl dX5_intact_26 ?_
      refine lv_aload_n E.1 E.2.1 dX5_intact_29 rfl (lv_at hl 0 rfl) ?_
      refine r_const E dX5_intact_30 ?_
      refine kVRE (As := [.ref (q9), .int (iI ((-1)))]) E cw_X5_178 (c_X1_isIntactIf G l b fb fl σ (q9) (f) ((-1)) (by unfold okI; omega) (hf) (by omega)) hP.1 ⟨_, _, rfl⟩ ⟨hP, hFl⟩ hL hl.1 rfl rfl (Nat.le_of_ble_eq_true rfl) ⟨Nat.le_of_ble_eq_true rfl, Nat.le_of_ble_eq_true rfl⟩ ⟨rfl, rfl⟩ ⟨Nat.le_of_ble_eq_true rfl, Nat.le_of_ble_eq_true rfl⟩ dX5_intact_31 (fun locs hL => ?_)
      rw [dmH_m1 (σ := σ) (h := -1) (by decide)]
      refine r_bif_eq (tgt := 41) E dX5_intact_34 (by decide)  (fun c34 => ?_) (fun c34 => ?_)
      · refine r_const E dX5_intact_41 ?_
        refine e_iret (rm := ({ frames := 5, cells := 0, slots := 0, locals := 116 } : Room)) (v := iI (0)) E hL dX5_intact_42 ?_
        exact RE_i (by unfold spIntact; rw [if_neg (by omega), Int.toNat_natCast, ← he]; simp only []; rw [c34]; rfl)
      · refine r_const E dX5_intact_37 ?_
        refine lv_goto (tgt := 42) E.1 E.2.1 dX5_intact_38 (by decide) ?_
        refine e_iret (rm := ({ frames := 5, cells := 0, slots := 0, locals := 116 } : Room)) (v := iI (1)) E hL dX5_intact_42 ?_
        exact RE_i (by unfold spIntact; rw [if_neg (by omega), Int.toNat_natCast, ← he]; simp only []; rw [c34]; rfl)
  · have c4 := of_decide_eq_false c4
    refine r_const E dX5_intact_7 ?_
    refine e_iret (rm := ({ frames := 5, cells := 0, slots := 0, locals := 116 } : Room)) (v := iI ((-1))) E hL dX5_intact_8 ?_
    exact RE_i (by unfold spIntact; rw [if_pos (by omega)])

set_option maxHeartbeats 4000000 in
set_option maxRecDepth 100000 in
theorem c_X5_intactFiles (G : GG) (l : Launch) (x fb : Nat) (fl : Nat → Option Fil) (σ : St) (hs : List St) (tx : Nat → Int) (len : Nat) (hI : Inv σ) (hT : TxOk tx len) (hfx : x + 179 ≤ fb) (hgx : G.2.2 ≤ x) : Ct G l yX5_intactFiles cX5_intactFiles 1 (some .int) ({ frames := 5, cells := 0, slots := 0, locals := 119 } : Room) [.ref (x)] (fun H => XAt G x fb fl σ hs tx len H) (RE (iI (spIntactFiles σ))) := by
  refine Ct.of (by decide +kernel) (Nat.le_of_ble_eq_true rfl) ?_
  intro p e s m args below meth c ls E hnm hP hl
  obtain ⟨hx0, hP, ⟨o, hH⟩, ⟨p1, le, fi, sc, ho, ha⟩, hFl⟩ := hP
  obtain ⟨b, hbe⟩ : ∃ b, b = x + 1 := ⟨_, rfl⟩
  obtain ⟨hh, hhe⟩ : ∃ q, q = x + 30 := ⟨_, rfl⟩
  obtain ⟨a, hae⟩ : ∃ q, q = x + 177 := ⟨_, rfl⟩
  rw [← hbe] at hx0 hP
  rw [← hhe] at hx0 hH
  rw [← hae] at hx0 ho ha
  have i1 := hI.mn12
  have i2 := hI.nx240
  have hl : lv_has ls 1 [(0, .ref (x))] := hl
  have hL : Lk G [] := Lk.nil
  generalize ([] : List Loc) = locs at hL ⊢
  refine lv_aload_n E.1 E.2.1 dX5_intactFiles_0 rfl (lv_at hl 0 rfl) ?_
  refine m_get E hx0 fw_X5_12 rfl dX5_intactFiles_1 ?_
  refine r_const E dX5_intactFiles_4 ?_
  refine kVRE (As := [.int (iI ((-1)))]) E cw_X5_182 (c_X1_countIntactIf G l b fb fl σ hI ((-1)) (by unfold okI; omega)) hP.1 ⟨_, _, rfl⟩ ⟨hP, hFl⟩ hL hl.1 rfl rfl (Nat.le_of_ble_eq_true rfl) ⟨Nat.le_of_ble_eq_true rfl, Nat.le_of_ble_eq_true rfl⟩ ⟨rfl, rfl⟩ ⟨Nat.le_of_ble_eq_true rfl, Nat.le_of_ble_eq_true rfl⟩ dX5_intactFiles_5 (fun locs hL => ?_)
  refine e_iret (rm := ({ frames := 5, cells := 0, slots := 0, locals := 119 } : Room)) (v := iI ((cntIntact σ (dmH σ ((-1))) : Int))) E hL dX5_intactFiles_8 ?_
  exact RE_i (by rw [dmH_m1 (by decide)]; rfl)

set_option maxHeartbeats 4000000 in
set_option maxRecDepth 100000 in
theorem c_X5_versions (G : GG) (l : Launch) (x fb : Nat) (fl : Nat → Option Fil) (σ : St) (hs : List St) (tx : Nat → Int) (len : Nat) (hI : Inv σ) (hT : TxOk tx len) (hfx : x + 179 ≤ fb) (hgx : G.2.2 ≤ x) (y : Int) (hy : okI y) : Ct G l yX5_versions cX5_versions 2 (some .int) ({ frames := 1, cells := 0, slots := 0, locals := 20 } : Room) [.ref (x), .int (iI (y))] (fun H => XAt G x fb fl σ hs tx len H) (RE (iI (spVersions σ y))) := by
  refine Ct.of (by decide +kernel) (Nat.le_of_ble_eq_true rfl) ?_
  intro p e s m args below meth c ls E hnm hP hl
  obtain ⟨hx0, hP, ⟨o, hH⟩, ⟨p1, le, fi, sc, ho, ha⟩, hFl⟩ := hP
  obtain ⟨b, hbe⟩ : ∃ b, b = x + 1 := ⟨_, rfl⟩
  obtain ⟨hh, hhe⟩ : ∃ q, q = x + 30 := ⟨_, rfl⟩
  obtain ⟨a, hae⟩ : ∃ q, q = x + 177 := ⟨_, rfl⟩
  rw [← hbe] at hx0 hP
  rw [← hhe] at hx0 hH
  rw [← hae] at hx0 ho ha
  have i1 := hI.mn12
  have i2 := hI.nx240
  obtain ⟨hy1, hy2⟩ := hy
  have hl : lv_has ls 2 [(0, .ref (x)), (1, .int (iI (y)))] := hl
  have hL : Lk G [] := Lk.nil
  generalize ([] : List Loc) = locs at hL ⊢
  refine lv_iload_n E.1 E.2.1 dX5_versions_0 rfl (lv_at hl 1 rfl) ?_
  refine kSRE (As := [.int (iI (y))]) E cw_X5_136 (c_X5_isName G l (y) (by unfold okI; omega)) trivial hL hl.1 rfl rfl (Nat.le_of_ble_eq_true rfl) ⟨Nat.le_of_ble_eq_true rfl, Nat.le_of_ble_eq_true rfl⟩ ⟨rfl, rfl⟩ ⟨Nat.le_of_ble_eq_true rfl, Nat.le_of_ble_eq_true rfl⟩ dX5_versions_1 (fun locs hL => ?_)
  refine r_bif_eq (tgt := 19) E dX5_versions_4 (by decide)  (fun c4 => ?_) (fun c4 => ?_)
  · have c4 := of_decide_eq_false c4
    refine r_const E dX5_versions_19 ?_
    refine e_iret (rm := ({ frames := 1, cells := 0, slots := 0, locals := 20 } : Room)) (v := iI ((-1))) E hL dX5_versions_20 ?_
    exact RE_i (by unfold spVersions; rw [if_pos (by omega)])
  · have c4 := of_decide_eq_true c4
    obtain ⟨k, rfl⟩ : ∃ k : Nat, y = (k : Int) := ⟨y.toNat, by omega⟩
    refine lv_aload_n E.1 E.2.1 dX5_versions_7 rfl (lv_at hl 0 rfl) ?_
    refine m_get E hx0 fw_X5_12 rfl dX5_versions_8 ?_
    refine m_get E hP.1 fw_X5_185 rfl dX5_versions_11 ?_
    refine lv_iload_n E.1 E.2.1 dX5_versions_14 rfl (lv_at hl 1 rfl) ?_
    refine r_iald E hP.2.2.2.1 (k) rfl (by omega) (by decide) dX5_versions_15 ?_
    refine lv_goto (tgt := 20) E.1 E.2.1 dX5_versions_16 (by decide) ?_
    refine e_iret (rm := ({ frames := 1, cells := 0, slots := 0, locals := 20 } : Room)) (v := iI ((vr σ (k) : Int))) E hL dX5_versions_20 ?_
    exact RE_i (by unfold spVersions; rw [if_neg (by omega), Int.toNat_natCast])

set_option maxHeartbeats 4000000 in
set_option maxRecDepth 100000 in
theorem c_X5_latestIntact (G : GG) (l : Launch) (x fb : Nat) (fl : Nat → Option Fil) (σ : St) (hs : List St) (tx : Nat → Int) (len : Nat) (hI : Inv σ) (hT : TxOk tx len) (hfx : x + 179 ≤ fb) (hgx : G.2.2 ≤ x) (y : Int) (hy : okI y) : Ct G l yX5_latestIntact cX5_latestIntact 2 (some .int) ({ frames := 4, cells := 0, slots := 0, locals := 95 } : Room) [.ref (x), .int (iI (y))] (fun H => XAt G x fb fl σ hs tx len H) (RE (iI (spLatest σ y))) := by
  refine Ct.of (by decide +kernel) (Nat.le_of_ble_eq_true rfl) ?_
  intro p e s m args below meth c ls E hnm hP hl
  obtain ⟨hx0, hP, ⟨o, hH⟩, ⟨p1, le, fi, sc, ho, ha⟩, hFl⟩ := hP
  obtain ⟨b, hbe⟩ : ∃ b, b = x + 1 := ⟨_, rfl⟩
  obtain ⟨hh, hhe⟩ : ∃ q, q = x + 30 := ⟨_, rfl⟩
  obtain ⟨a, hae⟩ : ∃ q, q = x + 177 := ⟨_, rfl⟩
  rw [← hbe] at hx0 hP
  rw [← hhe] at hx0 hH
  rw [← hae] at hx0 ho ha
  have i1 := hI.mn12
  have i2 := hI.nx240
  obtain ⟨hy1, hy2⟩ := hy
  have hl : lv_has ls 2 [(0, .ref (x)), (1, .int (iI (y)))] := hl
  have hL : Lk G [] := Lk.nil
  generalize ([] : List Loc) = locs at hL ⊢
  refine lv_iload_n E.1 E.2.1 dX5_latestIntact_0 rfl (lv_at hl 1 rfl) ?_
  refine kSRE (As := [.int (iI (y))]) E cw_X5_136 (c_X5_isName G l (y) (by unfold okI; omega)) trivial hL hl.1 rfl rfl (Nat.le_of_ble_eq_true rfl) ⟨Nat.le_of_ble_eq_true rfl, Nat.le_of_ble_eq_true rfl⟩ ⟨rfl, rfl⟩ ⟨Nat.le_of_ble_eq_true rfl, Nat.le_of_ble_eq_true rfl⟩ dX5_latestIntact_1 (fun locs hL => ?_)
  refine r_bif_eq (tgt := 18) E dX5_latestIntact_4 (by decide)  (fun c4 => ?_) (fun c4 => ?_)
  · have c4 := of_decide_eq_false c4
    refine r_const E dX5_latestIntact_18 ?_
    refine e_iret (rm := ({ frames := 4, cells := 0, slots := 0, locals := 95 } : Room)) (v := iI ((-1))) E hL dX5_latestIntact_19 ?_
    exact RE_i (by unfold spLatest; rw [if_pos (by omega)])
  · have c4 := of_decide_eq_true c4
    obtain ⟨k, rfl⟩ : ∃ k : Nat, y = (k : Int) := ⟨y.toNat, by omega⟩
    refine lv_aload_n E.1 E.2.1 dX5_latestIntact_7 rfl (lv_at hl 0 rfl) ?_
    refine m_get E hx0 fw_X5_12 rfl dX5_latestIntact_8 ?_
    refine lv_iload_n E.1 E.2.1 dX5_latestIntact_11 rfl (lv_at hl 1 rfl) ?_
    refine kVRE (As := [.int (iI ((k : Int)))]) E cw_X5_188 (c_X1_latestWithIntact G l b fb fl σ hI k (by omega)) hP.1 ⟨_, _, rfl⟩ ⟨hP, hFl⟩ hL hl.1 rfl rfl (Nat.le_of_ble_eq_true rfl) ⟨Nat.le_of_ble_eq_true rfl, Nat.le_of_ble_eq_true rfl⟩ ⟨rfl, rfl⟩ ⟨Nat.le_of_ble_eq_true rfl, Nat.le_of_ble_eq_true rfl⟩ dX5_latestIntact_12 (fun locs hL => ?_)
    refine lv_goto (tgt := 19) E.1 E.2.1 dX5_latestIntact_15 (by decide) ?_
    refine e_iret (rm := ({ frames := 4, cells := 0, slots := 0, locals := 95 } : Room)) (v := iI (oI (lastB (fun n => readB σ (dm σ) n && intactO (dm σ) (en σ n k)) (mn σ)))) E hL dX5_latestIntact_19 ?_
    exact RE_i (by unfold spLatest; rw [if_neg (by omega), Int.toNat_natCast])

set_option maxHeartbeats 4000000 in
set_option maxRecDepth 100000 in
theorem c_X5_lost (G : GG) (l : Launch) (x fb : Nat) (fl : Nat → Option Fil) (σ : St) (hs : List St) (tx : Nat → Int) (len : Nat) (hI : Inv σ) (hT : TxOk tx len) (hfx : x + 179 ≤ fb) (hgx : G.2.2 ≤ x) : Ct G l yX5_lost cX5_lost 1 (some .int) ({ frames := 5, cells := 0, slots := 0, locals := 118 } : Room) [.ref (x)] (fun H => XAt G x fb fl σ hs tx len H) (RE (iI (spLost σ))) := by
  refine Ct.of (by decide +kernel) (Nat.le_of_ble_eq_true rfl) ?_
  intro p e s m args below meth c ls E hnm hP hl
  obtain ⟨hx0, hP, ⟨o, hH⟩, ⟨p1, le, fi, sc, ho, ha⟩, hFl⟩ := hP
  obtain ⟨b, hbe⟩ : ∃ b, b = x + 1 := ⟨_, rfl⟩
  obtain ⟨hh, hhe⟩ : ∃ q, q = x + 30 := ⟨_, rfl⟩
  obtain ⟨a, hae⟩ : ∃ q, q = x + 177 := ⟨_, rfl⟩
  rw [← hbe] at hx0 hP
  rw [← hhe] at hx0 hH
  rw [← hae] at hx0 ho ha
  have i1 := hI.mn12
  have i2 := hI.nx240
  have hl : lv_has ls 1 [(0, .ref (x))] := hl
  have hL : Lk G [] := Lk.nil
  generalize ([] : List Loc) = locs at hL ⊢
  refine lv_aload_n E.1 E.2.1 dX5_lost_0 rfl (lv_at hl 0 rfl) ?_
  refine m_get E hx0 fw_X5_12 rfl dX5_lost_1 ?_
  refine m_get E hP.1 fw_X5_155 rfl dX5_lost_4 ?_
  refine lv_aload_n E.1 E.2.1 dX5_lost_7 rfl (lv_at hl 0 rfl) ?_
  refine m_get E hx0 fw_X5_12 rfl dX5_lost_8 ?_
  refine kVRE (As := []) E cw_X5_191 (c_X1_countFoundSectors G l b fb fl σ hI) hP.1 ⟨_, _, rfl⟩ ⟨hP, hFl⟩ hL hl.1 rfl rfl (Nat.le_of_ble_eq_true rfl) ⟨Nat.le_of_ble_eq_true rfl, Nat.le_of_ble_eq_true rfl⟩ ⟨rfl, rfl⟩ ⟨Nat.le_of_ble_eq_true rfl, Nat.le_of_ble_eq_true rfl⟩ dX5_lost_11 (fun locs hL => ?_)
  refine r_sub E dX5_lost_14 ?_
  refine e_iret (rm := ({ frames := 5, cells := 0, slots := 0, locals := 118 } : Room)) (v := iI ((nx σ : Int) - (foundSec σ : Int))) E hL dX5_lost_15 ?_
  exact RE_i (by rfl)

set_option maxHeartbeats 4000000 in
set_option maxRecDepth 100000 in
theorem c_X5_largest (G : GG) (l : Launch) (x fb : Nat) (fl : Nat → Option Fil) (σ : St) (hs : List St) (tx : Nat → Int) (len : Nat) (hI : Inv σ) (hT : TxOk tx len) (hfx : x + 179 ≤ fb) (hgx : G.2.2 ≤ x) : Ct G l yX5_largest cX5_largest 1 (some .int) ({ frames := 3, cells := 0, slots := 0, locals := 63 } : Room) [.ref (x)] (fun H => XAt G x fb fl σ hs tx len H) (RE (iI (spLargest σ))) := by
  refine Ct.of (by decide +kernel) (Nat.le_of_ble_eq_true rfl) ?_
  intro p e s m args below meth c ls E hnm hP hl
  obtain ⟨hx0, hP, ⟨o, hH⟩, ⟨p1, le, fi, sc, ho, ha⟩, hFl⟩ := hP
  obtain ⟨b, hbe⟩ : ∃ b, b = x + 1 := ⟨_, rfl⟩
  obtain ⟨hh, hhe⟩ : ∃ q, q = x + 30 := ⟨_, rfl⟩
  obtain ⟨a, hae⟩ : ∃ q, q = x + 177 := ⟨_, rfl⟩
  rw [← hbe] at hx0 hP
  rw [← hhe] at hx0 hH
  rw [← hae] at hx0 ho ha
  have i1 := hI.mn12
  have i2 := hI.nx240
  have hl : lv_has ls 1 [(0, .ref (x))] := hl
  have hL : Lk G [] := Lk.nil
  generalize ([] : List Loc) = locs at hL ⊢
  refine lv_aload_n E.1 E.2.1 dX5_largest_0 rfl (lv_at hl 0 rfl) ?_
  refine m_get E hx0 fw_X5_12 rfl dX5_largest_1 ?_
  refine kVRE (As := []) E cw_X5_194 (c_X1_roomForFiles G l b fl σ hI) hP.1 ⟨_, _, rfl⟩ hP hL hl.1 rfl rfl (Nat.le_of_ble_eq_true rfl) ⟨Nat.le_of_ble_eq_true rfl, Nat.le_of_ble_eq_true rfl⟩ ⟨rfl, rfl⟩ ⟨Nat.le_of_ble_eq_true rfl, Nat.le_of_ble_eq_true rfl⟩ dX5_largest_4 (fun locs hL => ?_)
  refine r_bipush E dX5_largest_7 (by decide) ?_
  have hroom := roomN_le σ
  refine r_min E ml_X5_197 hl.1 (Nat.le_of_ble_eq_true rfl) (Nat.le_of_ble_eq_true rfl) (Nat.le_of_ble_eq_true rfl) (Nat.le_of_ble_eq_true rfl) (by omega) (by omega) dX5_largest_9 (fun z1 hz1 => ?_)
  refine e_iret (rm := ({ frames := 3, cells := 0, slots := 0, locals := 63 } : Room)) (v := iI (z1)) E hL dX5_largest_12 ?_
  exact RE_i (by unfold spLargest; split <;> omega)

set_option maxHeartbeats 4000000 in
set_option maxRecDepth 100000 in
theorem c_X5_filesLeft (G : GG) (l : Launch) (x fb : Nat) (fl : Nat → Option Fil) (σ : St) (hs : List St) (tx : Nat → Int) (len : Nat) (hI : Inv σ) (hT : TxOk tx len) (hfx : x + 179 ≤ fb) (hgx : G.2.2 ≤ x) (y : Int) (hy : okI y) : Ct G l yX5_filesLeft cX5_filesLeft 2 (some .int) ({ frames := 3, cells := 0, slots := 0, locals := 63 } : Room) [.ref (x), .int (iI (y))] (fun H => XAt G x fb fl σ hs tx len H) (RE (iI (spFilesLeft σ y))) := by
  refine Ct.of (by decide +kernel) (Nat.le_of_ble_eq_true rfl) ?_
  intro p e s m args below meth c ls E hnm hP hl
  obtain ⟨hx0, hP, ⟨o, hH⟩, ⟨p1, le, fi, sc, ho, ha⟩, hFl⟩ := hP
  obtain ⟨b, hbe⟩ : ∃ b, b = x + 1 := ⟨_, rfl⟩
  obtain ⟨hh, hhe⟩ : ∃ q, q = x + 30 := ⟨_, rfl⟩
  obtain ⟨a, hae⟩ : ∃ q, q = x + 177 := ⟨_, rfl⟩
  rw [← hbe] at hx0 hP
  rw [← hhe] at hx0 hH
  rw [← hae] at hx0 ho ha
  have i1 := hI.mn12
  have i2 := hI.nx240
  obtain ⟨hy1, hy2⟩ := hy
  have hl : lv_has ls 2 [(0, .ref (x)), (1, .int (iI (y)))] := hl
  have hL : Lk G [] := Lk.nil
  generalize ([] : List Loc) = locs at hL ⊢
  refine lv_iload_n E.1 E.2.1 dX5_filesLeft_0 rfl (lv_at hl 1 rfl) ?_
  refine kSRE (As := [.int (iI (y))]) E cw_X5_202 (c_X5_isFileSize G l (y) (by unfold okI; omega)) trivial hL hl.1 rfl rfl (Nat.le_of_ble_eq_true rfl) ⟨Nat.le_of_ble_eq_true rfl, Nat.le_of_ble_eq_true rfl⟩ ⟨rfl, rfl⟩ ⟨Nat.le_of_ble_eq_true rfl, Nat.le_of_ble_eq_true rfl⟩ dX5_filesLeft_1 (fun locs hL => ?_)
  refine r_bif_eq (tgt := 19) E dX5_filesLeft_4 (by decide)  (fun c4 => ?_) (fun c4 => ?_)
  · have c4 := of_decide_eq_false c4
    refine r_bipush E dX5_filesLeft_19 (by decide) ?_
    refine e_iret (rm := ({ frames := 3, cells := 0, slots := 0, locals := 63 } : Room)) (v := iI ((-2))) E hL dX5_filesLeft_21 ?_
    exact RE_i (by unfold spFilesLeft; rw [if_pos (by omega)])
  · have c4 := of_decide_eq_true c4
    obtain ⟨k, rfl⟩ : ∃ k : Nat, y = (k : Int) := ⟨y.toNat, by omega⟩
    refine lv_aload_n E.1 E.2.1 dX5_filesLeft_7 rfl (lv_at hl 0 rfl) ?_
    refine m_get E hx0 fw_X5_12 rfl dX5_filesLeft_8 ?_
    refine kVRE (As := []) E cw_X5_194 (c_X1_roomForFiles G l b fl σ hI) hP.1 ⟨_, _, rfl⟩ hP hL hl.1 rfl rfl (Nat.le_of_ble_eq_true rfl) ⟨Nat.le_of_ble_eq_true rfl, Nat.le_of_ble_eq_true rfl⟩ ⟨rfl, rfl⟩ ⟨Nat.le_of_ble_eq_true rfl, Nat.le_of_ble_eq_true rfl⟩ dX5_filesLeft_11 (fun locs hL => ?_)
    refine lv_iload_n E.1 E.2.1 dX5_filesLeft_14 rfl (lv_at hl 1 rfl) ?_
    refine r_div E dX5_filesLeft_15 (by omega) (by have := roomN_le σ; omega) (by omega) (by omega) ?_
    refine lv_goto (tgt := 21) E.1 E.2.1 dX5_filesLeft_16 (by decide) ?_
    refine e_iret (rm := ({ frames := 3, cells := 0, slots := 0, locals := 63 } : Room)) (v := iI (((roomN σ : Int)) / ((k : Int)))) E hL dX5_filesLeft_21 ?_
    exact RE_i (by unfold spFilesLeft; rw [if_neg (by omega), Int.toNat_natCast]; rfl)

set_option maxHeartbeats 4000000 in
set_option maxRecDepth 100000 in
theorem c_X5_filesEach (G : GG) (l : Launch) (x fb : Nat) (fl : Nat → Option Fil) (σ : St) (hs : List St) (tx : Nat → Int) (len : Nat) (hI : Inv σ) (hT : TxOk tx len) (hfx : x + 179 ≤ fb) (hgx : G.2.2 ≤ x) (y : Int) (hy : okI y) : Ct G l yX5_filesEach cX5_filesEach 2 (some .int) ({ frames := 3, cells := 0, slots := 0, locals := 68 } : Room) [.ref (x), .int (iI (y))] (fun H => XAt G x fb fl σ hs tx len H) (RE (iI (spFilesEach σ y))) := by
  refine Ct.of (by decide +kernel) (Nat.le_of_ble_eq_true rfl) ?_
  intro p e s m args below meth c ls E hnm hP hl
  obtain ⟨hx0, hP, ⟨o, hH⟩, ⟨p1, le, fi, sc, ho, ha⟩, hFl⟩ := hP
  obtain ⟨b, hbe⟩ : ∃ b, b = x + 1 := ⟨_, rfl⟩
  obtain ⟨hh, hhe⟩ : ∃ q, q = x + 30 := ⟨_, rfl⟩
  obtain ⟨a, hae⟩ : ∃ q, q = x + 177 := ⟨_, rfl⟩
  rw [← hbe] at hx0 hP
  rw [← hhe] at hx0 hH
  rw [← hae] at hx0 ho ha
  have i1 := hI.mn12
  have i2 := hI.nx240
  obtain ⟨hy1, hy2⟩ := hy
  have hl : lv_has ls 2 [(0, .ref (x)), (1, .int (iI (y)))] := hl
  have hL : Lk G [] := Lk.nil
  generalize ([] : List Loc) = locs at hL ⊢
  refine lv_iload_n E.1 E.2.1 dX5_filesEach_0 rfl (lv_at hl 1 rfl) ?_
  refine kSRE (As := [.int (iI (y))]) E cw_X5_202 (c_X5_isFileSize G l (y) (by unfold okI; omega)) trivial hL hl.1 rfl rfl (Nat.le_of_ble_eq_true rfl) ⟨Nat.le_of_ble_eq_true rfl, Nat.le_of_ble_eq_true rfl⟩ ⟨rfl, rfl⟩ ⟨Nat.le_of_ble_eq_true rfl, Nat.le_of_ble_eq_true rfl⟩ dX5_filesEach_1 (fun locs hL => ?_)
  refine r_bif_eq (tgt := 18) E dX5_filesEach_4 (by decide)  (fun c4 => ?_) (fun c4 => ?_)
  · have c4 := of_decide_eq_false c4
    refine r_bipush E dX5_filesEach_18 (by decide) ?_
    refine e_iret (rm := ({ frames := 3, cells := 0, slots := 0, locals := 68 } : Room)) (v := iI ((-2))) E hL dX5_filesEach_20 ?_
    exact RE_i (by unfold spFilesEach; rw [if_pos (by omega)])
  · have c4 := of_decide_eq_true c4
    obtain ⟨k, rfl⟩ : ∃ k : Nat, y = (k : Int) := ⟨y.toNat, by omega⟩
    refine lv_aload_n E.1 E.2.1 dX5_filesEach_7 rfl (lv_at hl 0 rfl) ?_
    refine m_get E hx0 fw_X5_12 rfl dX5_filesEach_8 ?_
    refine lv_iload_n E.1 E.2.1 dX5_filesEach_11 rfl (lv_at hl 1 rfl) ?_
    refine kVRE (As := [.int (iI ((k : Int)))]) E cw_X5_205 (c_X1_sessionsOfOneFile G l b fl σ hI k (by omega)) hP.1 ⟨_, _, rfl⟩ hP hL hl.1 rfl rfl (Nat.le_of_ble_eq_true rfl) ⟨Nat.le_of_ble_eq_true rfl, Nat.le_of_ble_eq_true rfl⟩ ⟨rfl, rfl⟩ ⟨Nat.le_of_ble_eq_true rfl, Nat.le_of_ble_eq_true rfl⟩ dX5_filesEach_12 (fun locs hL => ?_)
    refine lv_goto (tgt := 20) E.1 E.2.1 dX5_filesEach_15 (by decide) ?_
    refine e_iret (rm := ({ frames := 3, cells := 0, slots := 0, locals := 68 } : Room)) (v := iI ((eachN σ k : Int))) E hL dX5_filesEach_20 ?_
    exact RE_i (by unfold spFilesEach; rw [if_neg (by omega), Int.toNat_natCast])

set_option maxHeartbeats 4000000 in
set_option maxRecDepth 100000 in
theorem c_X5_validIf (G : GG) (l : Launch) (x fb : Nat) (fl : Nat → Option Fil) (σ : St) (hs : List St) (tx : Nat → Int) (len : Nat) (hI : Inv σ) (hT : TxOk tx len) (hfx : x + 179 ≤ fb) (hgx : G.2.2 ≤ x) (y : Int) (hy : okI y) : Ct G l yX5_validIf cX5_validIf 2 (some .int) ({ frames := 4, cells := 0, slots := 0, locals := 94 } : Room) [.ref (x), .int (iI (y))] (fun H => XAt G x fb fl σ hs tx len H) (RE (iI (spValidIf σ y))) := by
  refine Ct.of (by decide +kernel) (Nat.le_of_ble_eq_true rfl) ?_
  intro p e s m args below meth c ls E hnm hP hl
  obtain ⟨hx0, hP, ⟨o, hH⟩, ⟨p1, le, fi, sc, ho, ha⟩, hFl⟩ := hP
  obtain ⟨b, hbe⟩ : ∃ b, b = x + 1 := ⟨_, rfl⟩
  obtain ⟨hh, hhe⟩ : ∃ q, q = x + 30 := ⟨_, rfl⟩
  obtain ⟨a, hae⟩ : ∃ q, q = x + 177 := ⟨_, rfl⟩
  rw [← hbe] at hx0 hP
  rw [← hhe] at hx0 hH
  rw [← hae] at hx0 ho ha
  have i1 := hI.mn12
  have i2 := hI.nx240
  obtain ⟨hy1, hy2⟩ := hy
  have hl : lv_has ls 2 [(0, .ref (x)), (1, .int (iI (y)))] := hl
  have hL : Lk G [] := Lk.nil
  generalize ([] : List Loc) = locs at hL ⊢
  refine lv_iload_n E.1 E.2.1 dX5_validIf_0 rfl (lv_at hl 1 rfl) ?_
  refine kSRE (As := [.int (iI (y))]) E cw_X5_158 (c_X5_isSector G l (y) (by unfold okI; omega)) trivial hL hl.1 rfl rfl (Nat.le_of_ble_eq_true rfl) ⟨Nat.le_of_ble_eq_true rfl, Nat.le_of_ble_eq_true rfl⟩ ⟨rfl, rfl⟩ ⟨Nat.le_of_ble_eq_true rfl, Nat.le_of_ble_eq_true rfl⟩ dX5_validIf_1 (fun locs hL => ?_)
  refine r_bif_eq (tgt := 18) E dX5_validIf_4 (by decide)  (fun c4 => ?_) (fun c4 => ?_)
  · have c4 := of_decide_eq_false c4
    refine r_const E dX5_validIf_18 ?_
    refine e_iret (rm := ({ frames := 4, cells := 0, slots := 0, locals := 94 } : Room)) (v := iI ((-1))) E hL dX5_validIf_19 ?_
    exact RE_i (by unfold spValidIf; rw [if_pos (by omega)])
  · have c4 := of_decide_eq_true c4
    refine lv_aload_n E.1 E.2.1 dX5_validIf_7 rfl (lv_at hl 0 rfl) ?_
    refine m_get E hx0 fw_X5_12 rfl dX5_validIf_8 ?_
    refine lv_iload_n E.1 E.2.1 dX5_validIf_11 rfl (lv_at hl 1 rfl) ?_
    refine kVRE (As := [.int (iI (y))]) E cw_X5_152 (c_X1_validNumberIf G l b fl σ hI (y) (by unfold okI; omega)) hP.1 ⟨_, _, rfl⟩ hP hL hl.1 rfl rfl (Nat.le_of_ble_eq_true rfl) ⟨Nat.le_of_ble_eq_true rfl, Nat.le_of_ble_eq_true rfl⟩ ⟨rfl, rfl⟩ ⟨Nat.le_of_ble_eq_true rfl, Nat.le_of_ble_eq_true rfl⟩ dX5_validIf_12 (fun locs hL => ?_)
    refine lv_goto (tgt := 19) E.1 E.2.1 dX5_validIf_15 (by decide) ?_
    refine e_iret (rm := ({ frames := 4, cells := 0, slots := 0, locals := 94 } : Room)) (v := iI (oI (validD σ (dmH σ (y))))) E hL dX5_validIf_19 ?_
    exact RE_i (by unfold spValidIf; rw [if_neg (by omega)])

set_option maxHeartbeats 4000000 in
set_option maxRecDepth 100000 in
theorem c_X5_worstSector (G : GG) (l : Launch) (x fb : Nat) (fl : Nat → Option Fil) (σ : St) (hs : List St) (tx : Nat → Int) (len : Nat) (hI : Inv σ) (hT : TxOk tx len) (hfx : x + 179 ≤ fb) (hgx : G.2.2 ≤ x) : Ct G l yX5_worstSector cX5_worstSector 1 (some .int) ({ frames := 7, cells := 0, slots := 0, locals := 167 } : Room) [.ref (x)] (fun H => XAt G x fb fl σ hs tx len H) (RE (iI ((worstH σ : Int)))) := by
  refine Ct.of (by decide +kernel) (Nat.le_of_ble_eq_true rfl) ?_
  intro p e s m args below meth c ls E hnm hP hl
  obtain ⟨hx0, hP, ⟨o, hH⟩, ⟨p1, le, fi, sc, ho, ha⟩, hFl⟩ := hP
  obtain ⟨b, hbe⟩ : ∃ b, b = x + 1 := ⟨_, rfl⟩
  obtain ⟨hh, hhe⟩ : ∃ q, q = x + 30 := ⟨_, rfl⟩
  obtain ⟨a, hae⟩ : ∃ q, q = x + 177 := ⟨_, rfl⟩
  rw [← hbe] at hx0 hP
  rw [← hhe] at hx0 hH
  rw [← hae] at hx0 ho ha
  have i1 := hI.mn12
  have i2 := hI.nx240
  have hl : lv_has ls 1 [(0, .ref (x))] := hl
  have hL : Lk G [] := Lk.nil
  generalize ([] : List Loc) = locs at hL ⊢
  refine lv_aload_n E.1 E.2.1 dX5_worstSector_0 rfl (lv_at hl 0 rfl) ?_
  refine m_get E hx0 fw_X5_12 rfl dX5_worstSector_1 ?_
  refine kVRE (As := []) E cw_X5_208 (c_X1_mostHarmfulSector G l b fb fl σ hI) hP.1 ⟨_, _, rfl⟩ ⟨hP, hFl⟩ hL hl.1 rfl rfl (Nat.le_of_ble_eq_true rfl) ⟨Nat.le_of_ble_eq_true rfl, Nat.le_of_ble_eq_true rfl⟩ ⟨rfl, rfl⟩ ⟨Nat.le_of_ble_eq_true rfl, Nat.le_of_ble_eq_true rfl⟩ dX5_worstSector_4 (fun locs hL => ?_)
  refine e_iret (rm := ({ frames := 7, cells := 0, slots := 0, locals := 167 } : Room)) (v := iI ((worstH σ : Int))) E hL dX5_worstSector_7 ?_
  exact RE_i (by rfl)
