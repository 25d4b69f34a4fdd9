set_option maxHeartbeats 4000000 in
set_option maxRecDepth 100000 in
theorem c_X1_freshSession (G : GG) (l : Launch) (b : Nat) (fl : Nat → Option Fil) (σ : St) (hI : Inv σ) : Ct G l yX1_freshSession cX1_freshSession 1 (some (.object "WriteOnceDisc$Session")) ({ frames := 0, cells := 0, slots := 0, locals := 0 } : Room) [.ref (b)] (fun H => DiscAt G b fl σ H) (QE (if mn σ < 12 then some (b + 5 + 2 * mn σ) else none)) := by
  refine Ct.of (by decide +kernel) (Nat.le_of_ble_eq_true rfl) ?_
  intro p e s m args below meth c ls E hnm hP hl
  have i1 := hI.mn12
  have i2 := hI.nx240
  have hl : lv_has ls 1 [(0, .ref (b))] := hl
  have hL : Lk G [] := Lk.nil
  generalize ([] : List Loc) = locs at hL ⊢
  refine lv_aload_n E.1 E.2.1 dX1_freshSession_0 rfl (lv_at hl 0 rfl) ?_
  refine m_get E hP.1 fw_X1_29 rfl dX1_freshSession_1 ?_
  refine r_if_lt (tgt := 28) E dX1_freshSession_4 (by decide) (by omega) (fun c4 => absurd c4 (by omega)) (fun c4 => ?_)
  refine lv_aload_n E.1 E.2.1 dX1_freshSession_7 rfl (lv_at hl 0 rfl) ?_
  refine m_get E hP.1 fw_X1_29 rfl dX1_freshSession_8 ?_
  refine r_bipush E dX1_freshSession_11 (by decide) ?_
  refine r_icmp_ge (tgt := 28) E dX1_freshSession_13 (by decide) (by omega) (by omega) (fun c13 => ?_) (fun c13 => ?_)
  · refine lv_null E.1 E.2.1 dX1_freshSession_28 ?_
    refine e_aret (rm := ({ frames := 0, cells := 0, slots := 0, locals := 0 } : Room)) (r := none) E hL dX1_freshSession_29 ?_
    exact ⟨by rw [if_neg (by omega)], rfl⟩
  · refine lv_aload_n E.1 E.2.1 dX1_freshSession_16 rfl (lv_at hl 0 rfl) ?_
    refine m_get E hP.1 fw_X1_11 rfl dX1_freshSession_17 ?_
    refine lv_aload_n E.1 E.2.1 dX1_freshSession_20 rfl (lv_at hl 0 rfl) ?_
    refine m_get E hP.1 fw_X1_29 rfl dX1_freshSession_21 ?_
    refine r_aald E hP.2.1 rfl (mn σ) rfl (by omega) (by decide) dX1_freshSession_24 ?_
    refine lv_goto (tgt := 29) E.1 E.2.1 dX1_freshSession_25 (by decide) ?_
    refine e_aret (rm := ({ frames := 0, cells := 0, slots := 0, locals := 0 } : Room)) (r := some (b + 5 + 2 * (mn σ))) E hL dX1_freshSession_29 ?_
    exact ⟨by rw [if_pos (by omega)], rfl⟩

set_option maxHeartbeats 4000000 in
set_option maxRecDepth 100000 in
theorem c_X1_beginSession (G : GG) (l : Launch) (b fb : Nat) (fl : Nat → Option Fil) (σ : St) (hI : Inv σ) (x : Int) (hx : okI x) (hga : G.2.2 ≤ b) (hfb : b + 29 ≤ fb) : Ct G l yX1_beginSession cX1_beginSession 5 (some .int) ({ frames := 4, cells := 0, slots := 0, locals := 94 } : Room) [.ref (b), .int (iI (x))] (fun H => DiscAt G b fl σ H ∧ FlAt G fb fl H) (WD G b fl (spBegin σ x)) := by
  refine Ct.of (by decide +kernel) (Nat.le_of_ble_eq_true rfl) ?_
  intro p e s m args below meth c ls E hnm hP hl
  have i1 := hI.mn12
  have i2 := hI.nx240
  obtain ⟨hP, hFl⟩ := hP
  have hb0 := hP.1
  have hb2 := hP.2.2.1
  have hb3 := hP.2.2.2.1
  have hb4 := hP.2.2.2.2.1
  obtain ⟨hx1, hx2⟩ := hx
  have i3 := hI.s0b
  have i4 := hI.s1b
  have hl : lv_has ls 5 [(0, .ref (b)), (1, .int (iI (x)))] := hl
  have hL : Lk G [] := Lk.nil
  generalize ([] : List Loc) = locs at hL ⊢
  refine lv_iload_n E.1 E.2.1 dX1_beginSession_0 rfl (lv_at hl 1 rfl) ?_
  refine r_if_eq (tgt := 12) E dX1_beginSession_1 (by decide) (by omega) (fun c1 => ?_) (fun c1 => ?_)
  · refine lv_aload_n E.1 E.2.1 dX1_beginSession_12 rfl (lv_at hl 0 rfl) ?_
    refine kVQE (As := []) E cw_X1_43 (c_X1_openSession G l b fl σ hI) hP.1 ⟨_, _, rfl⟩ hP hL hl.1 rfl rfl (Nat.le_of_ble_eq_true rfl) ⟨Nat.le_of_ble_eq_true rfl, Nat.le_of_ble_eq_true rfl⟩ ⟨rfl, rfl⟩ ⟨Nat.le_of_ble_eq_true rfl, Nat.le_of_ble_eq_true rfl⟩ dX1_beginSession_13 (fun locs hL => ?_)
    rcases hop : opn σ with _ | n
    · refine lv_ifnullN (tgt := 22) E.1 E.2.1 dX1_beginSession_16 (by decide) ?_
      refine lv_aload_n E.1 E.2.1 dX1_beginSession_22 rfl (lv_at hl 0 rfl) ?_
      refine m_get E hb0 fw_X1_25 rfl dX1_beginSession_23 ?_
      refine r_const E dX1_beginSession_26 ?_
      refine r_iald E hb4 (0) rfl (by decide) (by decide) dX1_beginSession_27 ?_
      rw [if_pos rfl]
      refine lv_aload_n E.1 E.2.1 dX1_beginSession_28 rfl (lv_at hl 0 rfl) ?_
      refine m_get E hb0 fw_X1_25 rfl dX1_beginSession_29 ?_
      refine r_const E dX1_beginSession_32 ?_
      refine r_iald E hb4 (1) rfl (by decide) (by decide) dX1_beginSession_33 ?_
      rw [if_neg (by decide)]
      refine r_add E dX1_beginSession_34 ?_
      refine lv_istore_n (lv' := [(2, .int (iI ((s0 σ : Int) + (s1 σ : Int)))), (0, .ref (b)), (1, .int (iI (x)))]) E.1 E.2.1 dX1_beginSession_35 rfl hl (by decide) rfl (fun ls hl => ?_)
      refine lv_aload_n E.1 E.2.1 dX1_beginSession_36 rfl (lv_at hl 1 rfl) ?_
      refine kVQE (As := []) E cw_X1_47 (c_X1_freshSession G l b fl σ hI) hP.1 ⟨_, _, rfl⟩ hP hL hl.1 rfl rfl (Nat.le_of_ble_eq_true rfl) ⟨Nat.le_of_ble_eq_true rfl, Nat.le_of_ble_eq_true rfl⟩ ⟨rfl, rfl⟩ ⟨Nat.le_of_ble_eq_true rfl, Nat.le_of_ble_eq_true rfl⟩ dX1_beginSession_37 (fun locs hL => ?_)
      rcases Nat.lt_or_ge (mn σ) 12 with hfs | hfs
      · rw [if_pos hfs]
        obtain ⟨wd, td, hod, hrd⟩ := hP.2.2.2.2.2.1 (mn σ) (by omega)
        refine lv_astore_n (lv' := [(3, .ref (b + 5 + 2 * mn σ)), (2, .int (iI ((s0 σ : Int) + (s1 σ : Int)))), (0, .ref (b)), (1, .int (iI (x)))]) E.1 E.2.1 dX1_beginSession_40 rfl hl (by decide) rfl (fun ls hl => ?_)
        refine lv_aload_n E.1 E.2.1 dX1_beginSession_41 rfl (lv_at hl 0 rfl) ?_
        refine lv_ifnull E.1 E.2.1 dX1_beginSession_42 ?_
        refine lv_aload_n E.1 E.2.1 dX1_beginSession_45 rfl (lv_at hl 2 rfl) ?_
        refine m_get E hb0 fw_X1_33 rfl dX1_beginSession_46 ?_
        refine lv_iload_n E.1 E.2.1 dX1_beginSession_49 rfl (lv_at hl 1 rfl) ?_
        refine r_add E dX1_beginSession_50 ?_
        refine r_sipush E dX1_beginSession_51 (by decide) ?_
        refine r_icmp_le (tgt := 60) E dX1_beginSession_54 (by decide) (by omega) (by omega) (fun c54 => ?_) (fun c54 => ?_)
        · refine lv_aload_n E.1 E.2.1 dX1_beginSession_60 rfl (lv_at hl 2 rfl) ?_
          refine lv_aload_n E.1 E.2.1 dX1_beginSession_61 rfl (lv_at hl 2 rfl) ?_
          refine r_const E dX1_beginSession_62 ?_
          refine kVRE (As := [.int (iI ((-1)))]) E cw_X1_50 (c_X1_validNumberIf G l b fl σ hI ((-1)) (by unfold okI; omega)) hP.1 ⟨_, _, rfl⟩ hP hL hl.1 rfl rfl (Nat.le_of_ble_eq_true rfl) ⟨Nat.le_of_ble_eq_true rfl, Nat.le_of_ble_eq_true rfl⟩ ⟨rfl, rfl⟩ ⟨Nat.le_of_ble_eq_true rfl, Nat.le_of_ble_eq_true rfl⟩ dX1_beginSession_63 (fun locs hL => ?_)
          rw [dmH_m1 (σ := σ) (h := -1) (by decide)]
          rcases hv : validD σ (dm σ) with _ | v
          · rw [show oI none = -6 from rfl]
            refine kVQE (As := [.int (iI ((-6)))]) E cw_X1_54 (c_sessionAt_n G l b fl σ hI ((-6)) (by unfold okI; omega) (by omega)) hP.1 ⟨_, _, rfl⟩ hP hL hl.1 rfl rfl (Nat.le_of_ble_eq_true rfl) ⟨Nat.le_of_ble_eq_true rfl, Nat.le_of_ble_eq_true rfl⟩ ⟨rfl, rfl⟩ ⟨Nat.le_of_ble_eq_true rfl, Nat.le_of_ble_eq_true rfl⟩ dX1_beginSession_66 (fun locs hL => ?_)
            refine lv_astoreN (lv' := [(4, .null), (3, .ref (b + 5 + 2 * mn σ)), (2, .int (iI ((s0 σ : Int) + (s1 σ : Int)))), (0, .ref (b)), (1, .int (iI (x)))]) E.1 E.2.1 dX1_beginSession_69 hl (by decide) rfl (fun ls hl => ?_)
            refine lv_aload_n E.1 E.2.1 dX1_beginSession_71 rfl (lv_at hl 1 rfl) ?_
            refine lv_aload_n E.1 E.2.1 dX1_beginSession_72 rfl (lv_at hl 3 rfl) ?_
            refine m_get E hb0 fw_X1_33 rfl dX1_beginSession_73 ?_
            refine lv_aload_n E.1 E.2.1 dX1_beginSession_76 rfl (lv_at hl 3 rfl) ?_
            refine m_get E hb0 fw_X1_25 rfl dX1_beginSession_77 ?_
            refine r_const E dX1_beginSession_80 ?_
            refine r_iald E hb4 (0) rfl (by decide) (by decide) dX1_beginSession_81 ?_
            rw [if_pos rfl]
            refine lv_aload_n E.1 E.2.1 dX1_beginSession_82 rfl (lv_at hl 3 rfl) ?_
            refine m_get E hb0 fw_X1_25 rfl dX1_beginSession_83 ?_
            refine r_const E dX1_beginSession_86 ?_
            refine r_iald E hb4 (1) rfl (by decide) (by decide) dX1_beginSession_87 ?_
            rw [if_neg (by decide)]
            refine kVWV (As := [.int (iI ((nx σ : Int))), .int (iI ((s0 σ : Int))), .int (iI ((s1 σ : Int)))]) E cw_X1_58 (c_X3_startAt G l (b + 5 + 2 * mn σ) ((nx σ : Int)) ((s0 σ : Int)) ((s1 σ : Int)) wd td (by omega)) hod ⟨_, _, rfl⟩ ⟨hod, hrd⟩ hL hl.1 rfl rfl (Nat.le_of_ble_eq_true rfl) ⟨Nat.le_of_ble_eq_true rfl, Nat.le_of_ble_eq_true rfl⟩ ⟨Nat.le_of_ble_eq_true rfl, Nat.le_of_ble_eq_true rfl⟩ dX1_beginSession_88 (fun H1 locs hL hw_ => ?_)
            obtain ⟨⟨ho4, hr4⟩, hq⟩ := hw_
            have hb0 := hb0.kept (hq.2 _ (by omega))
            have hb2 := hb2.kept (hq.2 _ (by omega))
            have hb3 := hb3.kept (hq.2 _ (by omega))
            have hb4 := hb4.kept (hq.2 _ (by omega))
            have hfr := (FrD.rf (b := b) (n := mn σ) (H := s.heap)).ses hq (by omega) (by omega)
            have ho4 : Ob G (b + 5 + 2 * mn σ) 3 [.ref (b + 5 + 2 * mn σ + 1), .int (iI (0)), .int (iI ((nx σ : Int))), .int (iI ((nx σ : Int) + (s0 σ : Int))), .int (iI ((s0 σ : Int))), .int (iI ((s1 σ : Int))), .int (iI (0))] H1 := ho4
            refine lv_iload_n E.1 E.2.1 dX1_beginSession_91 rfl (lv_at hl 4 rfl) ?_
            refine r_const E dX1_beginSession_92 ?_
            refine r_icmp_ne (tgt := 107) E dX1_beginSession_93 (by decide) (by omega) (by omega) (fun c93 => ?_) (fun c93 => ?_)
            · refine lv_aload_n E.1 E.2.1 dX1_beginSession_107 rfl (lv_at hl 3 rfl) ?_
              refine lv_aload_n E.1 E.2.1 dX1_beginSession_108 rfl (lv_at hl 1 rfl) ?_
              refine m_get E ho4 fw_X1_65 rfl dX1_beginSession_109 ?_
              refine m_put E hb0 fw_X1_33 fp_X1_5 rfl rfl (Nat.le_of_ble_eq_true rfl) hL (by omega) dX1_beginSession_112 (fun H2 locs hL hO_ hF_ => ?_)
              have hb2 := hb2.kept (hF_.2 _ (by omega))
              have hb3 := hb3.kept (hF_.2 _ (by omega))
              have hb4 := hb4.kept (hF_.2 _ (by omega))
              have ho4 := ho4.kept (hF_.2 _ (by omega))
              have hfr := hfr.one hF_ (by omega)
              have hr4 := hr4.kept (hF_.2 _ (by omega))
              have hb0 : Ob G (b) 1 [.ref (b + 1), .ref (b + 2), .ref (b + 3), .ref (b + 4), .int (iI ((mn σ : Int))), .int (iI ((nx σ : Int) + (s0 σ : Int))), .int (iI ((cntB (dm σ) 240 : Int)))] H2 := hO_
              clear hO_
              refine lv_aload_n E.1 E.2.1 dX1_beginSession_115 rfl (lv_at hl 3 rfl) ?_
              refine lv_dup E.1 E.2.1 dX1_beginSession_116 rfl ?_
              refine m_get E hb0 fw_X1_29 rfl dX1_beginSession_117 ?_
              refine r_const E dX1_beginSession_120 ?_
              refine r_add E dX1_beginSession_121 ?_
              refine m_put E hb0 fw_X1_29 fp_X1_4 rfl rfl (Nat.le_of_ble_eq_true rfl) hL (by omega) dX1_beginSession_122 (fun H3 locs hL hO_ hF_ => ?_)
              have hb2 := hb2.kept (hF_.2 _ (by omega))
              have hb3 := hb3.kept (hF_.2 _ (by omega))
              have hb4 := hb4.kept (hF_.2 _ (by omega))
              have ho4 := ho4.kept (hF_.2 _ (by omega))
              have hfr := hfr.one hF_ (by omega)
              have hr4 := hr4.kept (hF_.2 _ (by omega))
              have hb0 : Ob G (b) 1 [.ref (b + 1), .ref (b + 2), .ref (b + 3), .ref (b + 4), .int (iI ((mn σ : Int) + 1)), .int (iI ((nx σ : Int) + (s0 σ : Int))), .int (iI ((cntB (dm σ) 240 : Int)))] H3 := hO_
              clear hO_
              refine lv_aload_n E.1 E.2.1 dX1_beginSession_125 rfl (lv_at hl 3 rfl) ?_
              refine m_get E hb0 fw_X1_29 rfl dX1_beginSession_126 ?_
              refine r_const E dX1_beginSession_129 ?_
              refine r_sub E dX1_beginSession_130 ?_
              refine e_iret (rm := ({ frames := 4, cells := 0, slots := 0, locals := 94 } : Room)) (v := iI (((mn σ : Int) + 1) - 1)) E hL dX1_beginSession_131 ?_
              have hsp : spBegin σ x = ((mn σ : Int), mkS (nx σ + s0 σ) (mn σ + 1) (s0 σ) (s1 σ) (dm σ) (vr σ) (va_up (se σ) (mn σ) (fun w => if w = 1 then nx σ else if w = 2 then s0 σ else if w = 3 then s0 σ else if w = 4 then s1 σ else 0)) (va_up (en σ) (mn σ) (fun k => if x = 1 then foundF σ k else none))) := by
                unfold spBegin
                rw [if_neg (by omega), if_neg (by rw [hop]; decide), if_neg (by omega)]
              refine WD_i hsp (by omega) ?_ (hfr.S (by omega))
              refine hP.re (n := mn σ) hb0 (congrArg iI (by show _ = ((mn σ + 1 : Nat) : Int); omega)) (congrArg iI (by show _ = ((nx σ + s0 σ : Nat) : Int); omega)) rfl hb2 hb3 hb4 (by omega) ?_ hfr (fun j hj hj2 => ⟨by have h9 : j < mn σ + 1 := hj2; omega, up_n hj, up_n hj⟩)
              show SesL G _ fl (va_up (se σ) (mn σ) _ (mn σ)) (va_up (en σ) (mn σ) _ (mn σ)) _
              rw [up_s, up_s]
              refine SesL.mk2 (t := (fun _ => none)) ho4 hr4 ?_ rfl rfl (congrArg iI (by show _ = ((nx σ : Nat) : Int) + ((s0 σ : Nat) : Int); omega)) rfl rfl rfl
              intro k hk
              dsimp only
              rw [if_neg (by omega)]
              exact ⟨rfl, fun a h => by cases h⟩
            · refine lv_aloadN E.1 E.2.1 dX1_beginSession_96 (lv_at hl 0 rfl) ?_
              refine lv_ifnullN (tgt := 107) E.1 E.2.1 dX1_beginSession_98 (by decide) ?_
              refine lv_aload_n E.1 E.2.1 dX1_beginSession_107 rfl (lv_at hl 3 rfl) ?_
              refine lv_aload_n E.1 E.2.1 dX1_beginSession_108 rfl (lv_at hl 1 rfl) ?_
              refine m_get E ho4 fw_X1_65 rfl dX1_beginSession_109 ?_
              refine m_put E hb0 fw_X1_33 fp_X1_5 rfl rfl (Nat.le_of_ble_eq_true rfl) hL (by omega) dX1_beginSession_112 (fun H2 locs hL hO_ hF_ => ?_)
              have hb2 := hb2.kept (hF_.2 _ (by omega))
              have hb3 := hb3.kept (hF_.2 _ (by omega))
              have hb4 := hb4.kept (hF_.2 _ (by omega))
              have ho4 := ho4.kept (hF_.2 _ (by omega))
              have hfr := hfr.one hF_ (by omega)
              have hr4 := hr4.kept (hF_.2 _ (by omega))
              have hb0 : Ob G (b) 1 [.ref (b + 1), .ref (b + 2), .ref (b + 3), .ref (b + 4), .int (iI ((mn σ : Int))), .int (iI ((nx σ : Int) + (s0 σ : Int))), .int (iI ((cntB (dm σ) 240 : Int)))] H2 := hO_
              clear hO_
              refine lv_aload_n E.1 E.2.1 dX1_beginSession_115 rfl (lv_at hl 3 rfl) ?_
              refine lv_dup E.1 E.2.1 dX1_beginSession_116 rfl ?_
              refine m_get E hb0 fw_X1_29 rfl dX1_beginSession_117 ?_
              refine r_const E dX1_beginSession_120 ?_
              refine r_add E dX1_beginSession_121 ?_
              refine m_put E hb0 fw_X1_29 fp_X1_4 rfl rfl (Nat.le_of_ble_eq_true rfl) hL (by omega) dX1_beginSession_122 (fun H3 locs hL hO_ hF_ => ?_)
              have hb2 := hb2.kept (hF_.2 _ (by omega))
              have hb3 := hb3.kept (hF_.2 _ (by omega))
              have hb4 := hb4.kept (hF_.2 _ (by omega))
              have ho4 := ho4.kept (hF_.2 _ (by omega))
              have hfr := hfr.one hF_ (by omega)
              have hr4 := hr4.kept (hF_.2 _ (by omega))
              have hb0 : Ob G (b) 1 [.ref (b + 1), .ref (b + 2), .ref (b + 3), .ref (b + 4), .int (iI ((mn σ : Int) + 1)), .int (iI ((nx σ : Int) + (s0 σ : Int))), .int (iI ((cntB (dm σ) 240 : Int)))] H3 := hO_
              clear hO_
              refine lv_aload_n E.1 E.2.1 dX1_beginSession_125 rfl (lv_at hl 3 rfl) ?_
              refine m_get E hb0 fw_X1_29 rfl dX1_beginSession_126 ?_
              refine r_const E dX1_beginSession_129 ?_
              refine r_sub E dX1_beginSession_130 ?_
              refine e_iret (rm := ({ frames := 4, cells := 0, slots := 0, locals := 94 } : Room)) (v := iI (((mn σ : Int) + 1) - 1)) E hL dX1_beginSession_131 ?_
              have hsp : spBegin σ x = ((mn σ : Int), mkS (nx σ + s0 σ) (mn σ + 1) (s0 σ) (s1 σ) (dm σ) (vr σ) (va_up (se σ) (mn σ) (fun w => if w = 1 then nx σ else if w = 2 then s0 σ else if w = 3 then s0 σ else if w = 4 then s1 σ else 0)) (va_up (en σ) (mn σ) (fun k => if x = 1 then foundF σ k else none))) := by
                unfold spBegin
                rw [if_neg (by omega), if_neg (by rw [hop]; decide), if_neg (by omega)]
              refine WD_i hsp (by omega) ?_ (hfr.S (by omega))
              refine hP.re (n := mn σ) hb0 (congrArg iI (by show _ = ((mn σ + 1 : Nat) : Int); omega)) (congrArg iI (by show _ = ((nx σ + s0 σ : Nat) : Int); omega)) rfl hb2 hb3 hb4 (by omega) ?_ hfr (fun j hj hj2 => ⟨by have h9 : j < mn σ + 1 := hj2; omega, up_n hj, up_n hj⟩)
              show SesL G _ fl (va_up (se σ) (mn σ) _ (mn σ)) (va_up (en σ) (mn σ) _ (mn σ)) _
              rw [up_s, up_s]
              refine SesL.mk2 (t := (fun _ => none)) ho4 hr4 ?_ rfl rfl (congrArg iI (by show _ = ((nx σ : Nat) : Int) + ((s0 σ : Nat) : Int); omega)) rfl rfl rfl
              intro k hk
              dsimp only
              rw [if_pos c93]
              simp only [foundF, hv]
              exact ⟨rfl, fun a h => by cases h⟩
          · have hv1 := validD_lt hv
            rw [show oI (some v) = (v : Int) from rfl]
            refine kVQE (As := [.int (iI ((v : Int)))]) E cw_X1_54 (c_sessionAt_s G l b fl σ hI v (by omega)) hP.1 ⟨_, _, rfl⟩ hP hL hl.1 rfl rfl (Nat.le_of_ble_eq_true rfl) ⟨Nat.le_of_ble_eq_true rfl, Nat.le_of_ble_eq_true rfl⟩ ⟨rfl, rfl⟩ ⟨Nat.le_of_ble_eq_true rfl, Nat.le_of_ble_eq_true rfl⟩ dX1_beginSession_66 (fun locs hL => ?_)
            refine lv_astore (lv' := [(4, .ref (b + 5 + 2 * v)), (3, .ref (b + 5 + 2 * mn σ)), (2, .int (iI ((s0 σ : Int) + (s1 σ : Int)))), (0, .ref (b)), (1, .int (iI (x)))]) E.1 E.2.1 dX1_beginSession_69 hl (by decide) rfl (fun ls hl => ?_)
            refine lv_aload_n E.1 E.2.1 dX1_beginSession_71 rfl (lv_at hl 1 rfl) ?_
            refine lv_aload_n E.1 E.2.1 dX1_beginSession_72 rfl (lv_at hl 3 rfl) ?_
            refine m_get E hb0 fw_X1_33 rfl dX1_beginSession_73 ?_
            refine lv_aload_n E.1 E.2.1 dX1_beginSession_76 rfl (lv_at hl 3 rfl) ?_
            refine m_get E hb0 fw_X1_25 rfl dX1_beginSession_77 ?_
            refine r_const E dX1_beginSession_80 ?_
            refine r_iald E hb4 (0) rfl (by decide) (by decide) dX1_beginSession_81 ?_
            rw [if_pos rfl]
            refine lv_aload_n E.1 E.2.1 dX1_beginSession_82 rfl (lv_at hl 3 rfl) ?_
            refine m_get E hb0 fw_X1_25 rfl dX1_beginSession_83 ?_
            refine r_const E dX1_beginSession_86 ?_
            refine r_iald E hb4 (1) rfl (by decide) (by decide) dX1_beginSession_87 ?_
            rw [if_neg (by decide)]
            refine kVWV (As := [.int (iI ((nx σ : Int))), .int (iI ((s0 σ : Int))), .int (iI ((s1 σ : Int)))]) E cw_X1_58 (c_X3_startAt G l (b + 5 + 2 * mn σ) ((nx σ : Int)) ((s0 σ : Int)) ((s1 σ : Int)) wd td (by omega)) hod ⟨_, _, rfl⟩ ⟨hod, hrd⟩ hL hl.1 rfl rfl (Nat.le_of_ble_eq_true rfl) ⟨Nat.le_of_ble_eq_true rfl, Nat.le_of_ble_eq_true rfl⟩ ⟨Nat.le_of_ble_eq_true rfl, Nat.le_of_ble_eq_true rfl⟩ dX1_beginSession_88 (fun H1 locs hL hw_ => ?_)
            obtain ⟨⟨ho4, hr4⟩, hq⟩ := hw_
            have hb0 := hb0.kept (hq.2 _ (by omega))
            have hb2 := hb2.kept (hq.2 _ (by omega))
            have hb3 := hb3.kept (hq.2 _ (by omega))
            have hb4 := hb4.kept (hq.2 _ (by omega))
            have hfr := (FrD.rf (b := b) (n := mn σ) (H := s.heap)).ses hq (by omega) (by omega)
            have ho4 : Ob G (b + 5 + 2 * mn σ) 3 [.ref (b + 5 + 2 * mn σ + 1), .int (iI (0)), .int (iI ((nx σ : Int))), .int (iI ((nx σ : Int) + (s0 σ : Int))), .int (iI ((s0 σ : Int))), .int (iI ((s1 σ : Int))), .int (iI (0))] H1 := ho4
            refine lv_iload_n E.1 E.2.1 dX1_beginSession_91 rfl (lv_at hl 4 rfl) ?_
            refine r_const E dX1_beginSession_92 ?_
            refine r_icmp_ne (tgt := 107) E dX1_beginSession_93 (by decide) (by omega) (by omega) (fun c93 => ?_) (fun c93 => ?_)
            · refine lv_aload_n E.1 E.2.1 dX1_beginSession_107 rfl (lv_at hl 3 rfl) ?_
              refine lv_aload_n E.1 E.2.1 dX1_beginSession_108 rfl (lv_at hl 1 rfl) ?_
              refine m_get E ho4 fw_X1_65 rfl dX1_beginSession_109 ?_
              refine m_put E hb0 fw_X1_33 fp_X1_5 rfl rfl (Nat.le_of_ble_eq_true rfl) hL (by omega) dX1_beginSession_112 (fun H2 locs hL hO_ hF_ => ?_)
              have hb2 := hb2.kept (hF_.2 _ (by omega))
              have hb3 := hb3.kept (hF_.2 _ (by omega))
              have hb4 := hb4.kept (hF_.2 _ (by omega))
              have ho4 := ho4.kept (hF_.2 _ (by omega))
              have hfr := hfr.one hF_ (by omega)
              have hr4 := hr4.kept (hF_.2 _ (by omega))
              have hb0 : Ob G (b) 1 [.ref (b + 1), .ref (b + 2), .ref (b + 3), .ref (b + 4), .int (iI ((mn σ : Int))), .int (iI ((nx σ : Int) + (s0 σ : Int))), .int (iI ((cntB (dm σ) 240 : Int)))] H2 := hO_
              clear hO_
              refine lv_aload_n E.1 E.2.1 dX1_beginSession_115 rfl (lv_at hl 3 rfl) ?_
              refine lv_dup E.1 E.2.1 dX1_beginSession_116 rfl ?_
              refine m_get E hb0 fw_X1_29 rfl dX1_beginSession_117 ?_
              refine r_const E dX1_beginSession_120 ?_
              refine r_add E dX1_beginSession_121 ?_
              refine m_put E hb0 fw_X1_29 fp_X1_4 rfl rfl (Nat.le_of_ble_eq_true rfl) hL (by omega) dX1_beginSession_122 (fun H3 locs hL hO_ hF_ => ?_)
              have hb2 := hb2.kept (hF_.2 _ (by omega))
              have hb3 := hb3.kept (hF_.2 _ (by omega))
              have hb4 := hb4.kept (hF_.2 _ (by omega))
              have ho4 := ho4.kept (hF_.2 _ (by omega))
              have hfr := hfr.one hF_ (by omega)
              have hr4 := hr4.kept (hF_.2 _ (by omega))
              have hb0 : Ob G (b) 1 [.ref (b + 1), .ref (b + 2), .ref (b + 3), .ref (b + 4), .int (iI ((mn σ : Int) + 1)), .int (iI ((nx σ : Int) + (s0 σ : Int))), .int (iI ((cntB (dm σ) 240 : Int)))] H3 := hO_
              clear hO_
              refine lv_aload_n E.1 E.2.1 dX1_beginSession_125 rfl (lv_at hl 3 rfl) ?_
              refine m_get E hb0 fw_X1_29 rfl dX1_beginSession_126 ?_
              refine r_const E dX1_beginSession_129 ?_
              refine r_sub E dX1_beginSession_130 ?_
              refine e_iret (rm := ({ frames := 4, cells := 0, slots := 0, locals := 94 } : Room)) (v := iI (((mn σ : Int) + 1) - 1)) E hL dX1_beginSession_131 ?_
              have hsp : spBegin σ x = ((mn σ : Int), mkS (nx σ + s0 σ) (mn σ + 1) (s0 σ) (s1 σ) (dm σ) (vr σ) (va_up (se σ) (mn σ) (fun w => if w = 1 then nx σ else if w = 2 then s0 σ else if w = 3 then s0 σ else if w = 4 then s1 σ else 0)) (va_up (en σ) (mn σ) (fun k => if x = 1 then foundF σ k else none))) := by
                unfold spBegin
                rw [if_neg (by omega), if_neg (by rw [hop]; decide), if_neg (by omega)]
              refine WD_i hsp (by omega) ?_ (hfr.S (by omega))
              refine hP.re (n := mn σ) hb0 (congrArg iI (by show _ = ((mn σ + 1 : Nat) : Int); omega)) (congrArg iI (by show _ = ((nx σ + s0 σ : Nat) : Int); omega)) rfl hb2 hb3 hb4 (by omega) ?_ hfr (fun j hj hj2 => ⟨by have h9 : j < mn σ + 1 := hj2; omega, up_n hj, up_n hj⟩)
              show SesL G _ fl (va_up (se σ) (mn σ) _ (mn σ)) (va_up (en σ) (mn σ) _ (mn σ)) _
              rw [up_s, up_s]
              refine SesL.mk2 (t := (fun _ => none)) ho4 hr4 ?_ rfl rfl (congrArg iI (by show _ = ((nx σ : Nat) : Int) + ((s0 σ : Nat) : Int); omega)) rfl rfl rfl
              intro k hk
              dsimp only
              rw [if_neg (by omega)]
              exact ⟨rfl, fun a h => by cases h⟩
            · refine lv_aload E.1 E.2.1 dX1_beginSession_96 (lv_at hl 0 rfl) ?_
              refine lv_ifnull E.1 E.2.1 dX1_beginSession_98 ?_
              obtain ⟨t_, ho_, hr_, ht_⟩ := hP.live hv1 (by omega)
              have ho_ := ho_.kept (hfr.2 _ (by omega) (by omega) (by omega) (by omega) (by omega) (by omega))
              have hr_ := hr_.kept (hfr.2 _ (by omega) (by omega) (by omega) (by omega) (by omega) (by omega))
              have hT : TabF G fb t_ s.heap := ht_.F hFl
              have hT : TabF G fb t_ H1 := hT.kept (fun q h1 h2 => (hfr.S (by omega)).2 q (by omega))
              refine lv_aload_n E.1 E.2.1 dX1_beginSession_101 rfl (lv_at hl 1 rfl) ?_
              refine lv_aload E.1 E.2.1 dX1_beginSession_102 (lv_at hl 0 rfl) ?_
              refine kVWV (As := [.ref (b + 5 + 2 * v)]) E cw_X1_62 (c_X3_copyTable G l (b + 5 + 2 * mn σ) (b + 5 + 2 * v) fb (fun k => if k = 0 then iI 0 else if k = 1 then iI (nx σ) else if k = 2 then iI ((nx σ : Int) + (s0 σ : Int)) else if k = 3 then iI (s0 σ) else if k = 4 then iI (s1 σ) else iI 0) (encR (se σ v)) (fun _ => none) t_ (by omega) (by omega) (by omega)) ho4 ⟨_, _, rfl⟩ ⟨⟨ho4, hr4⟩, ⟨ho_, hr_⟩, hT⟩ hL hl.1 rfl rfl (Nat.le_of_ble_eq_true rfl) ⟨Nat.le_of_ble_eq_true rfl, Nat.le_of_ble_eq_true rfl⟩ ⟨Nat.le_of_ble_eq_true rfl, Nat.le_of_ble_eq_true rfl⟩ dX1_beginSession_104 (fun H2 locs hL hw_ => ?_)
              obtain ⟨⟨ho4, hr4⟩, hq⟩ := hw_
              have hb0 := hb0.kept (hq.2 _ (by omega))
              have hb2 := hb2.kept (hq.2 _ (by omega))
              have hb3 := hb3.kept (hq.2 _ (by omega))
              have hb4 := hb4.kept (hq.2 _ (by omega))
              have hfr := hfr.ses hq (by omega) (by omega)
              have ho4 : Ob G (b + 5 + 2 * mn σ) 3 [.ref (b + 5 + 2 * mn σ + 1), .int (iI (0)), .int (iI ((nx σ : Int))), .int (iI ((nx σ : Int) + (s0 σ : Int))), .int (iI ((s0 σ : Int))), .int (iI ((s1 σ : Int))), .int (iI (0))] H2 := ho4
              refine lv_aload_n E.1 E.2.1 dX1_beginSession_107 rfl (lv_at hl 3 rfl) ?_
              refine lv_aload_n E.1 E.2.1 dX1_beginSession_108 rfl (lv_at hl 1 rfl) ?_
              refine m_get E ho4 fw_X1_65 rfl dX1_beginSession_109 ?_
              refine m_put E hb0 fw_X1_33 fp_X1_5 rfl rfl (Nat.le_of_ble_eq_true rfl) hL (by omega) dX1_beginSession_112 (fun H3 locs hL hO_ hF_ => ?_)
              have hb2 := hb2.kept (hF_.2 _ (by omega))
              have hb3 := hb3.kept (hF_.2 _ (by omega))
              have hb4 := hb4.kept (hF_.2 _ (by omega))
              have ho4 := ho4.kept (hF_.2 _ (by omega))
              have hfr := hfr.one hF_ (by omega)
              have hr4 := hr4.kept (hF_.2 _ (by omega))
              have hb0 : Ob G (b) 1 [.ref (b + 1), .ref (b + 2), .ref (b + 3), .ref (b + 4), .int (iI ((mn σ : Int))), .int (iI ((nx σ : Int) + (s0 σ : Int))), .int (iI ((cntB (dm σ) 240 : Int)))] H3 := hO_
              clear hO_
              refine lv_aload_n E.1 E.2.1 dX1_beginSession_115 rfl (lv_at hl 3 rfl) ?_
              refine lv_dup E.1 E.2.1 dX1_beginSession_116 rfl ?_
              refine m_get E hb0 fw_X1_29 rfl dX1_beginSession_117 ?_
              refine r_const E dX1_beginSession_120 ?_
              refine r_add E dX1_beginSession_121 ?_
              refine m_put E hb0 fw_X1_29 fp_X1_4 rfl rfl (Nat.le_of_ble_eq_true rfl) hL (by omega) dX1_beginSession_122 (fun H4 locs hL hO_ hF_ => ?_)
              have hb2 := hb2.kept (hF_.2 _ (by omega))
              have hb3 := hb3.kept (hF_.2 _ (by omega))
              have hb4 := hb4.kept (hF_.2 _ (by omega))
              have ho4 := ho4.kept (hF_.2 _ (by omega))
              have hfr := hfr.one hF_ (by omega)
              have hr4 := hr4.kept (hF_.2 _ (by omega))
              have hb0 : Ob G (b) 1 [.ref (b + 1), .ref (b + 2), .ref (b + 3), .ref (b + 4), .int (iI ((mn σ : Int) + 1)), .int (iI ((nx σ : Int) + (s0 σ : Int))), .int (iI ((cntB (dm σ) 240 : Int)))] H4 := hO_
              clear hO_
              refine lv_aload_n E.1 E.2.1 dX1_beginSession_125 rfl (lv_at hl 3 rfl) ?_
              refine m_get E hb0 fw_X1_29 rfl dX1_beginSession_126 ?_
              refine r_const E dX1_beginSession_129 ?_
              refine r_sub E dX1_beginSession_130 ?_
              refine e_iret (rm := ({ frames := 4, cells := 0, slots := 0, locals := 94 } : Room)) (v := iI (((mn σ : Int) + 1) - 1)) E hL dX1_beginSession_131 ?_
              have hsp : spBegin σ x = ((mn σ : Int), mkS (nx σ + s0 σ) (mn σ + 1) (s0 σ) (s1 σ) (dm σ) (vr σ) (va_up (se σ) (mn σ) (fun w => if w = 1 then nx σ else if w = 2 then s0 σ else if w = 3 then s0 σ else if w = 4 then s1 σ else 0)) (va_up (en σ) (mn σ) (fun k => if x = 1 then foundF σ k else none))) := by
                unfold spBegin
                rw [if_neg (by omega), if_neg (by rw [hop]; decide), if_neg (by omega)]
              refine WD_i hsp (by omega) ?_ (hfr.S (by omega))
              refine hP.re (n := mn σ) hb0 (congrArg iI (by show _ = ((mn σ + 1 : Nat) : Int); omega)) (congrArg iI (by show _ = ((nx σ + s0 σ : Nat) : Int); omega)) rfl hb2 hb3 hb4 (by omega) ?_ hfr (fun j hj hj2 => ⟨by have h9 : j < mn σ + 1 := hj2; omega, up_n hj, up_n hj⟩)
              show SesL G _ fl (va_up (se σ) (mn σ) _ (mn σ)) (va_up (en σ) (mn σ) _ (mn σ)) _
              rw [up_s, up_s]
              refine SesL.mk2 (t := t_) ho4 hr4 ?_ rfl rfl (congrArg iI (by show _ = ((nx σ : Nat) : Int) + ((s0 σ : Nat) : Int); omega)) rfl rfl rfl
              intro k hk
              dsimp only
              rw [if_pos c93]
              simp only [foundF, hv]
              exact ht_ k hk
        · refine r_bipush E dX1_beginSession_57 (by decide) ?_
          refine e_iret (rm := ({ frames := 4, cells := 0, slots := 0, locals := 94 } : Room)) (v := iI ((-4))) E hL dX1_beginSession_59 ?_
          exact WD_i (w := -4) (τ := σ) (by unfold spBegin; rw [if_neg (by omega), if_neg (by rw [hop]; decide), if_pos (by omega)]) rfl hP FrS.rf
      · rw [if_neg (by omega)]
        refine lv_astore_nN (lv' := [(3, .null), (2, .int (iI ((s0 σ : Int) + (s1 σ : Int)))), (0, .ref (b)), (1, .int (iI (x)))]) E.1 E.2.1 dX1_beginSession_40 rfl hl (by decide) rfl (fun ls hl => ?_)
        refine lv_aload_nN E.1 E.2.1 dX1_beginSession_41 rfl (lv_at hl 0 rfl) ?_
        refine lv_ifnullN (tgt := 57) E.1 E.2.1 dX1_beginSession_42 (by decide) ?_
        refine r_bipush E dX1_beginSession_57 (by decide) ?_
        refine e_iret (rm := ({ frames := 4, cells := 0, slots := 0, locals := 94 } : Room)) (v := iI ((-4))) E hL dX1_beginSession_59 ?_
        exact WD_i (w := -4) (τ := σ) (by unfold spBegin; rw [if_neg (by omega), if_neg (by rw [hop]; decide), if_pos (by omega)]) rfl hP FrS.rf
    · have hn := (opn_some hop).1
      have hn0 := (opn_some hop).2
      have hrow := hI.row (n := n) (by omega)
      refine lv_ifnull E.1 E.2.1 dX1_beginSession_16 ?_
      refine r_bipush E dX1_beginSession_19 (by decide) ?_
      refine e_iret (rm := ({ frames := 4, cells := 0, slots := 0, locals := 94 } : Room)) (v := iI ((-5))) E hL dX1_beginSession_21 ?_
      exact WD_i (w := -5) (τ := σ) (by unfold spBegin; rw [if_neg (by omega), if_pos (by rw [hop]; rfl)]) rfl hP FrS.rf
  · refine lv_iload_n E.1 E.2.1 dX1_beginSession_4 rfl (lv_at hl 1 rfl) ?_
    refine r_const E dX1_beginSession_5 ?_
    refine r_icmp_eq (tgt := 12) E dX1_beginSession_6 (by decide) (by omega) (by omega) (fun c6 => ?_) (fun c6 => ?_)
    · refine lv_aload_n E.1 E.2.1 dX1_beginSession_12 rfl (lv_at hl 0 rfl) ?_
      refine kVQE (As := []) E cw_X1_43 (c_X1_openSession G l b fl σ hI) hP.1 ⟨_, _, rfl⟩ hP hL hl.1 rfl rfl (Nat.le_of_ble_eq_true rfl) ⟨Nat.le_of_ble_eq_true rfl, Nat.le_of_ble_eq_true rfl⟩ ⟨rfl, rfl⟩ ⟨Nat.le_of_ble_eq_true rfl, Nat.le_of_ble_eq_true rfl⟩ dX1_beginSession_13 (fun locs hL => ?_)
      rcases hop : opn σ with _ | n
      · refine lv_ifnullN (tgt := 22) E.1 E.2.1 dX1_beginSession_16 (by decide) ?_
        refine lv_aload_n E.1 E.2.1 dX1_beginSession_22 rfl (lv_at hl 0 rfl) ?_
        refine m_get E hb0 fw_X1_25 rfl dX1_beginSession_23 ?_
        refine r_const E dX1_beginSession_26 ?_
        refine r_iald E hb4 (0) rfl (by decide) (by decide) dX1_beginSession_27 ?_
        rw [if_pos rfl]
        refine lv_aload_n E.1 E.2.1 dX1_beginSession_28 rfl (lv_at hl 0 rfl) ?_
        refine m_get E hb0 fw_X1_25 rfl dX1_beginSession_29 ?_
        refine r_const E dX1_beginSession_32 ?_
        refine r_iald E hb4 (1) rfl (by decide) (by decide) dX1_beginSession_33 ?_
        rw [if_neg (by decide)]
        refine r_add E dX1_beginSession_34 ?_
        refine lv_istore_n (lv' := [(2, .int (iI ((s0 σ : Int) + (s1 σ : Int)))), (0, .ref (b)), (1, .int (iI (x)))]) E.1 E.2.1 dX1_beginSession_35 rfl hl (by decide) rfl (fun ls hl => ?_)
        refine lv_aload_n E.1 E.2.1 dX1_beginSession_36 rfl (lv_at hl 1 rfl) ?_
        refine kVQE (As := []) E cw_X1_47 (c_X1_freshSession G l b fl σ hI) hP.1 ⟨_, _, rfl⟩ hP hL hl.1 rfl rfl (Nat.le_of_ble_eq_true rfl) ⟨Nat.le_of_ble_eq_true rfl, Nat.le_of_ble_eq_true rfl⟩ ⟨rfl, rfl⟩ ⟨Nat.le_of_ble_eq_true rfl, Nat.le_of_ble_eq_true rfl⟩ dX1_beginSession_37 (fun locs hL => ?_)
        rcases Nat.lt_or_ge (mn σ) 12 with hfs | hfs
        · rw [if_pos hfs]
          obtain ⟨wd, td, hod, hrd⟩ := hP.2.2.2.2.2.1 (mn σ) (by omega)
          refine lv_astore_n (lv' := [(3, .ref (b + 5 + 2 * mn σ)), (2, .int (iI ((s0 σ : Int) + (s1 σ : Int)))), (0, .ref (b)), (1, .int (iI (x)))]) E.1 E.2.1 dX1_beginSession_40 rfl hl (by decide) rfl (fun ls hl => ?_)
          refine lv_aload_n E.1 E.2.1 dX1_beginSession_41 rfl (lv_at hl 0 rfl) ?_
          refine lv_ifnull E.1 E.2.1 dX1_beginSession_42 ?_
          refine lv_aload_n E.1 E.2.1 dX1_beginSession_45 rfl (lv_at hl 2 rfl) ?_
          refine m_get E hb0 fw_X1_33 rfl dX1_beginSession_46 ?_
          refine lv_iload_n E.1 E.2.1 dX1_beginSession_49 rfl (lv_at hl 1 rfl) ?_
          refine r_add E dX1_beginSession_50 ?_
          refine r_sipush E dX1_beginSession_51 (by decide) ?_
          refine r_icmp_le (tgt := 60) E dX1_beginSession_54 (by decide) (by omega) (by omega) (fun c54 => ?_) (fun c54 => ?_)
          · refine lv_aload_n E.1 E.2.1 dX1_beginSession_60 rfl (lv_at hl 2 rfl) ?_
            refine lv_aload_n E.1 E.2.1 dX1_beginSession_61 rfl (lv_at hl 2 rfl) ?_
            refine r_const E dX1_beginSession_62 ?_
            refine kVRE (As := [.int (iI ((-1)))]) E cw_X1_50 (c_X1_validNumberIf G l b fl σ hI ((-1)) (by unfold okI; omega)) hP.1 ⟨_, _, rfl⟩ hP hL hl.1 rfl rfl (Nat.le_of_ble_eq_true rfl) ⟨Nat.le_of_ble_eq_true rfl, Nat.le_of_ble_eq_true rfl⟩ ⟨rfl, rfl⟩ ⟨Nat.le_of_ble_eq_true rfl, Nat.le_of_ble_eq_true rfl⟩ dX1_beginSession_63 (fun locs hL => ?_)
            rw [dmH_m1 (σ := σ) (h := -1) (by decide)]
            rcases hv : validD σ (dm σ) with _ | v
            · rw [show oI none = -6 from rfl]
              refine kVQE (As := [.int (iI ((-6)))]) E cw_X1_54 (c_sessionAt_n G l b fl σ hI ((-6)) (by unfold okI; omega) (by omega)) hP.1 ⟨_, _, rfl⟩ hP hL hl.1 rfl rfl (Nat.le_of_ble_eq_true rfl) ⟨Nat.le_of_ble_eq_true rfl, Nat.le_of_ble_eq_true rfl⟩ ⟨rfl, rfl⟩ ⟨Nat.le_of_ble_eq_true rfl, Nat.le_of_ble_eq_true rfl⟩ dX1_beginSession_66 (fun locs hL => ?_)
              refine lv_astoreN (lv' := [(4, .null), (3, .ref (b + 5 + 2 * mn σ)), (2, .int (iI ((s0 σ : Int) + (s1 σ : Int)))), (0, .ref (b)), (1, .int (iI (x)))]) E.1 E.2.1 dX1_beginSession_69 hl (by decide) rfl (fun ls hl => ?_)
              refine lv_aload_n E.1 E.2.1 dX1_beginSession_71 rfl (lv_at hl 1 rfl) ?_
              refine lv_aload_n E.1 E.2.1 dX1_beginSession_72 rfl (lv_at hl 3 rfl) ?_
              refine m_get E hb0 fw_X1_33 rfl dX1_beginSession_73 ?_
              refine lv_aload_n E.1 E.2.1 dX1_beginSession_76 rfl (lv_at hl 3 rfl) ?_
              refine m_get E hb0 fw_X1_25 rfl dX1_beginSession_77 ?_
              refine r_const E dX1_beginSession_80 ?_
              refine r_iald E hb4 (0) rfl (by decide) (by decide) dX1_beginSession_81 ?_
              rw [if_pos rfl]
              refine lv_aload_n E.1 E.2.1 dX1_beginSession_82 rfl (lv_at hl 3 rfl) ?_
              refine m_get E hb0 fw_X1_25 rfl dX1_beginSession_83 ?_
              refine r_const E dX1_beginSession_86 ?_
              refine r_iald E hb4 (1) rfl (by decide) (by decide) dX1_beginSession_87 ?_
              rw [if_neg (by decide)]
              refine kVWV (As := [.int (iI ((nx σ : Int))), .int (iI ((s0 σ : Int))), .int (iI ((s1 σ : Int)))]) E cw_X1_58 (c_X3_startAt G l (b + 5 + 2 * mn σ) ((nx σ : Int)) ((s0 σ : Int)) ((s1 σ : Int)) wd td (by omega)) hod ⟨_, _, rfl⟩ ⟨hod, hrd⟩ hL hl.1 rfl rfl (Nat.le_of_ble_eq_true rfl) ⟨Nat.le_of_ble_eq_true rfl, Nat.le_of_ble_eq_true rfl⟩ ⟨Nat.le_of_ble_eq_true rfl, Nat.le_of_ble_eq_true rfl⟩ dX1_beginSession_88 (fun H1 locs hL hw_ => ?_)
              obtain ⟨⟨ho4, hr4⟩, hq⟩ := hw_
              have hb0 := hb0.kept (hq.2 _ (by omega))
              have hb2 := hb2.kept (hq.2 _ (by omega))
              have hb3 := hb3.kept (hq.2 _ (by omega))
              have hb4 := hb4.kept (hq.2 _ (by omega))
              have hfr := (FrD.rf (b := b) (n := mn σ) (H := s.heap)).ses hq (by omega) (by omega)
              have ho4 : Ob G (b + 5 + 2 * mn σ) 3 [.ref (b + 5 + 2 * mn σ + 1), .int (iI (0)), .int (iI ((nx σ : Int))), .int (iI ((nx σ : Int) + (s0 σ : Int))), .int (iI ((s0 σ : Int))), .int (iI ((s1 σ : Int))), .int (iI (0))] H1 := ho4
              refine lv_iload_n E.1 E.2.1 dX1_beginSession_91 rfl (lv_at hl 4 rfl) ?_
              refine r_const E dX1_beginSession_92 ?_
              refine r_icmp_ne (tgt := 107) E dX1_beginSession_93 (by decide) (by omega) (by omega) (fun c93 => ?_) (fun c93 => ?_)
              · refine lv_aload_n E.1 E.2.1 dX1_beginSession_107 rfl (lv_at hl 3 rfl) ?_
                refine lv_aload_n E.1 E.2.1 dX1_beginSession_108 rfl (lv_at hl 1 rfl) ?_
                refine m_get E ho4 fw_X1_65 rfl dX1_beginSession_109 ?_
                refine m_put E hb0 fw_X1_33 fp_X1_5 rfl rfl (Nat.le_of_ble_eq_true rfl) hL (by omega) dX1_beginSession_112 (fun H2 locs hL hO_ hF_ => ?_)
                have hb2 := hb2.kept (hF_.2 _ (by omega))
                have hb3 := hb3.kept (hF_.2 _ (by omega))
                have hb4 := hb4.kept (hF_.2 _ (by omega))
                have ho4 := ho4.kept (hF_.2 _ (by omega))
                have hfr := hfr.one hF_ (by omega)
                have hr4 := hr4.kept (hF_.2 _ (by omega))
                have hb0 : Ob G (b) 1 [.ref (b + 1), .ref (b + 2), .ref (b + 3), .ref (b + 4), .int (iI ((mn σ : Int))), .int (iI ((nx σ : Int) + (s0 σ : Int))), .int (iI ((cntB (dm σ) 240 : Int)))] H2 := hO_
                clear hO_
                refine lv_aload_n E.1 E.2.1 dX1_beginSession_115 rfl (lv_at hl 3 rfl) ?_
                refine lv_dup E.1 E.2.1 dX1_beginSession_116 rfl ?_
                refine m_get E hb0 fw_X1_29 rfl dX1_beginSession_117 ?_
                refine r_const E dX1_beginSession_120 ?_
                refine r_add E dX1_beginSession_121 ?_
                refine m_put E hb0 fw_X1_29 fp_X1_4 rfl rfl (Nat.le_of_ble_eq_true rfl) hL (by omega) dX1_beginSession_122 (fun H3 locs hL hO_ hF_ => ?_)
                have hb2 := hb2.kept (hF_.2 _ (by omega))
                have hb3 := hb3.kept (hF_.2 _ (by omega))
                have hb4 := hb4.kept (hF_.2 _ (by omega))
                have ho4 := ho4.kept (hF_.2 _ (by omega))
                have hfr := hfr.one hF_ (by omega)
                have hr4 := hr4.kept (hF_.2 _ (by omega))
                have hb0 : Ob G (b) 1 [.ref (b + 1), .ref (b + 2), .ref (b + 3), .ref (b + 4), .int (iI ((mn σ : Int) + 1)), .int (iI ((nx σ : Int) + (s0 σ : Int))), .int (iI ((cntB (dm σ) 240 : Int)))] H3 := hO_
                clear hO_
                refine lv_aload_n E.1 E.2.1 dX1_beginSession_125 rfl (lv_at hl 3 rfl) ?_
                refine m_get E hb0 fw_X1_29 rfl dX1_beginSession_126 ?_
                refine r_const E dX1_beginSession_129 ?_
                refine r_sub E dX1_beginSession_130 ?_
                refine e_iret (rm := ({ frames := 4, cells := 0, slots := 0, locals := 94 } : Room)) (v := iI (((mn σ : Int) + 1) - 1)) E hL dX1_beginSession_131 ?_
                have hsp : spBegin σ x = ((mn σ : Int), mkS (nx σ + s0 σ) (mn σ + 1) (s0 σ) (s1 σ) (dm σ) (vr σ) (va_up (se σ) (mn σ) (fun w => if w = 1 then nx σ else if w = 2 then s0 σ else if w = 3 then s0 σ else if w = 4 then s1 σ else 0)) (va_up (en σ) (mn σ) (fun k => if x = 1 then foundF σ k else none))) := by
                  unfold spBegin
                  rw [if_neg (by omega), if_neg (by rw [hop]; decide), if_neg (by omega)]
                refine WD_i hsp (by omega) ?_ (hfr.S (by omega))
                refine hP.re (n := mn σ) hb0 (congrArg iI (by show _ = ((mn σ + 1 : Nat) : Int); omega)) (congrArg iI (by show _ = ((nx σ + s0 σ : Nat) : Int); omega)) rfl hb2 hb3 hb4 (by omega) ?_ hfr (fun j hj hj2 => ⟨by have h9 : j < mn σ + 1 := hj2; omega, up_n hj, up_n hj⟩)
                show SesL G _ fl (va_up (se σ) (mn σ) _ (mn σ)) (va_up (en σ) (mn σ) _ (mn σ)) _
                rw [up_s, up_s]
                refine SesL.mk2 (t := (fun _ => none)) ho4 hr4 ?_ rfl rfl (congrArg iI (by show _ = ((nx σ : Nat) : Int) + ((s0 σ : Nat) : Int); omega)) rfl rfl rfl
                intro k hk
                dsimp only
                rw [if_neg (by omega)]
                exact ⟨rfl, fun a h => by cases h⟩
              · refine lv_aloadN E.1 E.2.1 dX1_beginSession_96 (lv_at hl 0 rfl) ?_
                refine lv_ifnullN (tgt := 107) E.1 E.2.1 dX1_beginSession_98 (by decide) ?_
                refine lv_aload_n E.1 E.2.1 dX1_beginSession_107 rfl (lv_at hl 3 rfl) ?_
                refine lv_aload_n E.1 E.2.1 dX1_beginSession_108 rfl (lv_at hl 1 rfl) ?_
                refine m_get E ho4 fw_X1_65 rfl dX1_beginSession_109 ?_
                refine m_put E hb0 fw_X1_33 fp_X1_5 rfl rfl (Nat.le_of_ble_eq_true rfl) hL (by omega) dX1_beginSession_112 (fun H2 locs hL hO_ hF_ => ?_)
                have hb2 := hb2.kept (hF_.2 _ (by omega))
                have hb3 := hb3.kept (hF_.2 _ (by omega))
                have hb4 := hb4.kept (hF_.2 _ (by omega))
                have ho4 := ho4.kept (hF_.2 _ (by omega))
                have hfr := hfr.one hF_ (by omega)
                have hr4 := hr4.kept (hF_.2 _ (by omega))
                have hb0 : Ob G (b) 1 [.ref (b + 1), .ref (b + 2), .ref (b + 3), .ref (b + 4), .int (iI ((mn σ : Int))), .int (iI ((nx σ : Int) + (s0 σ : Int))), .int (iI ((cntB (dm σ) 240 : Int)))] H2 := hO_
                clear hO_
                refine lv_aload_n E.1 E.2.1 dX1_beginSession_115 rfl (lv_at hl 3 rfl) ?_
                refine lv_dup E.1 E.2.1 dX1_beginSession_116 rfl ?_
                refine m_get E hb0 fw_X1_29 rfl dX1_beginSession_117 ?_
                refine r_const E dX1_beginSession_120 ?_
                refine r_add E dX1_beginSession_121 ?_
                refine m_put E hb0 fw_X1_29 fp_X1_4 rfl rfl (Nat.le_of_ble_eq_true rfl) hL (by omega) dX1_beginSession_122 (fun H3 locs hL hO_ hF_ => ?_)
                have hb2 := hb2.kept (hF_.2 _ (by omega))
                have hb3 := hb3.kept (hF_.2 _ (by omega))
                have hb4 := hb4.kept (hF_.2 _ (by omega))
                have ho4 := ho4.kept (hF_.2 _ (by omega))
                have hfr := hfr.one hF_ (by omega)
                have hr4 := hr4.kept (hF_.2 _ (by omega))
                have hb0 : Ob G (b) 1 [.ref (b + 1), .ref (b + 2), .ref (b + 3), .ref (b + 4), .int (iI ((mn σ : Int) + 1)), .int (iI ((nx σ : Int) + (s0 σ : Int))), .int (iI ((cntB (dm σ) 240 : Int)))] H3 := hO_
                clear hO_
                refine lv_aload_n E.1 E.2.1 dX1_beginSession_125 rfl (lv_at hl 3 rfl) ?_
                refine m_get E hb0 fw_X1_29 rfl dX1_beginSession_126 ?_
                refine r_const E dX1_beginSession_129 ?_
                refine r_sub E dX1_beginSession_130 ?_
                refine e_iret (rm := ({ frames := 4, cells := 0, slots := 0, locals := 94 } : Room)) (v := iI (((mn σ : Int) + 1) - 1)) E hL dX1_beginSession_131 ?_
                have hsp : spBegin σ x = ((mn σ : Int), mkS (nx σ + s0 σ) (mn σ + 1) (s0 σ) (s1 σ) (dm σ) (vr σ) (va_up (se σ) (mn σ) (fun w => if w = 1 then nx σ else if w = 2 then s0 σ else if w = 3 then s0 σ else if w = 4 then s1 σ else 0)) (va_up (en σ) (mn σ) (fun k => if x = 1 then foundF σ k else none))) := by
                  unfold spBegin
                  rw [if_neg (by omega), if_neg (by rw [hop]; decide), if_neg (by omega)]
                refine WD_i hsp (by omega) ?_ (hfr.S (by omega))
                refine hP.re (n := mn σ) hb0 (congrArg iI (by show _ = ((mn σ + 1 : Nat) : Int); omega)) (congrArg iI (by show _ = ((nx σ + s0 σ : Nat) : Int); omega)) rfl hb2 hb3 hb4 (by omega) ?_ hfr (fun j hj hj2 => ⟨by have h9 : j < mn σ + 1 := hj2; omega, up_n hj, up_n hj⟩)
                show SesL G _ fl (va_up (se σ) (mn σ) _ (mn σ)) (va_up (en σ) (mn σ) _ (mn σ)) _
                rw [up_s, up_s]
                refine SesL.mk2 (t := (fun _ => none)) ho4 hr4 ?_ rfl rfl (congrArg iI (by show _ = ((nx σ : Nat) : Int) + ((s0 σ : Nat) : Int); omega)) rfl rfl rfl
                intro k hk
                dsimp only
                rw [if_pos c93]
                simp only [foundF, hv]
                exact ⟨rfl, fun a h => by cases h⟩
            · have hv1 := validD_lt hv
              rw [show oI (some v) = (v : Int) from rfl]
              refine kVQE (As := [.int (iI ((v : Int)))]) E cw_X1_54 (c_sessionAt_s G l b fl σ hI v (by omega)) hP.1 ⟨_, _, rfl⟩ hP hL hl.1 rfl rfl (Nat.le_of_ble_eq_true rfl) ⟨Nat.le_of_ble_eq_true rfl, Nat.le_of_ble_eq_true rfl⟩ ⟨rfl, rfl⟩ ⟨Nat.le_of_ble_eq_true rfl, Nat.le_of_ble_eq_true rfl⟩ dX1_beginSession_66 (fun locs hL => ?_)
              refine lv_astore (lv' := [(4, .ref (b + 5 + 2 * v)), (3, .ref (b + 5 + 2 * mn σ)), (2, .int (iI ((s0 σ : Int) + (s1 σ : Int)))), (0, .ref (b)), (1, .int (iI (x)))]) E.1 E.2.1 dX1_beginSession_69 hl (by decide) rfl (fun ls hl => ?_)
              refine lv_aload_n E.1 E.2.1 dX1_beginSession_71 rfl (lv_at hl 1 rfl) ?_
              refine lv_aload_n E.1 E.2.1 dX1_beginSession_72 rfl (lv_at hl 3 rfl) ?_
              refine m_get E hb0 fw_X1_33 rfl dX1_beginSession_73 ?_
              refine lv_aload_n E.1 E.2.1 dX1_beginSession_76 rfl (lv_at hl 3 rfl) ?_
              refine m_get E hb0 fw_X1_25 rfl dX1_beginSession_77 ?_
              refine r_const E dX1_beginSession_80 ?_
              refine r_iald E hb4 (0) rfl (by decide) (by decide) dX1_beginSession_81 ?_
              rw [if_pos rfl]
              refine lv_aload_n E.1 E.2.1 dX1_beginSession_82 rfl (lv_at hl 3 rfl) ?_
              refine m_get E hb0 fw_X1_25 rfl dX1_beginSession_83 ?_
              refine r_const E dX1_beginSession_86 ?_
              refine r_iald E hb4 (1) rfl (by decide) (by decide) dX1_beginSession_87 ?_
              rw [if_neg (by decide)]
              refine kVWV (As := [.int (iI ((nx σ : Int))), .int (iI ((s0 σ : Int))), .int (iI ((s1 σ : Int)))]) E cw_X1_58 (c_X3_startAt G l (b + 5 + 2 * mn σ) ((nx σ : Int)) ((s0 σ : Int)) ((s1 σ : Int)) wd td (by omega)) hod ⟨_, _, rfl⟩ ⟨hod, hrd⟩ hL hl.1 rfl rfl (Nat.le_of_ble_eq_true rfl) ⟨Nat.le_of_ble_eq_true rfl, Nat.le_of_ble_eq_true rfl⟩ ⟨Nat.le_of_ble_eq_true rfl, Nat.le_of_ble_eq_true rfl⟩ dX1_beginSession_88 (fun H1 locs hL hw_ => ?_)
              obtain ⟨⟨ho4, hr4⟩, hq⟩ := hw_
              have hb0 := hb0.kept (hq.2 _ (by omega))
              have hb2 := hb2.kept (hq.2 _ (by omega))
              have hb3 := hb3.kept (hq.2 _ (by omega))
              have hb4 := hb4.kept (hq.2 _ (by omega))
              have hfr := (FrD.rf (b := b) (n := mn σ) (H := s.heap)).ses hq (by omega) (by omega)
              have ho4 : Ob G (b + 5 + 2 * mn σ) 3 [.ref (b + 5 + 2 * mn σ + 1), .int (iI (0)), .int (iI ((nx σ : Int))), .int (iI ((nx σ : Int) + (s0 σ : Int))), .int (iI ((s0 σ : Int))), .int (iI ((s1 σ : Int))), .int (iI (0))] H1 := ho4
              refine lv_iload_n E.1 E.2.1 dX1_beginSession_91 rfl (lv_at hl 4 rfl) ?_
              refine r_const E dX1_beginSession_92 ?_
              refine r_icmp_ne (tgt := 107) E dX1_beginSession_93 (by decide) (by omega) (by omega) (fun c93 => ?_) (fun c93 => ?_)
              · refine lv_aload_n E.1 E.2.1 dX1_beginSession_107 rfl (lv_at hl 3 rfl) ?_
                refine lv_aload_n E.1 E.2.1 dX1_beginSession_108 rfl (lv_at hl 1 rfl) ?_
                refine m_get E ho4 fw_X1_65 rfl dX1_beginSession_109 ?_
                refine m_put E hb0 fw_X1_33 fp_X1_5 rfl rfl (Nat.le_of_ble_eq_true rfl) hL (by omega) dX1_beginSession_112 (fun H2 locs hL hO_ hF_ => ?_)
                have hb2 := hb2.kept (hF_.2 _ (by omega))
                have hb3 := hb3.kept (hF_.2 _ (by omega))
                have hb4 := hb4.kept (hF_.2 _ (by omega))
                have ho4 := ho4.kept (hF_.2 _ (by omega))
                have hfr := hfr.one hF_ (by omega)
                have hr4 := hr4.kept (hF_.2 _ (by omega))
                have hb0 : Ob G (b) 1 [.ref (b + 1), .ref (b + 2), .ref (b + 3), .ref (b + 4), .int (iI ((mn σ : Int))), .int (iI ((nx σ : Int) + (s0 σ : Int))), .int (iI ((cntB (dm σ) 240 : Int)))] H2 := hO_
                clear hO_
                refine lv_aload_n E.1 E.2.1 dX1_beginSession_115 rfl (lv_at hl 3 rfl) ?_
                refine lv_dup E.1 E.2.1 dX1_beginSession_116 rfl ?_
                refine m_get E hb0 fw_X1_29 rfl dX1_beginSession_117 ?_
                refine r_const E dX1_beginSession_120 ?_
                refine r_add E dX1_beginSession_121 ?_
                refine m_put E hb0 fw_X1_29 fp_X1_4 rfl rfl (Nat.le_of_ble_eq_true rfl) hL (by omega) dX1_beginSession_122 (fun H3 locs hL hO_ hF_ => ?_)
                have hb2 := hb2.kept (hF_.2 _ (by omega))
                have hb3 := hb3.kept (hF_.2 _ (by omega))
                have hb4 := hb4.kept (hF_.2 _ (by omega))
                have ho4 := ho4.kept (hF_.2 _ (by omega))
                have hfr := hfr.one hF_ (by omega)
                have hr4 := hr4.kept (hF_.2 _ (by omega))
                have hb0 : Ob G (b) 1 [.ref (b + 1), .ref (b + 2), .ref (b + 3), .ref (b + 4), .int (iI ((mn σ : Int) + 1)), .int (iI ((nx σ : Int) + (s0 σ : Int))), .int (iI ((cntB (dm σ) 240 : Int)))] H3 := hO_
                clear hO_
                refine lv_aload_n E.1 E.2.1 dX1_beginSession_125 rfl (lv_at hl 3 rfl) ?_
                refine m_get E hb0 fw_X1_29 rfl dX1_beginSession_126 ?_
                refine r_const E dX1_beginSession_129 ?_
                refine r_sub E dX1_beginSession_130 ?_
                refine e_iret (rm := ({ frames := 4, cells := 0, slots := 0, locals := 94 } : Room)) (v := iI (((mn σ : Int) + 1) - 1)) E hL dX1_beginSession_131 ?_
                have hsp : spBegin σ x = ((mn σ : Int), mkS (nx σ + s0 σ) (mn σ + 1) (s0 σ) (s1 σ) (dm σ) (vr σ) (va_up (se σ) (mn σ) (fun w => if w = 1 then nx σ else if w = 2 then s0 σ else if w = 3 then s0 σ else if w = 4 then s1 σ else 0)) (va_up (en σ) (mn σ) (fun k => if x = 1 then foundF σ k else none))) := by
                  unfold spBegin
                  rw [if_neg (by omega), if_neg (by rw [hop]; decide), if_neg (by omega)]
                refine WD_i hsp (by omega) ?_ (hfr.S (by omega))
                refine hP.re (n := mn σ) hb0 (congrArg iI (by show _ = ((mn σ + 1 : Nat) : Int); omega)) (congrArg iI (by show _ = ((nx σ + s0 σ : Nat) : Int); omega)) rfl hb2 hb3 hb4 (by omega) ?_ hfr (fun j hj hj2 => ⟨by have h9 : j < mn σ + 1 := hj2; omega, up_n hj, up_n hj⟩)
                show SesL G _ fl (va_up (se σ) (mn σ) _ (mn σ)) (va_up (en σ) (mn σ) _ (mn σ)) _
                rw [up_s, up_s]
                refine SesL.mk2 (t := (fun _ => none)) ho4 hr4 ?_ rfl rfl (congrArg iI (by show _ = ((nx σ : Nat) : Int) + ((s0 σ : Nat) : Int); omega)) rfl rfl rfl
                intro k hk
                dsimp only
                rw [if_neg (by omega)]
                exact ⟨rfl, fun a h => by cases h⟩
              · refine lv_aload E.1 E.2.1 dX1_beginSession_96 (lv_at hl 0 rfl) ?_
                refine lv_ifnull E.1 E.2.1 dX1_beginSession_98 ?_
                obtain ⟨t_, ho_, hr_, ht_⟩ := hP.live hv1 (by omega)
                have ho_ := ho_.kept (hfr.2 _ (by omega) (by omega) (by omega) (by omega) (by omega) (by omega))
                have hr_ := hr_.kept (hfr.2 _ (by omega) (by omega) (by omega) (by omega) (by omega) (by omega))
                have hT : TabF G fb t_ s.heap := ht_.F hFl
                have hT : TabF G fb t_ H1 := hT.kept (fun q h1 h2 => (hfr.S (by omega)).2 q (by omega))
                refine lv_aload_n E.1 E.2.1 dX1_beginSession_101 rfl (lv_at hl 1 rfl) ?_
                refine lv_aload E.1 E.2.1 dX1_beginSession_102 (lv_at hl 0 rfl) ?_
                refine kVWV (As := [.ref (b + 5 + 2 * v)]) E cw_X1_62 (c_X3_copyTable G l (b + 5 + 2 * mn σ) (b + 5 + 2 * v) fb (fun k => if k = 0 then iI 0 else if k = 1 then iI (nx σ) else if k = 2 then iI ((nx σ : Int) + (s0 σ : Int)) else if k = 3 then iI (s0 σ) else if k = 4 then iI (s1 σ) else iI 0) (encR (se σ v)) (fun _ => none) t_ (by omega) (by omega) (by omega)) ho4 ⟨_, _, rfl⟩ ⟨⟨ho4, hr4⟩, ⟨ho_, hr_⟩, hT⟩ hL hl.1 rfl rfl (Nat.le_of_ble_eq_true rfl) ⟨Nat.le_of_ble_eq_true rfl, Nat.le_of_ble_eq_true rfl⟩ ⟨Nat.le_of_ble_eq_true rfl, Nat.le_of_ble_eq_true rfl⟩ dX1_beginSession_104 (fun H2 locs hL hw_ => ?_)
                obtain ⟨⟨ho4, hr4⟩, hq⟩ := hw_
                have hb0 := hb0.kept (hq.2 _ (by omega))
                have hb2 := hb2.kept (hq.2 _ (by omega))
                have hb3 := hb3.kept (hq.2 _ (by omega))
                have hb4 := hb4.kept (hq.2 _ (by omega))
                have hfr := hfr.ses hq (by omega) (by omega)
                have ho4 : Ob G (b + 5 + 2 * mn σ) 3 [.ref (b + 5 + 2 * mn σ + 1), .int (iI (0)), .int (iI ((nx σ : Int))), .int (iI ((nx σ : Int) + (s0 σ : Int))), .int (iI ((s0 σ : Int))), .int (iI ((s1 σ : Int))), .int (iI (0))] H2 := ho4
                refine lv_aload_n E.1 E.2.1 dX1_beginSession_107 rfl (lv_at hl 3 rfl) ?_
                refine lv_aload_n E.1 E.2.1 dX1_beginSession_108 rfl (lv_at hl 1 rfl) ?_
                refine m_get E ho4 fw_X1_65 rfl dX1_beginSession_109 ?_
                refine m_put E hb0 fw_X1_33 fp_X1_5 rfl rfl (Nat.le_of_ble_eq_true rfl) hL (by omega) dX1_beginSession_112 (fun H3 locs hL hO_ hF_ => ?_)
                have hb2 := hb2.kept (hF_.2 _ (by omega))
                have hb3 := hb3.kept (hF_.2 _ (by omega))
                have hb4 := hb4.kept (hF_.2 _ (by omega))
                have ho4 := ho4.kept (hF_.2 _ (by omega))
                have hfr := hfr.one hF_ (by omega)
                have hr4 := hr4.kept (hF_.2 _ (by omega))
                have hb0 : Ob G (b) 1 [.ref (b + 1), .ref (b + 2), .ref (b + 3), .ref (b + 4), .int (iI ((mn σ : Int))), .int (iI ((nx σ : Int) + (s0 σ : Int))), .int (iI ((cntB (dm σ) 240 : Int)))] H3 := hO_
                clear hO_
                refine lv_aload_n E.1 E.2.1 dX1_beginSession_115 rfl (lv_at hl 3 rfl) ?_
                refine lv_dup E.1 E.2.1 dX1_beginSession_116 rfl ?_
                refine m_get E hb0 fw_X1_29 rfl dX1_beginSession_117 ?_
                refine r_const E dX1_beginSession_120 ?_
                refine r_add E dX1_beginSession_121 ?_
                refine m_put E hb0 fw_X1_29 fp_X1_4 rfl rfl (Nat.le_of_ble_eq_true rfl) hL (by omega) dX1_beginSession_122 (fun H4 locs hL hO_ hF_ => ?_)
                have hb2 := hb2.kept (hF_.2 _ (by omega))
                have hb3 := hb3.kept (hF_.2 _ (by omega))
                have hb4 := hb4.kept (hF_.2 _ (by omega))
                have ho4 := ho4.kept (hF_.2 _ (by omega))
                have hfr := hfr.one hF_ (by omega)
                have hr4 := hr4.kept (hF_.2 _ (by omega))
                have hb0 : Ob G (b) 1 [.ref (b + 1), .ref (b + 2), .ref (b + 3), .ref (b + 4), .int (iI ((mn σ : Int) + 1)), .int (iI ((nx σ : Int) + (s0 σ : Int))), .int (iI ((cntB (dm σ) 240 : Int)))] H4 := hO_
                clear hO_
                refine lv_aload_n E.1 E.2.1 dX1_beginSession_125 rfl (lv_at hl 3 rfl) ?_
                refine m_get E hb0 fw_X1_29 rfl dX1_beginSession_126 ?_
                refine r_const E dX1_beginSession_129 ?_
                refine r_sub E dX1_beginSession_130 ?_
                refine e_iret (rm := ({ frames := 4, cells := 0, slots := 0, locals := 94 } : Room)) (v := iI (((mn σ : Int) + 1) - 1)) E hL dX1_beginSession_131 ?_
                have hsp : spBegin σ x = ((mn σ : Int), mkS (nx σ + s0 σ) (mn σ + 1) (s0 σ) (s1 σ) (dm σ) (vr σ) (va_up (se σ) (mn σ) (fun w => if w = 1 then nx σ else if w = 2 then s0 σ else if w = 3 then s0 σ else if w = 4 then s1 σ else 0)) (va_up (en σ) (mn σ) (fun k => if x = 1 then foundF σ k else none))) := by
                  unfold spBegin
                  rw [if_neg (by omega), if_neg (by rw [hop]; decide), if_neg (by omega)]
                refine WD_i hsp (by omega) ?_ (hfr.S (by omega))
                refine hP.re (n := mn σ) hb0 (congrArg iI (by show _ = ((mn σ + 1 : Nat) : Int); omega)) (congrArg iI (by show _ = ((nx σ + s0 σ : Nat) : Int); omega)) rfl hb2 hb3 hb4 (by omega) ?_ hfr (fun j hj hj2 => ⟨by have h9 : j < mn σ + 1 := hj2; omega, up_n hj, up_n hj⟩)
                show SesL G _ fl (va_up (se σ) (mn σ) _ (mn σ)) (va_up (en σ) (mn σ) _ (mn σ)) _
                rw [up_s, up_s]
                refine SesL.mk2 (t := t_) ho4 hr4 ?_ rfl rfl (congrArg iI (by show _ = ((nx σ : Nat) : Int) + ((s0 σ : Nat) : Int); omega)) rfl rfl rfl
                intro k hk
                dsimp only
                rw [if_pos c93]
                simp only [foundF, hv]
                exact ht_ k hk
          · refine r_bipush E dX1_beginSession_57 (by decide) ?_
            refine e_iret (rm := ({ frames := 4, cells := 0, slots := 0, locals := 94 } : Room)) (v := iI ((-4))) E hL dX1_beginSession_59 ?_
            exact WD_i (w := -4) (τ := σ) (by unfold spBegin; rw [if_neg (by omega), if_neg (by rw [hop]; decide), if_pos (by omega)]) rfl hP FrS.rf
        · rw [if_neg (by omega)]
          refine lv_astore_nN (lv' := [(3, .null), (2, .int (iI ((s0 σ : Int) + (s1 σ : Int)))), (0, .ref (b)), (1, .int (iI (x)))]) E.1 E.2.1 dX1_beginSession_40 rfl hl (by decide) rfl (fun ls hl => ?_)
          refine lv_aload_nN E.1 E.2.1 dX1_beginSession_41 rfl (lv_at hl 0 rfl) ?_
          refine lv_ifnullN (tgt := 57) E.1 E.2.1 dX1_beginSession_42 (by decide) ?_
          refine r_bipush E dX1_beginSession_57 (by decide) ?_
          refine e_iret (rm := ({ frames := 4, cells := 0, slots := 0, locals := 94 } : Room)) (v := iI ((-4))) E hL dX1_beginSession_59 ?_
          exact WD_i (w := -4) (τ := σ) (by unfold spBegin; rw [if_neg (by omega), if_neg (by rw [hop]; decide), if_pos (by omega)]) rfl hP FrS.rf
      · have hn := (opn_some hop).1
        have hn0 := (opn_some hop).2
        have hrow := hI.row (n := n) (by omega)
        refine lv_ifnull E.1 E.2.1 dX1_beginSession_16 ?_
        refine r_bipush E dX1_beginSession_19 (by decide) ?_
        refine e_iret (rm := ({ frames := 4, cells := 0, slots := 0, locals := 94 } : Room)) (v := iI ((-5))) E hL dX1_beginSession_21 ?_
        exact WD_i (w := -5) (τ := σ) (by unfold spBegin; rw [if_neg (by omega), if_pos (by rw [hop]; rfl)]) rfl hP FrS.rf
    · refine r_bipush E dX1_beginSession_9 (by decide) ?_
      refine e_iret (rm := ({ frames := 4, cells := 0, slots := 0, locals := 94 } : Room)) (v := iI ((-2))) E hL dX1_beginSession_11 ?_
      exact WD_i (by unfold spBegin; rw [if_pos (by omega)]) rfl hP FrS.rf

set_option maxHeartbeats 4000000 in
set_option maxRecDepth 100000 in
theorem c_X1_writeFile (G : GG) (l : Launch) (b fb : Nat) (fl : Nat → Option Fil) (σ : St) (hI : Inv σ) (x y : Int) (hx : okI x) (hy : okI y) (hga : G.2.2 ≤ b) (hfb : b + 29 ≤ fb) : Ct G l yX1_writeFile cX1_writeFile 5 (some .int) ({ frames := 3, cells := 1, slots := 3, locals := 63 } : Room) [.ref (b), .int (iI (x)), .int (iI (y))] (fun H => DiscAt G b fl σ H ∧ FlAt G fb fl H ∧ fb ≤ H.size) (WDF G b fb fl (spWrite σ x y)) := by
  refine Ct.of (by decide +kernel) (Nat.le_of_ble_eq_true rfl) ?_
  intro p e s m args below meth c ls E hnm hP hl
  have i1 := hI.mn12
  have i2 := hI.nx240
  obtain ⟨hP, hFl, hfs⟩ := hP
  have hb0 := hP.1
  have hb2 := hP.2.2.1
  have hb3 := hP.2.2.2.1
  have hb4 := hP.2.2.2.2.1
  obtain ⟨hx1, hx2⟩ := hx
  obtain ⟨hy1, hy2⟩ := hy
  have hl : lv_has ls 5 [(0, .ref (b)), (1, .int (iI (x))), (2, .int (iI (y)))] := hl
  have hL : Lk G [] := Lk.nil
  generalize ([] : List Loc) = locs at hL ⊢
  refine lv_iload_n E.1 E.2.1 dX1_writeFile_0 rfl (lv_at hl 1 rfl) ?_
  refine kSNRE (As := [.int (iI (x))]) E cw_X1_68 (c_X5_isName G l (x) (by unfold okI; omega)) trivial hL hl.1 rfl rfl (Nat.le_of_ble_eq_true rfl) ⟨Nat.le_of_ble_eq_true rfl, Nat.le_of_ble_eq_true rfl⟩ ⟨rfl, rfl⟩ ⟨Nat.le_of_ble_eq_true rfl, Nat.le_of_ble_eq_true rfl⟩ dX1_writeFile_1 (fun locs hL => ?_)
  refine r_bif_ne (tgt := 9) E dX1_writeFile_4 (by decide)  (fun c4 => ?_) (fun c4 => ?_)
  · have c4 := of_decide_eq_true c4
    obtain ⟨k, rfl⟩ : ∃ k : Nat, x = (k : Int) := ⟨x.toNat, by omega⟩
    refine lv_iload_n E.1 E.2.1 dX1_writeFile_9 rfl (lv_at hl 2 rfl) ?_
    refine kSNRE (As := [.int (iI (y))]) E cw_X1_72 (c_X5_isFileSize G l (y) (by unfold okI; omega)) trivial hL hl.1 rfl rfl (Nat.le_of_ble_eq_true rfl) ⟨Nat.le_of_ble_eq_true rfl, Nat.le_of_ble_eq_true rfl⟩ ⟨rfl, rfl⟩ ⟨Nat.le_of_ble_eq_true rfl, Nat.le_of_ble_eq_true rfl⟩ dX1_writeFile_10 (fun locs hL => ?_)
    refine r_bif_ne (tgt := 19) E dX1_writeFile_13 (by decide)  (fun c13 => ?_) (fun c13 => ?_)
    · have c13 := of_decide_eq_true c13
      obtain ⟨z, rfl⟩ : ∃ z : Nat, y = (z : Int) := ⟨y.toNat, by omega⟩
      refine lv_aload_n E.1 E.2.1 dX1_writeFile_19 rfl (lv_at hl 0 rfl) ?_
      refine kVQE (As := []) E cw_X1_43 (c_X1_openSession G l b fl σ hI) hP.1 ⟨_, _, rfl⟩ hP hL hl.1 rfl rfl (Nat.le_of_ble_eq_true rfl) ⟨Nat.le_of_ble_eq_true rfl, Nat.le_of_ble_eq_true rfl⟩ ⟨rfl, rfl⟩ ⟨Nat.le_of_ble_eq_true rfl, Nat.le_of_ble_eq_true rfl⟩ dX1_writeFile_20 (fun locs hL => ?_)
      rcases hop : opn σ with _ | n
      · refine lv_astore_nN (lv' := [(3, .null), (0, .ref (b)), (1, .int (iI ((k : Int)))), (2, .int (iI ((z : Int))))]) E.1 E.2.1 dX1_writeFile_23 rfl hl (by decide) rfl (fun ls hl => ?_)
        refine lv_aload_nN E.1 E.2.1 dX1_writeFile_24 rfl (lv_at hl 0 rfl) ?_
        refine lv_ifnonnullN E.1 E.2.1 dX1_writeFile_25 ?_
        refine r_bipush E dX1_writeFile_28 (by decide) ?_
        refine W.widen (k := 1) (n := 3) (by omega) (by omega) ?_
        refine e_iret (rm := ({ frames := 3, cells := 1, slots := 3, locals := 63 } : Room)) (v := iI ((-5))) E hL dX1_writeFile_30 ?_
        exact WDF_i (w := -5) (τ := σ) (by unfold spWrite; rw [if_neg (by omega), if_neg (by omega)]; simp only [hop]) rfl hP hFl
      · have hn := (opn_some hop).1
        have hn0 := (opn_some hop).2
        have hrow := hI.row (n := n) (by omega)
        obtain ⟨t_, ho_, hr_, ht_⟩ := hP.live (n := n) (by omega) (by omega)
        refine lv_astore_n (lv' := [(3, .ref (b + 5 + 2 * n)), (0, .ref (b)), (1, .int (iI ((k : Int)))), (2, .int (iI ((z : Int))))]) E.1 E.2.1 dX1_writeFile_23 rfl hl (by decide) rfl (fun ls hl => ?_)
        refine lv_aload_n E.1 E.2.1 dX1_writeFile_24 rfl (lv_at hl 0 rfl) ?_
        refine lv_ifnonnull (tgt := 31) E.1 E.2.1 dX1_writeFile_25 (by decide) ?_
        refine lv_iload_n E.1 E.2.1 dX1_writeFile_31 rfl (lv_at hl 3 rfl) ?_
        refine lv_aload_n E.1 E.2.1 dX1_writeFile_32 rfl (lv_at hl 1 rfl) ?_
        refine kVRE (As := []) E cw_X1_75 (c_X1_roomForFiles G l b fl σ hI) hP.1 ⟨_, _, rfl⟩ hP hL hl.1 rfl rfl (Nat.le_of_ble_eq_true rfl) ⟨Nat.le_of_ble_eq_true rfl, Nat.le_of_ble_eq_true rfl⟩ ⟨rfl, rfl⟩ ⟨Nat.le_of_ble_eq_true rfl, Nat.le_of_ble_eq_true rfl⟩ dX1_writeFile_33 (fun locs hL => ?_)
        refine r_icmp_le (tgt := 42) E dX1_writeFile_36 (by decide) (by omega) (by have := roomN_le σ; omega) (fun c36 => ?_) (fun c36 => ?_)
        · obtain ⟨N, hN⟩ : ∃ N, N = s.heap.size := ⟨_, rfl⟩
          have hsz : s.heap.size = N := hN.symm
          have hlt := hP.lt
          have hlast := hI.last n hn
          refine m_new E nw_X1_79 (Nat.le_of_ble_eq_true rfl) (Nat.le_of_ble_eq_true rfl) dX1_writeFile_42 (fun H1 hn2 hPu_ => ?_)
          rw [hsz] at hn2
          rw [hsz]
          have hb0 := hb0.kept (hPu_.2 _ (by omega))
          have hb2 := hb2.kept (hPu_.2 _ (by omega))
          have hb3 := hb3.kept (hPu_.2 _ (by omega))
          have hb4 := hb4.kept (hPu_.2 _ (by omega))
          have ho_ := ho_.kept (hPu_.2 _ (by omega))
          have hr_ := hr_.kept (hPu_.2 _ (by omega))
          have hsz : H1.size = N + 1 := by rw [hPu_.1]; omega
          refine lv_dup E.1 E.2.1 dX1_writeFile_45 rfl ?_
          refine lv_aload_n E.1 E.2.1 dX1_writeFile_46 rfl (lv_at hl 1 rfl) ?_
          refine m_get E hb0 fw_X1_33 rfl dX1_writeFile_47 ?_
          refine lv_iload_n E.1 E.2.1 dX1_writeFile_50 rfl (lv_at hl 3 rfl) ?_
          refine lv_aload_n E.1 E.2.1 dX1_writeFile_51 rfl (lv_at hl 1 rfl) ?_
          refine m_get E hb0 fw_X1_29 rfl dX1_writeFile_52 ?_
          refine r_const E dX1_writeFile_55 ?_
          refine r_sub E dX1_writeFile_56 ?_
          rw [show (((mn σ : Int) - 1 : Int)) = (n : Int) by omega]
          refine kIWV (As := [.int (iI ((nx σ : Int))), .int (iI ((z : Int))), .int (iI ((n : Int)))]) E cw_X1_81 (c_X4_init G l N ((nx σ : Int)) ((z : Int)) ((n : Int)) (by omega)) hn2 hL hl.1 rfl rfl (Nat.le_of_ble_eq_true rfl) ⟨Nat.le_of_ble_eq_true rfl, Nat.le_of_ble_eq_true rfl⟩ ⟨Nat.le_of_ble_eq_true rfl, Nat.le_of_ble_eq_true rfl⟩ dX1_writeFile_57 (fun H3 locs hL hw_ => ?_)
          obtain ⟨hof, hq⟩ := hw_
          have hb0 := hb0.kept (hq.2 _ (by omega))
          have hb2 := hb2.kept (hq.2 _ (by omega))
          have hb3 := hb3.kept (hq.2 _ (by omega))
          have hb4 := hb4.kept (hq.2 _ (by omega))
          have ho_ := ho_.kept (hq.2 _ (by omega))
          have hr_ := hr_.kept (hq.2 _ (by omega))
          have hPu2 : Pu s.heap H3 := ⟨hq.1.trans hPu_.1, fun q h9 => (hq.2 q (by omega)).trans (hPu_.2 q h9)⟩
          have hP2 : DiscAt G b fl σ H3 := hP.kept (fun q h1 h2 => hPu2.2 q (by omega))
          have hsz : H3.size = N + 1 := hq.1.trans hsz
          have hfr : FrD b n H3 H3 := FrD.rf
          refine lv_astore (lv' := [(4, .ref (N)), (3, .ref (b + 5 + 2 * n)), (0, .ref (b)), (1, .int (iI ((k : Int)))), (2, .int (iI ((z : Int))))]) E.1 E.2.1 dX1_writeFile_60 hl (by decide) rfl (fun ls hl => ?_)
          refine lv_aload_n E.1 E.2.1 dX1_writeFile_62 rfl (lv_at hl 1 rfl) ?_
          refine lv_iload_n E.1 E.2.1 dX1_writeFile_63 rfl (lv_at hl 3 rfl) ?_
          refine lv_aload E.1 E.2.1 dX1_writeFile_64 (lv_at hl 0 rfl) ?_
          refine kVWV (As := [.int (iI ((k : Int))), .ref (N)]) E cw_X1_83 (c_X3_putFile G l (b + 5 + 2 * n) ((k : Int)) (some (N)) (encR (se σ n)) t_ (by omega) (by omega)) ho_ ⟨_, _, rfl⟩ ⟨⟨ho_, hr_⟩, (fun _ h => by cases h; exact ⟨_, hof⟩)⟩ hL hl.1 rfl rfl (Nat.le_of_ble_eq_true rfl) ⟨Nat.le_of_ble_eq_true rfl, Nat.le_of_ble_eq_true rfl⟩ ⟨Nat.le_of_ble_eq_true rfl, Nat.le_of_ble_eq_true rfl⟩ dX1_writeFile_66 (fun H4 locs hL hw_ => ?_)
          obtain ⟨⟨ho1, hr1⟩, hq⟩ := hw_
          rw [Int.toNat_natCast] at hr1
          have hb0 := hb0.kept (hq.2 _ (by omega))
          have hb2 := hb2.kept (hq.2 _ (by omega))
          have hb3 := hb3.kept (hq.2 _ (by omega))
          have hb4 := hb4.kept (hq.2 _ (by omega))
          have hof := hof.kept (hq.2 _ (by omega))
          have hfr := hfr.ses hq (by omega) (by omega)
          have hsz : H4.size = N + 1 := hq.1.trans hsz
          have ho_ : Ob G (b + 5 + 2 * n) 3 [.ref (b + 5 + 2 * n + 1), .int (iI ((se σ n 0 : Int))), .int (iI ((se σ n 1 : Int))), .int (iI (((se σ n 1 : Int) + (se σ n 2 : Int)))), .int (iI ((se σ n 3 : Int))), .int (iI ((se σ n 4 : Int))), .int (iI ((se σ n 5 : Int)))] H4 := ho1
          have hr_ := hr1
          refine lv_aload_n E.1 E.2.1 dX1_writeFile_69 rfl (lv_at hl 1 rfl) ?_
          refine lv_dup E.1 E.2.1 dX1_writeFile_70 rfl ?_
          refine m_get E ho_ fw_X1_87 rfl dX1_writeFile_71 ?_
          refine r_const E dX1_writeFile_74 ?_
          refine r_add E dX1_writeFile_75 ?_
          refine m_put E ho_ fw_X1_87 fp_X3_6 rfl rfl (Nat.le_of_ble_eq_true rfl) hL (by omega) dX1_writeFile_76 (fun H5 locs hL hO_ hF_ => ?_)
          have hb0 := hb0.kept (hF_.2 _ (by omega))
          have hb2 := hb2.kept (hF_.2 _ (by omega))
          have hb3 := hb3.kept (hF_.2 _ (by omega))
          have hb4 := hb4.kept (hF_.2 _ (by omega))
          have hr_ := hr_.kept (hF_.2 _ (by omega))
          have hof := hof.kept (hF_.2 _ (by omega))
          have hsz : H5.size = N + 1 := hF_.1.trans hsz
          have hfr := hfr.one hF_ (by omega)
          have ho_ : Ob G (b + 5 + 2 * n) 3 [.ref (b + 5 + 2 * n + 1), .int (iI ((se σ n 0 : Int))), .int (iI ((se σ n 1 : Int))), .int (iI (((se σ n 1 : Int) + (se σ n 2 : Int)))), .int (iI ((se σ n 3 : Int))), .int (iI ((se σ n 4 : Int))), .int (iI ((se σ n 5 : Int) + 1))] H5 := hO_
          clear hO_
          refine lv_aload_n E.1 E.2.1 dX1_writeFile_79 rfl (lv_at hl 2 rfl) ?_
          refine m_get E hb0 fw_X1_21 rfl dX1_writeFile_80 ?_
          refine lv_iload_n E.1 E.2.1 dX1_writeFile_83 rfl (lv_at hl 3 rfl) ?_
          refine lv_dup2_11 E.1 E.2.1 dX1_writeFile_84 rfl rfl ?_
          refine r_iald E hb3 (k) rfl (by omega) (by decide) dX1_writeFile_85 ?_
          refine r_const E dX1_writeFile_86 ?_
          refine r_add E dX1_writeFile_87 ?_
          refine r_iast E hb3 (k) rfl (by omega) (by decide) hL (by omega) dX1_writeFile_88 (fun H6 locs hL hO_ hF_ => ?_)
          have hb0 := hb0.kept (hF_.2 _ (by omega))
          have hb2 := hb2.kept (hF_.2 _ (by omega))
          have hb4 := hb4.kept (hF_.2 _ (by omega))
          have ho_ := ho_.kept (hF_.2 _ (by omega))
          have hr_ := hr_.kept (hF_.2 _ (by omega))
          have hof := hof.kept (hF_.2 _ (by omega))
          have hsz : H6.size = N + 1 := hF_.1.trans hsz
          have hfr := hfr.one hF_ (by omega)
          have hb3 : Ia G (b + 3) 0 20 (upd (fun k => iI (vr σ k)) (k) (iI (((vr σ (k) : Int)) + 1))) H6 := hO_
          clear hO_
          refine lv_aload_n E.1 E.2.1 dX1_writeFile_89 rfl (lv_at hl 2 rfl) ?_
          refine lv_dup E.1 E.2.1 dX1_writeFile_90 rfl ?_
          refine m_get E hb0 fw_X1_33 rfl dX1_writeFile_91 ?_
          refine lv_iload_n E.1 E.2.1 dX1_writeFile_94 rfl (lv_at hl 4 rfl) ?_
          refine r_add E dX1_writeFile_95 ?_
          refine m_put E hb0 fw_X1_33 fp_X1_5 rfl rfl (Nat.le_of_ble_eq_true rfl) hL (by omega) dX1_writeFile_96 (fun H7 locs hL hO_ hF_ => ?_)
          have hb2 := hb2.kept (hF_.2 _ (by omega))
          have hb3 := hb3.kept (hF_.2 _ (by omega))
          have hb4 := hb4.kept (hF_.2 _ (by omega))
          have ho_ := ho_.kept (hF_.2 _ (by omega))
          have hr_ := hr_.kept (hF_.2 _ (by omega))
          have hof := hof.kept (hF_.2 _ (by omega))
          have hsz : H7.size = N + 1 := hF_.1.trans hsz
          have hfr := hfr.one hF_ (by omega)
          have hb0 : Ob G (b) 1 [.ref (b + 1), .ref (b + 2), .ref (b + 3), .ref (b + 4), .int (iI ((mn σ : Int))), .int (iI ((nx σ : Int) + (z : Int))), .int (iI ((cntB (dm σ) 240 : Int)))] H7 := hO_
          clear hO_
          refine lv_aload_n E.1 E.2.1 dX1_writeFile_99 rfl (lv_at hl 1 rfl) ?_
          refine lv_aload_n E.1 E.2.1 dX1_writeFile_100 rfl (lv_at hl 2 rfl) ?_
          refine m_get E hb0 fw_X1_33 rfl dX1_writeFile_101 ?_
          refine m_put E ho_ fw_X1_65 fp_X3_3 rfl rfl (Nat.le_of_ble_eq_true rfl) hL (by omega) dX1_writeFile_104 (fun H8 locs hL hO_ hF_ => ?_)
          have hb0 := hb0.kept (hF_.2 _ (by omega))
          have hb2 := hb2.kept (hF_.2 _ (by omega))
          have hb3 := hb3.kept (hF_.2 _ (by omega))
          have hb4 := hb4.kept (hF_.2 _ (by omega))
          have hr_ := hr_.kept (hF_.2 _ (by omega))
          have hof := hof.kept (hF_.2 _ (by omega))
          have hsz : H8.size = N + 1 := hF_.1.trans hsz
          have hfr := hfr.one hF_ (by omega)
          have ho_ : Ob G (b + 5 + 2 * n) 3 [.ref (b + 5 + 2 * n + 1), .int (iI ((se σ n 0 : Int))), .int (iI ((se σ n 1 : Int))), .int (iI ((nx σ : Int) + (z : Int))), .int (iI ((se σ n 3 : Int))), .int (iI ((se σ n 4 : Int))), .int (iI ((se σ n 5 : Int) + 1))] H8 := hO_
          clear hO_
          refine lv_aload E.1 E.2.1 dX1_writeFile_107 (lv_at hl 0 rfl) ?_
          refine m_get E hof fw_X1_90 rfl dX1_writeFile_109 ?_
          refine e_iret (rm := ({ frames := 3, cells := 1, slots := 3, locals := 63 } : Room)) (v := iI ((nx σ : Int))) E hL dX1_writeFile_112 ?_
          have hsp : spWrite σ k z = ((nx σ : Int), mkS (nx σ + z) (mn σ) (s0 σ) (s1 σ) (dm σ) (va_up (vr σ) k (vr σ k + 1)) (va_up (se σ) n (va_up (va_up (se σ n) 2 (se σ n 2 + z)) 5 (se σ n 5 + 1))) (va_up (en σ) n (va_up (en σ n) k (some (nx σ, z, n))))) := by
            unfold spWrite
            rw [if_neg (by omega), if_neg (by omega)]
            simp only [hop, Int.toNat_natCast]
            rw [if_neg (by simp only [roomN, hop] at c36; omega)]
          have hE : Ext fl (va_up fl N (some (nx σ, z, n))) := by
            intro a f hf
            have h9 := (hFl.2 a f hf).2.lt
            rw [up_n (by omega)]; exact hf
          have hto : TabOk (va_up fl N (some (nx σ, z, n))) (va_up t_ k (some N)) (va_up (en σ n) k (some (nx σ, z, n))) := (ht_.ext hE).up (by show va_up fl N _ N = _; rw [up_s]) (fun a h => by cases h; exact ⟨_, up_s⟩)
          have hS9 := hfr.S (n := n) (by omega)
          refine WDF_w hsp rfl hE ?_ ?_ hS9 hPu2
          · refine (hP2.ext hE).re (n := n) hb0 rfl (congrArg iI (by show _ = ((nx σ + z : Nat) : Int); omega)) rfl hb2 (hb3.to (fun j _ => upd_i2 j)) hb4 (by omega) ?_ hfr (fun j hj hj2 => ⟨hj2, up_n hj, up_n hj⟩)
            show SesL G _ _ (va_up (se σ) n _ n) (va_up (en σ) n _ n) _
            rw [up_s, up_s]
            exact SesL.mk2 ho_ hr_ hto rfl rfl (congrArg iI (by show _ = ((se σ n 1 : Nat) : Int) + ((se σ n 2 + z : Nat) : Int); omega)) rfl rfl rfl
          · refine ⟨by omega, fun a f hf => ?_⟩
            by_cases ha : a = N
            · subst ha; rw [up_s] at hf; cases hf; exact ⟨by omega, hof⟩
            · rw [up_n ha] at hf
              obtain ⟨h8, h9⟩ := hFl.2 a f hf
              have h10 := h9.lt
              exact ⟨h8, (h9.kept (hPu2.2 a h10)).kept (hS9.2 a (by omega))⟩
        · refine r_bipush E dX1_writeFile_39 (by decide) ?_
          refine W.widen (k := 1) (n := 3) (by omega) (by omega) ?_
          refine e_iret (rm := ({ frames := 3, cells := 1, slots := 3, locals := 63 } : Room)) (v := iI ((-4))) E hL dX1_writeFile_41 ?_
          exact WDF_i (w := -4) (τ := σ) (by unfold spWrite; rw [if_neg (by omega), if_neg (by omega)]; simp only [hop, Int.toNat_natCast]; rw [if_pos (by simp only [roomN, hop] at c36; omega)]) rfl hP hFl
    · have c13 := of_decide_eq_false c13
      refine r_bipush E dX1_writeFile_16 (by decide) ?_
      refine W.widen (k := 1) (n := 3) (by omega) (by omega) ?_
      refine e_iret (rm := ({ frames := 3, cells := 1, slots := 3, locals := 63 } : Room)) (v := iI ((-2))) E hL dX1_writeFile_18 ?_
      exact WDF_i (w := -2) (τ := σ) (by unfold spWrite; rw [if_neg (by omega), if_pos (by omega)]) rfl hP hFl
  · have c4 := of_decide_eq_false c4
    refine r_const E dX1_writeFile_7 ?_
    refine W.widen (k := 1) (n := 3) (by omega) (by omega) ?_
    refine e_iret (rm := ({ frames := 3, cells := 1, slots := 3, locals := 63 } : Room)) (v := iI ((-1))) E hL dX1_writeFile_8 ?_
    exact WDF_i (w := -1) (τ := σ) (by unfold spWrite; rw [if_pos (by omega)]) rfl hP hFl
