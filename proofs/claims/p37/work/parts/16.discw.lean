set_option maxHeartbeats 4000000 in
set_option maxRecDepth 100000 in
theorem c_X1_leadOutOf (G : GG) (l : Launch) (b : Nat) (fl : Nat → Option Fil) (σ : St) (hI : Inv σ) (n : Nat) (hga : G.2.2 ≤ b) (hn : n + 1 = mn σ) : Ct G l yX1_leadOutOf cX1_leadOutOf 2 (some .int) ({ frames := 0, cells := 0, slots := 0, locals := 0 } : Room) [.ref (b), .ref (b + 5 + 2 * n)] (fun H => DiscAt G b fl σ H) (WD G b fl (leadOut σ n)) := by
  refine Ct.of (by decide +kernel) (Nat.le_of_ble_eq_true rfl) ?_
  intro p e s m args below meth c ls E hnm hP hl
  have i1 := hI.mn12
  have i2 := hI.nx240
  have hb0 := hP.1
  have hb2 := hP.2.2.1
  have hb3 := hP.2.2.2.1
  have hb4 := hP.2.2.2.2.1
  have hfr : FrD b n s.heap s.heap := FrD.rf
  have hlast := hI.last n hn
  obtain ⟨t_, ho_, hr_, ht_⟩ := hP.live (n := n) (by omega) (by omega)
  have hl : lv_has ls 2 [(0, .ref (b)), (1, .ref (b + 5 + 2 * n))] := hl
  have hL : Lk G [] := Lk.nil
  generalize ([] : List Loc) = locs at hL ⊢
  refine lv_aload_n E.1 E.2.1 dX1_leadOutOf_0 rfl (lv_at hl 0 rfl) ?_
  refine lv_dup E.1 E.2.1 dX1_leadOutOf_1 rfl ?_
  refine m_get E hb0 fw_X1_33 rfl dX1_leadOutOf_2 ?_
  refine lv_aload_n E.1 E.2.1 dX1_leadOutOf_5 rfl (lv_at hl 1 rfl) ?_
  refine m_get E ho_ fw_X1_125 rfl dX1_leadOutOf_6 ?_
  refine r_add E dX1_leadOutOf_9 ?_
  refine m_put E hb0 fw_X1_33 fp_X1_5 rfl rfl (Nat.le_of_ble_eq_true rfl) hL (by omega) dX1_leadOutOf_10 (fun H1 locs hL hO_ hF_ => ?_)
  have hb2 := hb2.kept (hF_.2 _ (by omega))
  have hb3 := hb3.kept (hF_.2 _ (by omega))
  have hb4 := hb4.kept (hF_.2 _ (by omega))
  have ho_ := ho_.kept (hF_.2 _ (by omega))
  have hr_ := hr_.kept (hF_.2 _ (by omega))
  have hfr := hfr.one hF_ (by omega)
  have hb0 : Ob G (b) 1 [.ref (b + 1), .ref (b + 2), .ref (b + 3), .ref (b + 4), .int (iI ((mn σ : Int))), .int (iI ((nx σ : Int) + (se σ n 4 : Int))), .int (iI ((cntB (dm σ) 240 : Int)))] H1 := hO_
  clear hO_
  refine lv_aload_n E.1 E.2.1 dX1_leadOutOf_13 rfl (lv_at hl 1 rfl) ?_
  refine lv_aload_n E.1 E.2.1 dX1_leadOutOf_14 rfl (lv_at hl 0 rfl) ?_
  refine m_get E hb0 fw_X1_33 rfl dX1_leadOutOf_15 ?_
  refine m_put E ho_ fw_X1_65 fp_X3_3 rfl rfl (Nat.le_of_ble_eq_true rfl) hL (by omega) dX1_leadOutOf_18 (fun H2 locs hL hO_ hF_ => ?_)
  have hb0 := hb0.kept (hF_.2 _ (by omega))
  have hb2 := hb2.kept (hF_.2 _ (by omega))
  have hb3 := hb3.kept (hF_.2 _ (by omega))
  have hb4 := hb4.kept (hF_.2 _ (by omega))
  have hr_ := hr_.kept (hF_.2 _ (by omega))
  have hfr := hfr.one hF_ (by omega)
  have ho_ : Ob G (b + 5 + 2 * n) 3 [.ref (b + 5 + 2 * n + 1), .int (iI ((se σ n 0 : Int))), .int (iI ((se σ n 1 : Int))), .int (iI ((nx σ : Int) + (se σ n 4 : Int))), .int (iI ((se σ n 3 : Int))), .int (iI ((se σ n 4 : Int))), .int (iI ((se σ n 5 : Int)))] H2 := hO_
  clear hO_
  refine lv_aload_n E.1 E.2.1 dX1_leadOutOf_21 rfl (lv_at hl 1 rfl) ?_
  refine r_const E dX1_leadOutOf_22 ?_
  refine m_put E ho_ fw_X1_108 fp_X3_1 rfl rfl (Nat.le_of_ble_eq_true rfl) hL (by omega) dX1_leadOutOf_23 (fun H3 locs hL hO_ hF_ => ?_)
  have hb0 := hb0.kept (hF_.2 _ (by omega))
  have hb2 := hb2.kept (hF_.2 _ (by omega))
  have hb3 := hb3.kept (hF_.2 _ (by omega))
  have hb4 := hb4.kept (hF_.2 _ (by omega))
  have hr_ := hr_.kept (hF_.2 _ (by omega))
  have hfr := hfr.one hF_ (by omega)
  have ho_ : Ob G (b + 5 + 2 * n) 3 [.ref (b + 5 + 2 * n + 1), .int (iI (1)), .int (iI ((se σ n 1 : Int))), .int (iI ((nx σ : Int) + (se σ n 4 : Int))), .int (iI ((se σ n 3 : Int))), .int (iI ((se σ n 4 : Int))), .int (iI ((se σ n 5 : Int)))] H3 := hO_
  clear hO_
  refine lv_aload_n E.1 E.2.1 dX1_leadOutOf_26 rfl (lv_at hl 0 rfl) ?_
  refine m_get E hb0 fw_X1_33 rfl dX1_leadOutOf_27 ?_
  refine e_iret (rm := ({ frames := 0, cells := 0, slots := 0, locals := 0 } : Room)) (v := iI ((nx σ : Int) + (se σ n 4 : Int))) E hL dX1_leadOutOf_30 ?_
  refine WD_i (τ := (leadOut σ n).2) rfl rfl ?_ (hfr.S (by omega))
  refine hP.re (n := n) hb0 rfl (congrArg iI (by show _ = ((nx σ + se σ n 4 : Nat) : Int); omega)) rfl hb2 hb3 hb4 (by omega) ?_ hfr (fun k hk hk2 => ⟨hk2, up_n hk, rfl⟩)
  refine SesL.mk2 (t := t_) ho_ hr_ ht_ ?_ ?_ ?_ ?_ ?_ ?_
  · show _ = iI ((va_up (se σ) n _ n 0 : Nat) : Int); rw [up_s]; rfl
  · show _ = iI ((va_up (se σ) n _ n 1 : Nat) : Int); rw [up_s]; rfl
  · show _ = iI (((va_up (se σ) n _ n 1 : Nat) : Int) + ((va_up (se σ) n _ n 2 : Nat) : Int)); rw [up_s]; exact congrArg iI (by show _ = ((se σ n 1 : Nat) : Int) + ((se σ n 2 + se σ n 4 : Nat) : Int); omega)
  · show _ = iI ((va_up (se σ) n _ n 3 : Nat) : Int); rw [up_s]; rfl
  · show _ = iI ((va_up (se σ) n _ n 4 : Nat) : Int); rw [up_s]; rfl
  · show _ = iI ((va_up (se σ) n _ n 5 : Nat) : Int); rw [up_s]; rfl

set_option maxHeartbeats 4000000 in
set_option maxRecDepth 100000 in
theorem c_X1_closeSession (G : GG) (l : Launch) (b : Nat) (fl : Nat → Option Fil) (σ : St) (hI : Inv σ) (hga : G.2.2 ≤ b) : Ct G l yX1_closeSession cX1_closeSession 2 (some .int) ({ frames := 2, cells := 0, slots := 0, locals := 42 } : Room) [.ref (b)] (fun H => DiscAt G b fl σ H) (WD G b fl (spClose σ)) := by
  refine Ct.of (by decide +kernel) (Nat.le_of_ble_eq_true rfl) ?_
  intro p e s m args below meth c ls E hnm hP hl
  have i1 := hI.mn12
  have i2 := hI.nx240
  have hl : lv_has ls 2 [(0, .ref (b))] := hl
  have hL : Lk G [] := Lk.nil
  generalize ([] : List Loc) = locs at hL ⊢
  refine lv_aload_n E.1 E.2.1 dX1_closeSession_0 rfl (lv_at hl 0 rfl) ?_
  refine kVQE (As := []) E cw_X1_43 (c_X1_openSession G l b fl σ hI) hP.1 ⟨_, _, rfl⟩ hP hL hl.1 rfl rfl (Nat.le_of_ble_eq_true rfl) ⟨Nat.le_of_ble_eq_true rfl, Nat.le_of_ble_eq_true rfl⟩ ⟨rfl, rfl⟩ ⟨Nat.le_of_ble_eq_true rfl, Nat.le_of_ble_eq_true rfl⟩ dX1_closeSession_1 (fun locs hL => ?_)
  rcases hop : opn σ with _ | n
  · refine lv_astore_nN (lv' := [(1, .null), (0, .ref (b))]) E.1 E.2.1 dX1_closeSession_4 rfl hl (by decide) rfl (fun ls hl => ?_)
    refine lv_aload_nN E.1 E.2.1 dX1_closeSession_5 rfl (lv_at hl 0 rfl) ?_
    refine lv_ifnonnullN E.1 E.2.1 dX1_closeSession_6 ?_
    refine r_bipush E dX1_closeSession_9 (by decide) ?_
    refine lv_goto (tgt := 19) E.1 E.2.1 dX1_closeSession_11 (by decide) ?_
    refine e_iret (rm := ({ frames := 2, cells := 0, slots := 0, locals := 42 } : Room)) (v := iI ((-5))) E hL dX1_closeSession_19 ?_
    exact WD_i (by simp only [spClose, hop]) rfl hP FrS.rf
  · have hn := (opn_some hop).1
    have hn0 := (opn_some hop).2
    have hrow := hI.row (n := n) (by omega)
    obtain ⟨t_, ho_, hr_, ht_⟩ := hP.live (n := n) (by omega) (by omega)
    refine lv_astore_n (lv' := [(1, .ref (b + 5 + 2 * n)), (0, .ref (b))]) E.1 E.2.1 dX1_closeSession_4 rfl hl (by decide) rfl (fun ls hl => ?_)
    refine lv_aload_n E.1 E.2.1 dX1_closeSession_5 rfl (lv_at hl 0 rfl) ?_
    refine lv_ifnonnull (tgt := 14) E.1 E.2.1 dX1_closeSession_6 (by decide) ?_
    refine lv_aload_n E.1 E.2.1 dX1_closeSession_14 rfl (lv_at hl 1 rfl) ?_
    refine lv_aload_n E.1 E.2.1 dX1_closeSession_15 rfl (lv_at hl 0 rfl) ?_
    refine kVWE (As := [.ref (b + 5 + 2 * n)]) E cw_X1_104 (c_X1_leadOutOf G l b fl σ hI (n) hga (by omega)) hP.1 ⟨_, _, rfl⟩ hP hL hl.1 rfl rfl (Nat.le_of_ble_eq_true rfl) ⟨Nat.le_of_ble_eq_true rfl, Nat.le_of_ble_eq_true rfl⟩ ⟨Nat.le_of_ble_eq_true rfl, Nat.le_of_ble_eq_true rfl⟩ dX1_closeSession_16 (fun H1 locs hL hw_ => ?_)
    obtain ⟨hP1, hS1⟩ := hw_
    refine e_iret (rm := ({ frames := 2, cells := 0, slots := 0, locals := 42 } : Room)) (v := iI ((leadOut σ n).1)) E hL dX1_closeSession_19 ?_
    exact WD_i (sp := spClose σ) (by simp only [spClose, hop]) rfl hP1 hS1

set_option maxHeartbeats 4000000 in
set_option maxRecDepth 100000 in
theorem c_X1_breakSession (G : GG) (l : Launch) (b : Nat) (fl : Nat → Option Fil) (σ : St) (hI : Inv σ) (hga : G.2.2 ≤ b) : Ct G l yX1_breakSession cX1_breakSession 2 (some .int) ({ frames := 2, cells := 0, slots := 0, locals := 42 } : Room) [.ref (b)] (fun H => DiscAt G b fl σ H) (WD G b fl (spEject σ)) := by
  refine Ct.of (by decide +kernel) (Nat.le_of_ble_eq_true rfl) ?_
  intro p e s m args below meth c ls E hnm hP hl
  have i1 := hI.mn12
  have i2 := hI.nx240
  have hb0 := hP.1
  have hb2 := hP.2.2.1
  have hb3 := hP.2.2.2.1
  have hb4 := hP.2.2.2.2.1
  have hl : lv_has ls 2 [(0, .ref (b))] := hl
  have hL : Lk G [] := Lk.nil
  generalize ([] : List Loc) = locs at hL ⊢
  refine lv_aload_n E.1 E.2.1 dX1_breakSession_0 rfl (lv_at hl 0 rfl) ?_
  refine kVQE (As := []) E cw_X1_43 (c_X1_openSession G l b fl σ hI) hP.1 ⟨_, _, rfl⟩ hP hL hl.1 rfl rfl (Nat.le_of_ble_eq_true rfl) ⟨Nat.le_of_ble_eq_true rfl, Nat.le_of_ble_eq_true rfl⟩ ⟨rfl, rfl⟩ ⟨Nat.le_of_ble_eq_true rfl, Nat.le_of_ble_eq_true rfl⟩ dX1_breakSession_1 (fun locs hL => ?_)
  rcases hop : opn σ with _ | n
  · refine lv_astore_nN (lv' := [(1, .null), (0, .ref (b))]) E.1 E.2.1 dX1_breakSession_4 rfl hl (by decide) rfl (fun ls hl => ?_)
    refine lv_aload_nN E.1 E.2.1 dX1_breakSession_5 rfl (lv_at hl 0 rfl) ?_
    refine lv_ifnonnullN E.1 E.2.1 dX1_breakSession_6 ?_
    refine r_const E dX1_breakSession_9 ?_
    refine e_iret (rm := ({ frames := 2, cells := 0, slots := 0, locals := 42 } : Room)) (v := iI (0)) E hL dX1_breakSession_10 ?_
    exact WD_i (by simp only [spEject, hop]) rfl hP FrS.rf
  · have hn := (opn_some hop).1
    have hn0 := (opn_some hop).2
    have hrow := hI.row (n := n) (by omega)
    obtain ⟨t_, ho_, hr_, ht_⟩ := hP.live (n := n) (by omega) (by omega)
    refine lv_astore_n (lv' := [(1, .ref (b + 5 + 2 * n)), (0, .ref (b))]) E.1 E.2.1 dX1_breakSession_4 rfl hl (by decide) rfl (fun ls hl => ?_)
    refine lv_aload_n E.1 E.2.1 dX1_breakSession_5 rfl (lv_at hl 0 rfl) ?_
    refine lv_ifnonnull (tgt := 11) E.1 E.2.1 dX1_breakSession_6 (by decide) ?_
    have hfr : FrD b n s.heap s.heap := FrD.rf
    refine lv_aload_n E.1 E.2.1 dX1_breakSession_11 rfl (lv_at hl 0 rfl) ?_
    refine r_const E dX1_breakSession_12 ?_
    refine m_put E ho_ fw_X1_108 fp_X3_1 rfl rfl (Nat.le_of_ble_eq_true rfl) hL (by omega) dX1_breakSession_13 (fun H1 locs hL hO_ hF_ => ?_)
    have hb0 := hb0.kept (hF_.2 _ (by omega))
    have hb2 := hb2.kept (hF_.2 _ (by omega))
    have hb3 := hb3.kept (hF_.2 _ (by omega))
    have hb4 := hb4.kept (hF_.2 _ (by omega))
    have hr_ := hr_.kept (hF_.2 _ (by omega))
    have hfr := hfr.one hF_ (by omega)
    have ho_ : Ob G (b + 5 + 2 * n) 3 [.ref (b + 5 + 2 * n + 1), .int (iI (2)), .int (iI ((se σ n 1 : Int))), .int (iI (((se σ n 1 : Int) + (se σ n 2 : Int)))), .int (iI ((se σ n 3 : Int))), .int (iI ((se σ n 4 : Int))), .int (iI ((se σ n 5 : Int)))] H1 := hO_
    clear hO_
    refine r_const E dX1_breakSession_16 ?_
    refine e_iret (rm := ({ frames := 2, cells := 0, slots := 0, locals := 42 } : Room)) (v := iI (1)) E hL dX1_breakSession_17 ?_
    refine WD_i (sp := spEject σ) (by simp only [spEject, hop]; rfl) rfl ?_ (hfr.S (by omega))
    refine hP.re (n := n) hb0 rfl rfl rfl hb2 hb3 hb4 (by omega) ?_ hfr (fun k hk hk2 => ⟨hk2, up_n hk, rfl⟩)
    refine SesL.mk2 (t := t_) ho_ hr_ ht_ ?_ ?_ ?_ ?_ ?_ ?_
    · show _ = iI ((va_up (se σ) n _ n 0 : Nat) : Int); rw [up_s]; rfl
    · show _ = iI ((va_up (se σ) n _ n 1 : Nat) : Int); rw [up_s]; rfl
    · show _ = iI (((va_up (se σ) n _ n 1 : Nat) : Int) + ((va_up (se σ) n _ n 2 : Nat) : Int)); rw [up_s]; rfl
    · show _ = iI ((va_up (se σ) n _ n 3 : Nat) : Int); rw [up_s]; rfl
    · show _ = iI ((va_up (se σ) n _ n 4 : Nat) : Int); rw [up_s]; rfl
    · show _ = iI ((va_up (se σ) n _ n 5 : Nat) : Int); rw [up_s]; rfl

set_option maxHeartbeats 4000000 in
set_option maxRecDepth 100000 in
theorem c_X1_repairSession (G : GG) (l : Launch) (b : Nat) (fl : Nat → Option Fil) (σ : St) (hI : Inv σ) (x : Int) (hx : okI x) (hga : G.2.2 ≤ b) : Ct G l yX1_repairSession cX1_repairSession 4 (some .int) ({ frames := 2, cells := 0, slots := 0, locals := 49 } : Room) [.ref (b), .int (iI (x))] (fun H => DiscAt G b fl σ H) (WD G b fl (spRepair σ x)) := by
  refine Ct.of (by decide +kernel) (Nat.le_of_ble_eq_true rfl) ?_
  intro p e s m args below meth c ls E hnm hP hl
  have i1 := hI.mn12
  have i2 := hI.nx240
  obtain ⟨hx1, hx2⟩ := hx
  have hl : lv_has ls 4 [(0, .ref (b)), (1, .int (iI (x)))] := hl
  have hL : Lk G [] := Lk.nil
  generalize ([] : List Loc) = locs at hL ⊢
  refine lv_aload_n E.1 E.2.1 dX1_repairSession_0 rfl (lv_at hl 0 rfl) ?_
  refine lv_iload_n E.1 E.2.1 dX1_repairSession_1 rfl (lv_at hl 1 rfl) ?_
  by_cases h0 : 0 ≤ x ∧ x < mn σ
  · obtain ⟨n, rfl⟩ : ∃ n : Nat, x = (n : Int) := ⟨x.toNat, by omega⟩
    have hrow := hI.row (n := n) (by omega)
    obtain ⟨t_, ho_, hr_, ht_⟩ := hP.live (n := n) (by omega) (by omega)
    refine kVQE (As := [.int (iI ((n : Int)))]) E cw_X1_54 (c_sessionAt_s G l b fl σ hI n (by omega)) hP.1 ⟨_, _, rfl⟩ hP hL hl.1 rfl rfl (Nat.le_of_ble_eq_true rfl) ⟨Nat.le_of_ble_eq_true rfl, Nat.le_of_ble_eq_true rfl⟩ ⟨rfl, rfl⟩ ⟨Nat.le_of_ble_eq_true rfl, Nat.le_of_ble_eq_true rfl⟩ dX1_repairSession_2 (fun locs hL => ?_)
    refine lv_astore_n (lv' := [(2, .ref (b + 5 + 2 * n)), (0, .ref (b)), (1, .int (iI ((n : Int))))]) E.1 E.2.1 dX1_repairSession_5 rfl hl (by decide) rfl (fun ls hl => ?_)
    refine lv_aload_n E.1 E.2.1 dX1_repairSession_6 rfl (lv_at hl 0 rfl) ?_
    refine lv_ifnonnull (tgt := 12) E.1 E.2.1 dX1_repairSession_7 (by decide) ?_
    refine lv_iload_n E.1 E.2.1 dX1_repairSession_12 rfl (lv_at hl 2 rfl) ?_
    refine lv_aload_n E.1 E.2.1 dX1_repairSession_13 rfl (lv_at hl 1 rfl) ?_
    refine m_get E hP.1 fw_X1_29 rfl dX1_repairSession_14 ?_
    refine r_const E dX1_repairSession_17 ?_
    refine r_sub E dX1_repairSession_18 ?_
    refine r_icmp_ne (tgt := 26) E dX1_repairSession_19 (by decide) (by omega) (by omega) (fun c19 => ?_) (fun c19 => ?_)
    · refine r_const E dX1_repairSession_26 ?_
      refine lv_istore_n (lv' := [(3, .int (iI (0))), (2, .ref (b + 5 + 2 * n)), (0, .ref (b)), (1, .int (iI ((n : Int))))]) E.1 E.2.1 dX1_repairSession_27 rfl hl (by decide) rfl (fun ls hl => ?_)
      refine lv_aload_n E.1 E.2.1 dX1_repairSession_28 rfl (lv_at hl 1 rfl) ?_
      refine m_get E ho_ fw_X1_108 rfl dX1_repairSession_29 ?_
      refine r_const E dX1_repairSession_32 ?_
      refine r_icmp_ne (tgt := 56) E dX1_repairSession_33 (by decide) (by omega) (by omega) (fun c33 => ?_) (fun c33 => ?_)
      · refine r_bipush E dX1_repairSession_56 (by decide) ?_
        refine e_iret (rm := ({ frames := 2, cells := 0, slots := 0, locals := 49 } : Room)) (v := iI ((-5))) E hL dX1_repairSession_58 ?_
        refine WD_i (w := -5) (τ := σ) ?_ rfl hP FrS.rf
        unfold spRepair
        rw [if_neg (by omega), Int.toNat_natCast, if_neg]
        rintro ⟨g1, g2, g3⟩
        first | omega | (rw [c53] at g3; cases g3)
      · refine lv_iload_n E.1 E.2.1 dX1_repairSession_36 rfl (lv_at hl 0 rfl) ?_
        refine r_if_eq (tgt := 56) E dX1_repairSession_37 (by decide) (by omega) (fun c37 => ?_) (fun c37 => absurd c37 (by omega))
        refine r_bipush E dX1_repairSession_56 (by decide) ?_
        refine e_iret (rm := ({ frames := 2, cells := 0, slots := 0, locals := 49 } : Room)) (v := iI ((-5))) E hL dX1_repairSession_58 ?_
        refine WD_i (w := -5) (τ := σ) ?_ rfl hP FrS.rf
        unfold spRepair
        rw [if_neg (by omega), Int.toNat_natCast, if_neg]
        rintro ⟨g1, g2, g3⟩
        first | omega | (rw [c53] at g3; cases g3)
    · refine r_const E dX1_repairSession_22 ?_
      refine lv_goto (tgt := 27) E.1 E.2.1 dX1_repairSession_23 (by decide) ?_
      refine lv_istore_n (lv' := [(3, .int (iI (1))), (2, .ref (b + 5 + 2 * n)), (0, .ref (b)), (1, .int (iI ((n : Int))))]) E.1 E.2.1 dX1_repairSession_27 rfl hl (by decide) rfl (fun ls hl => ?_)
      refine lv_aload_n E.1 E.2.1 dX1_repairSession_28 rfl (lv_at hl 1 rfl) ?_
      refine m_get E ho_ fw_X1_108 rfl dX1_repairSession_29 ?_
      refine r_const E dX1_repairSession_32 ?_
      refine r_icmp_ne (tgt := 56) E dX1_repairSession_33 (by decide) (by omega) (by omega) (fun c33 => ?_) (fun c33 => ?_)
      · refine r_bipush E dX1_repairSession_56 (by decide) ?_
        refine e_iret (rm := ({ frames := 2, cells := 0, slots := 0, locals := 49 } : Room)) (v := iI ((-5))) E hL dX1_repairSession_58 ?_
        refine WD_i (w := -5) (τ := σ) ?_ rfl hP FrS.rf
        unfold spRepair
        rw [if_neg (by omega), Int.toNat_natCast, if_neg]
        rintro ⟨g1, g2, g3⟩
        first | omega | (rw [c53] at g3; cases g3)
      · refine lv_iload_n E.1 E.2.1 dX1_repairSession_36 rfl (lv_at hl 0 rfl) ?_
        refine r_if_eq (tgt := 56) E dX1_repairSession_37 (by decide) (by omega) (fun c37 => absurd c37 (by omega)) (fun c37 => ?_)
        refine lv_aload_n E.1 E.2.1 dX1_repairSession_40 rfl (lv_at hl 2 rfl) ?_
        refine lv_aload_n E.1 E.2.1 dX1_repairSession_41 rfl (lv_at hl 1 rfl) ?_
        refine m_get E ho_ fw_X1_111 rfl dX1_repairSession_42 ?_
        refine lv_aload_n E.1 E.2.1 dX1_repairSession_45 rfl (lv_at hl 1 rfl) ?_
        refine m_get E ho_ fw_X1_112 rfl dX1_repairSession_46 ?_
        refine r_const E dX1_repairSession_49 ?_
        refine kVRE (As := [.int (iI ((se σ n 1 : Int))), .int (iI ((se σ n 3 : Int))), .int (iI ((-1)))]) E cw_X1_115 (c_X1_areWholeIf G l b fl σ (se σ n 1) (se σ n 3) ((-1)) (by unfold okI; omega) (by omega)) hP.1 ⟨_, _, rfl⟩ hP hL hl.1 rfl rfl (Nat.le_of_ble_eq_true rfl) ⟨Nat.le_of_ble_eq_true rfl, Nat.le_of_ble_eq_true rfl⟩ ⟨rfl, rfl⟩ ⟨Nat.le_of_ble_eq_true rfl, Nat.le_of_ble_eq_true rfl⟩ dX1_repairSession_50 (fun locs hL => ?_)
        rw [dmH_m1 (σ := σ) (h := -1) (by decide)]
        refine r_bif_ne (tgt := 59) E dX1_repairSession_53 (by decide)  (fun c53 => ?_) (fun c53 => ?_)
        · refine lv_aload_n E.1 E.2.1 dX1_repairSession_59 rfl (lv_at hl 2 rfl) ?_
          refine lv_aload_n E.1 E.2.1 dX1_repairSession_60 rfl (lv_at hl 1 rfl) ?_
          refine kVWE (As := [.ref (b + 5 + 2 * n)]) E cw_X1_104 (c_X1_leadOutOf G l b fl σ hI (n) hga (by omega)) hP.1 ⟨_, _, rfl⟩ hP hL hl.1 rfl rfl (Nat.le_of_ble_eq_true rfl) ⟨Nat.le_of_ble_eq_true rfl, Nat.le_of_ble_eq_true rfl⟩ ⟨Nat.le_of_ble_eq_true rfl, Nat.le_of_ble_eq_true rfl⟩ dX1_repairSession_61 (fun H1 locs hL hw_ => ?_)
          obtain ⟨hP1, hS1⟩ := hw_
          refine e_iret (rm := ({ frames := 2, cells := 0, slots := 0, locals := 49 } : Room)) (v := iI ((leadOut σ n).1)) E hL dX1_repairSession_64 ?_
          refine WD_i (sp := spRepair σ n) (w := (leadOut σ n).1) ?_ rfl hP1 hS1
          unfold spRepair
          rw [if_neg (by omega), Int.toNat_natCast, if_pos ⟨by omega, by omega, c53⟩]
        · refine r_bipush E dX1_repairSession_56 (by decide) ?_
          refine e_iret (rm := ({ frames := 2, cells := 0, slots := 0, locals := 49 } : Room)) (v := iI ((-5))) E hL dX1_repairSession_58 ?_
          refine WD_i (w := -5) (τ := σ) ?_ rfl hP FrS.rf
          unfold spRepair
          rw [if_neg (by omega), Int.toNat_natCast, if_neg]
          rintro ⟨g1, g2, g3⟩
          first | omega | (rw [c53] at g3; cases g3)
  · refine kVQE (As := [.int (iI (x))]) E cw_X1_54 (c_sessionAt_n G l b fl σ hI (x) (by unfold okI; omega) (by omega)) hP.1 ⟨_, _, rfl⟩ hP hL hl.1 rfl rfl (Nat.le_of_ble_eq_true rfl) ⟨Nat.le_of_ble_eq_true rfl, Nat.le_of_ble_eq_true rfl⟩ ⟨rfl, rfl⟩ ⟨Nat.le_of_ble_eq_true rfl, Nat.le_of_ble_eq_true rfl⟩ dX1_repairSession_2 (fun locs hL => ?_)
    refine lv_astore_nN (lv' := [(2, .null), (0, .ref (b)), (1, .int (iI (x)))]) E.1 E.2.1 dX1_repairSession_5 rfl hl (by decide) rfl (fun ls hl => ?_)
    refine lv_aload_nN E.1 E.2.1 dX1_repairSession_6 rfl (lv_at hl 0 rfl) ?_
    refine lv_ifnonnullN E.1 E.2.1 dX1_repairSession_7 ?_
    refine r_const E dX1_repairSession_10 ?_
    refine e_iret (rm := ({ frames := 2, cells := 0, slots := 0, locals := 49 } : Room)) (v := iI ((-1))) E hL dX1_repairSession_11 ?_
    exact WD_i (by unfold spRepair; rw [if_pos (by omega)]) rfl hP FrS.rf

set_option maxHeartbeats 4000000 in
set_option maxRecDepth 100000 in
theorem c_X1_damageSector (G : GG) (l : Launch) (b : Nat) (fl : Nat → Option Fil) (σ : St) (hI : Inv σ) (x : Int) (hx : okI x) (hga : G.2.2 ≤ b) : Ct G l yX1_damageSector cX1_damageSector 2 (some .int) ({ frames := 1, cells := 0, slots := 0, locals := 20 } : Room) [.ref (b), .int (iI (x))] (fun H => DiscAt G b fl σ H) (WD G b fl (spDamage σ x)) := by
  refine Ct.of (by decide +kernel) (Nat.le_of_ble_eq_true rfl) ?_
  intro p e s m args below meth c ls E hnm hP hl
  have i1 := hI.mn12
  have i2 := hI.nx240
  have hb0 := hP.1
  have hb2 := hP.2.2.1
  have hb3 := hP.2.2.2.1
  have hb4 := hP.2.2.2.2.1
  obtain ⟨hx1, hx2⟩ := hx
  have hfr : FrE b s.heap s.heap := FrE.rf
  have hl : lv_has ls 2 [(0, .ref (b)), (1, .int (iI (x)))] := hl
  have hL : Lk G [] := Lk.nil
  generalize ([] : List Loc) = locs at hL ⊢
  refine lv_iload_n E.1 E.2.1 dX1_damageSector_0 rfl (lv_at hl 1 rfl) ?_
  refine kSNRE (As := [.int (iI (x))]) E cw_X1_119 (c_X5_isSector G l (x) (by unfold okI; omega)) trivial hL hl.1 rfl rfl (Nat.le_of_ble_eq_true rfl) ⟨Nat.le_of_ble_eq_true rfl, Nat.le_of_ble_eq_true rfl⟩ ⟨rfl, rfl⟩ ⟨Nat.le_of_ble_eq_true rfl, Nat.le_of_ble_eq_true rfl⟩ dX1_damageSector_1 (fun locs hL => ?_)
  refine r_bif_ne (tgt := 9) E dX1_damageSector_4 (by decide)  (fun c4 => ?_) (fun c4 => ?_)
  · have c4 := of_decide_eq_true c4
    obtain ⟨n, rfl⟩ : ∃ n : Nat, x = (n : Int) := ⟨x.toNat, by omega⟩
    refine lv_aload_n E.1 E.2.1 dX1_damageSector_9 rfl (lv_at hl 0 rfl) ?_
    refine m_get E hb0 fw_X1_17 rfl dX1_damageSector_10 ?_
    refine lv_iload_n E.1 E.2.1 dX1_damageSector_13 rfl (lv_at hl 1 rfl) ?_
    refine r_zald E hb2 (n) rfl (by omega) (by decide) dX1_damageSector_14 ?_
    refine r_bif_ne (tgt := 35) E dX1_damageSector_15 (by decide)  (fun c15 => ?_) (fun c15 => ?_)
    · refine lv_aload_n E.1 E.2.1 dX1_damageSector_35 rfl (lv_at hl 0 rfl) ?_
      refine m_get E hb0 fw_X1_36 rfl dX1_damageSector_36 ?_
      refine e_iret (rm := ({ frames := 1, cells := 0, slots := 0, locals := 20 } : Room)) (v := iI ((cntB (dm σ) 240 : Int))) E hL dX1_damageSector_39 ?_
      refine WD_i (sp := spDamage σ n) (by unfold spDamage; rw [if_neg (by omega), Int.toNat_natCast, up_same c15]) rfl ?_ FrS.rf
      exact hP
    · refine lv_aload_n E.1 E.2.1 dX1_damageSector_18 rfl (lv_at hl 0 rfl) ?_
      refine m_get E hb0 fw_X1_17 rfl dX1_damageSector_19 ?_
      refine lv_iload_n E.1 E.2.1 dX1_damageSector_22 rfl (lv_at hl 1 rfl) ?_
      refine r_const E dX1_damageSector_23 ?_
      have hbv : iI (1) = b2i true := rfl
      rw [hbv]
      refine r_zast E hb2 (n) rfl (by omega) (by decide) hL (by omega) dX1_damageSector_24 (fun H1 locs hL hO_ hF_ => ?_)
      have hb0 := hb0.kept (hF_.2 _ (by omega))
      have hb3 := hb3.kept (hF_.2 _ (by omega))
      have hb4 := hb4.kept (hF_.2 _ (by omega))
      have hfr := hfr.one hF_ (by omega)
      have hb2 : Ia G (b + 2) 1 240 (upd (fun k => b2i (dm σ k)) (n) (b2i (true))) H1 := hO_
      clear hO_
      refine lv_aload_n E.1 E.2.1 dX1_damageSector_25 rfl (lv_at hl 0 rfl) ?_
      refine lv_dup E.1 E.2.1 dX1_damageSector_26 rfl ?_
      refine m_get E hb0 fw_X1_36 rfl dX1_damageSector_27 ?_
      refine r_const E dX1_damageSector_30 ?_
      refine r_add E dX1_damageSector_31 ?_
      refine m_put E hb0 fw_X1_36 fp_X1_6 rfl rfl (Nat.le_of_ble_eq_true rfl) hL (by omega) dX1_damageSector_32 (fun H2 locs hL hO_ hF_ => ?_)
      have hb2 := hb2.kept (hF_.2 _ (by omega))
      have hb3 := hb3.kept (hF_.2 _ (by omega))
      have hb4 := hb4.kept (hF_.2 _ (by omega))
      have hfr := hfr.one hF_ (by omega)
      have hb0 : Ob G (b) 1 [.ref (b + 1), .ref (b + 2), .ref (b + 3), .ref (b + 4), .int (iI ((mn σ : Int))), .int (iI ((nx σ : Int))), .int (iI (((cntB (dm σ) 240 : Int)) + 1))] H2 := hO_
      clear hO_
      refine lv_aload_n E.1 E.2.1 dX1_damageSector_35 rfl (lv_at hl 0 rfl) ?_
      refine m_get E hb0 fw_X1_36 rfl dX1_damageSector_36 ?_
      refine e_iret (rm := ({ frames := 1, cells := 0, slots := 0, locals := 20 } : Room)) (v := iI (((cntB (dm σ) 240 : Int)) + 1)) E hL dX1_damageSector_39 ?_
      refine WD_i (sp := spDamage σ n) (by unfold spDamage; rw [if_neg (by omega), Int.toNat_natCast]) (by rw [cntB_up c15 (by omega)]; omega) ?_ hfr.S
      exact hP.re0 hb0 rfl rfl (congrArg iI (by show _ = ((cntB (va_up (dm σ) n true) 240 : Nat) : Int); rw [cntB_up c15 (by omega)]; omega)) (hb2.to (fun j _ => upd_b j)) hb3 hb4 hfr rfl rfl rfl
  · have c4 := of_decide_eq_false c4
    refine r_const E dX1_damageSector_7 ?_
    refine e_iret (rm := ({ frames := 1, cells := 0, slots := 0, locals := 20 } : Room)) (v := iI ((-1))) E hL dX1_damageSector_8 ?_
    exact WD_i (by unfold spDamage; rw [if_pos (by omega)]) rfl hP FrS.rf

set_option maxHeartbeats 4000000 in
set_option maxRecDepth 100000 in
theorem c_X1_changeSetting (G : GG) (l : Launch) (b : Nat) (fl : Nat → Option Fil) (σ : St) (hI : Inv σ) (x y : Int) (hx : okI x) (hy : okI y) (hga : G.2.2 ≤ b) : Ct G l yX1_changeSetting cX1_changeSetting 5 (some .int) ({ frames := 1, cells := 0, slots := 0, locals := 20 } : Room) [.ref (b), .int (iI (x)), .int (iI (y))] (fun H => DiscAt G b fl σ H) (WD G b fl (spSet σ x y)) := by
  refine Ct.of (by decide +kernel) (Nat.le_of_ble_eq_true rfl) ?_
  intro p e s m args below meth c ls E hnm hP hl
  have i1 := hI.mn12
  have i2 := hI.nx240
  have hb0 := hP.1
  have hb2 := hP.2.2.1
  have hb3 := hP.2.2.2.1
  have hb4 := hP.2.2.2.2.1
  obtain ⟨hx1, hx2⟩ := hx
  obtain ⟨hy1, hy2⟩ := hy
  have hfr : FrE b s.heap s.heap := FrE.rf
  have hl : lv_has ls 5 [(0, .ref (b)), (1, .int (iI (x))), (2, .int (iI (y)))] := hl
  have hL : Lk G [] := Lk.nil
  generalize ([] : List Loc) = locs at hL ⊢
  refine lv_iload_n E.1 E.2.1 dX1_changeSetting_0 rfl (lv_at hl 1 rfl) ?_
  refine kSNRE (As := [.int (iI (x))]) E cw_X1_122 (c_X5_isSetting G l (x) (by unfold okI; omega)) trivial hL hl.1 rfl rfl (Nat.le_of_ble_eq_true rfl) ⟨Nat.le_of_ble_eq_true rfl, Nat.le_of_ble_eq_true rfl⟩ ⟨rfl, rfl⟩ ⟨Nat.le_of_ble_eq_true rfl, Nat.le_of_ble_eq_true rfl⟩ dX1_changeSetting_1 (fun locs hL => ?_)
  refine r_bif_ne (tgt := 9) E dX1_changeSetting_4 (by decide)  (fun c4 => ?_) (fun c4 => ?_)
  · have c4 := of_decide_eq_true c4
    rcases c4 with rfl | rfl
    · refine lv_iload_n E.1 E.2.1 dX1_changeSetting_9 rfl (lv_at hl 1 rfl) ?_
      refine r_if_ne (tgt := 17) E dX1_changeSetting_10 (by decide) (by omega) (fun c10 => absurd c10 (by omega)) (fun c10 => ?_)
      refine r_const E dX1_changeSetting_13 ?_
      refine lv_goto (tgt := 18) E.1 E.2.1 dX1_changeSetting_14 (by decide) ?_
      refine lv_istore_n (lv' := [(3, .int (iI (2))), (0, .ref (b)), (1, .int (iI (0))), (2, .int (iI (y)))]) E.1 E.2.1 dX1_changeSetting_18 rfl hl (by decide) rfl (fun ls hl => ?_)
      refine lv_iload_n E.1 E.2.1 dX1_changeSetting_19 rfl (lv_at hl 3 rfl) ?_
      refine lv_iload_n E.1 E.2.1 dX1_changeSetting_20 rfl (lv_at hl 0 rfl) ?_
      refine r_icmp_lt (tgt := 30) E dX1_changeSetting_21 (by decide) (by omega) (by omega) (fun c21 => ?_) (fun c21 => ?_)
      · refine r_bipush E dX1_changeSetting_30 (by decide) ?_
        refine e_iret (rm := ({ frames := 1, cells := 0, slots := 0, locals := 20 } : Room)) (v := iI ((-2))) E hL dX1_changeSetting_32 ?_
        exact WD_i (w := -2) (τ := σ) (by unfold spSet; rw [if_neg (by omega)]; first | (rw [if_pos rfl, if_neg (by omega)]; done) | (rw [if_neg (by omega), if_neg (by omega)])) rfl hP FrS.rf
      · refine lv_iload_n E.1 E.2.1 dX1_changeSetting_24 rfl (lv_at hl 3 rfl) ?_
        refine r_bipush E dX1_changeSetting_25 (by decide) ?_
        refine r_icmp_le (tgt := 33) E dX1_changeSetting_27 (by decide) (by omega) (by omega) (fun c27 => ?_) (fun c27 => ?_)
        · refine lv_aload_n E.1 E.2.1 dX1_changeSetting_33 rfl (lv_at hl 1 rfl) ?_
          refine m_get E hb0 fw_X1_25 rfl dX1_changeSetting_34 ?_
          refine lv_iload_n E.1 E.2.1 dX1_changeSetting_37 rfl (lv_at hl 2 rfl) ?_
          refine r_iald E hb4 (0) rfl (by decide) (by decide) dX1_changeSetting_38 ?_
          rw [if_pos rfl]
          refine lv_istore (lv' := [(4, .int (iI ((s0 σ : Int)))), (3, .int (iI (2))), (0, .ref (b)), (1, .int (iI (0))), (2, .int (iI (y)))]) E.1 E.2.1 dX1_changeSetting_39 hl (by decide) rfl (fun ls hl => ?_)
          refine lv_aload_n E.1 E.2.1 dX1_changeSetting_41 rfl (lv_at hl 2 rfl) ?_
          refine m_get E hb0 fw_X1_25 rfl dX1_changeSetting_42 ?_
          refine lv_iload_n E.1 E.2.1 dX1_changeSetting_45 rfl (lv_at hl 3 rfl) ?_
          refine lv_iload_n E.1 E.2.1 dX1_changeSetting_46 rfl (lv_at hl 4 rfl) ?_
          refine r_iast E hb4 (0) rfl (by decide) (by decide) hL (by omega) dX1_changeSetting_47 (fun H1 locs hL hO_ hF_ => ?_)
          have hb0 := hb0.kept (hF_.2 _ (by omega))
          have hb2 := hb2.kept (hF_.2 _ (by omega))
          have hb3 := hb3.kept (hF_.2 _ (by omega))
          have hfr := hfr.one hF_ (by omega)
          have hb4 : Ia G (b + 4) 0 2 (upd (fun k => if k = 0 then iI (s0 σ) else iI (s1 σ)) (0) (iI (y))) H1 := hO_
          clear hO_
          refine lv_iload E.1 E.2.1 dX1_changeSetting_48 (lv_at hl 0 rfl) ?_
          refine e_iret (rm := ({ frames := 1, cells := 0, slots := 0, locals := 20 } : Room)) (v := iI ((s0 σ : Int))) E hL dX1_changeSetting_50 ?_
          refine WD_i (sp := spSet σ 0 y) (by unfold spSet; rw [if_neg (by omega)]; rw [if_pos rfl, if_pos (by omega)]) rfl ?_ hfr.S
          refine hP.re0 hb0 rfl rfl rfl hb2 hb3 (hb4.to (fun j hj => ?_)) hfr rfl rfl rfl
          obtain ⟨v, rfl⟩ : ∃ v : Nat, y = (v : Int) := ⟨y.toNat, by omega⟩
          rcases (show j = 0 ∨ j = 1 by omega) with rfl | rfl <;> rfl
        · refine r_bipush E dX1_changeSetting_30 (by decide) ?_
          refine e_iret (rm := ({ frames := 1, cells := 0, slots := 0, locals := 20 } : Room)) (v := iI ((-2))) E hL dX1_changeSetting_32 ?_
          exact WD_i (w := -2) (τ := σ) (by unfold spSet; rw [if_neg (by omega)]; first | (rw [if_pos rfl, if_neg (by omega)]; done) | (rw [if_neg (by omega), if_neg (by omega)])) rfl hP FrS.rf
    · refine lv_iload_n E.1 E.2.1 dX1_changeSetting_9 rfl (lv_at hl 1 rfl) ?_
      refine r_if_ne (tgt := 17) E dX1_changeSetting_10 (by decide) (by omega) (fun c10 => ?_) (fun c10 => absurd c10 (by omega))
      refine r_const E dX1_changeSetting_17 ?_
      refine lv_istore_n (lv' := [(3, .int (iI (1))), (0, .ref (b)), (1, .int (iI (1))), (2, .int (iI (y)))]) E.1 E.2.1 dX1_changeSetting_18 rfl hl (by decide) rfl (fun ls hl => ?_)
      refine lv_iload_n E.1 E.2.1 dX1_changeSetting_19 rfl (lv_at hl 3 rfl) ?_
      refine lv_iload_n E.1 E.2.1 dX1_changeSetting_20 rfl (lv_at hl 0 rfl) ?_
      refine r_icmp_lt (tgt := 30) E dX1_changeSetting_21 (by decide) (by omega) (by omega) (fun c21 => ?_) (fun c21 => ?_)
      · refine r_bipush E dX1_changeSetting_30 (by decide) ?_
        refine e_iret (rm := ({ frames := 1, cells := 0, slots := 0, locals := 20 } : Room)) (v := iI ((-2))) E hL dX1_changeSetting_32 ?_
        exact WD_i (w := -2) (τ := σ) (by unfold spSet; rw [if_neg (by omega)]; first | (rw [if_pos rfl, if_neg (by omega)]; done) | (rw [if_neg (by omega), if_neg (by omega)])) rfl hP FrS.rf
      · refine lv_iload_n E.1 E.2.1 dX1_changeSetting_24 rfl (lv_at hl 3 rfl) ?_
        refine r_bipush E dX1_changeSetting_25 (by decide) ?_
        refine r_icmp_le (tgt := 33) E dX1_changeSetting_27 (by decide) (by omega) (by omega) (fun c27 => ?_) (fun c27 => ?_)
        · refine lv_aload_n E.1 E.2.1 dX1_changeSetting_33 rfl (lv_at hl 1 rfl) ?_
          refine m_get E hb0 fw_X1_25 rfl dX1_changeSetting_34 ?_
          refine lv_iload_n E.1 E.2.1 dX1_changeSetting_37 rfl (lv_at hl 2 rfl) ?_
          refine r_iald E hb4 (1) rfl (by decide) (by decide) dX1_changeSetting_38 ?_
          rw [if_neg (by decide)]
          refine lv_istore (lv' := [(4, .int (iI ((s1 σ : Int)))), (3, .int (iI (1))), (0, .ref (b)), (1, .int (iI (1))), (2, .int (iI (y)))]) E.1 E.2.1 dX1_changeSetting_39 hl (by decide) rfl (fun ls hl => ?_)
          refine lv_aload_n E.1 E.2.1 dX1_changeSetting_41 rfl (lv_at hl 2 rfl) ?_
          refine m_get E hb0 fw_X1_25 rfl dX1_changeSetting_42 ?_
          refine lv_iload_n E.1 E.2.1 dX1_changeSetting_45 rfl (lv_at hl 3 rfl) ?_
          refine lv_iload_n E.1 E.2.1 dX1_changeSetting_46 rfl (lv_at hl 4 rfl) ?_
          refine r_iast E hb4 (1) rfl (by decide) (by decide) hL (by omega) dX1_changeSetting_47 (fun H1 locs hL hO_ hF_ => ?_)
          have hb0 := hb0.kept (hF_.2 _ (by omega))
          have hb2 := hb2.kept (hF_.2 _ (by omega))
          have hb3 := hb3.kept (hF_.2 _ (by omega))
          have hfr := hfr.one hF_ (by omega)
          have hb4 : Ia G (b + 4) 0 2 (upd (fun k => if k = 0 then iI (s0 σ) else iI (s1 σ)) (1) (iI (y))) H1 := hO_
          clear hO_
          refine lv_iload E.1 E.2.1 dX1_changeSetting_48 (lv_at hl 0 rfl) ?_
          refine e_iret (rm := ({ frames := 1, cells := 0, slots := 0, locals := 20 } : Room)) (v := iI ((s1 σ : Int))) E hL dX1_changeSetting_50 ?_
          refine WD_i (sp := spSet σ 1 y) (by unfold spSet; rw [if_neg (by omega)]; rw [if_neg (by omega), if_pos (by omega)]) rfl ?_ hfr.S
          refine hP.re0 hb0 rfl rfl rfl hb2 hb3 (hb4.to (fun j hj => ?_)) hfr rfl rfl rfl
          obtain ⟨v, rfl⟩ : ∃ v : Nat, y = (v : Int) := ⟨y.toNat, by omega⟩
          rcases (show j = 0 ∨ j = 1 by omega) with rfl | rfl <;> rfl
        · refine r_bipush E dX1_changeSetting_30 (by decide) ?_
          refine e_iret (rm := ({ frames := 1, cells := 0, slots := 0, locals := 20 } : Room)) (v := iI ((-2))) E hL dX1_changeSetting_32 ?_
          exact WD_i (w := -2) (τ := σ) (by unfold spSet; rw [if_neg (by omega)]; first | (rw [if_pos rfl, if_neg (by omega)]; done) | (rw [if_neg (by omega), if_neg (by omega)])) rfl hP FrS.rf
  · have c4 := of_decide_eq_false c4
    refine r_const E dX1_changeSetting_7 ?_
    refine e_iret (rm := ({ frames := 1, cells := 0, slots := 0, locals := 20 } : Room)) (v := iI ((-1))) E hL dX1_changeSetting_8 ?_
    exact WD_i (by unfold spSet; rw [if_pos (by omega)]) rfl hP FrS.rf

set_option maxHeartbeats 4000000 in
set_option maxRecDepth 100000 in
theorem c_X1_removeEntry (G : GG) (l : Launch) (b : Nat) (fl : Nat → Option Fil) (σ : St) (hI : Inv σ) (x : Int) (hx : okI x) (hga : G.2.2 ≤ b) : Ct G l yX1_removeEntry cX1_removeEntry 3 (some .int) ({ frames := 2, cells := 0, slots := 0, locals := 42 } : Room) [.ref (b), .int (iI (x))] (fun H => DiscAt G b fl σ H) (WD G b fl (spRemove σ x)) := by
  refine Ct.of (by decide +kernel) (Nat.le_of_ble_eq_true rfl) ?_
  intro p e s m args below meth c ls E hnm hP hl
  have i1 := hI.mn12
  have i2 := hI.nx240
  have hb0 := hP.1
  have hb2 := hP.2.2.1
  have hb3 := hP.2.2.2.1
  have hb4 := hP.2.2.2.2.1
  obtain ⟨hx1, hx2⟩ := hx
  have hl : lv_has ls 3 [(0, .ref (b)), (1, .int (iI (x)))] := hl
  have hL : Lk G [] := Lk.nil
  generalize ([] : List Loc) = locs at hL ⊢
  refine lv_iload_n E.1 E.2.1 dX1_removeEntry_0 rfl (lv_at hl 1 rfl) ?_
  refine kSNRE (As := [.int (iI (x))]) E cw_X1_68 (c_X5_isName G l (x) (by unfold okI; omega)) trivial hL hl.1 rfl rfl (Nat.le_of_ble_eq_true rfl) ⟨Nat.le_of_ble_eq_true rfl, Nat.le_of_ble_eq_true rfl⟩ ⟨rfl, rfl⟩ ⟨Nat.le_of_ble_eq_true rfl, Nat.le_of_ble_eq_true rfl⟩ dX1_removeEntry_1 (fun locs hL => ?_)
  refine r_bif_ne (tgt := 9) E dX1_removeEntry_4 (by decide)  (fun c4 => ?_) (fun c4 => ?_)
  · have c4 := of_decide_eq_true c4
    obtain ⟨k, rfl⟩ : ∃ k : Nat, x = (k : Int) := ⟨x.toNat, by omega⟩
    refine lv_aload_n E.1 E.2.1 dX1_removeEntry_9 rfl (lv_at hl 0 rfl) ?_
    refine kVQE (As := []) E cw_X1_43 (c_X1_openSession G l b fl σ hI) hP.1 ⟨_, _, rfl⟩ hP hL hl.1 rfl rfl (Nat.le_of_ble_eq_true rfl) ⟨Nat.le_of_ble_eq_true rfl, Nat.le_of_ble_eq_true rfl⟩ ⟨rfl, rfl⟩ ⟨Nat.le_of_ble_eq_true rfl, Nat.le_of_ble_eq_true rfl⟩ dX1_removeEntry_10 (fun locs hL => ?_)
    rcases hop : opn σ with _ | n
    · refine lv_astore_nN (lv' := [(2, .null), (0, .ref (b)), (1, .int (iI ((k : Int))))]) E.1 E.2.1 dX1_removeEntry_13 rfl hl (by decide) rfl (fun ls hl => ?_)
      refine lv_aload_nN E.1 E.2.1 dX1_removeEntry_14 rfl (lv_at hl 0 rfl) ?_
      refine lv_ifnullN (tgt := 26) E.1 E.2.1 dX1_removeEntry_15 (by decide) ?_
      refine r_bipush E dX1_removeEntry_26 (by decide) ?_
      refine e_iret (rm := ({ frames := 2, cells := 0, slots := 0, locals := 42 } : Room)) (v := iI ((-5))) E hL dX1_removeEntry_28 ?_
      refine WD_i (w := -5) (τ := σ) ?_ rfl hP FrS.rf
      unfold spRemove
      rw [if_neg (by omega), Int.toNat_natCast, hop]
      all_goals first | rfl | (simp only [← he]; rfl)
    · have hn := (opn_some hop).1
      have hn0 := (opn_some hop).2
      have hrow := hI.row (n := n) (by omega)
      obtain ⟨t_, ho_, hr_, ht_⟩ := hP.live (n := n) (by omega) (by omega)
      refine lv_astore_n (lv' := [(2, .ref (b + 5 + 2 * n)), (0, .ref (b)), (1, .int (iI ((k : Int))))]) E.1 E.2.1 dX1_removeEntry_13 rfl hl (by decide) rfl (fun ls hl => ?_)
      refine lv_aload_n E.1 E.2.1 dX1_removeEntry_14 rfl (lv_at hl 0 rfl) ?_
      refine lv_ifnull E.1 E.2.1 dX1_removeEntry_15 ?_
      have hfr : FrD b n s.heap s.heap := FrD.rf
      refine lv_aload_n E.1 E.2.1 dX1_removeEntry_18 rfl (lv_at hl 0 rfl) ?_
      refine lv_iload_n E.1 E.2.1 dX1_removeEntry_19 rfl (lv_at hl 2 rfl) ?_
      refine kVQE (As := [.int (iI ((k : Int)))]) E cw_X1_93 (c_fileOf_in G l (b + 5 + 2 * n) (k) (encR (se σ n)) t_ (by omega)) ho_ ⟨_, _, rfl⟩ ⟨ho_, hr_⟩ hL hl.1 rfl rfl (Nat.le_of_ble_eq_true rfl) ⟨Nat.le_of_ble_eq_true rfl, Nat.le_of_ble_eq_true rfl⟩ ⟨rfl, rfl⟩ ⟨Nat.le_of_ble_eq_true rfl, Nat.le_of_ble_eq_true rfl⟩ dX1_removeEntry_20 (fun locs hL => ?_)
      rcases htk : t_ (k) with _ | a
      · have he : none = en σ n (k) := by have h9 := (ht_ (k) (by omega)).1; rw [htk] at h9; exact h9
        refine lv_ifnonnullN E.1 E.2.1 dX1_removeEntry_23 ?_
        refine r_bipush E dX1_removeEntry_26 (by decide) ?_
        refine e_iret (rm := ({ frames := 2, cells := 0, slots := 0, locals := 42 } : Room)) (v := iI ((-5))) E hL dX1_removeEntry_28 ?_
        refine WD_i (w := -5) (τ := σ) ?_ rfl hP FrS.rf
        unfold spRemove
        rw [if_neg (by omega), Int.toNat_natCast, hop]
        all_goals first | rfl | (simp only [← he]; rfl)
      · obtain ⟨f, hf⟩ := (ht_ (k) (by omega)).2 a htk
        have he : some f = en σ n (k) := by have h9 := (ht_ (k) (by omega)).1; rw [htk] at h9; rw [← h9]; exact hf.symm
        refine lv_ifnonnull (tgt := 29) E.1 E.2.1 dX1_removeEntry_23 (by decide) ?_
        refine lv_aload_n E.1 E.2.1 dX1_removeEntry_29 rfl (lv_at hl 0 rfl) ?_
        refine lv_iload_n E.1 E.2.1 dX1_removeEntry_30 rfl (lv_at hl 2 rfl) ?_
        refine lv_null E.1 E.2.1 dX1_removeEntry_31 ?_
        refine kVWV (As := [.int (iI ((k : Int))), .null]) E cw_X1_83 (c_X3_putFile G l (b + 5 + 2 * n) ((k : Int)) none (encR (se σ n)) t_ (by omega) (by omega)) ho_ ⟨_, _, rfl⟩ ⟨⟨ho_, hr_⟩, (fun _ h => by cases h)⟩ hL hl.1 rfl rfl (Nat.le_of_ble_eq_true rfl) ⟨Nat.le_of_ble_eq_true rfl, Nat.le_of_ble_eq_true rfl⟩ ⟨Nat.le_of_ble_eq_true rfl, Nat.le_of_ble_eq_true rfl⟩ dX1_removeEntry_32 (fun H1 locs hL hw_ => ?_)
        obtain ⟨⟨ho1, hr1⟩, hq⟩ := hw_
        rw [Int.toNat_natCast] at hr1
        have hb0 := hb0.kept (hq.2 _ (by omega))
        have hb2 := hb2.kept (hq.2 _ (by omega))
        have hb3 := hb3.kept (hq.2 _ (by omega))
        have hb4 := hb4.kept (hq.2 _ (by omega))
        have hfr := hfr.ses hq (by omega) (by omega)
        have ho_ : Ob G (b + 5 + 2 * n) 3 [.ref (b + 5 + 2 * n + 1), .int (iI ((se σ n 0 : Int))), .int (iI ((se σ n 1 : Int))), .int (iI (((se σ n 1 : Int) + (se σ n 2 : Int)))), .int (iI ((se σ n 3 : Int))), .int (iI ((se σ n 4 : Int))), .int (iI ((se σ n 5 : Int)))] H1 := ho1
        have hr_ := hr1
        refine lv_aload_n E.1 E.2.1 dX1_removeEntry_35 rfl (lv_at hl 0 rfl) ?_
        refine kVRE (As := []) E cw_X1_97 (c_X3_countEntries G l (b + 5 + 2 * n) (encR (se σ n)) (va_up t_ k none)) ho_ ⟨_, _, rfl⟩ ⟨ho_, hr_⟩ hL hl.1 rfl rfl (Nat.le_of_ble_eq_true rfl) ⟨Nat.le_of_ble_eq_true rfl, Nat.le_of_ble_eq_true rfl⟩ ⟨rfl, rfl⟩ ⟨Nat.le_of_ble_eq_true rfl, Nat.le_of_ble_eq_true rfl⟩ dX1_removeEntry_36 (fun locs hL => ?_)
        refine e_iret (rm := ({ frames := 2, cells := 0, slots := 0, locals := 42 } : Room)) (v := iI ((cntB (fun j => (va_up t_ k none j).isSome) 20 : Int))) E hL dX1_removeEntry_39 ?_
        have hsp : spRemove σ k = (((entriesN (mkS (nx σ) (mn σ) (s0 σ) (s1 σ) (dm σ) (vr σ) (se σ) (va_up (en σ) n (va_up (en σ n) k none))) n : Nat) : Int), mkS (nx σ) (mn σ) (s0 σ) (s1 σ) (dm σ) (vr σ) (se σ) (va_up (en σ) n (va_up (en σ n) k none))) := by
          unfold spRemove
          rw [if_neg (by omega), Int.toNat_natCast, hop]
          simp only []
          rw [if_pos (by rw [← he]; rfl)]
        have hto : TabOk fl (va_up t_ k none) (va_up (en σ) n (va_up (en σ n) k none) n) := by
          rw [up_s]
          exact ht_.up rfl (fun a h => by cases h)
        refine WD_i hsp (congrArg (fun z : Nat => (z : Int)) (cntB_congr (fun j hj => hto.some hj))) ?_ (hfr.S (by omega))
        refine hP.re (n := n) hb0 rfl rfl rfl hb2 hb3 hb4 (by omega) ?_ hfr (fun j hj hj2 => ⟨hj2, rfl, up_n hj⟩)
        exact SesL.mk2 ho_ hr_ hto rfl rfl rfl rfl rfl rfl
  · have c4 := of_decide_eq_false c4
    refine r_const E dX1_removeEntry_7 ?_
    refine e_iret (rm := ({ frames := 2, cells := 0, slots := 0, locals := 42 } : Room)) (v := iI ((-1))) E hL dX1_removeEntry_8 ?_
    exact WD_i (by unfold spRemove; rw [if_pos (by omega)]) rfl hP FrS.rf

set_option maxHeartbeats 4000000 in
set_option maxRecDepth 100000 in
theorem c_X1_keepEntry (G : GG) (l : Launch) (b fb : Nat) (fl : Nat → Option Fil) (σ : St) (hI : Inv σ) (x y : Int) (hx : okI x) (hy : okI y) (hga : G.2.2 ≤ b) (hfb : b + 29 ≤ fb) : Ct G l yX1_keepEntry cX1_keepEntry 6 (some .int) ({ frames := 3, cells := 0, slots := 0, locals := 71 } : Room) [.ref (b), .int (iI (x)), .int (iI (y))] (fun H => DiscAt G b fl σ H ∧ FlAt G fb fl H) (WD G b fl (spKeep σ x y)) := by
  refine Ct.of (by decide +kernel) (Nat.le_of_ble_eq_true rfl) ?_
  intro p e s m args below meth c ls E hnm hP hl
  have i1 := hI.mn12
  have i2 := hI.nx240
  obtain ⟨hP, hFl⟩ := hP
  have hb0 := hP.1
  have hb2 := hP.2.2.1
  have hb3 := hP.2.2.2.1
  have hb4 := hP.2.2.2.2.1
  obtain ⟨hx1, hx2⟩ := hx
  obtain ⟨hy1, hy2⟩ := hy
  have hl : lv_has ls 6 [(0, .ref (b)), (1, .int (iI (x))), (2, .int (iI (y)))] := hl
  have hL : Lk G [] := Lk.nil
  generalize ([] : List Loc) = locs at hL ⊢
  refine lv_aload_n E.1 E.2.1 dX1_keepEntry_0 rfl (lv_at hl 0 rfl) ?_
  refine lv_iload_n E.1 E.2.1 dX1_keepEntry_1 rfl (lv_at hl 2 rfl) ?_
  by_cases h0 : 0 ≤ y ∧ y < mn σ
  · obtain ⟨j, rfl⟩ : ∃ j : Nat, y = (j : Int) := ⟨y.toNat, by omega⟩
    have hrowj := hI.row (n := j) (by omega)
    refine kVQE (As := [.int (iI ((j : Int)))]) E cw_X1_54 (c_sessionAt_s G l b fl σ hI j (by omega)) hP.1 ⟨_, _, rfl⟩ hP hL hl.1 rfl rfl (Nat.le_of_ble_eq_true rfl) ⟨Nat.le_of_ble_eq_true rfl, Nat.le_of_ble_eq_true rfl⟩ ⟨rfl, rfl⟩ ⟨Nat.le_of_ble_eq_true rfl, Nat.le_of_ble_eq_true rfl⟩ dX1_keepEntry_2 (fun locs hL => ?_)
    refine lv_astore_n (lv' := [(3, .ref (b + 5 + 2 * j)), (0, .ref (b)), (1, .int (iI (x))), (2, .int (iI ((j : Int))))]) E.1 E.2.1 dX1_keepEntry_5 rfl hl (by decide) rfl (fun ls hl => ?_)
    refine lv_iload_n E.1 E.2.1 dX1_keepEntry_6 rfl (lv_at hl 2 rfl) ?_
    refine kSNRE (As := [.int (iI (x))]) E cw_X1_68 (c_X5_isName G l (x) (by unfold okI; omega)) trivial hL hl.1 rfl rfl (Nat.le_of_ble_eq_true rfl) ⟨Nat.le_of_ble_eq_true rfl, Nat.le_of_ble_eq_true rfl⟩ ⟨rfl, rfl⟩ ⟨Nat.le_of_ble_eq_true rfl, Nat.le_of_ble_eq_true rfl⟩ dX1_keepEntry_7 (fun locs hL => ?_)
    refine r_bif_eq (tgt := 17) E dX1_keepEntry_10 (by decide)  (fun c10 => ?_) (fun c10 => ?_)
    · have c10 := of_decide_eq_false c10
      refine r_const E dX1_keepEntry_17 ?_
      refine e_iret (rm := ({ frames := 3, cells := 0, slots := 0, locals := 71 } : Room)) (v := iI ((-1))) E hL dX1_keepEntry_18 ?_
      exact WD_i (by unfold spKeep; rw [if_pos (by omega)]) rfl hP FrS.rf
    · have c10 := of_decide_eq_true c10
      obtain ⟨k, rfl⟩ : ∃ k : Nat, x = (k : Int) := ⟨x.toNat, by omega⟩
      refine lv_aload_n E.1 E.2.1 dX1_keepEntry_13 rfl (lv_at hl 0 rfl) ?_
      refine lv_ifnonnull (tgt := 19) E.1 E.2.1 dX1_keepEntry_14 (by decide) ?_
      refine lv_aload_n E.1 E.2.1 dX1_keepEntry_19 rfl (lv_at hl 1 rfl) ?_
      refine kVQE (As := []) E cw_X1_43 (c_X1_openSession G l b fl σ hI) hP.1 ⟨_, _, rfl⟩ hP hL hl.1 rfl rfl (Nat.le_of_ble_eq_true rfl) ⟨Nat.le_of_ble_eq_true rfl, Nat.le_of_ble_eq_true rfl⟩ ⟨rfl, rfl⟩ ⟨Nat.le_of_ble_eq_true rfl, Nat.le_of_ble_eq_true rfl⟩ dX1_keepEntry_20 (fun locs hL => ?_)
      rcases hop : opn σ with _ | n
      · refine lv_astoreN (lv' := [(4, .null), (3, .ref (b + 5 + 2 * j)), (0, .ref (b)), (1, .int (iI ((k : Int)))), (2, .int (iI ((j : Int))))]) E.1 E.2.1 dX1_keepEntry_23 hl (by decide) rfl (fun ls hl => ?_)
        refine lv_aloadN E.1 E.2.1 dX1_keepEntry_25 (lv_at hl 0 rfl) ?_
        refine lv_ifnullN (tgt := 39) E.1 E.2.1 dX1_keepEntry_27 (by decide) ?_
        refine r_bipush E dX1_keepEntry_39 (by decide) ?_
        refine e_iret (rm := ({ frames := 3, cells := 0, slots := 0, locals := 71 } : Room)) (v := iI ((-5))) E hL dX1_keepEntry_41 ?_
        refine WD_i (w := -5) (τ := σ) ?_ rfl hP FrS.rf
        unfold spKeep
        rw [if_neg (by omega), Int.toNat_natCast, Int.toNat_natCast, hop]
        all_goals first | rfl | (simp only []; rw [if_neg (by rw [c36]; decide)]; done) | (simp only []; rw [if_pos c36]; simp only [← he])
      · have hn := (opn_some hop).1
        have hn0 := (opn_some hop).2
        have hrow := hI.row (n := n) (by omega)
        refine lv_astore (lv' := [(4, .ref (b + 5 + 2 * n)), (3, .ref (b + 5 + 2 * j)), (0, .ref (b)), (1, .int (iI ((k : Int)))), (2, .int (iI ((j : Int))))]) E.1 E.2.1 dX1_keepEntry_23 hl (by decide) rfl (fun ls hl => ?_)
        refine lv_aload E.1 E.2.1 dX1_keepEntry_25 (lv_at hl 0 rfl) ?_
        refine lv_ifnull E.1 E.2.1 dX1_keepEntry_27 ?_
        refine lv_aload_n E.1 E.2.1 dX1_keepEntry_30 rfl (lv_at hl 2 rfl) ?_
        refine lv_aload_n E.1 E.2.1 dX1_keepEntry_31 rfl (lv_at hl 1 rfl) ?_
        refine r_const E dX1_keepEntry_32 ?_
        refine kVRE (As := [.ref (b + 5 + 2 * j), .int (iI ((-1)))]) E cw_X1_100 (c_X1_isReadableIf G l b fl σ hI (j) ((-1)) (by unfold okI; omega) (by omega)) hP.1 ⟨_, _, rfl⟩ hP hL hl.1 rfl rfl (Nat.le_of_ble_eq_true rfl) ⟨Nat.le_of_ble_eq_true rfl, Nat.le_of_ble_eq_true rfl⟩ ⟨rfl, rfl⟩ ⟨Nat.le_of_ble_eq_true rfl, Nat.le_of_ble_eq_true rfl⟩ dX1_keepEntry_33 (fun locs hL => ?_)
        rw [dmH_m1 (σ := σ) (h := -1) (by decide)]
        refine r_bif_ne (tgt := 42) E dX1_keepEntry_36 (by decide)  (fun c36 => ?_) (fun c36 => ?_)
        · obtain ⟨t_, ho_, hr_, ht_⟩ := hP.live (n := j) (by omega) (by omega)
          refine lv_aload_n E.1 E.2.1 dX1_keepEntry_42 rfl (lv_at hl 1 rfl) ?_
          refine lv_iload_n E.1 E.2.1 dX1_keepEntry_43 rfl (lv_at hl 3 rfl) ?_
          refine kVQE (As := [.int (iI ((k : Int)))]) E cw_X1_93 (c_fileOf_in G l (b + 5 + 2 * j) (k) (encR (se σ j)) t_ (by omega)) ho_ ⟨_, _, rfl⟩ ⟨ho_, hr_⟩ hL hl.1 rfl rfl (Nat.le_of_ble_eq_true rfl) ⟨Nat.le_of_ble_eq_true rfl, Nat.le_of_ble_eq_true rfl⟩ ⟨rfl, rfl⟩ ⟨Nat.le_of_ble_eq_true rfl, Nat.le_of_ble_eq_true rfl⟩ dX1_keepEntry_44 (fun locs hL => ?_)
          rcases htk : t_ (k) with _ | a
          · have he : none = en σ j (k) := by have h9 := (ht_ (k) (by omega)).1; rw [htk] at h9; exact h9
            refine lv_astoreN (lv' := [(5, .null), (4, .ref (b + 5 + 2 * n)), (3, .ref (b + 5 + 2 * j)), (0, .ref (b)), (1, .int (iI ((k : Int)))), (2, .int (iI ((j : Int))))]) E.1 E.2.1 dX1_keepEntry_47 hl (by decide) rfl (fun ls hl => ?_)
            refine lv_aloadN E.1 E.2.1 dX1_keepEntry_49 (lv_at hl 0 rfl) ?_
            refine lv_ifnonnullN E.1 E.2.1 dX1_keepEntry_51 ?_
            refine r_bipush E dX1_keepEntry_54 (by decide) ?_
            refine e_iret (rm := ({ frames := 3, cells := 0, slots := 0, locals := 71 } : Room)) (v := iI ((-5))) E hL dX1_keepEntry_56 ?_
            refine WD_i (w := -5) (τ := σ) ?_ rfl hP FrS.rf
            unfold spKeep
            rw [if_neg (by omega), Int.toNat_natCast, Int.toNat_natCast, hop]
            all_goals first | rfl | (simp only []; rw [if_neg (by rw [c36]; decide)]; done) | (simp only []; rw [if_pos c36]; simp only [← he])
          · obtain ⟨f, hf⟩ := (ht_ (k) (by omega)).2 a htk
            have he : some f = en σ j (k) := by have h9 := (ht_ (k) (by omega)).1; rw [htk] at h9; rw [← h9]; exact hf.symm
            refine lv_astore (lv' := [(5, .ref (a)), (4, .ref (b + 5 + 2 * n)), (3, .ref (b + 5 + 2 * j)), (0, .ref (b)), (1, .int (iI ((k : Int)))), (2, .int (iI ((j : Int))))]) E.1 E.2.1 dX1_keepEntry_47 hl (by decide) rfl (fun ls hl => ?_)
            refine lv_aload E.1 E.2.1 dX1_keepEntry_49 (lv_at hl 0 rfl) ?_
            refine lv_ifnonnull (tgt := 57) E.1 E.2.1 dX1_keepEntry_51 (by decide) ?_
            have hfo := hFl.2 a f hf
            have hof := hfo.2
            have hfr : FrD b n s.heap s.heap := FrD.rf
            obtain ⟨t_, ho_, hr_, ht_⟩ := hP.live (n := n) (by omega) (by omega)
            refine lv_aload E.1 E.2.1 dX1_keepEntry_57 (lv_at hl 1 rfl) ?_
            refine lv_iload_n E.1 E.2.1 dX1_keepEntry_59 rfl (lv_at hl 4 rfl) ?_
            refine lv_aload E.1 E.2.1 dX1_keepEntry_60 (lv_at hl 0 rfl) ?_
            refine kVWV (As := [.int (iI ((k : Int))), .ref (a)]) E cw_X1_83 (c_X3_putFile G l (b + 5 + 2 * n) ((k : Int)) (some (a)) (encR (se σ n)) t_ (by omega) (by omega)) ho_ ⟨_, _, rfl⟩ ⟨⟨ho_, hr_⟩, (fun _ h => by cases h; exact ⟨_, hof⟩)⟩ hL hl.1 rfl rfl (Nat.le_of_ble_eq_true rfl) ⟨Nat.le_of_ble_eq_true rfl, Nat.le_of_ble_eq_true rfl⟩ ⟨Nat.le_of_ble_eq_true rfl, Nat.le_of_ble_eq_true rfl⟩ dX1_keepEntry_62 (fun H1 locs hL hw_ => ?_)
            obtain ⟨⟨ho1, hr1⟩, hq⟩ := hw_
            rw [Int.toNat_natCast] at hr1
            have hb0 := hb0.kept (hq.2 _ (by omega))
            have hb2 := hb2.kept (hq.2 _ (by omega))
            have hb3 := hb3.kept (hq.2 _ (by omega))
            have hb4 := hb4.kept (hq.2 _ (by omega))
            have hof := hof.kept (hq.2 _ (by omega))
            have hfr := hfr.ses hq (by omega) (by omega)
            have ho_ : Ob G (b + 5 + 2 * n) 3 [.ref (b + 5 + 2 * n + 1), .int (iI ((se σ n 0 : Int))), .int (iI ((se σ n 1 : Int))), .int (iI (((se σ n 1 : Int) + (se σ n 2 : Int)))), .int (iI ((se σ n 3 : Int))), .int (iI ((se σ n 4 : Int))), .int (iI ((se σ n 5 : Int)))] H1 := ho1
            have hr_ := hr1
            refine lv_aload E.1 E.2.1 dX1_keepEntry_65 (lv_at hl 0 rfl) ?_
            refine m_get E hof fw_X1_90 rfl dX1_keepEntry_67 ?_
            refine e_iret (rm := ({ frames := 3, cells := 0, slots := 0, locals := 71 } : Room)) (v := iI ((f.1 : Int))) E hL dX1_keepEntry_70 ?_
            have hsp : spKeep σ k j = ((f.1 : Int), mkS (nx σ) (mn σ) (s0 σ) (s1 σ) (dm σ) (vr σ) (se σ) (va_up (en σ) n (va_up (en σ n) k (some f)))) := by
              unfold spKeep
              rw [if_neg (by omega), Int.toNat_natCast, Int.toNat_natCast, hop]
              simp only []
              rw [if_pos c36]
              simp only [← he]
            have hto : TabOk fl (va_up t_ k (some a)) (va_up (en σ) n (va_up (en σ n) k (some f)) n) := by
              rw [up_s]
              exact ht_.up hf (fun a2 h => by cases h; exact ⟨_, hf⟩)
            refine WD_i hsp rfl ?_ (hfr.S (by omega))
            refine hP.re (n := n) hb0 rfl rfl rfl hb2 hb3 hb4 (by omega) ?_ hfr (fun j hj hj2 => ⟨hj2, rfl, up_n hj⟩)
            exact SesL.mk2 ho_ hr_ hto rfl rfl rfl rfl rfl rfl
        · refine r_bipush E dX1_keepEntry_39 (by decide) ?_
          refine e_iret (rm := ({ frames := 3, cells := 0, slots := 0, locals := 71 } : Room)) (v := iI ((-5))) E hL dX1_keepEntry_41 ?_
          refine WD_i (w := -5) (τ := σ) ?_ rfl hP FrS.rf
          unfold spKeep
          rw [if_neg (by omega), Int.toNat_natCast, Int.toNat_natCast, hop]
          all_goals first | rfl | (simp only []; rw [if_neg (by rw [c36]; decide)]; done) | (simp only []; rw [if_pos c36]; simp only [← he])
  · refine kVQE (As := [.int (iI (y))]) E cw_X1_54 (c_sessionAt_n G l b fl σ hI (y) (by unfold okI; omega) (by omega)) hP.1 ⟨_, _, rfl⟩ hP hL hl.1 rfl rfl (Nat.le_of_ble_eq_true rfl) ⟨Nat.le_of_ble_eq_true rfl, Nat.le_of_ble_eq_true rfl⟩ ⟨rfl, rfl⟩ ⟨Nat.le_of_ble_eq_true rfl, Nat.le_of_ble_eq_true rfl⟩ dX1_keepEntry_2 (fun locs hL => ?_)
    refine lv_astore_nN (lv' := [(3, .null), (0, .ref (b)), (1, .int (iI (x))), (2, .int (iI (y)))]) E.1 E.2.1 dX1_keepEntry_5 rfl hl (by decide) rfl (fun ls hl => ?_)
    refine lv_iload_n E.1 E.2.1 dX1_keepEntry_6 rfl (lv_at hl 2 rfl) ?_
    refine kSNRE (As := [.int (iI (x))]) E cw_X1_68 (c_X5_isName G l (x) (by unfold okI; omega)) trivial hL hl.1 rfl rfl (Nat.le_of_ble_eq_true rfl) ⟨Nat.le_of_ble_eq_true rfl, Nat.le_of_ble_eq_true rfl⟩ ⟨rfl, rfl⟩ ⟨Nat.le_of_ble_eq_true rfl, Nat.le_of_ble_eq_true rfl⟩ dX1_keepEntry_7 (fun locs hL => ?_)
    refine r_bif_eq (tgt := 17) E dX1_keepEntry_10 (by decide)  (fun c10 => ?_) (fun c10 => ?_)
    · have c10 := of_decide_eq_false c10
      refine r_const E dX1_keepEntry_17 ?_
      refine e_iret (rm := ({ frames := 3, cells := 0, slots := 0, locals := 71 } : Room)) (v := iI ((-1))) E hL dX1_keepEntry_18 ?_
      exact WD_i (by unfold spKeep; rw [if_pos (by omega)]) rfl hP FrS.rf
    · have c10 := of_decide_eq_true c10
      obtain ⟨k, rfl⟩ : ∃ k : Nat, x = (k : Int) := ⟨x.toNat, by omega⟩
      refine lv_aload_nN E.1 E.2.1 dX1_keepEntry_13 rfl (lv_at hl 0 rfl) ?_
      refine lv_ifnonnullN E.1 E.2.1 dX1_keepEntry_14 ?_
      refine r_const E dX1_keepEntry_17 ?_
      refine e_iret (rm := ({ frames := 3, cells := 0, slots := 0, locals := 71 } : Room)) (v := iI ((-1))) E hL dX1_keepEntry_18 ?_
      exact WD_i (by unfold spKeep; rw [if_pos (by omega)]) rfl hP FrS.rf
