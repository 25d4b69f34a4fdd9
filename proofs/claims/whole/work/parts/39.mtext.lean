/-- the sign at a place, 0 behind the end -/
def h0 (tx : Nat → Int) (len p : Nat) : Int := if p < len then tx p else 0
theorem h0_b {tx : Nat → Int} {len : Nat} (h : TxOk tx len) (p : Nat) : (hr tx len p = h0 tx len p ∧ 32 ≤ h0 tx len p ∧ h0 tx len p ≤ 126 ∧ p < len) ∨ (hr tx len p = -6 ∧ h0 tx len p = 0 ∧ len ≤ p) := by
  unfold hr h0
  by_cases hp : p < len
  · rw [if_pos hp, if_pos hp]
    exact Or.inl ⟨rfl, (h.2 p hp).1, (h.2 p hp).2, hp⟩
  · rw [if_neg hp, if_neg hp]
    exact Or.inr ⟨rfl, rfl, by omega⟩
/-- what the reference reads as a number -/
def nmV (tx : Nat → Int) (len p lo mo : Nat) : Int := match (pNum tx len p lo mo).2 with
  | none => h0 tx len p - 48
  | some v => v
def TM (G : GG) (g : Nat) (v3 : Int32) (tx : Nat → Int) (len p : Nat) (fo le fi sc : Int) (H : Heap) : Prop := Ob G g 6 [.ref (g + 1), .ref (g + 2), .ref (g + 3), .int v3, .ref (g + 4), .int (iI (len : Int)), .int (iI (p : Int)), .int (iI fo), .int (iI le), .int (iI fi), .int (iI sc)] H ∧ Ia G (g + 4) 0 80 (fun k => iI (tx k)) H
set_option maxHeartbeats 4000000 in
set_option maxRecDepth 100000 in
theorem c_X6_here (G : GG) (l : Launch) (g : Nat) (v3 : Int32) (tx : Nat → Int) (len p1 : Nat) (fo le fi sc : Int) (hT : TxOk tx len) (hp : p1 ≤ 100) : Ct G l yX6_here cX6_here 1 (some .int) ({ frames := 0, cells := 0, slots := 0, locals := 0 } : Room) [.ref (g)] (fun H => TM G g v3 tx len p1 fo le fi sc H) (RE (iI (h0 tx len p1))) := by
  refine Ct.of (by decide +kernel) (Nat.le_of_ble_eq_true rfl) ?_
  intro p e s m args below meth c ls E hnm hP hl
  obtain ⟨ho, htx⟩ := hP
  have hl80 := hT.1
  have hl : lv_has ls 1 [(0, .ref (g))] := hl
  have hL : Lk G [] := Lk.nil
  generalize ([] : List Loc) = locs at hL ⊢
  refine lv_aload_n E.1 E.2.1 dX6_here_0 rfl (lv_at hl 0 rfl) ?_
  refine m_get E ho fw_X6_128 rfl dX6_here_1 ?_
  refine lv_aload_n E.1 E.2.1 dX6_here_4 rfl (lv_at hl 0 rfl) ?_
  refine m_get E ho fw_X6_125 rfl dX6_here_5 ?_
  refine r_icmp_ge (tgt := 23) E dX6_here_8 (by decide) (by omega) (by omega) (fun c8 => ?_) (fun c8 => ?_)
  · refine r_const E dX6_here_23 ?_
    refine e_iret (rm := ({ frames := 0, cells := 0, slots := 0, locals := 0 } : Room)) (v := iI (0)) E hL dX6_here_24 ?_
    exact RE_i (by unfold h0; rw [if_neg (by omega)])
  · refine lv_aload_n E.1 E.2.1 dX6_here_11 rfl (lv_at hl 0 rfl) ?_
    refine m_get E ho fw_X6_19 rfl dX6_here_12 ?_
    refine lv_aload_n E.1 E.2.1 dX6_here_15 rfl (lv_at hl 0 rfl) ?_
    refine m_get E ho fw_X6_128 rfl dX6_here_16 ?_
    refine r_iald E htx (p1) rfl (by omega) (by decide) dX6_here_19 ?_
    refine lv_goto (tgt := 24) E.1 E.2.1 dX6_here_20 (by decide) ?_
    refine e_iret (rm := ({ frames := 0, cells := 0, slots := 0, locals := 0 } : Room)) (v := iI (tx (p1))) E hL dX6_here_24 ?_
    exact RE_i (by unfold h0; rw [if_pos (by omega)])

set_option maxHeartbeats 4000000 in
set_option maxRecDepth 100000 in
theorem c_X6_takes (G : GG) (l : Launch) (g : Nat) (v3 : Int32) (tx : Nat → Int) (len p1 : Nat) (fo le fi sc : Int) (hT : TxOk tx len) (t : Int) (hfo : fo = 0 ∨ fo = 1) (ht : t = 0 ∨ t = 1) (hp : p1 ≤ 100) (hga : G.2.2 ≤ g) : Ct G l yX6_takes cX6_takes 2 none ({ frames := 0, cells := 0, slots := 0, locals := 0 } : Room) [.ref (g), .int (iI (t))] (fun H => TM G g v3 tx len p1 fo le fi sc H) (WV (fun H H1 => TM G g v3 tx len (if fo = 1 ∧ t = 1 then p1 + 1 else p1) (if fo = 1 ∧ t = 1 then 1 else 0) le fi sc H1 ∧ FrS g (g + 1) H H1)) := by
  refine Ct.of (by decide +kernel) (Nat.le_of_ble_eq_true rfl) ?_
  intro p e s m args below meth c ls E hnm hP hl
  obtain ⟨ho, htx⟩ := hP
  have hl80 := hT.1
  have hS : FrS g (g + 1) s.heap s.heap := FrS.rf
  have hl : lv_has ls 2 [(0, .ref (g)), (1, .int (iI (t)))] := hl
  have hL : Lk G [] := Lk.nil
  generalize ([] : List Loc) = locs at hL ⊢
  refine lv_aload_n E.1 E.2.1 dX6_takes_0 rfl (lv_at hl 0 rfl) ?_
  refine lv_aload_n E.1 E.2.1 dX6_takes_1 rfl (lv_at hl 0 rfl) ?_
  refine m_get E ho fw_X6_131 rfl dX6_takes_2 ?_
  refine r_if_eq (tgt := 16) E dX6_takes_5 (by decide) (by omega) (fun c5 => ?_) (fun c5 => ?_)
  · refine r_const E dX6_takes_16 ?_
    refine m_put E ho fw_X6_131 fp_X6_7 rfl rfl (Nat.le_of_ble_eq_true rfl) hL (by omega) dX6_takes_17 (fun H1 locs hL hO_ hF_ => ?_)
    have htx := htx.kept (hF_.2 _ (by omega))
    have hS := hS.trans (FrS.of1 (lo := g) (hi := g + 1) hF_ (by omega) (by omega))
    have ho : Ob G (g) 6 [.ref (g + 1), .ref (g + 2), .ref (g + 3), .int (v3), .ref (g + 4), .int (iI ((len : Int))), .int (iI ((p1 : Int))), .int (iI (0)), .int (iI (le)), .int (iI (fi)), .int (iI (sc))] H1 := hO_
    clear hO_
    refine lv_aload_n E.1 E.2.1 dX6_takes_20 rfl (lv_at hl 0 rfl) ?_
    refine lv_dup E.1 E.2.1 dX6_takes_21 rfl ?_
    refine m_get E ho fw_X6_128 rfl dX6_takes_22 ?_
    refine lv_aload_n E.1 E.2.1 dX6_takes_25 rfl (lv_at hl 0 rfl) ?_
    refine m_get E ho fw_X6_131 rfl dX6_takes_26 ?_
    refine r_if_eq (tgt := 36) E dX6_takes_29 (by decide) (by omega) (fun c29 => ?_) (fun c29 => absurd c29 (by omega))
    refine r_const E dX6_takes_36 ?_
    refine r_add E dX6_takes_37 ?_
    rw [show (((p1 : Int) + 0 : Int)) = (p1 : Int) by omega]
    refine m_put E ho fw_X6_128 fp_X6_6 rfl rfl (Nat.le_of_ble_eq_true rfl) hL (by omega) dX6_takes_38 (fun H2 locs hL hO_ hF_ => ?_)
    have htx := htx.kept (hF_.2 _ (by omega))
    have hS := hS.trans (FrS.of1 (lo := g) (hi := g + 1) hF_ (by omega) (by omega))
    have ho : Ob G (g) 6 [.ref (g + 1), .ref (g + 2), .ref (g + 3), .int (v3), .ref (g + 4), .int (iI ((len : Int))), .int (iI ((p1 : Int))), .int (iI (0)), .int (iI (le)), .int (iI (fi)), .int (iI (sc))] H2 := hO_
    clear hO_
    refine e_vret (rm := ({ frames := 0, cells := 0, slots := 0, locals := 0 } : Room)) E hL dX6_takes_41 ⟨rfl, ?_⟩
    rw [if_neg (by omega), if_neg (by omega)]
    exact ⟨⟨ho, htx⟩, hS⟩
  · refine lv_iload_n E.1 E.2.1 dX6_takes_8 rfl (lv_at hl 1 rfl) ?_
    refine r_if_eq (tgt := 16) E dX6_takes_9 (by decide) (by omega) (fun c9 => ?_) (fun c9 => ?_)
    · refine r_const E dX6_takes_16 ?_
      refine m_put E ho fw_X6_131 fp_X6_7 rfl rfl (Nat.le_of_ble_eq_true rfl) hL (by omega) dX6_takes_17 (fun H1 locs hL hO_ hF_ => ?_)
      have htx := htx.kept (hF_.2 _ (by omega))
      have hS := hS.trans (FrS.of1 (lo := g) (hi := g + 1) hF_ (by omega) (by omega))
      have ho : Ob G (g) 6 [.ref (g + 1), .ref (g + 2), .ref (g + 3), .int (v3), .ref (g + 4), .int (iI ((len : Int))), .int (iI ((p1 : Int))), .int (iI (0)), .int (iI (le)), .int (iI (fi)), .int (iI (sc))] H1 := hO_
      clear hO_
      refine lv_aload_n E.1 E.2.1 dX6_takes_20 rfl (lv_at hl 0 rfl) ?_
      refine lv_dup E.1 E.2.1 dX6_takes_21 rfl ?_
      refine m_get E ho fw_X6_128 rfl dX6_takes_22 ?_
      refine lv_aload_n E.1 E.2.1 dX6_takes_25 rfl (lv_at hl 0 rfl) ?_
      refine m_get E ho fw_X6_131 rfl dX6_takes_26 ?_
      refine r_if_eq (tgt := 36) E dX6_takes_29 (by decide) (by omega) (fun c29 => ?_) (fun c29 => absurd c29 (by omega))
      refine r_const E dX6_takes_36 ?_
      refine r_add E dX6_takes_37 ?_
      rw [show (((p1 : Int) + 0 : Int)) = (p1 : Int) by omega]
      refine m_put E ho fw_X6_128 fp_X6_6 rfl rfl (Nat.le_of_ble_eq_true rfl) hL (by omega) dX6_takes_38 (fun H2 locs hL hO_ hF_ => ?_)
      have htx := htx.kept (hF_.2 _ (by omega))
      have hS := hS.trans (FrS.of1 (lo := g) (hi := g + 1) hF_ (by omega) (by omega))
      have ho : Ob G (g) 6 [.ref (g + 1), .ref (g + 2), .ref (g + 3), .int (v3), .ref (g + 4), .int (iI ((len : Int))), .int (iI ((p1 : Int))), .int (iI (0)), .int (iI (le)), .int (iI (fi)), .int (iI (sc))] H2 := hO_
      clear hO_
      refine e_vret (rm := ({ frames := 0, cells := 0, slots := 0, locals := 0 } : Room)) E hL dX6_takes_41 ⟨rfl, ?_⟩
      rw [if_neg (by omega), if_neg (by omega)]
      exact ⟨⟨ho, htx⟩, hS⟩
    · refine r_const E dX6_takes_12 ?_
      refine lv_goto (tgt := 17) E.1 E.2.1 dX6_takes_13 (by decide) ?_
      refine m_put E ho fw_X6_131 fp_X6_7 rfl rfl (Nat.le_of_ble_eq_true rfl) hL (by omega) dX6_takes_17 (fun H1 locs hL hO_ hF_ => ?_)
      have htx := htx.kept (hF_.2 _ (by omega))
      have hS := hS.trans (FrS.of1 (lo := g) (hi := g + 1) hF_ (by omega) (by omega))
      have ho : Ob G (g) 6 [.ref (g + 1), .ref (g + 2), .ref (g + 3), .int (v3), .ref (g + 4), .int (iI ((len : Int))), .int (iI ((p1 : Int))), .int (iI (1)), .int (iI (le)), .int (iI (fi)), .int (iI (sc))] H1 := hO_
      clear hO_
      refine lv_aload_n E.1 E.2.1 dX6_takes_20 rfl (lv_at hl 0 rfl) ?_
      refine lv_dup E.1 E.2.1 dX6_takes_21 rfl ?_
      refine m_get E ho fw_X6_128 rfl dX6_takes_22 ?_
      refine lv_aload_n E.1 E.2.1 dX6_takes_25 rfl (lv_at hl 0 rfl) ?_
      refine m_get E ho fw_X6_131 rfl dX6_takes_26 ?_
      refine r_if_eq (tgt := 36) E dX6_takes_29 (by decide) (by omega) (fun c29 => absurd c29 (by omega)) (fun c29 => ?_)
      refine r_const E dX6_takes_32 ?_
      refine lv_goto (tgt := 37) E.1 E.2.1 dX6_takes_33 (by decide) ?_
      refine r_add E dX6_takes_37 ?_
      rw [show (((p1 : Int) + 1 : Int)) = ((p1 + 1 : Nat) : Int) by omega]
      refine m_put E ho fw_X6_128 fp_X6_6 rfl rfl (Nat.le_of_ble_eq_true rfl) hL (by omega) dX6_takes_38 (fun H2 locs hL hO_ hF_ => ?_)
      have htx := htx.kept (hF_.2 _ (by omega))
      have hS := hS.trans (FrS.of1 (lo := g) (hi := g + 1) hF_ (by omega) (by omega))
      have ho : Ob G (g) 6 [.ref (g + 1), .ref (g + 2), .ref (g + 3), .int (v3), .ref (g + 4), .int (iI ((len : Int))), .int (iI (((p1 + 1 : Nat) : Int))), .int (iI (1)), .int (iI (le)), .int (iI (fi)), .int (iI (sc))] H2 := hO_
      clear hO_
      refine e_vret (rm := ({ frames := 0, cells := 0, slots := 0, locals := 0 } : Room)) E hL dX6_takes_41 ⟨rfl, ?_⟩
      rw [if_pos (by omega), if_pos (by omega)]
      exact ⟨⟨ho, htx⟩, hS⟩

set_option maxHeartbeats 4000000 in
set_option maxRecDepth 100000 in
theorem c_X6_takesNumber (G : GG) (l : Launch) (g : Nat) (v3 : Int32) (tx : Nat → Int) (len p1 : Nat) (le fi sc : Int) (hT : TxOk tx len) (lo mo : Nat) (hmo : mo ≤ 239) (hlo : lo ≤ 100) (hp : p1 ≤ 90) (hga : G.2.2 ≤ g) : Ct G l yX6_takesNumber cX6_takesNumber 4 (some .int) ({ frames := 1, cells := 0, slots := 0, locals := 22 } : Room) [.ref (g), .int (iI ((lo : Int))), .int (iI ((mo : Int)))] (fun H => TM G g v3 tx len p1 1 le fi sc H) (WE (iI (nmV tx len p1 lo mo)) (fun H H1 => TM G g v3 tx len (pNum tx len p1 lo mo).1 (if (pNum tx len p1 lo mo).2.isSome then 1 else 0) le fi sc H1 ∧ FrS g (g + 1) H H1)) := by
  refine Ct.of (by decide +kernel) (Nat.le_of_ble_eq_true rfl) ?_
  intro p e s m args below meth c ls E hnm hP hl
  obtain ⟨ho, htx⟩ := hP
  have hl80 := hT.1
  have hS : FrS g (g + 1) s.heap s.heap := FrS.rf
  have hl : lv_has ls 4 [(0, .ref (g)), (1, .int (iI ((lo : Int)))), (2, .int (iI ((mo : Int))))] := hl
  have hL : Lk G [] := Lk.nil
  generalize ([] : List Loc) = locs at hL ⊢
  refine lv_aload_n E.1 E.2.1 dX6_takesNumber_0 rfl (lv_at hl 0 rfl) ?_
  refine kVRE (As := []) E cw_X6_135 (c_X6_here G l g v3 tx len (p1) (1) (le) (fi) (sc) hT (by omega)) ho ⟨_, _, rfl⟩ ⟨ho, htx⟩ hL hl.1 rfl rfl (Nat.le_of_ble_eq_true rfl) ⟨Nat.le_of_ble_eq_true rfl, Nat.le_of_ble_eq_true rfl⟩ ⟨rfl, rfl⟩ ⟨Nat.le_of_ble_eq_true rfl, Nat.le_of_ble_eq_true rfl⟩ dX6_takesNumber_1 (fun locs hL => ?_)
  have hb_ := h0_b hT (p1)
  refine r_bipush E dX6_takesNumber_4 (by decide) ?_
  refine r_sub E dX6_takesNumber_6 ?_
  refine lv_istore_n (lv' := [(3, .int (iI ((h0 tx len (p1)) - 48))), (0, .ref (g)), (1, .int (iI ((lo : Int)))), (2, .int (iI ((mo : Int))))]) E.1 E.2.1 dX6_takesNumber_7 rfl hl (by decide) rfl (fun ls hl => ?_)
  refine lv_aload_n E.1 E.2.1 dX6_takesNumber_8 rfl (lv_at hl 1 rfl) ?_
  refine lv_iload_n E.1 E.2.1 dX6_takesNumber_9 rfl (lv_at hl 0 rfl) ?_
  refine lv_iload_n E.1 E.2.1 dX6_takesNumber_10 rfl (lv_at hl 2 rfl) ?_
  refine r_bipush E dX6_takesNumber_11 (by decide) ?_
  refine kSRE (As := [.int (iI ((h0 tx len (p1)) - 48)), .int (iI ((lo : Int))), .int (iI (9))]) E cw_X6_30 (c_X6_in G l ((h0 tx len (p1)) - 48) ((lo : Int)) (9) (by unfold okI; omega) (by unfold okI; omega) (by unfold okI; omega)) trivial hL hl.1 rfl rfl (Nat.le_of_ble_eq_true rfl) ⟨Nat.le_of_ble_eq_true rfl, Nat.le_of_ble_eq_true rfl⟩ ⟨rfl, rfl⟩ ⟨Nat.le_of_ble_eq_true rfl, Nat.le_of_ble_eq_true rfl⟩ dX6_takesNumber_13 (fun locs hL => ?_)
  refine r_bif_eq (tgt := 28) E dX6_takesNumber_16 (by decide)  (fun c16 => ?_) (fun c16 => ?_)
  · have c16 := of_decide_eq_false c16
    refine r_const E dX6_takesNumber_28 ?_
    refine kVWV (As := [.int (iI (0))]) E cw_X6_138 (c_X6_takes G l g v3 tx len (p1) (1) (le) (fi) (sc) hT (0) (by omega) (by omega) (by omega) (by omega)) ho ⟨_, _, rfl⟩ ⟨ho, htx⟩ hL hl.1 rfl rfl (Nat.le_of_ble_eq_true rfl) ⟨Nat.le_of_ble_eq_true rfl, Nat.le_of_ble_eq_true rfl⟩ ⟨Nat.le_of_ble_eq_true rfl, Nat.le_of_ble_eq_true rfl⟩ dX6_takesNumber_29 (fun H1 locs hL hw_ => ?_)
    rw [if_neg (by decide), if_neg (by decide)] at hw_
    obtain ⟨⟨ho, htx⟩, hq⟩ := hw_
    have hS := hS.trans hq
    refine lv_aload_n E.1 E.2.1 dX6_takesNumber_32 rfl (lv_at hl 1 rfl) ?_
    refine m_get E ho fw_X6_131 rfl dX6_takesNumber_33 ?_
    refine r_if_eq (tgt := 99) E dX6_takesNumber_36 (by decide) (by omega) (fun c36 => ?_) (fun c36 => absurd c36 (by omega))
    refine lv_iload_n E.1 E.2.1 dX6_takesNumber_99 rfl (lv_at hl 0 rfl) ?_
    refine e_iret (rm := ({ frames := 1, cells := 0, slots := 0, locals := 22 } : Room)) (v := iI ((h0 tx len (p1)) - 48)) E hL dX6_takesNumber_100 ?_
    have hpn : pNum tx len p1 lo mo = (p1, none) := pNum_none (by omega)
    have hnv : nmV tx len p1 lo mo = h0 tx len p1 - 48 := by unfold nmV; rw [hpn]
    rw [hnv, hpn]
    exact ⟨rfl, ⟨ho, htx⟩, hS⟩
  · have c16 := of_decide_eq_true c16
    refine lv_iload_n E.1 E.2.1 dX6_takesNumber_19 rfl (lv_at hl 0 rfl) ?_
    refine lv_iload_n E.1 E.2.1 dX6_takesNumber_20 rfl (lv_at hl 3 rfl) ?_
    refine r_icmp_gt (tgt := 28) E dX6_takesNumber_21 (by decide) (by omega) (by omega) (fun c21 => ?_) (fun c21 => ?_)
    · refine r_const E dX6_takesNumber_28 ?_
      refine kVWV (As := [.int (iI (0))]) E cw_X6_138 (c_X6_takes G l g v3 tx len (p1) (1) (le) (fi) (sc) hT (0) (by omega) (by omega) (by omega) (by omega)) ho ⟨_, _, rfl⟩ ⟨ho, htx⟩ hL hl.1 rfl rfl (Nat.le_of_ble_eq_true rfl) ⟨Nat.le_of_ble_eq_true rfl, Nat.le_of_ble_eq_true rfl⟩ ⟨Nat.le_of_ble_eq_true rfl, Nat.le_of_ble_eq_true rfl⟩ dX6_takesNumber_29 (fun H1 locs hL hw_ => ?_)
      rw [if_neg (by decide), if_neg (by decide)] at hw_
      obtain ⟨⟨ho, htx⟩, hq⟩ := hw_
      have hS := hS.trans hq
      refine lv_aload_n E.1 E.2.1 dX6_takesNumber_32 rfl (lv_at hl 1 rfl) ?_
      refine m_get E ho fw_X6_131 rfl dX6_takesNumber_33 ?_
      refine r_if_eq (tgt := 99) E dX6_takesNumber_36 (by decide) (by omega) (fun c36 => ?_) (fun c36 => absurd c36 (by omega))
      refine lv_iload_n E.1 E.2.1 dX6_takesNumber_99 rfl (lv_at hl 0 rfl) ?_
      refine e_iret (rm := ({ frames := 1, cells := 0, slots := 0, locals := 22 } : Room)) (v := iI ((h0 tx len (p1)) - 48)) E hL dX6_takesNumber_100 ?_
      have hpn : pNum tx len p1 lo mo = (p1, none) := pNum_none (by omega)
      have hnv : nmV tx len p1 lo mo = h0 tx len p1 - 48 := by unfold nmV; rw [hpn]
      rw [hnv, hpn]
      exact ⟨rfl, ⟨ho, htx⟩, hS⟩
    · refine r_const E dX6_takesNumber_24 ?_
      refine lv_goto (tgt := 29) E.1 E.2.1 dX6_takesNumber_25 (by decide) ?_
      refine kVWV (As := [.int (iI (1))]) E cw_X6_138 (c_X6_takes G l g v3 tx len (p1) (1) (le) (fi) (sc) hT (1) (by omega) (by omega) (by omega) (by omega)) ho ⟨_, _, rfl⟩ ⟨ho, htx⟩ hL hl.1 rfl rfl (Nat.le_of_ble_eq_true rfl) ⟨Nat.le_of_ble_eq_true rfl, Nat.le_of_ble_eq_true rfl⟩ ⟨Nat.le_of_ble_eq_true rfl, Nat.le_of_ble_eq_true rfl⟩ dX6_takesNumber_29 (fun H1 locs hL hw_ => ?_)
      rw [if_pos (by decide), if_pos (by decide)] at hw_
      obtain ⟨⟨ho, htx⟩, hq⟩ := hw_
      have hS := hS.trans hq
      obtain ⟨dd, hdd⟩ : ∃ n : Nat, (n : Int) = h0 tx len p1 - 48 := ⟨(h0 tx len p1 - 48).toNat, by omega⟩
      have LP32 : ∀ (kin32 : Nat) (t v q : Nat) (H : Heap) (y : Int) (ls : Array Slot) (locs : List Loc) (htv : t = 0 ∨ (t = 1 ∧ 10 ≤ v) ∨ (t = 2 ∧ 100 ≤ v)) (hv : v ≤ mo) (hq9 : q ≤ 96 + t) (hTx : TM G g v3 tx len q 1 le fi sc H) (hS : FrS g (g + 1) s.heap H) (hpl : pLoop tx len mo dd (p1 + 1) = pLoop tx len mo v q) (hy : y = (v : Int)) (hkin32 : mo - v = kin32) (hl : lv_has ls 4 [(3, .int (iI (y))), (0, .ref (g)), (1, .int (iI ((lo : Int)))), (2, .int (iI ((mo : Int))))]) (hL : Lk G locs), W p l e ({ frames := 1, cells := 0, slots := 0, locals := 22 } : Room) s m args below meth c H locs 0 0 (QQ G below args s ({ frames := 1, cells := 0, slots := 0, locals := 22 } : Room) (WE (iI (nmV tx len p1 lo mo)) (fun H H1 => TM G g v3 tx len (pNum tx len p1 lo mo).1 (if (pNum tx len p1 lo mo).2.isSome then 1 else 0) le fi sc H1 ∧ FrS g (g + 1) H H1))) (F0 m 32 ls []) := by
        intro kin32
        induction kin32 using Nat.strongRecOn with
        | ind kin32 ihin32 =>
          intro t v q H y ls locs htv hv hq9 hTx hS hpl hy hkin32 hl hL
          obtain ⟨ho, htx⟩ := hTx
          refine lv_aload_n E.1 E.2.1 dX6_takesNumber_32 rfl (lv_at hl 1 rfl) ?_
          refine m_get E ho fw_X6_131 rfl dX6_takesNumber_33 ?_
          refine r_if_eq (tgt := 99) E dX6_takesNumber_36 (by decide) (by omega) (fun c36 => absurd c36 (by omega)) (fun c36 => ?_)
          refine lv_iload_n E.1 E.2.1 dX6_takesNumber_39 rfl (lv_at hl 0 rfl) ?_
          refine r_if_le (tgt := 99) E dX6_takesNumber_40 (by decide) (by omega) (fun c40 => ?_) (fun c40 => ?_)
          · refine lv_iload_n E.1 E.2.1 dX6_takesNumber_99 rfl (lv_at hl 0 rfl) ?_
            refine e_iret (rm := ({ frames := 1, cells := 0, slots := 0, locals := 22 } : Room)) (v := iI (y)) E hL dX6_takesNumber_100 ?_
            have hpn : pNum tx len p1 lo mo = (q, some v) := pNum_some (d := dd) (by omega) (by omega) (by omega) (by omega) (by rw [hpl, pLoop_no (by omega)])
            have hnv : nmV tx len p1 lo mo = (v : Int) := by unfold nmV; rw [hpn]
            rw [hnv, hpn, hy]
            exact ⟨rfl, ⟨ho, htx⟩, hS⟩
          · refine lv_aload_n E.1 E.2.1 dX6_takesNumber_43 rfl (lv_at hl 1 rfl) ?_
            refine kVRE (As := []) E cw_X6_135 (c_X6_here G l g v3 tx len (q) (1) (le) (fi) (sc) hT (by omega)) ho ⟨_, _, rfl⟩ ⟨ho, htx⟩ hL hl.1 rfl rfl (Nat.le_of_ble_eq_true rfl) ⟨Nat.le_of_ble_eq_true rfl, Nat.le_of_ble_eq_true rfl⟩ ⟨rfl, rfl⟩ ⟨Nat.le_of_ble_eq_true rfl, Nat.le_of_ble_eq_true rfl⟩ dX6_takesNumber_44 (fun locs hL => ?_)
            have hb_ := h0_b hT (q)
            refine r_bipush E dX6_takesNumber_47 (by decide) ?_
            refine r_bipush E dX6_takesNumber_49 (by decide) ?_
            refine kSRE (As := [.int (iI (h0 tx len (q))), .int (iI (48)), .int (iI (57))]) E cw_X6_30 (c_X6_in G l (h0 tx len (q)) (48) (57) (by unfold okI; omega) (by unfold okI; omega) (by unfold okI; omega)) trivial hL hl.1 rfl rfl (Nat.le_of_ble_eq_true rfl) ⟨Nat.le_of_ble_eq_true rfl, Nat.le_of_ble_eq_true rfl⟩ ⟨rfl, rfl⟩ ⟨Nat.le_of_ble_eq_true rfl, Nat.le_of_ble_eq_true rfl⟩ dX6_takesNumber_51 (fun locs hL => ?_)
            refine r_bif_eq (tgt := 99) E dX6_takesNumber_54 (by decide)  (fun c54 => ?_) (fun c54 => ?_)
            · have c54 := of_decide_eq_false c54
              refine lv_iload_n E.1 E.2.1 dX6_takesNumber_99 rfl (lv_at hl 0 rfl) ?_
              refine e_iret (rm := ({ frames := 1, cells := 0, slots := 0, locals := 22 } : Room)) (v := iI (y)) E hL dX6_takesNumber_100 ?_
              have hpn : pNum tx len p1 lo mo = (q, some v) := pNum_some (d := dd) (by omega) (by omega) (by omega) (by omega) (by rw [hpl, pLoop_no (by omega)])
              have hnv : nmV tx len p1 lo mo = (v : Int) := by unfold nmV; rw [hpn]
              rw [hnv, hpn, hy]
              exact ⟨rfl, ⟨ho, htx⟩, hS⟩
            · have c54 := of_decide_eq_true c54
              refine r_bipush E dX6_takesNumber_57 (by decide) ?_
              refine lv_iload_n E.1 E.2.1 dX6_takesNumber_59 rfl (lv_at hl 0 rfl) ?_
              refine r_mul E dX6_takesNumber_60 ?_
              refine lv_aload_n E.1 E.2.1 dX6_takesNumber_61 rfl (lv_at hl 1 rfl) ?_
              refine kVRE (As := []) E cw_X6_135 (c_X6_here G l g v3 tx len (q) (1) (le) (fi) (sc) hT (by omega)) ho ⟨_, _, rfl⟩ ⟨ho, htx⟩ hL hl.1 rfl rfl (Nat.le_of_ble_eq_true rfl) ⟨Nat.le_of_ble_eq_true rfl, Nat.le_of_ble_eq_true rfl⟩ ⟨rfl, rfl⟩ ⟨Nat.le_of_ble_eq_true rfl, Nat.le_of_ble_eq_true rfl⟩ dX6_takesNumber_62 (fun locs hL => ?_)
              have hb_ := h0_b hT (q)
              refine r_add E dX6_takesNumber_65 ?_
              refine r_bipush E dX6_takesNumber_66 (by decide) ?_
              refine r_sub E dX6_takesNumber_68 ?_
              refine lv_iload_n E.1 E.2.1 dX6_takesNumber_69 rfl (lv_at hl 3 rfl) ?_
              refine r_icmp_gt (tgt := 99) E dX6_takesNumber_70 (by decide) (by omega) (by omega) (fun c70 => ?_) (fun c70 => ?_)
              · refine lv_iload_n E.1 E.2.1 dX6_takesNumber_99 rfl (lv_at hl 0 rfl) ?_
                refine e_iret (rm := ({ frames := 1, cells := 0, slots := 0, locals := 22 } : Room)) (v := iI (y)) E hL dX6_takesNumber_100 ?_
                have hpn : pNum tx len p1 lo mo = (q, some v) := pNum_some (d := dd) (by omega) (by omega) (by omega) (by omega) (by rw [hpl, pLoop_no (by omega)])
                have hnv : nmV tx len p1 lo mo = (v : Int) := by unfold nmV; rw [hpn]
                rw [hnv, hpn, hy]
                exact ⟨rfl, ⟨ho, htx⟩, hS⟩
              · refine r_bipush E dX6_takesNumber_73 (by decide) ?_
                refine lv_iload_n E.1 E.2.1 dX6_takesNumber_75 rfl (lv_at hl 0 rfl) ?_
                refine r_mul E dX6_takesNumber_76 ?_
                refine lv_aload_n E.1 E.2.1 dX6_takesNumber_77 rfl (lv_at hl 1 rfl) ?_
                refine kVRE (As := []) E cw_X6_135 (c_X6_here G l g v3 tx len (q) (1) (le) (fi) (sc) hT (by omega)) ho ⟨_, _, rfl⟩ ⟨ho, htx⟩ hL hl.1 rfl rfl (Nat.le_of_ble_eq_true rfl) ⟨Nat.le_of_ble_eq_true rfl, Nat.le_of_ble_eq_true rfl⟩ ⟨rfl, rfl⟩ ⟨Nat.le_of_ble_eq_true rfl, Nat.le_of_ble_eq_true rfl⟩ dX6_takesNumber_78 (fun locs hL => ?_)
                have hb_ := h0_b hT (q)
                refine r_add E dX6_takesNumber_81 ?_
                refine r_bipush E dX6_takesNumber_82 (by decide) ?_
                refine r_sub E dX6_takesNumber_84 ?_
                refine lv_istore_n (lv' := [(3, .int (iI (((10 * y) + (h0 tx len (q))) - 48))), (0, .ref (g)), (1, .int (iI ((lo : Int)))), (2, .int (iI ((mo : Int))))]) E.1 E.2.1 dX6_takesNumber_85 rfl hl (by decide) rfl (fun ls hl => ?_)
                obtain ⟨d2, hd2⟩ : ∃ n : Nat, (n : Int) = h0 tx len q - 48 := ⟨(h0 tx len q - 48).toNat, by omega⟩
                refine lv_aload_n E.1 E.2.1 dX6_takesNumber_86 rfl (lv_at hl 1 rfl) ?_
                refine lv_dup E.1 E.2.1 dX6_takesNumber_87 rfl ?_
                refine m_get E ho fw_X6_128 rfl dX6_takesNumber_88 ?_
                refine r_const E dX6_takesNumber_91 ?_
                refine r_add E dX6_takesNumber_92 ?_
                rw [show (((q : Int) + 1 : Int)) = ((q + 1 : Nat) : Int) by omega]
                refine m_put E ho fw_X6_128 fp_X6_6 rfl rfl (Nat.le_of_ble_eq_true rfl) hL (by omega) dX6_takesNumber_93 (fun H2 locs hL hO_ hF_ => ?_)
                have htx := htx.kept (hF_.2 _ (by omega))
                have hS := hS.trans (FrS.of1 (lo := g) (hi := g + 1) hF_ (by omega) (by omega))
                have ho : Ob G (g) 6 [.ref (g + 1), .ref (g + 2), .ref (g + 3), .int (v3), .ref (g + 4), .int (iI ((len : Int))), .int (iI (((q + 1 : Nat) : Int))), .int (iI (1)), .int (iI (le)), .int (iI (fi)), .int (iI (sc))] H2 := hO_
                clear hO_
                refine lv_goto (tgt := 32) E.1 E.2.1 dX6_takesNumber_96 (by decide) ?_
                refine ihin32 _ ?_ (t + 1) (10 * v + d2) (q + 1) H2 (((10 * y) + (h0 tx len (q))) - 48) ls locs ?_ ?_ ?_ ?_ ?_ ?_ ?_ rfl (lv_sub hl [0, 1, 2, 3] rfl) hL
                · omega
                · omega
                · omega
                · omega
                · exact ⟨ho, htx⟩
                · exact hS
                · rw [hpl, pLoop_yes (d := d2) (by omega) (by omega) (by omega) (by omega)]
                · omega
      refine LP32 _ 0 dd (p1 + 1) H1 ((h0 tx len (p1)) - 48) ls locs ?_ ?_ ?_ ?_ ?_ ?_ ?_ rfl (lv_sub hl [0, 1, 2, 3] rfl) hL
      · omega
      · omega
      · omega
      · exact ⟨ho, htx⟩
      · exact hS
      · rfl
      · omega
