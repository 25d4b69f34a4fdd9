set_option maxHeartbeats 4000000 in
set_option maxRecDepth 100000 in
theorem c_X5_isName (G : GG) (l : Launch) (x : Int) (hx : okI x) : Ct G l yX5_isName cX5_isName 1 (some .boolean) ({ frames := 0, cells := 0, slots := 0, locals := 0 } : Room) [.int (iI (x))] (fun H => True) (RE (b2i (decide (0 ≤ x ∧ x < 20)))) := by
  refine Ct.of (by decide +kernel) (Nat.le_of_ble_eq_true rfl) ?_
  intro p e s m args below meth c ls E hnm hP hl
  obtain ⟨hx1, hx2⟩ := hx
  have hl : lv_has ls 1 [(0, .int (iI (x)))] := hl
  have hL : Lk G [] := Lk.nil
  refine lv_iload_n E.1 E.2.1 dX5_isName_0 rfl (lv_at hl 0 rfl) ?_
  refine r_if_lt (tgt := 14) E dX5_isName_1 (by decide) (by omega) (fun c1 => ?_) (fun c1 => ?_)
  · refine r_const E dX5_isName_14 ?_
    refine e_zret (rm := ({ frames := 0, cells := 0, slots := 0, locals := 0 } : Room)) (v := iI 0) E hL rfl dX5_isName_15 ?_
    exact RE_f (decide_eq_false (by omega))
  · refine lv_iload_n E.1 E.2.1 dX5_isName_4 rfl (lv_at hl 0 rfl) ?_
    refine r_bipush E dX5_isName_5 (by decide) ?_
    refine r_icmp_ge (tgt := 14) E dX5_isName_7 (by decide) (by omega) (by omega) (fun c7 => ?_) (fun c7 => ?_)
    · refine r_const E dX5_isName_14 ?_
      refine e_zret (rm := ({ frames := 0, cells := 0, slots := 0, locals := 0 } : Room)) (v := iI 0) E hL rfl dX5_isName_15 ?_
      exact RE_f (decide_eq_false (by omega))
    · refine r_const E dX5_isName_10 ?_
      refine lv_goto (tgt := 15) E.1 E.2.1 dX5_isName_11 (by decide) ?_
      refine e_zret (rm := ({ frames := 0, cells := 0, slots := 0, locals := 0 } : Room)) (v := iI 1) E hL rfl dX5_isName_15 ?_
      exact RE_t (decide_eq_true (by omega))

set_option maxHeartbeats 4000000 in
set_option maxRecDepth 100000 in
theorem c_X5_isSector (G : GG) (l : Launch) (x : Int) (hx : okI x) : Ct G l yX5_isSector cX5_isSector 1 (some .boolean) ({ frames := 0, cells := 0, slots := 0, locals := 0 } : Room) [.int (iI (x))] (fun H => True) (RE (b2i (decide (0 ≤ x ∧ x < 240)))) := by
  refine Ct.of (by decide +kernel) (Nat.le_of_ble_eq_true rfl) ?_
  intro p e s m args below meth c ls E hnm hP hl
  obtain ⟨hx1, hx2⟩ := hx
  have hl : lv_has ls 1 [(0, .int (iI (x)))] := hl
  have hL : Lk G [] := Lk.nil
  refine lv_iload_n E.1 E.2.1 dX5_isSector_0 rfl (lv_at hl 0 rfl) ?_
  refine r_if_lt (tgt := 15) E dX5_isSector_1 (by decide) (by omega) (fun c1 => ?_) (fun c1 => ?_)
  · refine r_const E dX5_isSector_15 ?_
    refine e_zret (rm := ({ frames := 0, cells := 0, slots := 0, locals := 0 } : Room)) (v := iI 0) E hL rfl dX5_isSector_16 ?_
    exact RE_f (decide_eq_false (by omega))
  · refine lv_iload_n E.1 E.2.1 dX5_isSector_4 rfl (lv_at hl 0 rfl) ?_
    refine r_sipush E dX5_isSector_5 (by decide) ?_
    refine r_icmp_ge (tgt := 15) E dX5_isSector_8 (by decide) (by omega) (by omega) (fun c8 => ?_) (fun c8 => ?_)
    · refine r_const E dX5_isSector_15 ?_
      refine e_zret (rm := ({ frames := 0, cells := 0, slots := 0, locals := 0 } : Room)) (v := iI 0) E hL rfl dX5_isSector_16 ?_
      exact RE_f (decide_eq_false (by omega))
    · refine r_const E dX5_isSector_11 ?_
      refine lv_goto (tgt := 16) E.1 E.2.1 dX5_isSector_12 (by decide) ?_
      refine e_zret (rm := ({ frames := 0, cells := 0, slots := 0, locals := 0 } : Room)) (v := iI 1) E hL rfl dX5_isSector_16 ?_
      exact RE_t (decide_eq_true (by omega))

set_option maxHeartbeats 4000000 in
set_option maxRecDepth 100000 in
theorem c_X5_isFileSize (G : GG) (l : Launch) (x : Int) (hx : okI x) : Ct G l yX5_isFileSize cX5_isFileSize 1 (some .boolean) ({ frames := 0, cells := 0, slots := 0, locals := 0 } : Room) [.int (iI (x))] (fun H => True) (RE (b2i (decide (1 ≤ x ∧ x ≤ 40)))) := by
  refine Ct.of (by decide +kernel) (Nat.le_of_ble_eq_true rfl) ?_
  intro p e s m args below meth c ls E hnm hP hl
  obtain ⟨hx1, hx2⟩ := hx
  have hl : lv_has ls 1 [(0, .int (iI (x)))] := hl
  have hL : Lk G [] := Lk.nil
  refine lv_iload_n E.1 E.2.1 dX5_isFileSize_0 rfl (lv_at hl 0 rfl) ?_
  refine r_const E dX5_isFileSize_1 ?_
  refine r_icmp_lt (tgt := 15) E dX5_isFileSize_2 (by decide) (by omega) (by omega) (fun c2 => ?_) (fun c2 => ?_)
  · refine r_const E dX5_isFileSize_15 ?_
    refine e_zret (rm := ({ frames := 0, cells := 0, slots := 0, locals := 0 } : Room)) (v := iI 0) E hL rfl dX5_isFileSize_16 ?_
    exact RE_f (decide_eq_false (by omega))
  · refine lv_iload_n E.1 E.2.1 dX5_isFileSize_5 rfl (lv_at hl 0 rfl) ?_
    refine r_bipush E dX5_isFileSize_6 (by decide) ?_
    refine r_icmp_gt (tgt := 15) E dX5_isFileSize_8 (by decide) (by omega) (by omega) (fun c8 => ?_) (fun c8 => ?_)
    · refine r_const E dX5_isFileSize_15 ?_
      refine e_zret (rm := ({ frames := 0, cells := 0, slots := 0, locals := 0 } : Room)) (v := iI 0) E hL rfl dX5_isFileSize_16 ?_
      exact RE_f (decide_eq_false (by omega))
    · refine r_const E dX5_isFileSize_11 ?_
      refine lv_goto (tgt := 16) E.1 E.2.1 dX5_isFileSize_12 (by decide) ?_
      refine e_zret (rm := ({ frames := 0, cells := 0, slots := 0, locals := 0 } : Room)) (v := iI 1) E hL rfl dX5_isFileSize_16 ?_
      exact RE_t (decide_eq_true (by omega))

set_option maxHeartbeats 4000000 in
set_option maxRecDepth 100000 in
theorem c_X5_isSetting (G : GG) (l : Launch) (x : Int) (hx : okI x) : Ct G l yX5_isSetting cX5_isSetting 1 (some .boolean) ({ frames := 0, cells := 0, slots := 0, locals := 0 } : Room) [.int (iI (x))] (fun H => True) (RE (b2i (decide (x = 0 ∨ x = 1)))) := by
  refine Ct.of (by decide +kernel) (Nat.le_of_ble_eq_true rfl) ?_
  intro p e s m args below meth c ls E hnm hP hl
  obtain ⟨hx1, hx2⟩ := hx
  have hl : lv_has ls 1 [(0, .int (iI (x)))] := hl
  have hL : Lk G [] := Lk.nil
  refine lv_iload_n E.1 E.2.1 dX5_isSetting_0 rfl (lv_at hl 0 rfl) ?_
  refine r_if_eq (tgt := 9) E dX5_isSetting_1 (by decide) (by omega) (fun c1 => ?_) (fun c1 => ?_)
  · refine r_const E dX5_isSetting_9 ?_
    refine lv_goto (tgt := 14) E.1 E.2.1 dX5_isSetting_10 (by decide) ?_
    refine e_zret (rm := ({ frames := 0, cells := 0, slots := 0, locals := 0 } : Room)) (v := iI 1) E hL rfl dX5_isSetting_14 ?_
    exact RE_t (decide_eq_true (by omega))
  · refine lv_iload_n E.1 E.2.1 dX5_isSetting_4 rfl (lv_at hl 0 rfl) ?_
    refine r_const E dX5_isSetting_5 ?_
    refine r_icmp_ne (tgt := 13) E dX5_isSetting_6 (by decide) (by omega) (by omega) (fun c6 => ?_) (fun c6 => ?_)
    · refine r_const E dX5_isSetting_13 ?_
      refine e_zret (rm := ({ frames := 0, cells := 0, slots := 0, locals := 0 } : Room)) (v := iI 0) E hL rfl dX5_isSetting_14 ?_
      exact RE_f (decide_eq_false (by omega))
    · refine r_const E dX5_isSetting_9 ?_
      refine lv_goto (tgt := 14) E.1 E.2.1 dX5_isSetting_10 (by decide) ?_
      refine e_zret (rm := ({ frames := 0, cells := 0, slots := 0, locals := 0 } : Room)) (v := iI 1) E hL rfl dX5_isSetting_14 ?_
      exact RE_t (decide_eq_true (by omega))

set_option maxHeartbeats 4000000 in
set_option maxRecDepth 100000 in
theorem c_X5_isError (G : GG) (l : Launch) (x : Int) (hx : okI x) : Ct G l yX5_isError cX5_isError 1 (some .boolean) ({ frames := 0, cells := 0, slots := 0, locals := 0 } : Room) [.int (iI (x))] (fun H => True) (RE (b2i (decide (-5 ≤ x ∧ x ≤ -1)))) := by
  refine Ct.of (by decide +kernel) (Nat.le_of_ble_eq_true rfl) ?_
  intro p e s m args below meth c ls E hnm hP hl
  obtain ⟨hx1, hx2⟩ := hx
  have hl : lv_has ls 1 [(0, .int (iI (x)))] := hl
  have hL : Lk G [] := Lk.nil
  refine lv_iload_n E.1 E.2.1 dX5_isError_0 rfl (lv_at hl 0 rfl) ?_
  refine r_bipush E dX5_isError_1 (by decide) ?_
  refine r_icmp_lt (tgt := 15) E dX5_isError_3 (by decide) (by omega) (by omega) (fun c3 => ?_) (fun c3 => ?_)
  · refine r_const E dX5_isError_15 ?_
    refine e_zret (rm := ({ frames := 0, cells := 0, slots := 0, locals := 0 } : Room)) (v := iI 0) E hL rfl dX5_isError_16 ?_
    exact RE_f (decide_eq_false (by omega))
  · refine lv_iload_n E.1 E.2.1 dX5_isError_6 rfl (lv_at hl 0 rfl) ?_
    refine r_const E dX5_isError_7 ?_
    refine r_icmp_gt (tgt := 15) E dX5_isError_8 (by decide) (by omega) (by omega) (fun c8 => ?_) (fun c8 => ?_)
    · refine r_const E dX5_isError_15 ?_
      refine e_zret (rm := ({ frames := 0, cells := 0, slots := 0, locals := 0 } : Room)) (v := iI 0) E hL rfl dX5_isError_16 ?_
      exact RE_f (decide_eq_false (by omega))
    · refine r_const E dX5_isError_11 ?_
      refine lv_goto (tgt := 16) E.1 E.2.1 dX5_isError_12 (by decide) ?_
      refine e_zret (rm := ({ frames := 0, cells := 0, slots := 0, locals := 0 } : Room)) (v := iI 1) E hL rfl dX5_isError_16 ?_
      exact RE_t (decide_eq_true (by omega))
