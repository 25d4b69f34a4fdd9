set_option maxHeartbeats 4000000 in
set_option maxRecDepth 100000 in
theorem c_X3_init (G : GG) (l : Launch) (a : Nat) (hga : G.2.2 ≤ a) : Ct G l yX3_init cX3_init 1 none ({ frames := 1, cells := 1, slots := 20, locals := 24 } : Room) [.ref (a)] (fun H => Ob G a 3 [.null, .int 0, .int 0, .int 0, .int 0, .int 0, .int 0] H ∧ H.size = a + 1) (WV (fun H H1 => SesR G a (fun _ => 0) (fun _ => none) H1 ∧ H1.size = H.size + 1 ∧ ∀ q, q < a → H1[q]? = H[q]?)) := by
  refine Ct.of (by decide +kernel) (Nat.le_of_ble_eq_true rfl) ?_
  intro p e s m args below meth c ls E hnm hP hl
  obtain ⟨ho, hsz⟩ := hP
  have hfr : ∀ q, q < a → s.heap[q]? = s.heap[q]? := fun _ _ => rfl
  have hl : lv_has ls 1 [(0, .ref (a))] := hl
  have hL : Lk G [] := Lk.nil
  have hsz0 := hsz
  refine lv_aload_n E.1 E.2.1 dX3_init_0 rfl (lv_at hl 0 rfl) ?_
  refine m_objinit E oi_X3 hl.1 (Nat.le_of_ble_eq_true rfl) (Nat.le_of_ble_eq_true rfl) dX3_init_1 ?_
  refine lv_aload_n E.1 E.2.1 dX3_init_4 rfl (lv_at hl 0 rfl) ?_
  refine r_bipush E dX3_init_5 (by decide) ?_
  refine m_newq (t := 4) (N := 20) E cl_X3_9 E.2.2.2.2.2.2.2.2.1.2.1 rfl (by decide) (by decide) (by decide) (Nat.le_of_ble_eq_true rfl) (Nat.le_of_ble_eq_true rfl) dX3_init_7 (fun H1 hn2 hPu_ => ?_)
  rw [hsz] at hn2
  rw [hsz]
  have ho := ho.kept (hPu_.2 _ (by omega))
  have hfr : ∀ q, q < a → H1[q]? = s.heap[q]? := fun q hq => (hPu_.2 q (by omega)).trans (hfr q hq)
  have hsz : H1.size = a + 2 := by rw [hPu_.1]; omega
  refine m_putF E hnm ho fw_X3_11 fp_X3_0 rfl rfl (Nat.le_of_ble_eq_true rfl) hL (by omega) ⟨_, _, rfl⟩ dX3_init_10 (fun H3 locs hL hO_ hF_ => ?_)
  have hn2 := hn2.kept (hF_.2 _ (by omega))
  have hsz : H3.size = a + 2 := hF_.1.trans hsz
  have hfr : ∀ q, q < a → H3[q]? = s.heap[q]? := fun q hq => (hF_.2 q (by omega)).trans (hfr q hq)
  have ho : Ob G (a) 3 [.ref (a + 1), .int (0), .int (0), .int (0), .int (0), .int (0), .int (0)] H3 := hO_
  clear hO_
  refine e_vret (rm := ({ frames := 1, cells := 1, slots := 20, locals := 24 } : Room)) E hL dX3_init_13 ⟨rfl, ?_⟩
  exact ⟨⟨ho, hn2⟩, by omega, hfr⟩

set_option maxHeartbeats 4000000 in
set_option maxRecDepth 100000 in
theorem c_X3_startAt (G : GG) (l : Launch) (a : Nat) (x y z : Int) (w : Nat → Int32) (t : Nat → Option Nat) (hga : G.2.2 ≤ a) : Ct G l yX3_startAt cX3_startAt 5 none ({ frames := 0, cells := 0, slots := 0, locals := 0 } : Room) [.ref (a), .int (iI (x)), .int (iI (y)), .int (iI (z))] (fun H => SesR G a w t H) (WV (fun H H1 => SesR G a (fun k => if k = 0 then iI 0 else if k = 1 then iI x else if k = 2 then iI (x + y) else if k = 3 then iI y else if k = 4 then iI z else iI 0) (fun _ => none) H1 ∧ FrS a (a + 2) H H1)) := by
  refine Ct.of (by decide +kernel) (Nat.le_of_ble_eq_true rfl) ?_
  intro p e s m args below meth c ls E hnm hP hl
  obtain ⟨ho, hr⟩ := hP
  have hS : FrS a (a + 2) s.heap s.heap := FrS.rf
  have hl : lv_has ls 5 [(0, .ref (a)), (1, .int (iI (x))), (2, .int (iI (y))), (3, .int (iI (z)))] := hl
  have hL : Lk G [] := Lk.nil
  refine lv_aload_n E.1 E.2.1 dX3_startAt_0 rfl (lv_at hl 0 rfl) ?_
  refine r_const E dX3_startAt_1 ?_
  refine m_put E ho fw_X3_17 fp_X3_1 rfl rfl (Nat.le_of_ble_eq_true rfl) hL (by omega) dX3_startAt_2 (fun H1 locs hL hO_ hF_ => ?_)
  have hr := hr.kept (hF_.2 _ (by omega))
  have hS := hS.trans (FrS.of1 (lo := a) (hi := a + 2) hF_ (by omega) (by omega))
  have ho : Ob G (a) 3 [.ref (a + 1), .int (iI (0)), .int (w 1), .int (w 2), .int (w 3), .int (w 4), .int (w 5)] H1 := hO_
  clear hO_
  refine lv_aload_n E.1 E.2.1 dX3_startAt_5 rfl (lv_at hl 0 rfl) ?_
  refine lv_iload_n E.1 E.2.1 dX3_startAt_6 rfl (lv_at hl 1 rfl) ?_
  refine m_put E ho fw_X3_21 fp_X3_2 rfl rfl (Nat.le_of_ble_eq_true rfl) hL (by omega) dX3_startAt_7 (fun H2 locs hL hO_ hF_ => ?_)
  have hr := hr.kept (hF_.2 _ (by omega))
  have hS := hS.trans (FrS.of1 (lo := a) (hi := a + 2) hF_ (by omega) (by omega))
  have ho : Ob G (a) 3 [.ref (a + 1), .int (iI (0)), .int (iI (x)), .int (w 2), .int (w 3), .int (w 4), .int (w 5)] H2 := hO_
  clear hO_
  refine lv_aload_n E.1 E.2.1 dX3_startAt_10 rfl (lv_at hl 0 rfl) ?_
  refine lv_iload_n E.1 E.2.1 dX3_startAt_11 rfl (lv_at hl 1 rfl) ?_
  refine lv_iload_n E.1 E.2.1 dX3_startAt_12 rfl (lv_at hl 2 rfl) ?_
  refine r_add E dX3_startAt_13 ?_
  refine m_put E ho fw_X3_24 fp_X3_3 rfl rfl (Nat.le_of_ble_eq_true rfl) hL (by omega) dX3_startAt_14 (fun H3 locs hL hO_ hF_ => ?_)
  have hr := hr.kept (hF_.2 _ (by omega))
  have hS := hS.trans (FrS.of1 (lo := a) (hi := a + 2) hF_ (by omega) (by omega))
  have ho : Ob G (a) 3 [.ref (a + 1), .int (iI (0)), .int (iI (x)), .int (iI (x + y)), .int (w 3), .int (w 4), .int (w 5)] H3 := hO_
  clear hO_
  refine lv_aload_n E.1 E.2.1 dX3_startAt_17 rfl (lv_at hl 0 rfl) ?_
  refine lv_iload_n E.1 E.2.1 dX3_startAt_18 rfl (lv_at hl 2 rfl) ?_
  refine m_put E ho fw_X3_27 fp_X3_4 rfl rfl (Nat.le_of_ble_eq_true rfl) hL (by omega) dX3_startAt_19 (fun H4 locs hL hO_ hF_ => ?_)
  have hr := hr.kept (hF_.2 _ (by omega))
  have hS := hS.trans (FrS.of1 (lo := a) (hi := a + 2) hF_ (by omega) (by omega))
  have ho : Ob G (a) 3 [.ref (a + 1), .int (iI (0)), .int (iI (x)), .int (iI (x + y)), .int (iI (y)), .int (w 4), .int (w 5)] H4 := hO_
  clear hO_
  refine lv_aload_n E.1 E.2.1 dX3_startAt_22 rfl (lv_at hl 0 rfl) ?_
  refine lv_iload_n E.1 E.2.1 dX3_startAt_23 rfl (lv_at hl 3 rfl) ?_
  refine m_put E ho fw_X3_30 fp_X3_5 rfl rfl (Nat.le_of_ble_eq_true rfl) hL (by omega) dX3_startAt_24 (fun H5 locs hL hO_ hF_ => ?_)
  have hr := hr.kept (hF_.2 _ (by omega))
  have hS := hS.trans (FrS.of1 (lo := a) (hi := a + 2) hF_ (by omega) (by omega))
  have ho : Ob G (a) 3 [.ref (a + 1), .int (iI (0)), .int (iI (x)), .int (iI (x + y)), .int (iI (y)), .int (iI (z)), .int (w 5)] H5 := hO_
  clear hO_
  refine lv_aload_n E.1 E.2.1 dX3_startAt_27 rfl (lv_at hl 0 rfl) ?_
  refine r_const E dX3_startAt_28 ?_
  refine m_put E ho fw_X3_33 fp_X3_6 rfl rfl (Nat.le_of_ble_eq_true rfl) hL (by omega) dX3_startAt_29 (fun H6 locs hL hO_ hF_ => ?_)
  have hr := hr.kept (hF_.2 _ (by omega))
  have hS := hS.trans (FrS.of1 (lo := a) (hi := a + 2) hF_ (by omega) (by omega))
  have ho : Ob G (a) 3 [.ref (a + 1), .int (iI (0)), .int (iI (x)), .int (iI (x + y)), .int (iI (y)), .int (iI (z)), .int (iI (0))] H6 := hO_
  clear hO_
  refine r_const E dX3_startAt_32 ?_
  refine lv_istore (lv' := [(4, .int (iI (0))), (0, .ref (a)), (1, .int (iI (x))), (2, .int (iI (y))), (3, .int (iI (z)))]) E.1 E.2.1 dX3_startAt_33 hl (by decide) rfl (fun ls hl => ?_)
  have LOOP : ∀ (k : Nat) (n : Nat) (H : Heap) (ls : Array Slot) (locs : List Loc) (hn : n ≤ 20) (hr : Ra G (a + 1) 4 20 (fun j => if j < n then none else t j) H) (hq : FrS (a + 1) (a + 2) H6 H) (hk : 20 - n = k) (hl : lv_has ls 5 [(4, .int (iI ((n : Int)))), (0, .ref (a))]) (hL : Lk G locs), W p l e ({ frames := 0, cells := 0, slots := 0, locals := 0 } : Room) s m args below meth c H locs 0 0 (QQ G below args s ({ frames := 0, cells := 0, slots := 0, locals := 0 } : Room) (WV (fun H H1 => SesR G a (fun k => if k = 0 then iI 0 else if k = 1 then iI x else if k = 2 then iI (x + y) else if k = 3 then iI y else if k = 4 then iI z else iI 0) (fun _ => none) H1 ∧ FrS a (a + 2) H H1))) (F0 m 35 ls []) := by
    intro k
    induction k using Nat.strongRecOn with
    | ind k ih =>
      intro n H ls locs hn hr hq hk hl hL
      have ho : Ob G (a) 3 [.ref (a + 1), .int (iI (0)), .int (iI (x)), .int (iI (x + y)), .int (iI (y)), .int (iI (z)), .int (iI (0))] H := ho.kept (hq.2 _ (by omega))
      refine lv_iload E.1 E.2.1 dX3_startAt_35 (lv_at hl 0 rfl) ?_
      refine r_bipush E dX3_startAt_37 (by decide) ?_
      refine r_icmp_ge (tgt := 56) E dX3_startAt_39 (by decide) (by omega) (by omega) (fun c39 => ?_) (fun c39 => ?_)
      · have hn20 : n = 20 := by omega
        subst hn20
        refine e_vret (rm := ({ frames := 0, cells := 0, slots := 0, locals := 0 } : Room)) E hL dX3_startAt_56 ⟨rfl, ?_⟩
        exact ⟨⟨ho, hr.to (fun j hj => by simp [hj])⟩, hS.trans (hq.wide (by omega) (by omega))⟩
      · refine lv_aload_n E.1 E.2.1 dX3_startAt_42 rfl (lv_at hl 1 rfl) ?_
        refine m_get E ho fw_X3_11 rfl dX3_startAt_43 ?_
        refine lv_iload E.1 E.2.1 dX3_startAt_46 (lv_at hl 0 rfl) ?_
        refine lv_null E.1 E.2.1 dX3_startAt_48 ?_
        refine r_aastQ (v := none) E hr rfl (fun _ h => by cases h) (show vwCl[4]? = some _ from rfl) (n) rfl (by omega) (by decide) hL (by omega) dX3_startAt_49 (fun H7 locs hL hO_ hF_ => ?_)
        have ho := ho.kept (hF_.2 _ (by omega))
        have hr : Ra G (a + 1) 4 20 (va_up (fun j => if j < n then none else t j) (n) (none)) H7 := hO_
        clear hO_
        refine r_inc (lv' := [(4, .int (iI ((n : Int) + 1))), (0, .ref (a))]) E dX3_startAt_50 hl (k := 0) rfl (by decide) rfl (fun ls hl => ?_)
        refine lv_goto (tgt := 35) E.1 E.2.1 dX3_startAt_53 (by decide) ?_
        refine ih _ ?_ (n + 1) H7 ls locs (by omega) ?_ ?_ rfl (lv_sub hl [0, 1] rfl) hL
        · omega
        · refine hr.to (fun j hj => ?_)
          by_cases h1 : j = n
          · subst h1; simp [va_up]
          · have h2 : j < n + 1 ↔ j < n := by omega
            simp [va_up, h1, h2]
        · exact hq.trans (FrS.of1 hF_ (by omega) (by omega))
  exact LOOP _ 0 H6 ls locs (by decide) (hr.to (fun j hj => by simp)) FrS.rf rfl (lv_sub hl [0, 1] rfl) hL
