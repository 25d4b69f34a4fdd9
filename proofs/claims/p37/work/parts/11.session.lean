set_option maxHeartbeats 4000000 in
set_option maxRecDepth 100000 in
theorem c_X3_init (G : GG) (l : Launch) (a : Nat) (hga : G.2.2 ≤ a) : Ct G l yX3_init cX3_init 1 none ({ frames := 1, cells := 1, slots := 20, locals := 24 } : Room) [.ref (a)] (fun H => Ob G a 3 [.null, .int 0, .int 0, .int 0, .int 0, .int 0, .int 0] H ∧ H.size = a + 1) (WV (fun H H1 => SesR G a (fun _ => 0) (fun _ => none) H1 ∧ H1.size = H.size + 1 ∧ ∀ q, q < a → H1[q]? = H[q]?)) := by
  refine Ct.of (by decide +kernel) (Nat.le_of_ble_eq_true rfl) ?_
  intro p e s m args below meth c ls E hnm hP hl
  obtain ⟨ho, hsz⟩ := hP
  have hfr : ∀ q, q < a → s.heap[q]? = s.heap[q]? := fun _ _ => rfl
  have hsz0 := hsz
  have hl : lv_has ls 1 [(0, .ref (a))] := hl
  have hL : Lk G [] := Lk.nil
  generalize ([] : List Loc) = locs at hL ⊢
  refine lv_aload_n E.1 E.2.1 dX3_init_0 rfl (lv_at hl 0 rfl) ?_
  refine m_objinit E oi_X3 hl.1 (Nat.le_of_ble_eq_true rfl) (Nat.le_of_ble_eq_true rfl) dX3_init_1 ?_
  refine lv_aload_n E.1 E.2.1 dX3_init_4 rfl (lv_at hl 0 rfl) ?_
  refine r_bipush E dX3_init_5 (by decide) ?_
  refine m_newq (t := 4) (N := 20) E cl_X3_9 E.2.2.2.2.2.2.2.2.1.2.1 rfl (by decide) (by decide) (by decide) (Nat.le_of_ble_eq_true rfl) (Nat.le_of_ble_eq_true rfl) dX3_init_7 (fun H1 hn2 hPu_ => ?_)
  rw [hsz] at hn2
  rw [hsz]
  have ho := ho.kept (hPu_.2 _ (by omega))
  have hfr : ∀ q, q < a → H1[q]? = s.heap[q]? := fun q hq => (hPu_.2 q (by omega)).trans (hfr q hq)
  have hsz : H1.size = a + 2 := by rw [hPu_.1]; omega
  refine m_putF E hnm ho fw_X3_11 fp_X3_0 rfl rfl (Nat.le_of_ble_eq_true rfl) hL (by omega) ⟨_, _, rfl⟩ dX3_init_10 (fun H3 locs hL hO_ hF_ => ?_)
  have hn2 := hn2.kept (hF_.2 _ (by omega))
  have hsz : H3.size = a + 2 := hF_.1.trans hsz
  have hfr : ∀ q, q < a → H3[q]? = s.heap[q]? := fun q hq => (hF_.2 q (by omega)).trans (hfr q hq)
  have ho : Ob G (a) 3 [.ref (a + 1), .int (0), .int (0), .int (0), .int (0), .int (0), .int (0)] H3 := hO_
  clear hO_
  refine e_vret (rm := ({ frames := 1, cells := 1, slots := 20, locals := 24 } : Room)) E hL dX3_init_13 ⟨rfl, ?_⟩
  exact ⟨⟨ho, hn2⟩, by omega, hfr⟩

set_option maxHeartbeats 4000000 in
set_option maxRecDepth 100000 in
theorem c_X3_startAt (G : GG) (l : Launch) (a : Nat) (x y z : Int) (w : Nat → Int32) (t : Nat → Option Nat) (hga : G.2.2 ≤ a) : Ct G l yX3_startAt cX3_startAt 5 none ({ frames := 0, cells := 0, slots := 0, locals := 0 } : Room) [.ref (a), .int (iI (x)), .int (iI (y)), .int (iI (z))] (fun H => SesR G a w t H) (WV (fun H H1 => SesR G a (fun k => if k = 0 then iI 0 else if k = 1 then iI x else if k = 2 then iI (x + y) else if k = 3 then iI y else if k = 4 then iI z else iI 0) (fun _ => none) H1 ∧ FrS a (a + 2) H H1)) := by
  refine Ct.of (by decide +kernel) (Nat.le_of_ble_eq_true rfl) ?_
  intro p e s m args below meth c ls E hnm hP hl
  obtain ⟨ho, hr⟩ := hP
  have hS : FrS a (a + 2) s.heap s.heap := FrS.rf
  have hl : lv_has ls 5 [(0, .ref (a)), (1, .int (iI (x))), (2, .int (iI (y))), (3, .int (iI (z)))] := hl
  have hL : Lk G [] := Lk.nil
  generalize ([] : List Loc) = locs at hL ⊢
  refine lv_aload_n E.1 E.2.1 dX3_startAt_0 rfl (lv_at hl 0 rfl) ?_
  refine r_const E dX3_startAt_1 ?_
  refine m_put E ho fw_X3_17 fp_X3_1 rfl rfl (Nat.le_of_ble_eq_true rfl) hL (by omega) dX3_startAt_2 (fun H1 locs hL hO_ hF_ => ?_)
  have hr := hr.kept (hF_.2 _ (by omega))
  have hS := hS.trans (FrS.of1 (lo := a) (hi := a + 2) hF_ (by omega) (by omega))
  have ho : Ob G (a) 3 [.ref (a + 1), .int (iI (0)), .int (w 1), .int (w 2), .int (w 3), .int (w 4), .int (w 5)] H1 := hO_
  clear hO_
  refine lv_aload_n E.1 E.2.1 dX3_startAt_5 rfl (lv_at hl 0 rfl) ?_
  refine lv_iload_n E.1 E.2.1 dX3_startAt_6 rfl (lv_at hl 1 rfl) ?_
  refine m_put E ho fw_X3_21 fp_X3_2 rfl rfl (Nat.le_of_ble_eq_true rfl) hL (by omega) dX3_startAt_7 (fun H2 locs hL hO_ hF_ => ?_)
  have hr := hr.kept (hF_.2 _ (by omega))
  have hS := hS.trans (FrS.of1 (lo := a) (hi := a + 2) hF_ (by omega) (by omega))
  have ho : Ob G (a) 3 [.ref (a + 1), .int (iI (0)), .int (iI (x)), .int (w 2), .int (w 3), .int (w 4), .int (w 5)] H2 := hO_
  clear hO_
  refine lv_aload_n E.1 E.2.1 dX3_startAt_10 rfl (lv_at hl 0 rfl) ?_
  refine lv_iload_n E.1 E.2.1 dX3_startAt_11 rfl (lv_at hl 1 rfl) ?_
  refine lv_iload_n E.1 E.2.1 dX3_startAt_12 rfl (lv_at hl 2 rfl) ?_
  refine r_add E dX3_startAt_13 ?_
  refine m_put E ho fw_X3_24 fp_X3_3 rfl rfl (Nat.le_of_ble_eq_true rfl) hL (by omega) dX3_startAt_14 (fun H3 locs hL hO_ hF_ => ?_)
  have hr := hr.kept (hF_.2 _ (by omega))
  have hS := hS.trans (FrS.of1 (lo := a) (hi := a + 2) hF_ (by omega) (by omega))
  have ho : Ob G (a) 3 [.ref (a + 1), .int (iI (0)), .int (iI (x)), .int (iI (x + y)), .int (w 3), .int (w 4), .int (w 5)] H3 := hO_
  clear hO_
  refine lv_aload_n E.1 E.2.1 dX3_startAt_17 rfl (lv_at hl 0 rfl) ?_
  refine lv_iload_n E.1 E.2.1 dX3_startAt_18 rfl (lv_at hl 2 rfl) ?_
  refine m_put E ho fw_X3_27 fp_X3_4 rfl rfl (Nat.le_of_ble_eq_true rfl) hL (by omega) dX3_startAt_19 (fun H4 locs hL hO_ hF_ => ?_)
  have hr := hr.kept (hF_.2 _ (by omega))
  have hS := hS.trans (FrS.of1 (lo := a) (hi := a + 2) hF_ (by omega) (by omega))
  have ho : Ob G (a) 3 [.ref (a + 1), .int (iI (0)), .int (iI (x)), .int (iI (x + y)), .int (iI (y)), .int (w 4), .int (w 5)] H4 := hO_
  clear hO_
  refine lv_aload_n E.1 E.2.1 dX3_startAt_22 rfl (lv_at hl 0 rfl) ?_
  refine lv_iload_n E.1 E.2.1 dX3_startAt_23 rfl (lv_at hl 3 rfl) ?_
  refine m_put E ho fw_X3_30 fp_X3_5 rfl rfl (Nat.le_of_ble_eq_true rfl) hL (by omega) dX3_startAt_24 (fun H5 locs hL hO_ hF_ => ?_)
  have hr := hr.kept (hF_.2 _ (by omega))
  have hS := hS.trans (FrS.of1 (lo := a) (hi := a + 2) hF_ (by omega) (by omega))
  have ho : Ob G (a) 3 [.ref (a + 1), .int (iI (0)), .int (iI (x)), .int (iI (x + y)), .int (iI (y)), .int (iI (z)), .int (w 5)] H5 := hO_
  clear hO_
  refine lv_aload_n E.1 E.2.1 dX3_startAt_27 rfl (lv_at hl 0 rfl) ?_
  refine r_const E dX3_startAt_28 ?_
  refine m_put E ho fw_X3_33 fp_X3_6 rfl rfl (Nat.le_of_ble_eq_true rfl) hL (by omega) dX3_startAt_29 (fun H6 locs hL hO_ hF_ => ?_)
  have hr := hr.kept (hF_.2 _ (by omega))
  have hS := hS.trans (FrS.of1 (lo := a) (hi := a + 2) hF_ (by omega) (by omega))
  have ho : Ob G (a) 3 [.ref (a + 1), .int (iI (0)), .int (iI (x)), .int (iI (x + y)), .int (iI (y)), .int (iI (z)), .int (iI (0))] H6 := hO_
  clear hO_
  refine r_const E dX3_startAt_32 ?_
  refine lv_istore (lv' := [(4, .int (iI (0))), (0, .ref (a)), (1, .int (iI (x))), (2, .int (iI (y))), (3, .int (iI (z)))]) E.1 E.2.1 dX3_startAt_33 hl (by decide) rfl (fun ls hl => ?_)
  have LP35 : ∀ (kin35 : Nat) (n : Nat) (H : Heap) (ls : Array Slot) (locs : List Loc) (hn : n ≤ 20) (hr : Ra G (a + 1) 4 20 (fun j => if j < n then none else t j) H) (hq : FrS (a + 1) (a + 2) H6 H) (hkin35 : 20 - n = kin35) (hl : lv_has ls 5 [(4, .int (iI ((n : Int)))), (0, .ref (a))]) (hL : Lk G locs), W p l e ({ frames := 0, cells := 0, slots := 0, locals := 0 } : Room) s m args below meth c H locs 0 0 (QQ G below args s ({ frames := 0, cells := 0, slots := 0, locals := 0 } : Room) (WV (fun H H1 => SesR G a (fun k => if k = 0 then iI 0 else if k = 1 then iI x else if k = 2 then iI (x + y) else if k = 3 then iI y else if k = 4 then iI z else iI 0) (fun _ => none) H1 ∧ FrS a (a + 2) H H1))) (F0 m 35 ls []) := by
    intro kin35
    induction kin35 using Nat.strongRecOn with
    | ind kin35 ihin35 =>
      intro n H ls locs hn hr hq hkin35 hl hL
      have ho : Ob G (a) 3 [.ref (a + 1), .int (iI (0)), .int (iI (x)), .int (iI (x + y)), .int (iI (y)), .int (iI (z)), .int (iI (0))] H := ho.kept (hq.2 _ (by omega))
      refine lv_iload E.1 E.2.1 dX3_startAt_35 (lv_at hl 0 rfl) ?_
      refine r_bipush E dX3_startAt_37 (by decide) ?_
      refine r_icmp_ge (tgt := 56) E dX3_startAt_39 (by decide) (by omega) (by omega) (fun c39 => ?_) (fun c39 => ?_)
      · have hn20 : n = 20 := by omega
        subst hn20
        refine e_vret (rm := ({ frames := 0, cells := 0, slots := 0, locals := 0 } : Room)) E hL dX3_startAt_56 ⟨rfl, ?_⟩
        exact ⟨⟨ho, hr.to (fun j hj => by simp [hj])⟩, hS.trans (hq.wide (by omega) (by omega))⟩
      · refine lv_aload_n E.1 E.2.1 dX3_startAt_42 rfl (lv_at hl 1 rfl) ?_
        refine m_get E ho fw_X3_11 rfl dX3_startAt_43 ?_
        refine lv_iload E.1 E.2.1 dX3_startAt_46 (lv_at hl 0 rfl) ?_
        refine lv_null E.1 E.2.1 dX3_startAt_48 ?_
        refine r_aastQ (v := none) E hr rfl (fun _ h => by cases h) (show vwCl[4]? = some _ from rfl) (n) rfl (by omega) (by decide) hL (by omega) dX3_startAt_49 (fun H7 locs hL hO_ hF_ => ?_)
        have ho := ho.kept (hF_.2 _ (by omega))
        have hr : Ra G (a + 1) 4 20 (va_up (fun j => if j < n then none else t j) (n) (none)) H7 := hO_
        clear hO_
        refine r_inc (lv' := [(4, .int (iI ((n : Int) + 1))), (0, .ref (a))]) E dX3_startAt_50 hl (k := 0) rfl (by decide) rfl (fun ls hl => ?_)
        refine lv_goto (tgt := 35) E.1 E.2.1 dX3_startAt_53 (by decide) ?_
        refine ihin35 _ ?_ (n + 1) H7 ls locs ?_ ?_ ?_ rfl (lv_sub hl [0, 1] rfl) hL
        · omega
        · omega
        · refine hr.to (fun j hj => ?_)
          by_cases h1 : j = n
          · subst h1; simp [va_up]
          · have h2 : j < n + 1 ↔ j < n := by omega
            simp [va_up, h1, h2]
        · exact hq.trans (FrS.of1 hF_ (by omega) (by omega))
  refine LP35 _ 0 H6 ls locs ?_ ?_ ?_ rfl (lv_sub hl [0, 1] rfl) hL
  · decide
  · exact hr.to (fun j hj => by simp)
  · exact FrS.rf

set_option maxHeartbeats 4000000 in
set_option maxRecDepth 100000 in
theorem c_X3_copyTable (G : GG) (l : Launch) (a a2 fb : Nat) (w w2 : Nat → Int32) (t t2 : Nat → Option Nat) (hga : G.2.2 ≤ a) (hd : a2 + 2 ≤ a ∨ a + 2 ≤ a2) (hfb : a + 2 ≤ fb) : Ct G l yX3_copyTable cX3_copyTable 3 none ({ frames := 0, cells := 0, slots := 0, locals := 0 } : Room) [.ref (a), .ref (a2)] (fun H => SesR G a w t H ∧ SesR G a2 w2 t2 H ∧ TabF G fb t2 H) (WV (fun H H1 => SesR G a w t2 H1 ∧ FrS (a + 1) (a + 2) H H1)) := by
  refine Ct.of (by decide +kernel) (Nat.le_of_ble_eq_true rfl) ?_
  intro p e s m args below meth c ls E hnm hP hl
  obtain ⟨⟨ho, hr⟩, ⟨ho2, hr2⟩, hT⟩ := hP
  have hl : lv_has ls 3 [(0, .ref (a)), (1, .ref (a2))] := hl
  have hL : Lk G [] := Lk.nil
  generalize ([] : List Loc) = locs at hL ⊢
  refine r_const E dX3_copyTable_0 ?_
  refine lv_istore_n (lv' := [(2, .int (iI (0))), (0, .ref (a)), (1, .ref (a2))]) E.1 E.2.1 dX3_copyTable_1 rfl hl (by decide) rfl (fun ls hl => ?_)
  have LP2 : ∀ (kin2 : Nat) (n : Nat) (H : Heap) (ls : Array Slot) (locs : List Loc) (hn : n ≤ 20) (hr : Ra G (a + 1) 4 20 (fun j => if j < n then t2 j else t j) H) (hq : FrS (a + 1) (a + 2) s.heap H) (hkin2 : 20 - n = kin2) (hl : lv_has ls 3 [(2, .int (iI ((n : Int)))), (0, .ref (a)), (1, .ref (a2))]) (hL : Lk G locs), W p l e ({ frames := 0, cells := 0, slots := 0, locals := 0 } : Room) s m args below meth c H locs 0 0 (QQ G below args s ({ frames := 0, cells := 0, slots := 0, locals := 0 } : Room) (WV (fun H H1 => SesR G a w t2 H1 ∧ FrS (a + 1) (a + 2) H H1))) (F0 m 2 ls []) := by
    intro kin2
    induction kin2 using Nat.strongRecOn with
    | ind kin2 ihin2 =>
      intro n H ls locs hn hr hq hkin2 hl hL
      have ho := ho.kept (hq.2 _ (by omega))
      have ho2 := ho2.kept (hq.2 _ (by omega))
      have hr2 := hr2.kept (hq.2 _ (by omega))
      have hT : TabF G fb t2 H := hT.kept (fun q h1 h2 => hq.2 q (by omega))
      refine lv_iload_n E.1 E.2.1 dX3_copyTable_2 rfl (lv_at hl 0 rfl) ?_
      refine r_bipush E dX3_copyTable_3 (by decide) ?_
      refine r_icmp_ge (tgt := 26) E dX3_copyTable_5 (by decide) (by omega) (by omega) (fun c5 => ?_) (fun c5 => ?_)
      · have hn20 : n = 20 := by omega
        subst hn20
        refine e_vret (rm := ({ frames := 0, cells := 0, slots := 0, locals := 0 } : Room)) E hL dX3_copyTable_26 ⟨rfl, ?_⟩
        exact ⟨⟨ho, hr.to (fun j hj => by simp [hj])⟩, hq⟩
      · refine lv_aload_n E.1 E.2.1 dX3_copyTable_8 rfl (lv_at hl 1 rfl) ?_
        refine m_get E ho fw_X3_11 rfl dX3_copyTable_9 ?_
        refine lv_iload_n E.1 E.2.1 dX3_copyTable_12 rfl (lv_at hl 0 rfl) ?_
        refine lv_aload_n E.1 E.2.1 dX3_copyTable_13 rfl (lv_at hl 2 rfl) ?_
        refine m_get E ho2 fw_X3_11 rfl dX3_copyTable_14 ?_
        refine lv_iload_n E.1 E.2.1 dX3_copyTable_17 rfl (lv_at hl 0 rfl) ?_
        refine r_aald E hr2 rfl (n) rfl (by omega) (by decide) dX3_copyTable_18 ?_
        refine r_aastQ (v := t2 n) E hr rfl (fun x hx => (hT n (by omega) x hx).2) (show vwCl[4]? = some _ from rfl) (n) rfl (by omega) (by decide) hL (by omega) dX3_copyTable_19 (fun H1 locs hL hO_ hF_ => ?_)
        have ho := ho.kept (hF_.2 _ (by omega))
        have ho2 := ho2.kept (hF_.2 _ (by omega))
        have hr2 := hr2.kept (hF_.2 _ (by omega))
        have hr : Ra G (a + 1) 4 20 (va_up (fun j => if j < n then t2 j else t j) (n) (t2 n)) H1 := hO_
        clear hO_
        refine r_inc (lv' := [(2, .int (iI ((n : Int) + 1))), (0, .ref (a)), (1, .ref (a2))]) E dX3_copyTable_20 hl (k := 0) rfl (by decide) rfl (fun ls hl => ?_)
        refine lv_goto (tgt := 2) E.1 E.2.1 dX3_copyTable_23 (by decide) ?_
        refine ihin2 _ ?_ (n + 1) H1 ls locs ?_ ?_ ?_ rfl (lv_sub hl [0, 1, 2] rfl) hL
        · omega
        · omega
        · refine hr.to (fun j hj => ?_)
          by_cases h1 : j = n
          · subst h1; simp [va_up]
          · have h2 : j < n + 1 ↔ j < n := by omega
            simp [va_up, h1, h2]
        · exact hq.trans (FrS.of1 hF_ (by omega) (by omega))
  refine LP2 _ 0 s.heap ls locs ?_ ?_ ?_ rfl (lv_sub hl [0, 1, 2] rfl) hL
  · decide
  · exact hr.to (fun j hj => by simp)
  · exact FrS.rf

set_option maxHeartbeats 4000000 in
set_option maxRecDepth 100000 in
theorem c_X3_copyAll (G : GG) (l : Launch) (a a2 fb : Nat) (w w2 : Nat → Int32) (t t2 : Nat → Option Nat) (hga : G.2.2 ≤ a) (hd : a2 + 2 ≤ a ∨ a + 2 ≤ a2) (hfb : a + 2 ≤ fb) : Ct G l yX3_copyAll cX3_copyAll 2 none ({ frames := 1, cells := 0, slots := 0, locals := 22 } : Room) [.ref (a), .ref (a2)] (fun H => SesR G a w t H ∧ SesR G a2 w2 t2 H ∧ TabF G fb t2 H) (WV (fun H H1 => SesR G a w2 t2 H1 ∧ FrS a (a + 2) H H1)) := by
  refine Ct.of (by decide +kernel) (Nat.le_of_ble_eq_true rfl) ?_
  intro p e s m args below meth c ls E hnm hP hl
  obtain ⟨⟨ho, hr⟩, ⟨ho2, hr2⟩, hT⟩ := hP
  have hS : FrS a (a + 2) s.heap s.heap := FrS.rf
  have hl : lv_has ls 2 [(0, .ref (a)), (1, .ref (a2))] := hl
  have hL : Lk G [] := Lk.nil
  generalize ([] : List Loc) = locs at hL ⊢
  refine lv_aload_n E.1 E.2.1 dX3_copyAll_0 rfl (lv_at hl 0 rfl) ?_
  refine lv_aload_n E.1 E.2.1 dX3_copyAll_1 rfl (lv_at hl 1 rfl) ?_
  refine m_get E ho2 fw_X3_17 rfl dX3_copyAll_2 ?_
  refine m_put E ho fw_X3_17 fp_X3_1 rfl rfl (Nat.le_of_ble_eq_true rfl) hL (by omega) dX3_copyAll_5 (fun H1 locs hL hO_ hF_ => ?_)
  have ho2 := ho2.kept (hF_.2 _ (by omega))
  have hr := hr.kept (hF_.2 _ (by omega))
  have hr2 := hr2.kept (hF_.2 _ (by omega))
  have hS := hS.trans (FrS.of1 (lo := a) (hi := a + 2) hF_ (by omega) (by omega))
  have hT := hT.kept (fun q h1 h2 => hF_.2 q (by omega))
  have ho : Ob G (a) 3 [.ref (a + 1), .int (w2 0), .int (w 1), .int (w 2), .int (w 3), .int (w 4), .int (w 5)] H1 := hO_
  clear hO_
  refine lv_aload_n E.1 E.2.1 dX3_copyAll_8 rfl (lv_at hl 0 rfl) ?_
  refine lv_aload_n E.1 E.2.1 dX3_copyAll_9 rfl (lv_at hl 1 rfl) ?_
  refine m_get E ho2 fw_X3_21 rfl dX3_copyAll_10 ?_
  refine m_put E ho fw_X3_21 fp_X3_2 rfl rfl (Nat.le_of_ble_eq_true rfl) hL (by omega) dX3_copyAll_13 (fun H2 locs hL hO_ hF_ => ?_)
  have ho2 := ho2.kept (hF_.2 _ (by omega))
  have hr := hr.kept (hF_.2 _ (by omega))
  have hr2 := hr2.kept (hF_.2 _ (by omega))
  have hS := hS.trans (FrS.of1 (lo := a) (hi := a + 2) hF_ (by omega) (by omega))
  have hT := hT.kept (fun q h1 h2 => hF_.2 q (by omega))
  have ho : Ob G (a) 3 [.ref (a + 1), .int (w2 0), .int (w2 1), .int (w 2), .int (w 3), .int (w 4), .int (w 5)] H2 := hO_
  clear hO_
  refine lv_aload_n E.1 E.2.1 dX3_copyAll_16 rfl (lv_at hl 0 rfl) ?_
  refine lv_aload_n E.1 E.2.1 dX3_copyAll_17 rfl (lv_at hl 1 rfl) ?_
  refine m_get E ho2 fw_X3_24 rfl dX3_copyAll_18 ?_
  refine m_put E ho fw_X3_24 fp_X3_3 rfl rfl (Nat.le_of_ble_eq_true rfl) hL (by omega) dX3_copyAll_21 (fun H3 locs hL hO_ hF_ => ?_)
  have ho2 := ho2.kept (hF_.2 _ (by omega))
  have hr := hr.kept (hF_.2 _ (by omega))
  have hr2 := hr2.kept (hF_.2 _ (by omega))
  have hS := hS.trans (FrS.of1 (lo := a) (hi := a + 2) hF_ (by omega) (by omega))
  have hT := hT.kept (fun q h1 h2 => hF_.2 q (by omega))
  have ho : Ob G (a) 3 [.ref (a + 1), .int (w2 0), .int (w2 1), .int (w2 2), .int (w 3), .int (w 4), .int (w 5)] H3 := hO_
  clear hO_
  refine lv_aload_n E.1 E.2.1 dX3_copyAll_24 rfl (lv_at hl 0 rfl) ?_
  refine lv_aload_n E.1 E.2.1 dX3_copyAll_25 rfl (lv_at hl 1 rfl) ?_
  refine m_get E ho2 fw_X3_27 rfl dX3_copyAll_26 ?_
  refine m_put E ho fw_X3_27 fp_X3_4 rfl rfl (Nat.le_of_ble_eq_true rfl) hL (by omega) dX3_copyAll_29 (fun H4 locs hL hO_ hF_ => ?_)
  have ho2 := ho2.kept (hF_.2 _ (by omega))
  have hr := hr.kept (hF_.2 _ (by omega))
  have hr2 := hr2.kept (hF_.2 _ (by omega))
  have hS := hS.trans (FrS.of1 (lo := a) (hi := a + 2) hF_ (by omega) (by omega))
  have hT := hT.kept (fun q h1 h2 => hF_.2 q (by omega))
  have ho : Ob G (a) 3 [.ref (a + 1), .int (w2 0), .int (w2 1), .int (w2 2), .int (w2 3), .int (w 4), .int (w 5)] H4 := hO_
  clear hO_
  refine lv_aload_n E.1 E.2.1 dX3_copyAll_32 rfl (lv_at hl 0 rfl) ?_
  refine lv_aload_n E.1 E.2.1 dX3_copyAll_33 rfl (lv_at hl 1 rfl) ?_
  refine m_get E ho2 fw_X3_30 rfl dX3_copyAll_34 ?_
  refine m_put E ho fw_X3_30 fp_X3_5 rfl rfl (Nat.le_of_ble_eq_true rfl) hL (by omega) dX3_copyAll_37 (fun H5 locs hL hO_ hF_ => ?_)
  have ho2 := ho2.kept (hF_.2 _ (by omega))
  have hr := hr.kept (hF_.2 _ (by omega))
  have hr2 := hr2.kept (hF_.2 _ (by omega))
  have hS := hS.trans (FrS.of1 (lo := a) (hi := a + 2) hF_ (by omega) (by omega))
  have hT := hT.kept (fun q h1 h2 => hF_.2 q (by omega))
  have ho : Ob G (a) 3 [.ref (a + 1), .int (w2 0), .int (w2 1), .int (w2 2), .int (w2 3), .int (w2 4), .int (w 5)] H5 := hO_
  clear hO_
  refine lv_aload_n E.1 E.2.1 dX3_copyAll_40 rfl (lv_at hl 0 rfl) ?_
  refine lv_aload_n E.1 E.2.1 dX3_copyAll_41 rfl (lv_at hl 1 rfl) ?_
  refine m_get E ho2 fw_X3_33 rfl dX3_copyAll_42 ?_
  refine m_put E ho fw_X3_33 fp_X3_6 rfl rfl (Nat.le_of_ble_eq_true rfl) hL (by omega) dX3_copyAll_45 (fun H6 locs hL hO_ hF_ => ?_)
  have ho2 := ho2.kept (hF_.2 _ (by omega))
  have hr := hr.kept (hF_.2 _ (by omega))
  have hr2 := hr2.kept (hF_.2 _ (by omega))
  have hS := hS.trans (FrS.of1 (lo := a) (hi := a + 2) hF_ (by omega) (by omega))
  have hT := hT.kept (fun q h1 h2 => hF_.2 q (by omega))
  have ho : Ob G (a) 3 [.ref (a + 1), .int (w2 0), .int (w2 1), .int (w2 2), .int (w2 3), .int (w2 4), .int (w2 5)] H6 := hO_
  clear hO_
  refine lv_aload_n E.1 E.2.1 dX3_copyAll_48 rfl (lv_at hl 0 rfl) ?_
  refine lv_aload_n E.1 E.2.1 dX3_copyAll_49 rfl (lv_at hl 1 rfl) ?_
  refine kVWV (As := [.ref (a2)]) E cw_X3_36 (c_X3_copyTable G l a a2 fb w2 w2 t t2 hga hd hfb) ho ⟨_, _, rfl⟩ ⟨⟨ho, hr⟩, ⟨ho2, hr2⟩, hT⟩ hL hl.1 rfl rfl (Nat.le_of_ble_eq_true rfl) ⟨Nat.le_of_ble_eq_true rfl, Nat.le_of_ble_eq_true rfl⟩ ⟨Nat.le_of_ble_eq_true rfl, Nat.le_of_ble_eq_true rfl⟩ dX3_copyAll_50 (fun H7 locs hL hw_ => ?_)
  obtain ⟨⟨ho, hr⟩, hq⟩ := hw_
  have hS := hS.trans (hq.wide (lo' := a) (hi' := a + 2) (by omega) (by omega))
  refine e_vret (rm := ({ frames := 1, cells := 0, slots := 0, locals := 22 } : Room)) E hL dX3_copyAll_53 ⟨rfl, ?_⟩
  exact ⟨⟨ho, hr⟩, hS⟩

set_option maxHeartbeats 4000000 in
set_option maxRecDepth 100000 in
theorem c_X3_fileOf (G : GG) (l : Launch) (a : Nat) (x : Int) (w : Nat → Int32) (t : Nat → Option Nat) (hx : okI x) : Ct G l yX3_fileOf cX3_fileOf 2 (some (.object "WriteOnceDisc$StoredFile")) ({ frames := 1, cells := 0, slots := 0, locals := 20 } : Room) [.ref (a), .int (iI (x))] (fun H => SesR G a w t H) (QE (if 0 ≤ x ∧ x < 20 then t x.toNat else none)) := by
  refine Ct.of (by decide +kernel) (Nat.le_of_ble_eq_true rfl) ?_
  intro p e s m args below meth c ls E hnm hP hl
  obtain ⟨ho, hr⟩ := hP
  obtain ⟨hx1, hx2⟩ := hx
  have hl : lv_has ls 2 [(0, .ref (a)), (1, .int (iI (x)))] := hl
  have hL : Lk G [] := Lk.nil
  generalize ([] : List Loc) = locs at hL ⊢
  refine lv_iload_n E.1 E.2.1 dX3_fileOf_0 rfl (lv_at hl 1 rfl) ?_
  refine kSNRE (As := [.int (iI (x))]) E cw_X3_40 (c_X5_isName G l (x) (by unfold okI; omega)) trivial hL hl.1 rfl rfl (Nat.le_of_ble_eq_true rfl) ⟨Nat.le_of_ble_eq_true rfl, Nat.le_of_ble_eq_true rfl⟩ ⟨rfl, rfl⟩ ⟨Nat.le_of_ble_eq_true rfl, Nat.le_of_ble_eq_true rfl⟩ dX3_fileOf_1 (fun locs hL => ?_)
  refine r_bif_eq (tgt := 16) E dX3_fileOf_4 (by decide)  (fun c4 => ?_) (fun c4 => ?_)
  · have c4 := of_decide_eq_false c4
    refine lv_null E.1 E.2.1 dX3_fileOf_16 ?_
    refine e_aret (rm := ({ frames := 1, cells := 0, slots := 0, locals := 20 } : Room)) (r := none) E hL dX3_fileOf_17 ?_
    exact ⟨by rw [if_neg (by omega)], rfl⟩
  · have c4 := of_decide_eq_true c4
    refine lv_aload_n E.1 E.2.1 dX3_fileOf_7 rfl (lv_at hl 0 rfl) ?_
    refine m_get E ho fw_X3_11 rfl dX3_fileOf_8 ?_
    refine lv_iload_n E.1 E.2.1 dX3_fileOf_11 rfl (lv_at hl 1 rfl) ?_
    refine r_aald E hr rfl ((x).toNat) (by omega) (by omega) (by decide) dX3_fileOf_12 ?_
    refine lv_goto (tgt := 17) E.1 E.2.1 dX3_fileOf_13 (by decide) ?_
    refine e_aret (rm := ({ frames := 1, cells := 0, slots := 0, locals := 20 } : Room)) (r := t ((x).toNat)) E hL dX3_fileOf_17 ?_
    exact ⟨by rw [if_pos (by omega)], rfl⟩

set_option maxHeartbeats 4000000 in
set_option maxRecDepth 100000 in
theorem c_X3_putFile (G : GG) (l : Launch) (a : Nat) (x : Int) (q : Option Nat) (w : Nat → Int32) (t : Nat → Option Nat) (hga : G.2.2 ≤ a) (hx : 0 ≤ x ∧ x < 20) : Ct G l yX3_putFile cX3_putFile 3 none ({ frames := 1, cells := 0, slots := 0, locals := 20 } : Room) [.ref (a), .int (iI (x)), va_rf (q)] (fun H => SesR G a w t H ∧ ∀ y, q = some y → ∃ vs, Ob G y 4 vs H) (WV (fun H H1 => SesR G a w (va_up t x.toNat q) H1 ∧ FrS (a + 1) (a + 2) H H1)) := by
  refine Ct.of (by decide +kernel) (by cases q <;> exact Nat.le_of_ble_eq_true rfl) ?_
  intro p e s m args below meth c ls E hnm hP hl
  obtain ⟨⟨ho, hr⟩, hq⟩ := hP
  obtain ⟨hx1, hx2⟩ := hx
  have hL : Lk G [] := Lk.nil
  generalize ([] : List Loc) = locs at hL ⊢
  have hS : FrS (a + 1) (a + 2) s.heap s.heap := FrS.rf
  cases q with
  | none =>
    have hl : lv_has ls 3 [(0, .ref (a)), (1, .int (iI (x))), (2, .null)] := hl
    refine lv_iload_n E.1 E.2.1 dX3_putFile_0 rfl (lv_at hl 1 rfl) ?_
    refine kSNRE (As := [.int (iI (x))]) E cw_X3_40 (c_X5_isName G l (x) (by unfold okI; omega)) trivial hL hl.1 rfl rfl (Nat.le_of_ble_eq_true rfl) ⟨Nat.le_of_ble_eq_true rfl, Nat.le_of_ble_eq_true rfl⟩ ⟨rfl, rfl⟩ ⟨Nat.le_of_ble_eq_true rfl, Nat.le_of_ble_eq_true rfl⟩ dX3_putFile_1 (fun locs hL => ?_)
    refine r_bif_eq (tgt := 14) E dX3_putFile_4 (by decide)  (fun c4 => absurd (of_decide_eq_false c4) (by omega)) (fun c4 => ?_)
    refine lv_aload_n E.1 E.2.1 dX3_putFile_7 rfl (lv_at hl 0 rfl) ?_
    refine m_get E ho fw_X3_11 rfl dX3_putFile_8 ?_
    refine lv_iload_n E.1 E.2.1 dX3_putFile_11 rfl (lv_at hl 1 rfl) ?_
    refine lv_aload_nN E.1 E.2.1 dX3_putFile_12 rfl (lv_at hl 2 rfl) ?_
    refine r_aastQ (v := none) E hr rfl (fun _ h => by cases h) (show vwCl[4]? = some _ from rfl) ((x).toNat) (by omega) (by omega) (by decide) hL (by omega) dX3_putFile_13 (fun H1 locs hL hO_ hF_ => ?_)
    have ho := ho.kept (hF_.2 _ (by omega))
    have hS := hS.trans (FrS.of1 (lo := a + 1) (hi := a + 2) hF_ (by omega) (by omega))
    have hr : Ra G (a + 1) 4 20 (va_up (t) ((x).toNat) (none)) H1 := hO_
    clear hO_
    refine e_vret (rm := ({ frames := 1, cells := 0, slots := 0, locals := 20 } : Room)) E hL dX3_putFile_14 ⟨rfl, ?_⟩
    exact ⟨⟨ho, hr⟩, hS⟩
  | some y =>
    obtain ⟨vs, hy⟩ := hq y rfl
    have hl : lv_has ls 3 [(0, .ref (a)), (1, .int (iI (x))), (2, .ref (y))] := hl
    refine lv_iload_n E.1 E.2.1 dX3_putFile_0 rfl (lv_at hl 1 rfl) ?_
    refine kSNRE (As := [.int (iI (x))]) E cw_X3_40 (c_X5_isName G l (x) (by unfold okI; omega)) trivial hL hl.1 rfl rfl (Nat.le_of_ble_eq_true rfl) ⟨Nat.le_of_ble_eq_true rfl, Nat.le_of_ble_eq_true rfl⟩ ⟨rfl, rfl⟩ ⟨Nat.le_of_ble_eq_true rfl, Nat.le_of_ble_eq_true rfl⟩ dX3_putFile_1 (fun locs hL => ?_)
    refine r_bif_eq (tgt := 14) E dX3_putFile_4 (by decide)  (fun c4 => absurd (of_decide_eq_false c4) (by omega)) (fun c4 => ?_)
    refine lv_aload_n E.1 E.2.1 dX3_putFile_7 rfl (lv_at hl 0 rfl) ?_
    refine m_get E ho fw_X3_11 rfl dX3_putFile_8 ?_
    refine lv_iload_n E.1 E.2.1 dX3_putFile_11 rfl (lv_at hl 1 rfl) ?_
    refine lv_aload_n E.1 E.2.1 dX3_putFile_12 rfl (lv_at hl 2 rfl) ?_
    refine r_aastQ (v := some (y)) E hr rfl (fun _ h => by cases h; exact ⟨_, hy⟩) (show vwCl[4]? = some _ from rfl) ((x).toNat) (by omega) (by omega) (by decide) hL (by omega) dX3_putFile_13 (fun H1 locs hL hO_ hF_ => ?_)
    have ho := ho.kept (hF_.2 _ (by omega))
    have hS := hS.trans (FrS.of1 (lo := a + 1) (hi := a + 2) hF_ (by omega) (by omega))
    have hr : Ra G (a + 1) 4 20 (va_up (t) ((x).toNat) (some (y))) H1 := hO_
    clear hO_
    refine e_vret (rm := ({ frames := 1, cells := 0, slots := 0, locals := 20 } : Room)) E hL dX3_putFile_14 ⟨rfl, ?_⟩
    exact ⟨⟨ho, hr⟩, hS⟩

set_option maxHeartbeats 4000000 in
set_option maxRecDepth 100000 in
theorem c_X3_countEntries (G : GG) (l : Launch) (a : Nat) (w : Nat → Int32) (t : Nat → Option Nat) : Ct G l yX3_countEntries cX3_countEntries 3 (some .int) ({ frames := 0, cells := 0, slots := 0, locals := 0 } : Room) [.ref (a)] (fun H => SesR G a w t H) (RE (iI (cntB (fun k => (t k).isSome) 20))) := by
  refine Ct.of (by decide +kernel) (Nat.le_of_ble_eq_true rfl) ?_
  intro p e s m args below meth c ls E hnm hP hl
  obtain ⟨ho, hr⟩ := hP
  have hl : lv_has ls 3 [(0, .ref (a))] := hl
  have hL : Lk G [] := Lk.nil
  generalize ([] : List Loc) = locs at hL ⊢
  refine r_const E dX3_countEntries_0 ?_
  refine lv_istore_n (lv' := [(1, .int (iI (0))), (0, .ref (a))]) E.1 E.2.1 dX3_countEntries_1 rfl hl (by decide) rfl (fun ls hl => ?_)
  refine r_const E dX3_countEntries_2 ?_
  refine lv_istore_n (lv' := [(2, .int (iI (0))), (1, .int (iI (0))), (0, .ref (a))]) E.1 E.2.1 dX3_countEntries_3 rfl hl (by decide) rfl (fun ls hl => ?_)
  have LP4 : ∀ (kin4 : Nat) (n : Nat) (v : Int) (ls : Array Slot) (locs : List Loc) (hn : n ≤ 20) (hv : v = (cntB (fun k => (t k).isSome) n : Nat)) (hkin4 : 20 - n = kin4) (hl : lv_has ls 3 [(2, .int (iI ((n : Int)))), (1, .int (iI (v))), (0, .ref (a))]) (hL : Lk G locs), W p l e ({ frames := 0, cells := 0, slots := 0, locals := 0 } : Room) s m args below meth c s.heap locs 0 0 (QQ G below args s ({ frames := 0, cells := 0, slots := 0, locals := 0 } : Room) (RE (iI (cntB (fun k => (t k).isSome) 20)))) (F0 m 4 ls []) := by
    intro kin4
    induction kin4 using Nat.strongRecOn with
    | ind kin4 ihin4 =>
      intro n v ls locs hn hv hkin4 hl hL
      refine lv_iload_n E.1 E.2.1 dX3_countEntries_4 rfl (lv_at hl 0 rfl) ?_
      refine r_bipush E dX3_countEntries_5 (by decide) ?_
      refine r_icmp_ge (tgt := 28) E dX3_countEntries_7 (by decide) (by omega) (by omega) (fun c7 => ?_) (fun c7 => ?_)
      · refine lv_iload_n E.1 E.2.1 dX3_countEntries_28 rfl (lv_at hl 1 rfl) ?_
        refine e_iret (rm := ({ frames := 0, cells := 0, slots := 0, locals := 0 } : Room)) (v := iI (v)) E hL dX3_countEntries_29 ?_
        have hn20 : n = 20 := by omega
        subst hn20
        exact RE_i hv
      · refine lv_aload_n E.1 E.2.1 dX3_countEntries_10 rfl (lv_at hl 2 rfl) ?_
        refine m_get E ho fw_X3_11 rfl dX3_countEntries_11 ?_
        refine lv_iload_n E.1 E.2.1 dX3_countEntries_14 rfl (lv_at hl 0 rfl) ?_
        refine r_aald E hr rfl (n) rfl (by omega) (by decide) dX3_countEntries_15 ?_
        rcases htn : t n with _ | y
        · refine lv_ifnullN (tgt := 22) E.1 E.2.1 dX3_countEntries_16 (by decide) ?_
          refine r_inc (lv' := [(2, .int (iI ((n : Int) + 1))), (1, .int (iI (v))), (0, .ref (a))]) E dX3_countEntries_22 hl (k := 0) rfl (by decide) rfl (fun ls hl => ?_)
          refine lv_goto (tgt := 4) E.1 E.2.1 dX3_countEntries_25 (by decide) ?_
          refine ihin4 _ ?_ (n + 1) v ls locs ?_ ?_ rfl (lv_sub hl [0, 1, 2] rfl) hL
          · omega
          · omega
          · rw [hv]; simp [cntB, htn]
        · refine lv_ifnull E.1 E.2.1 dX3_countEntries_16 ?_
          refine r_inc (lv' := [(1, .int (iI (v + 1))), (2, .int (iI ((n : Int)))), (0, .ref (a))]) E dX3_countEntries_19 hl (k := 1) rfl (by decide) rfl (fun ls hl => ?_)
          refine r_inc (lv' := [(2, .int (iI ((n : Int) + 1))), (1, .int (iI (v + 1))), (0, .ref (a))]) E dX3_countEntries_22 hl (k := 1) rfl (by decide) rfl (fun ls hl => ?_)
          refine lv_goto (tgt := 4) E.1 E.2.1 dX3_countEntries_25 (by decide) ?_
          refine ihin4 _ ?_ (n + 1) (v + 1) ls locs ?_ ?_ rfl (lv_sub hl [0, 1, 2] rfl) hL
          · omega
          · omega
          · rw [hv]; simp [cntB, htn]
  refine LP4 _ 0 0 ls locs ?_ ?_ rfl (lv_sub hl [0, 1, 2] rfl) hL
  · decide
  · rfl

set_option maxHeartbeats 4000000 in
set_option maxRecDepth 100000 in
theorem c_X3_hasTaken (G : GG) (l : Launch) (a : Nat) (x : Int) (row : Nat → Nat) (hb : ∀ k, k < 5 → row k < 100000) (hx : 0 ≤ x ∧ x < 240) : Ct G l yX3_hasTaken cX3_hasTaken 2 (some .boolean) ({ frames := 0, cells := 0, slots := 0, locals := 0 } : Room) [.ref (a), .int (iI (x))] (fun H => Ob G a 3 [.ref (a + 1), .int (iI (row 0)), .int (iI (row 1)), .int (iI ((row 1 : Int) + (row 2 : Int))), .int (iI (row 3)), .int (iI (row 4)), .int (iI (row 5))] H) (RE (b2i (decide ((row 1 : Int) ≤ x ∧ x < row 1 + row 2)))) := by
  refine Ct.of (by decide +kernel) (Nat.le_of_ble_eq_true rfl) ?_
  intro p e s m args below meth c ls E hnm hP hl
  have ho := hP
  obtain ⟨hx1, hx2⟩ := hx
  have hb0 := hb 0 (by decide)
  have hb1 := hb 1 (by decide)
  have hb2 := hb 2 (by decide)
  have hb3 := hb 3 (by decide)
  have hb4 := hb 4 (by decide)
  have hl : lv_has ls 2 [(0, .ref (a)), (1, .int (iI (x)))] := hl
  have hL : Lk G [] := Lk.nil
  generalize ([] : List Loc) = locs at hL ⊢
  refine lv_iload_n E.1 E.2.1 dX3_hasTaken_0 rfl (lv_at hl 1 rfl) ?_
  refine lv_aload_n E.1 E.2.1 dX3_hasTaken_1 rfl (lv_at hl 0 rfl) ?_
  refine m_get E ho fw_X3_21 rfl dX3_hasTaken_2 ?_
  refine r_icmp_lt (tgt := 20) E dX3_hasTaken_5 (by decide) (by omega) (by omega) (fun c5 => ?_) (fun c5 => ?_)
  · refine r_const E dX3_hasTaken_20 ?_
    refine e_zret (rm := ({ frames := 0, cells := 0, slots := 0, locals := 0 } : Room)) (v := iI (0)) E hL rfl dX3_hasTaken_21 ?_
    exact RE_f (decide_eq_false (by omega))
  · refine lv_iload_n E.1 E.2.1 dX3_hasTaken_8 rfl (lv_at hl 1 rfl) ?_
    refine lv_aload_n E.1 E.2.1 dX3_hasTaken_9 rfl (lv_at hl 0 rfl) ?_
    refine m_get E ho fw_X3_24 rfl dX3_hasTaken_10 ?_
    refine r_icmp_ge (tgt := 20) E dX3_hasTaken_13 (by decide) (by omega) (by omega) (fun c13 => ?_) (fun c13 => ?_)
    · refine r_const E dX3_hasTaken_20 ?_
      refine e_zret (rm := ({ frames := 0, cells := 0, slots := 0, locals := 0 } : Room)) (v := iI (0)) E hL rfl dX3_hasTaken_21 ?_
      exact RE_f (decide_eq_false (by omega))
    · refine r_const E dX3_hasTaken_16 ?_
      refine lv_goto (tgt := 21) E.1 E.2.1 dX3_hasTaken_17 (by decide) ?_
      refine e_zret (rm := ({ frames := 0, cells := 0, slots := 0, locals := 0 } : Room)) (v := iI (1)) E hL rfl dX3_hasTaken_21 ?_
      exact RE_t (decide_eq_true (by omega))

set_option maxHeartbeats 4000000 in
set_option maxRecDepth 100000 in
theorem c_X3_useOf (G : GG) (l : Launch) (a : Nat) (x : Int) (row : Nat → Nat) (hb : ∀ k, k < 5 → row k < 100000) (hx : 0 ≤ x ∧ x < 240) : Ct G l yX3_useOf cX3_useOf 2 (some .int) ({ frames := 0, cells := 0, slots := 0, locals := 0 } : Room) [.ref (a), .int (iI (x))] (fun H => Ob G a 3 [.ref (a + 1), .int (iI (row 0)), .int (iI (row 1)), .int (iI ((row 1 : Int) + (row 2 : Int))), .int (iI (row 3)), .int (iI (row 4)), .int (iI (row 5))] H) (RE (iI (if x < row 1 + row 3 then 1 else if row 0 = 1 ∧ (row 1 : Int) + row 2 - row 4 ≤ x then 2 else 3))) := by
  refine Ct.of (by decide +kernel) (Nat.le_of_ble_eq_true rfl) ?_
  intro p e s m args below meth c ls E hnm hP hl
  have ho := hP
  obtain ⟨hx1, hx2⟩ := hx
  have hb0 := hb 0 (by decide)
  have hb1 := hb 1 (by decide)
  have hb2 := hb 2 (by decide)
  have hb3 := hb 3 (by decide)
  have hb4 := hb 4 (by decide)
  have hl : lv_has ls 2 [(0, .ref (a)), (1, .int (iI (x)))] := hl
  have hL : Lk G [] := Lk.nil
  generalize ([] : List Loc) = locs at hL ⊢
  refine lv_iload_n E.1 E.2.1 dX3_useOf_0 rfl (lv_at hl 1 rfl) ?_
  refine lv_aload_n E.1 E.2.1 dX3_useOf_1 rfl (lv_at hl 0 rfl) ?_
  refine m_get E ho fw_X3_21 rfl dX3_useOf_2 ?_
  refine lv_aload_n E.1 E.2.1 dX3_useOf_5 rfl (lv_at hl 0 rfl) ?_
  refine m_get E ho fw_X3_27 rfl dX3_useOf_6 ?_
  refine r_add E dX3_useOf_9 ?_
  refine r_icmp_ge (tgt := 15) E dX3_useOf_10 (by decide) (by omega) (by omega) (fun c10 => ?_) (fun c10 => ?_)
  · refine lv_aload_n E.1 E.2.1 dX3_useOf_15 rfl (lv_at hl 0 rfl) ?_
    refine m_get E ho fw_X3_17 rfl dX3_useOf_16 ?_
    refine r_const E dX3_useOf_19 ?_
    refine r_icmp_ne (tgt := 38) E dX3_useOf_20 (by decide) (by omega) (by omega) (fun c20 => ?_) (fun c20 => ?_)
    · refine r_const E dX3_useOf_38 ?_
      refine e_iret (rm := ({ frames := 0, cells := 0, slots := 0, locals := 0 } : Room)) (v := iI (3)) E hL dX3_useOf_39 ?_
      exact RE_i (by rw [if_neg (by omega), if_neg (by omega)])
    · refine lv_iload_n E.1 E.2.1 dX3_useOf_23 rfl (lv_at hl 1 rfl) ?_
      refine lv_aload_n E.1 E.2.1 dX3_useOf_24 rfl (lv_at hl 0 rfl) ?_
      refine m_get E ho fw_X3_24 rfl dX3_useOf_25 ?_
      refine lv_aload_n E.1 E.2.1 dX3_useOf_28 rfl (lv_at hl 0 rfl) ?_
      refine m_get E ho fw_X3_30 rfl dX3_useOf_29 ?_
      refine r_sub E dX3_useOf_32 ?_
      refine r_icmp_lt (tgt := 38) E dX3_useOf_33 (by decide) (by omega) (by omega) (fun c33 => ?_) (fun c33 => ?_)
      · refine r_const E dX3_useOf_38 ?_
        refine e_iret (rm := ({ frames := 0, cells := 0, slots := 0, locals := 0 } : Room)) (v := iI (3)) E hL dX3_useOf_39 ?_
        exact RE_i (by rw [if_neg (by omega), if_neg (by omega)])
      · refine r_const E dX3_useOf_36 ?_
        refine e_iret (rm := ({ frames := 0, cells := 0, slots := 0, locals := 0 } : Room)) (v := iI (2)) E hL dX3_useOf_37 ?_
        exact RE_i (by rw [if_neg (by omega), if_pos (by omega)])
  · refine r_const E dX3_useOf_13 ?_
    refine e_iret (rm := ({ frames := 0, cells := 0, slots := 0, locals := 0 } : Room)) (v := iI (1)) E hL dX3_useOf_14 ?_
    exact RE_i (by rw [if_pos (by omega)])

set_option maxHeartbeats 4000000 in
set_option maxRecDepth 100000 in
theorem c_X4_init (G : GG) (l : Launch) (a : Nat) (x y z : Int) (hga : G.2.2 ≤ a) : Ct G l yX4_init cX4_init 4 none ({ frames := 1, cells := 0, slots := 0, locals := 24 } : Room) [.ref (a), .int (iI (x)), .int (iI (y)), .int (iI (z))] (fun H => Ob G a 4 [.int 0, .int 0, .int 0] H) (WV (fun H H1 => Ob G a 4 [.int (iI x), .int (iI y), .int (iI z)] H1 ∧ FrS a (a + 1) H H1)) := by
  refine Ct.of (by decide +kernel) (Nat.le_of_ble_eq_true rfl) ?_
  intro p e s m args below meth c ls E hnm hP hl
  have ho := hP
  have hS : FrS a (a + 1) s.heap s.heap := FrS.rf
  have hl : lv_has ls 4 [(0, .ref (a)), (1, .int (iI (x))), (2, .int (iI (y))), (3, .int (iI (z)))] := hl
  have hL : Lk G [] := Lk.nil
  generalize ([] : List Loc) = locs at hL ⊢
  refine lv_aload_n E.1 E.2.1 dX4_init_0 rfl (lv_at hl 0 rfl) ?_
  refine m_objinit E oi_X4 hl.1 (Nat.le_of_ble_eq_true rfl) (Nat.le_of_ble_eq_true rfl) dX4_init_1 ?_
  refine lv_aload_n E.1 E.2.1 dX4_init_4 rfl (lv_at hl 0 rfl) ?_
  refine lv_iload_n E.1 E.2.1 dX4_init_5 rfl (lv_at hl 1 rfl) ?_
  refine m_putF E hnm ho fw_X4_7 fp_X4_0 rfl rfl (Nat.le_of_ble_eq_true rfl) hL (by omega) ⟨_, _, rfl⟩ dX4_init_6 (fun H1 locs hL hO_ hF_ => ?_)
  have hS := hS.trans (FrS.of1 (lo := a) (hi := a + 1) hF_ (by omega) (by omega))
  have ho : Ob G (a) 4 [.int (iI (x)), .int (0), .int (0)] H1 := hO_
  clear hO_
  refine lv_aload_n E.1 E.2.1 dX4_init_9 rfl (lv_at hl 0 rfl) ?_
  refine lv_iload_n E.1 E.2.1 dX4_init_10 rfl (lv_at hl 2 rfl) ?_
  refine m_putF E hnm ho fw_X4_13 fp_X4_1 rfl rfl (Nat.le_of_ble_eq_true rfl) hL (by omega) ⟨_, _, rfl⟩ dX4_init_11 (fun H2 locs hL hO_ hF_ => ?_)
  have hS := hS.trans (FrS.of1 (lo := a) (hi := a + 1) hF_ (by omega) (by omega))
  have ho : Ob G (a) 4 [.int (iI (x)), .int (iI (y)), .int (0)] H2 := hO_
  clear hO_
  refine lv_aload_n E.1 E.2.1 dX4_init_14 rfl (lv_at hl 0 rfl) ?_
  refine lv_iload_n E.1 E.2.1 dX4_init_15 rfl (lv_at hl 3 rfl) ?_
  refine m_putF E hnm ho fw_X4_16 fp_X4_2 rfl rfl (Nat.le_of_ble_eq_true rfl) hL (by omega) ⟨_, _, rfl⟩ dX4_init_16 (fun H3 locs hL hO_ hF_ => ?_)
  have hS := hS.trans (FrS.of1 (lo := a) (hi := a + 1) hF_ (by omega) (by omega))
  have ho : Ob G (a) 4 [.int (iI (x)), .int (iI (y)), .int (iI (z))] H3 := hO_
  clear hO_
  refine e_vret (rm := ({ frames := 1, cells := 0, slots := 0, locals := 24 } : Room)) E hL dX4_init_19 ⟨rfl, ?_⟩
  exact ⟨ho, hS⟩
