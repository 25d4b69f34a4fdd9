def sig0 : St := mkS 0 0 4 3 (fun _ => false) (fun _ => 0) (fun _ _ => 0) (fun _ _ => none)

set_option maxHeartbeats 4000000 in
set_option maxRecDepth 100000 in
theorem c_X1_init (G : GG) (l : Launch) (b : Nat) (fl : Nat → Option Fil) (hga : G.2.2 ≤ b) : Ct G l yX1_init cX1_init 2 none ({ frames := 2, cells := 28, slots := 598, locals := 44 } : Room) [.ref (b)] (fun H => Ob G b 1 [.null, .null, .null, .null, .int 0, .int 0, .int 0] H ∧ H.size = b + 1) (WV (fun H H1 => DiscAt G b fl sig0 H1 ∧ H1.size = b + 29 ∧ ∀ q, q < b → H1[q]? = H[q]?)) := by
  refine Ct.of (by decide +kernel) (Nat.le_of_ble_eq_true rfl) ?_
  intro p e s m args below meth c ls E hnm hP hl
  obtain ⟨ho, hsz⟩ := hP
  have hfr : ∀ q, q < b → s.heap[q]? = s.heap[q]? := fun _ _ => rfl
  have hl : lv_has ls 2 [(0, .ref (b))] := hl
  have hL : Lk G [] := Lk.nil
  generalize ([] : List Loc) = locs at hL ⊢
  refine lv_aload_n E.1 E.2.1 dX1_init_0 rfl (lv_at hl 0 rfl) ?_
  refine m_objinit E oi_X1 hl.1 (Nat.le_of_ble_eq_true rfl) (Nat.le_of_ble_eq_true rfl) dX1_init_1 ?_
  refine lv_aload_n E.1 E.2.1 dX1_init_4 rfl (lv_at hl 0 rfl) ?_
  refine r_bipush E dX1_init_5 (by decide) ?_
  refine m_newq (t := 3) (N := 12) E cl_X1_9 E.2.2.2.2.2.2.2.2.1.1 rfl (by decide) (by decide) (by decide) (Nat.le_of_ble_eq_true rfl) (Nat.le_of_ble_eq_true rfl) dX1_init_7 (fun H1 hn2 hPu_ => ?_)
  rw [hsz] at hn2
  rw [hsz]
  have ho := ho.kept (hPu_.2 _ (by omega))
  have hfr : ∀ q, q < b → H1[q]? = s.heap[q]? := fun q hq => (hPu_.2 q (by omega)).trans (hfr q hq)
  have hsz : H1.size = b + 2 := by rw [hPu_.1]; omega
  refine m_putF E hnm ho fw_X1_11 fp_X1_0 rfl rfl (Nat.le_of_ble_eq_true rfl) hL (by omega) ⟨_, _, rfl⟩ dX1_init_10 (fun H3 locs hL hO_ hF_ => ?_)
  have hn2 := hn2.kept (hF_.2 _ (by omega))
  have hsz : H3.size = b + 2 := hF_.1.trans hsz
  have hfr : ∀ q, q < b → H3[q]? = s.heap[q]? := fun q hq => (hF_.2 q (by omega)).trans (hfr q hq)
  have ho : Ob G (b) 1 [.ref (b + 1), .null, .null, .null, .int (0), .int (0), .int (0)] H3 := hO_
  clear hO_
  refine lv_aload_n E.1 E.2.1 dX1_init_13 rfl (lv_at hl 0 rfl) ?_
  refine r_sipush E dX1_init_14 (by decide) ?_
  refine m_newi (atype := .boolean) (t := 1) (N := 240) E ac_boolean rfl rfl (fun _ _ => rfl) (by decide) (by decide) (by decide) (Nat.le_of_ble_eq_true rfl) (Nat.le_of_ble_eq_true rfl) dX1_init_17 (fun H4 hn5 hPu_ => ?_)
  rw [hsz] at hn5
  rw [hsz]
  have ho := ho.kept (hPu_.2 _ (by omega))
  have hn2 := hn2.kept (hPu_.2 _ (by omega))
  have hfr : ∀ q, q < b → H4[q]? = s.heap[q]? := fun q hq => (hPu_.2 q (by omega)).trans (hfr q hq)
  have hsz : H4.size = b + 3 := by rw [hPu_.1]; omega
  refine m_putF E hnm ho fw_X1_17 fp_X1_1 rfl rfl (Nat.le_of_ble_eq_true rfl) hL (by omega) ⟨_, _, rfl⟩ dX1_init_19 (fun H6 locs hL hO_ hF_ => ?_)
  have hn2 := hn2.kept (hF_.2 _ (by omega))
  have hn5 := hn5.kept (hF_.2 _ (by omega))
  have hsz : H6.size = b + 3 := hF_.1.trans hsz
  have hfr : ∀ q, q < b → H6[q]? = s.heap[q]? := fun q hq => (hF_.2 q (by omega)).trans (hfr q hq)
  have ho : Ob G (b) 1 [.ref (b + 1), .ref (b + 2), .null, .null, .int (0), .int (0), .int (0)] H6 := hO_
  clear hO_
  refine lv_aload_n E.1 E.2.1 dX1_init_22 rfl (lv_at hl 0 rfl) ?_
  refine r_bipush E dX1_init_23 (by decide) ?_
  refine m_newi (atype := .int) (t := 0) (N := 20) E ac_int rfl rfl (fun _ _ => rfl) (by decide) (by decide) (by decide) (Nat.le_of_ble_eq_true rfl) (Nat.le_of_ble_eq_true rfl) dX1_init_25 (fun H7 hn8 hPu_ => ?_)
  rw [hsz] at hn8
  rw [hsz]
  have ho := ho.kept (hPu_.2 _ (by omega))
  have hn2 := hn2.kept (hPu_.2 _ (by omega))
  have hn5 := hn5.kept (hPu_.2 _ (by omega))
  have hfr : ∀ q, q < b → H7[q]? = s.heap[q]? := fun q hq => (hPu_.2 q (by omega)).trans (hfr q hq)
  have hsz : H7.size = b + 4 := by rw [hPu_.1]; omega
  refine m_putF E hnm ho fw_X1_21 fp_X1_2 rfl rfl (Nat.le_of_ble_eq_true rfl) hL (by omega) ⟨_, _, rfl⟩ dX1_init_27 (fun H9 locs hL hO_ hF_ => ?_)
  have hn2 := hn2.kept (hF_.2 _ (by omega))
  have hn5 := hn5.kept (hF_.2 _ (by omega))
  have hn8 := hn8.kept (hF_.2 _ (by omega))
  have hsz : H9.size = b + 4 := hF_.1.trans hsz
  have hfr : ∀ q, q < b → H9[q]? = s.heap[q]? := fun q hq => (hF_.2 q (by omega)).trans (hfr q hq)
  have ho : Ob G (b) 1 [.ref (b + 1), .ref (b + 2), .ref (b + 3), .null, .int (0), .int (0), .int (0)] H9 := hO_
  clear hO_
  refine lv_aload_n E.1 E.2.1 dX1_init_30 rfl (lv_at hl 0 rfl) ?_
  refine r_const E dX1_init_31 ?_
  refine m_newi (atype := .int) (t := 0) (N := 2) E ac_int rfl rfl (fun _ _ => rfl) (by decide) (by decide) (by decide) (Nat.le_of_ble_eq_true rfl) (Nat.le_of_ble_eq_true rfl) dX1_init_32 (fun H10 hn11 hPu_ => ?_)
  rw [hsz] at hn11
  rw [hsz]
  have ho := ho.kept (hPu_.2 _ (by omega))
  have hn2 := hn2.kept (hPu_.2 _ (by omega))
  have hn5 := hn5.kept (hPu_.2 _ (by omega))
  have hn8 := hn8.kept (hPu_.2 _ (by omega))
  have hfr : ∀ q, q < b → H10[q]? = s.heap[q]? := fun q hq => (hPu_.2 q (by omega)).trans (hfr q hq)
  have hsz : H10.size = b + 5 := by rw [hPu_.1]; omega
  refine m_putF E hnm ho fw_X1_25 fp_X1_3 rfl rfl (Nat.le_of_ble_eq_true rfl) hL (by omega) ⟨_, _, rfl⟩ dX1_init_34 (fun H12 locs hL hO_ hF_ => ?_)
  have hn2 := hn2.kept (hF_.2 _ (by omega))
  have hn5 := hn5.kept (hF_.2 _ (by omega))
  have hn8 := hn8.kept (hF_.2 _ (by omega))
  have hn11 := hn11.kept (hF_.2 _ (by omega))
  have hsz : H12.size = b + 5 := hF_.1.trans hsz
  have hfr : ∀ q, q < b → H12[q]? = s.heap[q]? := fun q hq => (hF_.2 q (by omega)).trans (hfr q hq)
  have ho : Ob G (b) 1 [.ref (b + 1), .ref (b + 2), .ref (b + 3), .ref (b + 4), .int (0), .int (0), .int (0)] H12 := hO_
  clear hO_
  refine lv_aload_n E.1 E.2.1 dX1_init_37 rfl (lv_at hl 0 rfl) ?_
  refine m_get E ho fw_X1_25 rfl dX1_init_38 ?_
  refine r_const E dX1_init_41 ?_
  refine r_const E dX1_init_42 ?_
  refine r_iast E hn11 (0) rfl (by decide) (by decide) hL (by omega) dX1_init_43 (fun H13 locs hL hO_ hF_ => ?_)
  have ho := ho.kept (hF_.2 _ (by omega))
  have hn2 := hn2.kept (hF_.2 _ (by omega))
  have hn5 := hn5.kept (hF_.2 _ (by omega))
  have hn8 := hn8.kept (hF_.2 _ (by omega))
  have hsz : H13.size = b + 5 := hF_.1.trans hsz
  have hfr : ∀ q, q < b → H13[q]? = s.heap[q]? := fun q hq => (hF_.2 q (by omega)).trans (hfr q hq)
  have hn11 : Ia G (b + 4) 0 2 (upd (fun _ => 0) (0) (iI (4))) H13 := hO_
  clear hO_
  refine lv_aload_n E.1 E.2.1 dX1_init_44 rfl (lv_at hl 0 rfl) ?_
  refine m_get E ho fw_X1_25 rfl dX1_init_45 ?_
  refine r_const E dX1_init_48 ?_
  refine r_const E dX1_init_49 ?_
  refine r_iast E hn11 (1) rfl (by decide) (by decide) hL (by omega) dX1_init_50 (fun H14 locs hL hO_ hF_ => ?_)
  have ho := ho.kept (hF_.2 _ (by omega))
  have hn2 := hn2.kept (hF_.2 _ (by omega))
  have hn5 := hn5.kept (hF_.2 _ (by omega))
  have hn8 := hn8.kept (hF_.2 _ (by omega))
  have hsz : H14.size = b + 5 := hF_.1.trans hsz
  have hfr : ∀ q, q < b → H14[q]? = s.heap[q]? := fun q hq => (hF_.2 q (by omega)).trans (hfr q hq)
  have hn11 : Ia G (b + 4) 0 2 (upd (upd (fun _ => 0) (0) (iI (4))) (1) (iI (3))) H14 := hO_
  clear hO_
  refine r_const E dX1_init_51 ?_
  refine lv_istore_n (lv' := [(1, .int (iI (0))), (0, .ref (b))]) E.1 E.2.1 dX1_init_52 rfl hl (by decide) rfl (fun ls hl => ?_)
  have LP53 : ∀ (kin53 : Nat) (k : Nat) (H : Heap) (u : Int) (ls : Array Slot) (locs : List Loc) (hk : k ≤ 12) (hu : u = (k : Int)) (hb0 : Ob G b 1 [.ref (b + 1), .ref (b + 2), .ref (b + 3), .ref (b + 4), .int 0, .int 0, .int 0] H) (hb1 : Ra G (b + 1) 3 12 (fun j => if j < k then some (b + 5 + 2 * j) else none) H) (hb2 : Ia G (b + 2) 1 240 (fun _ => 0) H) (hb3 : Ia G (b + 3) 0 20 (fun _ => 0) H) (hb4 : Ia G (b + 4) 0 2 (upd (upd (fun _ => 0) (0) (iI (4))) (1) (iI (3))) H) (hS : ∀ n, n < k → SesR G (b + 5 + 2 * n) (fun _ => 0) (fun _ => none) H) (hsz : H.size = b + 5 + 2 * k) (hfr : ∀ q, q < b → H[q]? = s.heap[q]?) (hkin53 : 12 - k = kin53) (hl : lv_has ls 2 [(1, .int (iI (u))), (0, .ref (b))]) (hL : Lk G locs), W p l e ({ frames := 2, cells := 28, slots := 598, locals := 44 } : Room) s m args below meth c H locs (4 + 2 * k) (274 + 27 * k) (QQ G below args s ({ frames := 2, cells := 28, slots := 598, locals := 44 } : Room) (WV (fun H H1 => DiscAt G b fl sig0 H1 ∧ H1.size = b + 29 ∧ ∀ q, q < b → H1[q]? = H[q]?))) (F0 m 53 ls []) := by
    intro kin53
    induction kin53 using Nat.strongRecOn with
    | ind kin53 ihin53 =>
      intro k H u ls locs hk hu hb0 hb1 hb2 hb3 hb4 hS hsz hfr hkin53 hl hL
      refine lv_iload_n E.1 E.2.1 dX1_init_53 rfl (lv_at hl 0 rfl) ?_
      refine r_bipush E dX1_init_54 (by decide) ?_
      refine r_icmp_ge (tgt := 78) E dX1_init_56 (by decide) (by omega) (by omega) (fun c56 => ?_) (fun c56 => ?_)
      · have hk12 : k = 12 := by omega
        subst hk12
        refine e_vret (rm := ({ frames := 2, cells := 28, slots := 598, locals := 44 } : Room)) E hL dX1_init_78 ⟨rfl, ?_⟩
        refine ⟨?_, by omega, hfr⟩
        refine ⟨hb0, hb1.to (fun j hj => by simp [hj]), hb2.to (fun j _ => rfl), hb3.to (fun j _ => rfl), hb4.to (fun j hj => ?_), fun n hn => ⟨fun _ => 0, fun _ => none, (hS n hn).1, (hS n hn).2⟩, fun n hn _ => absurd hn (Nat.not_lt_zero n)⟩
        rcases (show j = 0 ∨ j = 1 by omega) with rfl | rfl <;> rfl
      · subst hu
        refine lv_aload_n E.1 E.2.1 dX1_init_59 rfl (lv_at hl 1 rfl) ?_
        refine m_get E hb0 fw_X1_11 rfl dX1_init_60 ?_
        refine lv_iload_n E.1 E.2.1 dX1_init_63 rfl (lv_at hl 0 rfl) ?_
        refine m_new E nw_X1_9 (by show 4 + 2 * k + 1 ≤ 28; omega) (by show 274 + 27 * k + 7 ≤ 598; omega) dX1_init_64 (fun H15 hn16 hPu_ => ?_)
        rw [hsz] at hn16
        rw [hsz]
        have hb0 := hb0.kept (hPu_.2 _ (by omega))
        have hb1 := hb1.kept (hPu_.2 _ (by omega))
        have hb2 := hb2.kept (hPu_.2 _ (by omega))
        have hb3 := hb3.kept (hPu_.2 _ (by omega))
        have hb4 := hb4.kept (hPu_.2 _ (by omega))
        have hfr : ∀ q, q < b → H15[q]? = s.heap[q]? := fun q hq => (hPu_.2 q (by omega)).trans (hfr q hq)
        have hS : ∀ n, n < k → SesR G (b + 5 + 2 * n) (fun _ => 0) (fun _ => none) H15 := fun n hn => (hS n hn).kept (hPu_.2 _ (by omega)) (hPu_.2 _ (by omega))
        have hsz : H15.size = b + 5 + 2 * k + 1 := by rw [hPu_.1]; omega
        refine lv_dup E.1 E.2.1 dX1_init_67 rfl ?_
        refine kINWV (As := []) E cw_X1_28 (c_X3_init G l (b + 5 + 2 * k) (by omega)) ⟨hn16, by omega⟩ hL hl.1 rfl rfl (Nat.le_of_ble_eq_true rfl) ⟨Nat.le_of_ble_eq_true rfl, Nat.le_of_ble_eq_true rfl⟩ ⟨by show 4 + 2 * k + 1 + 1 ≤ 28; omega, by show 274 + 27 * k + 7 + 20 ≤ 598; omega⟩ dX1_init_68 (fun H17 locs hL hw_ => ?_)
        obtain ⟨hse, hz, hq⟩ := hw_
        have hb0 := hb0.kept (hq _ (by omega))
        have hb1 := hb1.kept (hq _ (by omega))
        have hb2 := hb2.kept (hq _ (by omega))
        have hb3 := hb3.kept (hq _ (by omega))
        have hb4 := hb4.kept (hq _ (by omega))
        have hS : ∀ n, n < k → SesR G (b + 5 + 2 * n) (fun _ => 0) (fun _ => none) H17 := fun n hn => (hS n hn).kept (hq _ (by omega)) (hq _ (by omega))
        have hfr : ∀ q, q < b → H17[q]? = s.heap[q]? := fun q h9 => (hq q (by omega)).trans (hfr q h9)
        have hsz : H17.size = b + 5 + 2 * (k + 1) := by omega
        refine W.cs (cells' := 4 + 2 * (k + 1)) (slots' := 274 + 27 * (k + 1)) (by show 4 + 2 * k + 1 + 1 = _; omega) (by show 274 + 27 * k + 7 + 20 = _; omega) ?_
        refine r_aastQ (v := some (b + 5 + 2 * k)) E hb1 rfl (fun _ h => by cases h; exact ⟨_, hse.1⟩) (show vwCl[3]? = some _ from rfl) (k) rfl (by omega) (by decide) hL (by omega) dX1_init_71 (fun H18 locs hL hO_ hF_ => ?_)
        have hb0 := hb0.kept (hF_.2 _ (by omega))
        have hb2 := hb2.kept (hF_.2 _ (by omega))
        have hb3 := hb3.kept (hF_.2 _ (by omega))
        have hb4 := hb4.kept (hF_.2 _ (by omega))
        have hsz : H18.size = b + 5 + 2 * (k + 1) := hF_.1.trans hsz
        have hfr : ∀ q, q < b → H18[q]? = s.heap[q]? := fun q hq => (hF_.2 q (by omega)).trans (hfr q hq)
        have hS : ∀ n, n < k → SesR G (b + 5 + 2 * n) (fun _ => 0) (fun _ => none) H18 := fun n hn => (hS n hn).kept (hF_.2 _ (by omega)) (hF_.2 _ (by omega))
        have hse := hse.kept (hF_.2 _ (by omega)) (hF_.2 _ (by omega))
        have hb1 : Ra G (b + 1) 3 12 (va_up (fun j => if j < k then some (b + 5 + 2 * j) else none) (k) (some (b + 5 + 2 * k))) H18 := hO_
        clear hO_
        refine r_inc (lv' := [(1, .int (iI ((k : Int) + 1))), (0, .ref (b))]) E dX1_init_72 hl (k := 0) rfl (by decide) rfl (fun ls hl => ?_)
        refine lv_goto (tgt := 53) E.1 E.2.1 dX1_init_75 (by decide) ?_
        refine ihin53 _ ?_ (k + 1) H18 ((k : Int) + 1) ls locs ?_ ?_ ?_ ?_ ?_ ?_ ?_ ?_ ?_ ?_ rfl (lv_sub hl [0, 1] rfl) hL
        · omega
        · omega
        · omega
        · exact hb0
        · refine hb1.to (fun j hj => ?_)
          by_cases h1 : j = k
          · subst h1; simp [va_up]
          · have h2 : j < k + 1 ↔ j < k := by omega
            simp [va_up, h1, h2]
        · exact hb2
        · exact hb3
        · exact hb4
        · intro n hn
          by_cases h1 : n = k
          · subst h1; exact hse
          · exact hS n (by omega)
        · omega
        · exact hfr
  refine LP53 _ 0 H14 0 ls locs ?_ ?_ ?_ ?_ ?_ ?_ ?_ ?_ ?_ ?_ rfl (lv_sub hl [0, 1] rfl) hL
  · omega
  · rfl
  · exact ho
  · exact hn2.to (fun j hj => by simp)
  · exact hn5
  · exact hn8
  · exact hn11
  · exact fun n hn => absurd hn (Nat.not_lt_zero n)
  · omega
  · exact hfr
