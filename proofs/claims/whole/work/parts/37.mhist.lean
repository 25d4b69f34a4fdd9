def PastOk (pf : Nat → Int32) (hs : List St) : Prop := hs.length ≤ 4 ∧ ∀ i τ, hs[i]? = some τ → ∀ j, j < 344 → pf (344 * i + j) = encI τ j
theorem PastOk.shift {pf : Nat → Int32} {hs : List St} (h : PastOk pf hs) (h4 : hs.length = 4) : PastOk (fun j => if j < 1032 then pf (j + 344) else pf j) hs.tail := by
  refine ⟨by rw [List.length_tail]; omega, fun i τ hi j hj => ?_⟩
  have hl : i < hs.tail.length := (List.getElem?_eq_some_iff.mp hi).1
  rw [List.length_tail] at hl
  rw [List.getElem?_tail] at hi
  have h9 := h.2 (i + 1) τ hi j hj
  show (if 344 * i + j < 1032 then pf (344 * i + j + 344) else pf (344 * i + j)) = _
  rw [if_pos (by omega), show 344 * i + j + 344 = 344 * (i + 1) + j by omega]
  exact h9
theorem PastOk.push {pf : Nat → Int32} {hs : List St} {β : St} (h : PastOk pf hs) (h4 : hs.length < 4) : PastOk (fun j => if 344 * hs.length ≤ j ∧ j < 344 * hs.length + 344 then encI β (0 + (j - 344 * hs.length)) else pf j) (hs ++ [β]) := by
  refine ⟨by rw [List.length_append]; show hs.length + 1 ≤ 4; omega, fun i τ hi j hj => ?_⟩
  by_cases hc : i < hs.length
  · rw [List.getElem?_append_left hc] at hi
    show (if 344 * hs.length ≤ 344 * i + j ∧ 344 * i + j < 344 * hs.length + 344 then _ else _) = _
    rw [if_neg (by omega)]
    exact h.2 i τ hi j hj
  · have hl : i < (hs ++ [β]).length := (List.getElem?_eq_some_iff.mp hi).1
    rw [List.length_append] at hl
    have hl2 : i < hs.length + 1 := hl
    have he : i = hs.length := by omega
    subst he
    rw [List.getElem?_append_right (Nat.le_refl _), Nat.sub_self] at hi
    cases hi
    show (if 344 * hs.length ≤ 344 * hs.length + j ∧ 344 * hs.length + j < 344 * hs.length + 344 then _ else _) = _
    rw [if_pos (by omega), show 0 + (344 * hs.length + j - 344 * hs.length) = j by omega]
theorem PastOk.drop {pf : Nat → Int32} {hs : List St} (h : PastOk pf hs) : PastOk pf hs.dropLast := by
  refine ⟨by rw [List.length_dropLast]; have := h.1; omega, fun i τ hi j hj => ?_⟩
  have hl : i < hs.dropLast.length := (List.getElem?_eq_some_iff.mp hi).1
  rw [List.length_dropLast] at hl
  rw [List.dropLast_eq_take, List.getElem?_take_of_lt hl] at hi
  exact h.2 i τ hi j hj
theorem PastOk.last {pf : Nat → Int32} {hs : List St} {σ : St} (h : PastOk pf hs) (hne : ¬ hs = []) : ∀ j, j < 344 → pf (344 * hs.dropLast.length + j) = encI (hs.getLast?.getD σ) j := by
  intro j hj
  have hp : 0 < hs.length := List.length_pos_iff.mpr hne
  rw [List.length_dropLast]
  refine h.2 _ _ ?_ j hj
  rw [List.getLast?_eq_getElem?]
  have hl : hs.length - 1 < hs.length := by omega
  rw [List.getElem?_eq_getElem hl]
  rfl
/-- nothing but the cells g and g + 3 has changed -/
def Fr2 (g : Nat) (H H1 : Heap) : Prop := H1.size = H.size ∧ ∀ q, ¬ (q = g ∨ q = g + 3) → H1[q]? = H[q]?
theorem Fr2.rf {g : Nat} {H : Heap} : Fr2 g H H := ⟨rfl, fun _ _ => rfl⟩
theorem Fr2.trans {g : Nat} {H H1 H2 : Heap} (h1 : Fr2 g H H1) (h2 : Fr2 g H1 H2) : Fr2 g H H2 := ⟨h2.1.trans h1.1, fun q ho => (h2.2 q ho).trans (h1.2 q ho)⟩
theorem Fr2.of1 {g a : Nat} {H H1 : Heap} (h : Fr1 a H H1) (ha : a = g ∨ a = g + 3) : Fr2 g H H1 := ⟨h.1, fun q ho => h.2 q (fun e => ho (e ▸ ha))⟩
theorem Fr2.ofS {g : Nat} {H H1 : Heap} (h : FrS (g + 3) (g + 3 + 1) H H1) : Fr2 g H H1 := ⟨h.1, fun q ho => h.2 q (by omega)⟩
theorem Fr2.S {g : Nat} {H H1 : Heap} (h : Fr2 g H H1) : FrS g (g + 5) H H1 := ⟨h.1, fun q ho => h.2 q (by omega)⟩
set_option maxHeartbeats 4000000 in
set_option maxRecDepth 100000 in
theorem c_X6_copies (G : GG) (l : Launch) (aa bb N M pa qa : Nat) (f0 h0 : Nat → Int32) (hab : ¬ aa = bb) (hN : N < 100000) (hM : M < 100000) (hpa : pa + 344 ≤ N) (hqa : qa + 344 ≤ M) (hgb : G.2.2 ≤ bb) : Ct G l yX6_copies cX6_copies 5 none ({ frames := 0, cells := 0, slots := 0, locals := 0 } : Room) [.ref (aa), .int (iI ((pa : Int))), .ref (bb), .int (iI ((qa : Int)))] (fun H => Ia G aa 0 N f0 H ∧ Ia G bb 0 M h0 H) (WV (fun H H1 => Ia G bb 0 M (fun j => if qa ≤ j ∧ j < qa + 344 then f0 (pa + (j - qa)) else h0 j) H1 ∧ FrS bb (bb + 1) H H1)) := by
  refine Ct.of (by decide +kernel) (Nat.le_of_ble_eq_true rfl) ?_
  intro p e s m args below meth c ls E hnm hP hl
  obtain ⟨hA, hB⟩ := hP
  have hS : FrS bb (bb + 1) s.heap s.heap := FrS.rf
  have hl : lv_has ls 5 [(0, .ref (aa)), (1, .int (iI ((pa : Int)))), (2, .ref (bb)), (3, .int (iI ((qa : Int))))] := hl
  have hL : Lk G [] := Lk.nil
  generalize ([] : List Loc) = locs at hL ⊢
  refine r_const E dX6_copies_0 ?_
  refine lv_istore (lv' := [(4, .int (iI (0))), (0, .ref (aa)), (1, .int (iI ((pa : Int)))), (2, .ref (bb)), (3, .int (iI ((qa : Int))))]) E.1 E.2.1 dX6_copies_1 hl (by decide) rfl (fun ls hl => ?_)
  have LP3 : ∀ (kin3 : Nat) (k : Nat) (H : Heap) (u : Int) (ls : Array Slot) (locs : List Loc) (hk : k ≤ 344) (hu : u = (k : Int)) (hA : Ia G aa 0 N f0 H) (hB : Ia G bb 0 M (fun j => if qa ≤ j ∧ j < qa + k then f0 (pa + (j - qa)) else h0 j) H) (hS : FrS bb (bb + 1) s.heap H) (hkin3 : 344 - k = kin3) (hl : lv_has ls 5 [(4, .int (iI (u))), (0, .ref (aa)), (1, .int (iI ((pa : Int)))), (2, .ref (bb)), (3, .int (iI ((qa : Int))))]) (hL : Lk G locs), W p l e ({ frames := 0, cells := 0, slots := 0, locals := 0 } : Room) s m args below meth c H locs 0 0 (QQ G below args s ({ frames := 0, cells := 0, slots := 0, locals := 0 } : Room) (WV (fun H H1 => Ia G bb 0 M (fun j => if qa ≤ j ∧ j < qa + 344 then f0 (pa + (j - qa)) else h0 j) H1 ∧ FrS bb (bb + 1) H H1))) (F0 m 3 ls []) := by
    intro kin3
    induction kin3 using Nat.strongRecOn with
    | ind kin3 ihin3 =>
      intro k H u ls locs hk hu hA hB hS hkin3 hl hL
      refine lv_iload E.1 E.2.1 dX6_copies_3 (lv_at hl 0 rfl) ?_
      refine r_sipush E dX6_copies_5 (by decide) ?_
      refine r_icmp_ge (tgt := 29) E dX6_copies_8 (by decide) (by omega) (by omega) (fun c8 => ?_) (fun c8 => ?_)
      · refine e_vret (rm := ({ frames := 0, cells := 0, slots := 0, locals := 0 } : Room)) E hL dX6_copies_29 ⟨rfl, ?_⟩
        have hk9 : k = 344 := by omega
        subst hk9
        exact ⟨hB, hS⟩
      · subst hu
        refine lv_aload_n E.1 E.2.1 dX6_copies_11 rfl (lv_at hl 3 rfl) ?_
        refine lv_iload_n E.1 E.2.1 dX6_copies_12 rfl (lv_at hl 4 rfl) ?_
        refine lv_iload E.1 E.2.1 dX6_copies_13 (lv_at hl 0 rfl) ?_
        refine r_add E dX6_copies_15 ?_
        refine lv_aload_n E.1 E.2.1 dX6_copies_16 rfl (lv_at hl 1 rfl) ?_
        refine lv_iload_n E.1 E.2.1 dX6_copies_17 rfl (lv_at hl 2 rfl) ?_
        refine lv_iload E.1 E.2.1 dX6_copies_18 (lv_at hl 0 rfl) ?_
        refine r_add E dX6_copies_20 ?_
        refine r_iald E hA (pa + k) (by omega) (by omega) (by omega) dX6_copies_21 ?_
        refine r_iast E hB (qa + k) (by omega) (by omega) (by omega) hL (by omega) dX6_copies_22 (fun H1 locs hL hO_ hF_ => ?_)
        have hA := hA.kept (hF_.2 _ (by omega))
        have hS := hS.trans (FrS.of1 (lo := bb) (hi := bb + 1) hF_ (by omega) (by omega))
        have hB : Ia G (bb) 0 M (upd ((fun j => if qa ≤ j ∧ j < qa + k then f0 (pa + (j - qa)) else h0 j)) (qa + k) (f0 (pa + k))) H1 := hO_
        clear hO_
        refine r_inc (lv' := [(4, .int (iI ((k : Int) + 1))), (0, .ref (aa)), (1, .int (iI ((pa : Int)))), (2, .ref (bb)), (3, .int (iI ((qa : Int))))]) E dX6_copies_23 hl (k := 0) rfl (by decide) rfl (fun ls hl => ?_)
        refine lv_goto (tgt := 3) E.1 E.2.1 dX6_copies_26 (by decide) ?_
        refine ihin3 _ ?_ (k + 1) H1 ((k : Int) + 1) ls locs ?_ ?_ ?_ ?_ ?_ rfl (lv_sub hl [0, 1, 2, 3, 4] rfl) hL
        · omega
        · omega
        · omega
        · exact hA
        · refine hB.to (fun j _ => ?_)
          by_cases h9 : j = qa + k
          · subst h9; simp [upd]
          · have h8 : (qa ≤ j ∧ j < qa + (k + 1)) ↔ (qa ≤ j ∧ j < qa + k) := by omega
            simp [upd, h9, h8]
        · exact hS
  refine LP3 _ 0 s.heap 0 ls locs ?_ ?_ ?_ ?_ ?_ rfl (lv_sub hl [0, 1, 2, 3, 4] rfl) hL
  · omega
  · rfl
  · exact hA
  · exact hB.to (fun j _ => by rw [if_neg (by omega)])
  · exact hS

set_option maxHeartbeats 4000000 in
set_option maxRecDepth 100000 in
theorem c_X6_begins (G : GG) (l : Launch) (g : Nat) (σ : St) (v3 v5 v6 v7 v8 v9 v10 : Int32) (bf : Nat → Int32) (hga : G.2.2 ≤ g) : Ct G l yX6_begins cX6_begins 1 none ({ frames := 1, cells := 0, slots := 0, locals := 24 } : Room) [.ref (g)] (fun H => Ob G g 6 [.ref (g + 1), .ref (g + 2), .ref (g + 3), .int (v3), .ref (g + 4), .int v5, .int v6, .int v7, .int v8, .int v9, .int v10] H ∧ Ia G (g + 1) 0 344 (encI σ) H ∧ Ia G (g + 2) 0 344 bf H) (WV (fun H H1 => Ia G (g + 2) 0 344 (encI σ) H1 ∧ FrS (g + 2) (g + 2 + 1) H H1)) := by
  refine Ct.of (by decide +kernel) (Nat.le_of_ble_eq_true rfl) ?_
  intro p e s m args below meth c ls E hnm hP hl
  obtain ⟨ho, ha, hbf⟩ := hP
  have hl : lv_has ls 1 [(0, .ref (g))] := hl
  have hL : Lk G [] := Lk.nil
  generalize ([] : List Loc) = locs at hL ⊢
  refine lv_aload_n E.1 E.2.1 dX6_begins_0 rfl (lv_at hl 0 rfl) ?_
  refine m_get E ho fw_X6_7 rfl dX6_begins_1 ?_
  refine r_const E dX6_begins_4 ?_
  refine lv_aload_n E.1 E.2.1 dX6_begins_5 rfl (lv_at hl 0 rfl) ?_
  refine m_get E ho fw_X6_13 rfl dX6_begins_6 ?_
  refine r_const E dX6_begins_9 ?_
  refine kSWV (As := [.ref (g + 1), .int (iI (0)), .ref (g + 2), .int (iI (0))]) E cw_X6_22 (c_X6_copies G l (g + 1) (g + 2) 344 344 (0) (0) (encI σ) (bf) (by omega) (by omega) (by omega) (by omega) (by omega) (by omega)) ⟨ha, hbf⟩ hL hl.1 rfl rfl (Nat.le_of_ble_eq_true rfl) ⟨Nat.le_of_ble_eq_true rfl, Nat.le_of_ble_eq_true rfl⟩ ⟨Nat.le_of_ble_eq_true rfl, Nat.le_of_ble_eq_true rfl⟩ dX6_begins_10 (fun H1 locs hL hw_ => ?_)
  obtain ⟨hbf, hq⟩ := hw_
  have ho := ho.kept (hq.2 _ (by omega))
  have ha := ha.kept (hq.2 _ (by omega))
  refine e_vret (rm := ({ frames := 1, cells := 0, slots := 0, locals := 24 } : Room)) E hL dX6_begins_13 ⟨rfl, ?_⟩
  exact ⟨hbf.to (fun j hj => by rw [if_pos (by omega), show 0 + (j - 0) = j by omega]), hq⟩

set_option maxHeartbeats 4000000 in
set_option maxRecDepth 100000 in
theorem c_X6_records (G : GG) (l : Launch) (g : Nat) (hs : List St) (v5 v6 v7 v8 v9 v10 : Int32) (β : St) (pf : Nat → Int32) (hpk : PastOk pf hs) (r : Int) (hr : okI r) (hga : G.2.2 ≤ g) : Ct G l yX6_records cX6_records 3 (some .int) ({ frames := 1, cells := 0, slots := 0, locals := 24 } : Room) [.ref (g), .int (iI (r))] (fun H => Ob G g 6 [.ref (g + 1), .ref (g + 2), .ref (g + 3), .int (iI (hs.length : Int)), .ref (g + 4), .int v5, .int v6, .int v7, .int v8, .int v9, .int v10] H ∧ Ia G (g + 2) 0 344 (encI β) H ∧ Ia G (g + 3) 0 1376 pf H) (WE (iI r) (fun H H1 => (∃ pf1, Ob G g 6 [.ref (g + 1), .ref (g + 2), .ref (g + 3), .int (iI ((hsA β hs r).length : Int)), .ref (g + 4), .int v5, .int v6, .int v7, .int v8, .int v9, .int v10] H1 ∧ Ia G (g + 3) 0 1376 pf1 H1 ∧ PastOk pf1 (hsA β hs r)) ∧ Fr2 g H H1)) := by
  refine Ct.of (by decide +kernel) (Nat.le_of_ble_eq_true rfl) ?_
  intro p e s m args below meth c ls E hnm hP hl
  obtain ⟨ho, hbf, hpf⟩ := hP
  obtain ⟨hr1, hr2⟩ := hr
  have hQ : Fr2 g s.heap s.heap := Fr2.rf
  have hp4 := hpk.1
  have hl : lv_has ls 3 [(0, .ref (g)), (1, .int (iI (r)))] := hl
  have hL : Lk G [] := Lk.nil
  generalize ([] : List Loc) = locs at hL ⊢
  refine lv_iload_n E.1 E.2.1 dX6_records_0 rfl (lv_at hl 1 rfl) ?_
  refine r_if_ge (tgt := 6) E dX6_records_1 (by decide) (by omega) (fun c1 => ?_) (fun c1 => ?_)
  · refine lv_aload_n E.1 E.2.1 dX6_records_6 rfl (lv_at hl 0 rfl) ?_
    refine m_get E ho fw_X6_26 rfl dX6_records_7 ?_
    refine r_const E dX6_records_10 ?_
    refine r_icmp_ne (tgt := 55) E dX6_records_11 (by decide) (by omega) (by omega) (fun c11 => ?_) (fun c11 => ?_)
    · have hp1 : PastOk pf hs := hpk
      obtain ⟨hs1, hs1e⟩ : ∃ q, q = hs := ⟨_, rfl⟩
      rw [← hs1e] at hp1 ho
      have hl1 : hs1.length < 4 := by rw [hs1e]; have := hpk.1; omega
      have hre : recd hs β = hs1 ++ [β] := by rw [hs1e]; unfold recd; rw [if_neg (by omega)]
      refine lv_aload_n E.1 E.2.1 dX6_records_55 rfl (lv_at hl 0 rfl) ?_
      refine m_get E ho fw_X6_13 rfl dX6_records_56 ?_
      refine r_const E dX6_records_59 ?_
      refine lv_aload_n E.1 E.2.1 dX6_records_60 rfl (lv_at hl 0 rfl) ?_
      refine m_get E ho fw_X6_16 rfl dX6_records_61 ?_
      refine r_sipush E dX6_records_64 (by decide) ?_
      refine lv_aload_n E.1 E.2.1 dX6_records_67 rfl (lv_at hl 0 rfl) ?_
      refine m_get E ho fw_X6_26 rfl dX6_records_68 ?_
      refine r_mul E dX6_records_71 ?_
      rw [show ((344 * (hs1.length : Int) : Int)) = ((344 * hs1.length : Nat) : Int) by omega]
      refine kSWV (As := [.ref (g + 2), .int (iI (0)), .ref (g + 3), .int (iI (((344 * hs1.length : Nat) : Int)))]) E cw_X6_22 (c_X6_copies G l (g + 2) (g + 3) 344 1376 (0) (344 * hs1.length) (encI β) (pf) (by omega) (by omega) (by omega) (by omega) (by omega) (by omega)) ⟨hbf, hpf⟩ hL hl.1 rfl rfl (Nat.le_of_ble_eq_true rfl) ⟨Nat.le_of_ble_eq_true rfl, Nat.le_of_ble_eq_true rfl⟩ ⟨Nat.le_of_ble_eq_true rfl, Nat.le_of_ble_eq_true rfl⟩ dX6_records_72 (fun H1 locs hL hw_ => ?_)
      obtain ⟨hpf, hq⟩ := hw_
      have ho := ho.kept (hq.2 _ (by omega))
      have hbf := hbf.kept (hq.2 _ (by omega))
      have hQ := hQ.trans (Fr2.ofS hq)
      refine lv_aload_n E.1 E.2.1 dX6_records_75 rfl (lv_at hl 0 rfl) ?_
      refine lv_dup E.1 E.2.1 dX6_records_76 rfl ?_
      refine m_get E ho fw_X6_26 rfl dX6_records_77 ?_
      refine r_const E dX6_records_80 ?_
      refine r_add E dX6_records_81 ?_
      have hre2 : ((hs1.length : Int) + 1) = ((hsA β hs r).length : Int) := by unfold hsA; rw [if_neg (by omega), hre, List.length_append]; show _ = ((hs1.length + 1 : Nat) : Int); omega
      rw [hre2]
      refine m_put E ho fw_X6_26 fp_X6_3 rfl rfl (Nat.le_of_ble_eq_true rfl) hL (by omega) dX6_records_82 (fun H2 locs hL hO_ hF_ => ?_)
      have hbf := hbf.kept (hF_.2 _ (by omega))
      have hpf := hpf.kept (hF_.2 _ (by omega))
      have hQ := hQ.trans (Fr2.of1 hF_ (by omega))
      have ho : Ob G (g) 6 [.ref (g + 1), .ref (g + 2), .ref (g + 3), .int (iI (((hsA β hs r).length : Int))), .ref (g + 4), .int (v5), .int (v6), .int (v7), .int (v8), .int (v9), .int (v10)] H2 := hO_
      clear hO_
      refine lv_iload_n E.1 E.2.1 dX6_records_85 rfl (lv_at hl 1 rfl) ?_
      refine e_iret (rm := ({ frames := 1, cells := 0, slots := 0, locals := 24 } : Room)) (v := iI (r)) E hL dX6_records_86 ?_
      have hha : hsA β hs r = hs1 ++ [β] := by unfold hsA; rw [if_neg (by omega), hre]
      rw [hha] at ho ⊢
      exact ⟨rfl, ⟨_, ho, hpf, hp1.push hl1⟩, hQ⟩
    · refine r_const E dX6_records_14 ?_
      refine lv_istore_n (lv' := [(2, .int (iI (0))), (0, .ref (g)), (1, .int (iI (r)))]) E.1 E.2.1 dX6_records_15 rfl hl (by decide) rfl (fun ls hl => ?_)
      have LP16 : ∀ (kin16 : Nat) (k : Nat) (H : Heap) (u : Int) (ls : Array Slot) (locs : List Loc) (hk : k ≤ 1032) (hu : u = (k : Int)) (ho : Ob G g 6 [.ref (g + 1), .ref (g + 2), .ref (g + 3), .int (iI (hs.length : Int)), .ref (g + 4), .int v5, .int v6, .int v7, .int v8, .int v9, .int v10] H) (hbf : Ia G (g + 2) 0 344 (encI β) H) (hpf : Ia G (g + 3) 0 1376 (fun j => if j < k then pf (j + 344) else pf j) H) (hQ : Fr2 g s.heap H) (hkin16 : 1032 - k = kin16) (hl : lv_has ls 3 [(2, .int (iI (u))), (0, .ref (g)), (1, .int (iI (r)))]) (hL : Lk G locs), W p l e ({ frames := 1, cells := 0, slots := 0, locals := 24 } : Room) s m args below meth c H locs 0 0 (QQ G below args s ({ frames := 1, cells := 0, slots := 0, locals := 24 } : Room) (WE (iI r) (fun H H1 => (∃ pf1, Ob G g 6 [.ref (g + 1), .ref (g + 2), .ref (g + 3), .int (iI ((hsA β hs r).length : Int)), .ref (g + 4), .int v5, .int v6, .int v7, .int v8, .int v9, .int v10] H1 ∧ Ia G (g + 3) 0 1376 pf1 H1 ∧ PastOk pf1 (hsA β hs r)) ∧ Fr2 g H H1))) (F0 m 16 ls []) := by
        intro kin16
        induction kin16 using Nat.strongRecOn with
        | ind kin16 ihin16 =>
          intro k H u ls locs hk hu ho hbf hpf hQ hkin16 hl hL
          refine lv_iload_n E.1 E.2.1 dX6_records_16 rfl (lv_at hl 0 rfl) ?_
          refine r_sipush E dX6_records_17 (by decide) ?_
          refine r_icmp_ge (tgt := 45) E dX6_records_20 (by decide) (by omega) (by omega) (fun c20 => ?_) (fun c20 => ?_)
          · have hk9 : k = 1032 := by omega
            subst hk9
            refine lv_aload_n E.1 E.2.1 dX6_records_45 rfl (lv_at hl 1 rfl) ?_
            refine lv_dup E.1 E.2.1 dX6_records_46 rfl ?_
            refine m_get E ho fw_X6_26 rfl dX6_records_47 ?_
            refine r_const E dX6_records_50 ?_
            refine r_sub E dX6_records_51 ?_
            rw [show (((hs.length : Int) - 1 : Int)) = (hs.tail.length : Int) by (rw [List.length_tail]; omega)]
            refine m_put E ho fw_X6_26 fp_X6_3 rfl rfl (Nat.le_of_ble_eq_true rfl) hL (by omega) dX6_records_52 (fun H1 locs hL hO_ hF_ => ?_)
            have hbf := hbf.kept (hF_.2 _ (by omega))
            have hpf := hpf.kept (hF_.2 _ (by omega))
            have hQ := hQ.trans (Fr2.of1 hF_ (by omega))
            have ho : Ob G (g) 6 [.ref (g + 1), .ref (g + 2), .ref (g + 3), .int (iI ((hs.tail.length : Int))), .ref (g + 4), .int (v5), .int (v6), .int (v7), .int (v8), .int (v9), .int (v10)] H1 := hO_
            clear hO_
            have hp1 : PastOk (fun j => if j < 1032 then pf (j + 344) else pf j) hs.tail := hpk.shift (by omega)
            obtain ⟨hs1, hs1e⟩ : ∃ q, q = hs.tail := ⟨_, rfl⟩
            rw [← hs1e] at hp1 ho
            have hl1 : hs1.length < 4 := by rw [hs1e]; rw [List.length_tail]; omega
            have hre : recd hs β = hs1 ++ [β] := by rw [hs1e]; unfold recd; rw [if_pos (by omega)]
            refine lv_aload_n E.1 E.2.1 dX6_records_55 rfl (lv_at hl 1 rfl) ?_
            refine m_get E ho fw_X6_13 rfl dX6_records_56 ?_
            refine r_const E dX6_records_59 ?_
            refine lv_aload_n E.1 E.2.1 dX6_records_60 rfl (lv_at hl 1 rfl) ?_
            refine m_get E ho fw_X6_16 rfl dX6_records_61 ?_
            refine r_sipush E dX6_records_64 (by decide) ?_
            refine lv_aload_n E.1 E.2.1 dX6_records_67 rfl (lv_at hl 1 rfl) ?_
            refine m_get E ho fw_X6_26 rfl dX6_records_68 ?_
            refine r_mul E dX6_records_71 ?_
            rw [show ((344 * (hs1.length : Int) : Int)) = ((344 * hs1.length : Nat) : Int) by omega]
            refine kSWV (As := [.ref (g + 2), .int (iI (0)), .ref (g + 3), .int (iI (((344 * hs1.length : Nat) : Int)))]) E cw_X6_22 (c_X6_copies G l (g + 2) (g + 3) 344 1376 (0) (344 * hs1.length) (encI β) ((fun j => if j < 1032 then pf (j + 344) else pf j)) (by omega) (by omega) (by omega) (by omega) (by omega) (by omega)) ⟨hbf, hpf⟩ hL hl.1 rfl rfl (Nat.le_of_ble_eq_true rfl) ⟨Nat.le_of_ble_eq_true rfl, Nat.le_of_ble_eq_true rfl⟩ ⟨Nat.le_of_ble_eq_true rfl, Nat.le_of_ble_eq_true rfl⟩ dX6_records_72 (fun H2 locs hL hw_ => ?_)
            obtain ⟨hpf, hq⟩ := hw_
            have ho := ho.kept (hq.2 _ (by omega))
            have hbf := hbf.kept (hq.2 _ (by omega))
            have hQ := hQ.trans (Fr2.ofS hq)
            refine lv_aload_n E.1 E.2.1 dX6_records_75 rfl (lv_at hl 1 rfl) ?_
            refine lv_dup E.1 E.2.1 dX6_records_76 rfl ?_
            refine m_get E ho fw_X6_26 rfl dX6_records_77 ?_
            refine r_const E dX6_records_80 ?_
            refine r_add E dX6_records_81 ?_
            have hre2 : ((hs1.length : Int) + 1) = ((hsA β hs r).length : Int) := by unfold hsA; rw [if_neg (by omega), hre, List.length_append]; show _ = ((hs1.length + 1 : Nat) : Int); omega
            rw [hre2]
            refine m_put E ho fw_X6_26 fp_X6_3 rfl rfl (Nat.le_of_ble_eq_true rfl) hL (by omega) dX6_records_82 (fun H3 locs hL hO_ hF_ => ?_)
            have hbf := hbf.kept (hF_.2 _ (by omega))
            have hpf := hpf.kept (hF_.2 _ (by omega))
            have hQ := hQ.trans (Fr2.of1 hF_ (by omega))
            have ho : Ob G (g) 6 [.ref (g + 1), .ref (g + 2), .ref (g + 3), .int (iI (((hsA β hs r).length : Int))), .ref (g + 4), .int (v5), .int (v6), .int (v7), .int (v8), .int (v9), .int (v10)] H3 := hO_
            clear hO_
            refine lv_iload_n E.1 E.2.1 dX6_records_85 rfl (lv_at hl 2 rfl) ?_
            refine e_iret (rm := ({ frames := 1, cells := 0, slots := 0, locals := 24 } : Room)) (v := iI (r)) E hL dX6_records_86 ?_
            have hha : hsA β hs r = hs1 ++ [β] := by unfold hsA; rw [if_neg (by omega), hre]
            rw [hha] at ho ⊢
            exact ⟨rfl, ⟨_, ho, hpf, hp1.push hl1⟩, hQ⟩
          · subst hu
            refine lv_aload_n E.1 E.2.1 dX6_records_23 rfl (lv_at hl 1 rfl) ?_
            refine m_get E ho fw_X6_16 rfl dX6_records_24 ?_
            refine lv_iload_n E.1 E.2.1 dX6_records_27 rfl (lv_at hl 0 rfl) ?_
            refine lv_aload_n E.1 E.2.1 dX6_records_28 rfl (lv_at hl 1 rfl) ?_
            refine m_get E ho fw_X6_16 rfl dX6_records_29 ?_
            refine lv_iload_n E.1 E.2.1 dX6_records_32 rfl (lv_at hl 0 rfl) ?_
            refine r_sipush E dX6_records_33 (by decide) ?_
            refine r_add E dX6_records_36 ?_
            refine r_iald E hpf (k + 344) (by omega) (by omega) (by decide) dX6_records_37 ?_
            rw [if_neg (show ¬ k + 344 < k by omega)]
            refine r_iast E hpf (k) rfl (by omega) (by decide) hL (by omega) dX6_records_38 (fun H1 locs hL hO_ hF_ => ?_)
            have ho := ho.kept (hF_.2 _ (by omega))
            have hbf := hbf.kept (hF_.2 _ (by omega))
            have hQ := hQ.trans (Fr2.of1 hF_ (by omega))
            have hpf : Ia G (g + 3) 0 1376 (upd ((fun j => if j < k then pf (j + 344) else pf j)) (k) (pf (k + 344))) H1 := hO_
            clear hO_
            refine r_inc (lv' := [(2, .int (iI ((k : Int) + 1))), (0, .ref (g)), (1, .int (iI (r)))]) E dX6_records_39 hl (k := 0) rfl (by decide) rfl (fun ls hl => ?_)
            refine lv_goto (tgt := 16) E.1 E.2.1 dX6_records_42 (by decide) ?_
            refine ihin16 _ ?_ (k + 1) H1 ((k : Int) + 1) ls locs ?_ ?_ ?_ ?_ ?_ ?_ rfl (lv_sub hl [0, 1, 2] rfl) hL
            · omega
            · omega
            · omega
            · exact ho
            · exact hbf
            · refine hpf.to (fun j _ => ?_)
              by_cases h9 : j = k
              · subst h9; simp [upd]
              · have h8 : j < k + 1 ↔ j < k := by omega
                simp [upd, h9, h8]
            · exact hQ
      refine LP16 _ 0 s.heap 0 ls locs ?_ ?_ ?_ ?_ ?_ ?_ rfl (lv_sub hl [0, 1, 2] rfl) hL
      · omega
      · rfl
      · exact ho
      · exact hbf
      · exact hpf.to (fun j _ => by rw [if_neg (by omega)])
      · exact hQ
  · refine lv_iload_n E.1 E.2.1 dX6_records_4 rfl (lv_at hl 1 rfl) ?_
    refine e_iret (rm := ({ frames := 1, cells := 0, slots := 0, locals := 24 } : Room)) (v := iI (r)) E hL dX6_records_5 ?_
    have hha : hsA β hs r = hs := by unfold hsA; rw [if_pos (by omega)]
    rw [hha]
    exact ⟨rfl, ⟨pf, ho, hpf, hpk⟩, hQ⟩
