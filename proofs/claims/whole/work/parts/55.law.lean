theorem pRun_b {tx : Nat → Int} {len : Nat} : ∀ (n p k : Nat) (σ : St), len - p = n → (pRun tx len σ p k).1 ≤ k + (len - p) := by
  intro n
  induction n using Nat.strongRecOn with
  | ind n ih =>
    intro p k σ hn
    rw [pRun]
    by_cases hp : p < len
    · rw [dif_pos hp]
      cases hc : (pCmd tx len p).2 with
      | none => exact Nat.le_add_right _ _
      | some q =>
        simp only []
        by_cases h2 : (spCmd σ q).1 < 0
        · rw [if_pos h2]; exact Nat.le_add_right _ _
        · rw [if_neg h2]
          by_cases h3 : p ≤ (pCmd tx len p).1
          · rw [dif_pos h3]
            have h4 := ih (len - ((pCmd tx len p).1 + 1)) (by omega) ((pCmd tx len p).1 + 1) (k + 1) (spCmd σ q).2 rfl
            omega
          · rw [dif_neg h3]; exact Nat.le_add_right _ _
    · rw [dif_neg hp]; exact Nat.le_add_right _ _
theorem spRun_b {tx : Nat → Int} {len : Nat} (σ : St) (hs : List St) (h : len ≤ 80) : -5 ≤ (spRun σ hs tx len).1 ∧ (spRun σ hs tx len).1 ≤ 1000 := by
  unfold spRun
  by_cases h1 : pFlt tx len 0 = -6
  · rw [if_pos h1]
    have h2 := pRun_b (tx := tx) (len := len) _ 0 0 σ rfl
    exact ⟨by show (-5 : Int) ≤ ((pRun tx len σ 0 0).1 : Int); omega, by show ((pRun tx len σ 0 0).1 : Int) ≤ 1000; omega⟩
  · rw [if_neg h1]; exact ⟨by show (-5 : Int) ≤ -3; omega, by show (-3 : Int) ≤ 1000; omega⟩
theorem spUndo_b (σ : St) {hs : List St} (h : hs.length ≤ 4) : -6 ≤ (spUndo σ hs).1 ∧ (spUndo σ hs).1 ≤ 1000 := by
  unfold spUndo
  by_cases h1 : hs = []
  · rw [if_pos h1]; exact ⟨by show (-6 : Int) ≤ -6; omega, by show (-6 : Int) ≤ 1000; omega⟩
  · rw [if_neg h1]; exact ⟨by show (-6 : Int) ≤ (hs.length : Int) - 1; omega, by show (hs.length : Int) - 1 ≤ 1000; omega⟩
theorem law_12 {p : Program} {l : Launch} {e : Env} {s : State} {m : MethodId} {args : Array Value} {below : List Frame} {meth : Method} {c : Code} {H : Heap} {locs : List Loc} {Q : State → Prop} {G : GG} (E : En G p s m args meth c cL_law 8 (some .boolean) RL) {b L : Nat} {xs : Nat → Int32} (hX : va_X b L xs s s.heap) (hbG : b < G.2.2) (hG : G.2.2 = s.heap.size) (hL2 : L ≤ 2048) {fl : Nat → Option Fil} {σ : St} {hs : List St} {tx : Nat → Int} {len : Nat} (x : Nat) (hx : x = G.2.2) (hh : LwS G x s.heap fl σ hs tx len H) (i : Nat) (hi : i + 4 ≤ L) {ls : Array Slot} (hl : lv_has ls 8 [(0, .ref b), (1, .ref x), (2, .ref (x + 179)), (3, .int (iI (i : Int)))]) (hL : Lk G locs) (k n : Nat) (hk : k ≤ 590000) (hn : n ≤ 7000000)
    (K : ∀ (H1 : Heap) (fl1 : Nat → Option Fil) (σ1 : St) (hs1 : List St) (tx1 : Nat → Int) (len1 : Nat) (ls : Array Slot) (locs : List Loc), LwS G x s.heap fl1 σ1 hs1 tx1 len1 H1 → lv_has ls 8 [(0, .ref b), (1, .ref x), (2, .ref (x + 179)), (3, .int (iI (i : Int)))] → Lk G locs → W p l e ({ frames := 10, cells := 600000, slots := 7302250, locals := 368 } : Room) s m args below meth c H1 locs (k + 80) (n + 240) Q (F0 m 916 ls [])) : W p l e ({ frames := 10, cells := 600000, slots := 7302250, locals := 368 } : Room) s m args below meth c H locs k n Q (F0 m 450 ls []) := by
  obtain ⟨hXA, hMA, hI, hIs, hT, hsz, hfr⟩ := hh
  have hMA0 := hMA
  have hT80 := hT.1
  refine lv_aload_n E.1 E.2.1 dL_law_450 rfl (lv_at hl 1 rfl) ?_
  refine kVWE (As := []) E cw_L_64 (c_X5_run G l x (x + 184) fl σ hs tx len hI hT (by omega) (by omega)   ) hXA.1 ⟨_, _, rfl⟩ ⟨hXA, hsz⟩ hL hl.1 rfl rfl (Nat.le_of_ble_eq_true rfl) ⟨Nat.le_of_ble_eq_true rfl, Nat.le_of_ble_eq_true rfl⟩ ⟨by show k + 80 ≤ 600000; omega, by show n + 240 ≤ 7302250; omega⟩ dL_law_451 (fun H1 locs hL hwX5 => ?_)
  have hMA := LwS.mid (H0 := s.heap) ⟨hXA, hMA, hI, hIs, hT, hsz, hfr⟩ hwX5.2
  have hfr1 : ∀ q, q < G.2.2 → H1[q]? = s.heap[q]? := fun q hq => (hwX5.2.2 q (by omega) (by omega)).trans (hfr q (by omega))
  have hz1 : G.2.2 ≤ H1.size := by have h9 := hwX5.2.1; omega
  refine lv_aload_n E.1 E.2.1 dL_law_454 rfl (lv_at hl 2 rfl) ?_
  refine kVWE (As := []) E cw_L_67 (c_X6_run G l (x + 179) σ hs tx len hI hT   (by omega)) hMA.choose_spec.choose_spec.choose_spec.choose_spec.choose_spec.choose_spec.choose_spec.1 ⟨_, _, rfl⟩ hMA hL hl.1 rfl rfl (Nat.le_of_ble_eq_true rfl) ⟨Nat.le_of_ble_eq_true rfl, Nat.le_of_ble_eq_true rfl⟩ ⟨by show k + 80 + 0 ≤ 600000; omega, by show n + 240 + 0 ≤ 7302250; omega⟩ dL_law_455 (fun H2 locs hL hwX6 => ?_)
  refine r_icmp_eq (tgt := 916) E dL_law_458 (by decide) (by have hbd := spRun_b σ hs (tx := tx) hT80; omega) (by have hbd := spRun_b σ hs (tx := tx) hT80; omega) (fun c458 => ?_) (fun c458 => absurd c458 (by omega))
  obtain ⟨fl2, hF⟩ := LwS.act (H0 := s.heap) ⟨hXA, hMA0, hI, hIs, hT, hsz, hfr⟩ hwX5 hwX6 (run_inv hI hIs).1 (run_inv hI hIs).2 hT
  refine W.widen (k := k + 80) (n := n + 240) (by show k + 80 ≤ k + 80; omega) (by show n + 240 ≤ n + 240; omega) ?_
  exact K _ _ _ _ _ _ ls locs hF hl hL
theorem law_13 {p : Program} {l : Launch} {e : Env} {s : State} {m : MethodId} {args : Array Value} {below : List Frame} {meth : Method} {c : Code} {H : Heap} {locs : List Loc} {Q : State → Prop} {G : GG} (E : En G p s m args meth c cL_law 8 (some .boolean) RL) {b L : Nat} {xs : Nat → Int32} (hX : va_X b L xs s s.heap) (hbG : b < G.2.2) (hG : G.2.2 = s.heap.size) (hL2 : L ≤ 2048) {fl : Nat → Option Fil} {σ : St} {hs : List St} {tx : Nat → Int} {len : Nat} (x : Nat) (hx : x = G.2.2) (hh : LwS G x s.heap fl σ hs tx len H) (i : Nat) (hi : i + 4 ≤ L) {ls : Array Slot} (hl : lv_has ls 8 [(0, .ref b), (1, .ref x), (2, .ref (x + 179)), (3, .int (iI (i : Int)))]) (hL : Lk G locs) (k n : Nat) (hk : k ≤ 590000) (hn : n ≤ 7000000)
    (K : ∀ (H1 : Heap) (fl1 : Nat → Option Fil) (σ1 : St) (hs1 : List St) (tx1 : Nat → Int) (len1 : Nat) (ls : Array Slot) (locs : List Loc), LwS G x s.heap fl1 σ1 hs1 tx1 len1 H1 → lv_has ls 8 [(0, .ref b), (1, .ref x), (2, .ref (x + 179)), (3, .int (iI (i : Int)))] → Lk G locs → W p l e ({ frames := 10, cells := 600000, slots := 7302250, locals := 368 } : Room) s m args below meth c H1 locs (k + 80) (n + 240) Q (F0 m 916 ls [])) : W p l e ({ frames := 10, cells := 600000, slots := 7302250, locals := 368 } : Room) s m args below meth c H locs k n Q (F0 m 463 ls []) := by
  obtain ⟨hXA, hMA, hI, hIs, hT, hsz, hfr⟩ := hh
  have hMA0 := hMA
  have hT80 := hT.1
  have hp4 : hs.length ≤ 4 := hMA.choose_spec.choose_spec.choose_spec.choose_spec.choose_spec.choose_spec.choose_spec.2.2.2.2.1.1
  refine lv_aload_n E.1 E.2.1 dL_law_463 rfl (lv_at hl 1 rfl) ?_
  refine kVWE (As := []) E cw_L_68 (c_X5_undo G l x (x + 184) fl σ hs tx len hI hT (by omega) (by omega) hIs  ) hXA.1 ⟨_, _, rfl⟩ ⟨hXA, hsz⟩ hL hl.1 rfl rfl (Nat.le_of_ble_eq_true rfl) ⟨Nat.le_of_ble_eq_true rfl, Nat.le_of_ble_eq_true rfl⟩ ⟨by show k + 0 ≤ 600000; omega, by show n + 0 ≤ 7302250; omega⟩ dL_law_464 (fun H1 locs hL hwX5 => ?_)
  have hMA := LwS.mid (H0 := s.heap) ⟨hXA, hMA, hI, hIs, hT, hsz, hfr⟩ hwX5.2
  have hfr1 : ∀ q, q < G.2.2 → H1[q]? = s.heap[q]? := fun q hq => (hwX5.2.2 q (by omega) (by omega)).trans (hfr q (by omega))
  have hz1 : G.2.2 ≤ H1.size := by have h9 := hwX5.2.1; omega
  refine lv_aload_n E.1 E.2.1 dL_law_467 rfl (lv_at hl 2 rfl) ?_
  refine kVWE (As := []) E cw_L_71 (c_X6_undo G l (x + 179) σ hs tx len hI hT   (by omega)) hMA.choose_spec.choose_spec.choose_spec.choose_spec.choose_spec.choose_spec.choose_spec.1 ⟨_, _, rfl⟩ hMA hL hl.1 rfl rfl (Nat.le_of_ble_eq_true rfl) ⟨Nat.le_of_ble_eq_true rfl, Nat.le_of_ble_eq_true rfl⟩ ⟨by show k + 0 + 0 ≤ 600000; omega, by show n + 0 + 0 ≤ 7302250; omega⟩ dL_law_468 (fun H2 locs hL hwX6 => ?_)
  refine r_icmp_eq (tgt := 916) E dL_law_471 (by decide) (by have hbd := spUndo_b σ hp4; omega) (by have hbd := spUndo_b σ hp4; omega) (fun c471 => ?_) (fun c471 => absurd c471 (by omega))
  obtain ⟨fl2, hF⟩ := LwS.act (H0 := s.heap) ⟨hXA, hMA0, hI, hIs, hT, hsz, hfr⟩ hwX5 hwX6 (undo_inv hI hIs).1 (undo_inv hI hIs).2 hT
  refine W.widen (k := k + 80) (n := n + 240) (by show k + 0 ≤ k + 80; omega) (by show n + 0 ≤ n + 240; omega) ?_
  exact K _ _ _ _ _ _ ls locs hF hl hL