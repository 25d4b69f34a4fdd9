theorem spAppend_b {tx : Nat → Int} {len : Nat} (h : len ≤ 80) (y : Int) : -5 ≤ (spAppend tx len y).1 ∧ (spAppend tx len y).1 ≤ 1000 := by
  unfold spAppend
  by_cases h1 : ¬ (32 ≤ y ∧ y ≤ 126)
  · rw [if_pos h1]; exact ⟨by show (-5 : Int) ≤ -2; omega, by show (-2 : Int) ≤ 1000; omega⟩
  · rw [if_neg h1]
    by_cases h2 : len < 80
    · rw [if_pos h2]; exact ⟨by show (-5 : Int) ≤ (len : Int) + 1; omega, by show (len : Int) + 1 ≤ 1000; omega⟩
    · rw [if_neg h2]; exact ⟨by show (-5 : Int) ≤ -4; omega, by show (-4 : Int) ≤ 1000; omega⟩
theorem law_9 {p : Program} {l : Launch} {e : Env} {s : State} {m : MethodId} {args : Array Value} {below : List Frame} {meth : Method} {c : Code} {H : Heap} {locs : List Loc} {Q : State → Prop} {G : GG} (E : En G p s m args meth c cL_law 8 (some .boolean) RL) {b L : Nat} {xs : Nat → Int32} (hX : va_X b L xs s s.heap) (hbG : b < G.2.2) (hG : G.2.2 = s.heap.size) (hL2 : L ≤ 2048) {fl : Nat → Option Fil} {σ : St} {hs : List St} {tx : Nat → Int} {len : Nat} (x : Nat) (hx : x = G.2.2) (hh : LwS G x s.heap fl σ hs tx len H) (i : Nat) (hi : i + 4 ≤ L) {ls : Array Slot} (hl : lv_has ls 8 [(0, .ref b), (1, .ref x), (2, .ref (x + 179)), (3, .int (iI (i : Int)))]) (hL : Lk G locs) (k n : Nat) (hk : k ≤ 590000) (hn : n ≤ 7000000)
    (K : ∀ (H1 : Heap) (fl1 : Nat → Option Fil) (σ1 : St) (hs1 : List St) (tx1 : Nat → Int) (len1 : Nat) (ls : Array Slot) (locs : List Loc), LwS G x s.heap fl1 σ1 hs1 tx1 len1 H1 → lv_has ls 8 [(0, .ref b), (1, .ref x), (2, .ref (x + 179)), (3, .int (iI (i : Int)))] → Lk G locs → W p l e ({ frames := 10, cells := 600000, slots := 7302250, locals := 368 } : Room) s m args below meth c H1 locs (k + 80) (n + 240) Q (F0 m 916 ls [])) : W p l e ({ frames := 10, cells := 600000, slots := 7302250, locals := 368 } : Room) s m args below meth c H locs k n Q (F0 m 401 ls []) := by
  obtain ⟨hXA, hMA, hI, hIs, hT, hsz, hfr⟩ := hh
  have hMA0 := hMA
  have hT80 := hT.1
  refine lv_aload_n E.1 E.2.1 dL_law_401 rfl (lv_at hl 1 rfl) ?_
  refine lv_aload_n E.1 E.2.1 dL_law_402 rfl (lv_at hl 0 rfl) ?_
  refine lv_iload_n E.1 E.2.1 dL_law_403 rfl (lv_at hl 3 rfl) ?_
  refine r_const E dL_law_404 ?_
  refine r_add E dL_law_405 ?_
  refine r_scr E hX hbG hG (by omega) (fun q hq => hfr q (by omega)) hL hL2 (i + 1) (by omega) (by omega) dL_law_406 (fun y hy hey => ?_)
  refine kVWE (As := [.int (iI (y))]) E cw_L_52 (c_X5_append G l x (x + 184) fl σ hs tx len hI hT (by omega) (by omega)  y hy) hXA.1 ⟨_, _, rfl⟩ ⟨hXA, hsz⟩ hL hl.1 rfl rfl (Nat.le_of_ble_eq_true rfl) ⟨Nat.le_of_ble_eq_true rfl, Nat.le_of_ble_eq_true rfl⟩ ⟨by show k + 0 ≤ 600000; omega, by show n + 0 ≤ 7302250; omega⟩ dL_law_407 (fun H1 locs hL hwX5 => ?_)
  have hMA := LwS.mid (H0 := s.heap) ⟨hXA, hMA, hI, hIs, hT, hsz, hfr⟩ hwX5.2
  have hfr1 : ∀ q, q < G.2.2 → H1[q]? = s.heap[q]? := fun q hq => (hwX5.2.2 q (by omega) (by omega)).trans (hfr q (by omega))
  have hz1 : G.2.2 ≤ H1.size := by have h9 := hwX5.2.1; omega
  refine lv_aload_n E.1 E.2.1 dL_law_410 rfl (lv_at hl 2 rfl) ?_
  refine lv_aload_n E.1 E.2.1 dL_law_411 rfl (lv_at hl 0 rfl) ?_
  refine lv_iload_n E.1 E.2.1 dL_law_412 rfl (lv_at hl 3 rfl) ?_
  refine r_const E dL_law_413 ?_
  refine r_add E dL_law_414 ?_
  refine r_scr E hX hbG hG hz1 hfr1 hL hL2 (i + 1) (by omega) (by omega) dL_law_415 (fun y9 hy9 hey9 => ?_)
  have hee : y9 = y := by have h9 := hey9.symm.trans hey; exact (iI_eq hy9 hy).mp h9
  rw [hee]
  refine kVWE (As := [.int (iI (y))]) E cw_L_55 (c_X6_append G l (x + 179) σ hs tx len hI hT y hy (by omega)) hMA.choose_spec.choose_spec.choose_spec.choose_spec.choose_spec.choose_spec.choose_spec.1 ⟨_, _, rfl⟩ hMA hL hl.1 rfl rfl (Nat.le_of_ble_eq_true rfl) ⟨Nat.le_of_ble_eq_true rfl, Nat.le_of_ble_eq_true rfl⟩ ⟨by show k + 0 + 0 ≤ 600000; omega, by show n + 0 + 0 ≤ 7302250; omega⟩ dL_law_416 (fun H2 locs hL hwX6 => ?_)
  refine r_icmp_eq (tgt := 916) E dL_law_419 (by decide) (by have hbd := spAppend_b (tx := tx) hT80 y; omega) (by have hbd := spAppend_b (tx := tx) hT80 y; omega) (fun c419 => ?_) (fun c419 => absurd c419 (by omega))
  obtain ⟨fl2, hF⟩ := LwS.act (H0 := s.heap) ⟨hXA, hMA0, hI, hIs, hT, hsz, hfr⟩ hwX5 hwX6 hI hIs (hT.app y)
  refine W.widen (k := k + 80) (n := n + 240) (by show k + 0 ≤ k + 80; omega) (by show n + 0 ≤ n + 240; omega) ?_
  exact K _ _ _ _ _ _ ls locs hF hl hL
theorem law_10 {p : Program} {l : Launch} {e : Env} {s : State} {m : MethodId} {args : Array Value} {below : List Frame} {meth : Method} {c : Code} {H : Heap} {locs : List Loc} {Q : State → Prop} {G : GG} (E : En G p s m args meth c cL_law 8 (some .boolean) RL) {b L : Nat} {xs : Nat → Int32} (hX : va_X b L xs s s.heap) (hbG : b < G.2.2) (hG : G.2.2 = s.heap.size) (hL2 : L ≤ 2048) {fl : Nat → Option Fil} {σ : St} {hs : List St} {tx : Nat → Int} {len : Nat} (x : Nat) (hx : x = G.2.2) (hh : LwS G x s.heap fl σ hs tx len H) (i : Nat) (hi : i + 4 ≤ L) {ls : Array Slot} (hl : lv_has ls 8 [(0, .ref b), (1, .ref x), (2, .ref (x + 179)), (3, .int (iI (i : Int)))]) (hL : Lk G locs) (k n : Nat) (hk : k ≤ 590000) (hn : n ≤ 7000000)
    (K : ∀ (H1 : Heap) (fl1 : Nat → Option Fil) (σ1 : St) (hs1 : List St) (tx1 : Nat → Int) (len1 : Nat) (ls : Array Slot) (locs : List Loc), LwS G x s.heap fl1 σ1 hs1 tx1 len1 H1 → lv_has ls 8 [(0, .ref b), (1, .ref x), (2, .ref (x + 179)), (3, .int (iI (i : Int)))] → Lk G locs → W p l e ({ frames := 10, cells := 600000, slots := 7302250, locals := 368 } : Room) s m args below meth c H1 locs (k + 80) (n + 240) Q (F0 m 916 ls [])) : W p l e ({ frames := 10, cells := 600000, slots := 7302250, locals := 368 } : Room) s m args below meth c H locs k n Q (F0 m 424 ls []) := by
  obtain ⟨hXA, hMA, hI, hIs, hT, hsz, hfr⟩ := hh
  have hMA0 := hMA
  have hT80 := hT.1
  refine lv_aload_n E.1 E.2.1 dL_law_424 rfl (lv_at hl 1 rfl) ?_
  refine kVWE (As := []) E cw_L_56 (c_X5_clearText G l x (x + 184) fl σ hs tx len hI hT (by omega) (by omega)   ) hXA.1 ⟨_, _, rfl⟩ ⟨hXA, hsz⟩ hL hl.1 rfl rfl (Nat.le_of_ble_eq_true rfl) ⟨Nat.le_of_ble_eq_true rfl, Nat.le_of_ble_eq_true rfl⟩ ⟨by show k + 0 ≤ 600000; omega, by show n + 0 ≤ 7302250; omega⟩ dL_law_425 (fun H1 locs hL hwX5 => ?_)
  have hMA := LwS.mid (H0 := s.heap) ⟨hXA, hMA, hI, hIs, hT, hsz, hfr⟩ hwX5.2
  have hfr1 : ∀ q, q < G.2.2 → H1[q]? = s.heap[q]? := fun q hq => (hwX5.2.2 q (by omega) (by omega)).trans (hfr q (by omega))
  have hz1 : G.2.2 ≤ H1.size := by have h9 := hwX5.2.1; omega
  refine lv_aload_n E.1 E.2.1 dL_law_428 rfl (lv_at hl 2 rfl) ?_
  refine kVWE (As := []) E cw_L_59 (c_X6_clearText G l (x + 179) σ hs tx len hI hT   (by omega)) hMA.choose_spec.choose_spec.choose_spec.choose_spec.choose_spec.choose_spec.choose_spec.1 ⟨_, _, rfl⟩ hMA hL hl.1 rfl rfl (Nat.le_of_ble_eq_true rfl) ⟨Nat.le_of_ble_eq_true rfl, Nat.le_of_ble_eq_true rfl⟩ ⟨by show k + 0 + 0 ≤ 600000; omega, by show n + 0 + 0 ≤ 7302250; omega⟩ dL_law_429 (fun H2 locs hL hwX6 => ?_)
  refine r_icmp_eq (tgt := 916) E dL_law_432 (by decide) (by have hbd := hT80; omega) (by have hbd := hT80; omega) (fun c432 => ?_) (fun c432 => absurd c432 (by omega))
  obtain ⟨fl2, hF⟩ := LwS.act (H0 := s.heap) ⟨hXA, hMA0, hI, hIs, hT, hsz, hfr⟩ hwX5 hwX6 hI hIs TxOk.zero
  refine W.widen (k := k + 80) (n := n + 240) (by show k + 0 ≤ k + 80; omega) (by show n + 0 ≤ n + 240; omega) ?_
  exact K _ _ _ _ _ _ ls locs hF hl hL
theorem law_11 {p : Program} {l : Launch} {e : Env} {s : State} {m : MethodId} {args : Array Value} {below : List Frame} {meth : Method} {c : Code} {H : Heap} {locs : List Loc} {Q : State → Prop} {G : GG} (E : En G p s m args meth c cL_law 8 (some .boolean) RL) {b L : Nat} {xs : Nat → Int32} (hX : va_X b L xs s s.heap) (hbG : b < G.2.2) (hG : G.2.2 = s.heap.size) (hL2 : L ≤ 2048) {fl : Nat → Option Fil} {σ : St} {hs : List St} {tx : Nat → Int} {len : Nat} (x : Nat) (hx : x = G.2.2) (hh : LwS G x s.heap fl σ hs tx len H) (i : Nat) (hi : i + 4 ≤ L) {ls : Array Slot} (hl : lv_has ls 8 [(0, .ref b), (1, .ref x), (2, .ref (x + 179)), (3, .int (iI (i : Int)))]) (hL : Lk G locs) (k n : Nat) (hk : k ≤ 590000) (hn : n ≤ 7000000)
    (K : ∀ (H1 : Heap) (fl1 : Nat → Option Fil) (σ1 : St) (hs1 : List St) (tx1 : Nat → Int) (len1 : Nat) (ls : Array Slot) (locs : List Loc), LwS G x s.heap fl1 σ1 hs1 tx1 len1 H1 → lv_has ls 8 [(0, .ref b), (1, .ref x), (2, .ref (x + 179)), (3, .int (iI (i : Int)))] → Lk G locs → W p l e ({ frames := 10, cells := 600000, slots := 7302250, locals := 368 } : Room) s m args below meth c H1 locs (k + 80) (n + 240) Q (F0 m 916 ls [])) : W p l e ({ frames := 10, cells := 600000, slots := 7302250, locals := 368 } : Room) s m args below meth c H locs k n Q (F0 m 437 ls []) := by
  obtain ⟨hXA, hMA, hI, hIs, hT, hsz, hfr⟩ := hh
  have hMA0 := hMA
  have hT80 := hT.1
  refine lv_aload_n E.1 E.2.1 dL_law_437 rfl (lv_at hl 1 rfl) ?_
  refine kVWE (As := []) E cw_L_60 (c_X5_fault G l x (x + 184) fl σ hs tx len hI hT (by omega) (by omega)   ) hXA.1 ⟨_, _, rfl⟩ ⟨hXA, hsz⟩ hL hl.1 rfl rfl (Nat.le_of_ble_eq_true rfl) ⟨Nat.le_of_ble_eq_true rfl, Nat.le_of_ble_eq_true rfl⟩ ⟨by show k + 0 ≤ 600000; omega, by show n + 0 ≤ 7302250; omega⟩ dL_law_438 (fun H1 locs hL hwX5 => ?_)
  have hMA := LwS.mid (H0 := s.heap) ⟨hXA, hMA, hI, hIs, hT, hsz, hfr⟩ hwX5.2
  have hfr1 : ∀ q, q < G.2.2 → H1[q]? = s.heap[q]? := fun q hq => (hwX5.2.2 q (by omega) (by omega)).trans (hfr q (by omega))
  have hz1 : G.2.2 ≤ H1.size := by have h9 := hwX5.2.1; omega
  refine lv_aload_n E.1 E.2.1 dL_law_441 rfl (lv_at hl 2 rfl) ?_
  refine kVWE (As := []) E cw_L_63 (c_X6_fault G l (x + 179) σ hs tx len hI hT   (by omega)) hMA.choose_spec.choose_spec.choose_spec.choose_spec.choose_spec.choose_spec.choose_spec.1 ⟨_, _, rfl⟩ hMA hL hl.1 rfl rfl (Nat.le_of_ble_eq_true rfl) ⟨Nat.le_of_ble_eq_true rfl, Nat.le_of_ble_eq_true rfl⟩ ⟨by show k + 0 + 0 ≤ 600000; omega, by show n + 0 + 0 ≤ 7302250; omega⟩ dL_law_442 (fun H2 locs hL hwX6 => ?_)
  refine r_icmp_eq (tgt := 916) E dL_law_445 (by decide) (by have hbd := pFlt_b hT _ 0 rfl (Nat.zero_le _); omega) (by have hbd := pFlt_b hT _ 0 rfl (Nat.zero_le _); omega) (fun c445 => ?_) (fun c445 => absurd c445 (by omega))
  obtain ⟨fl2, hF⟩ := LwS.act (H0 := s.heap) ⟨hXA, hMA0, hI, hIs, hT, hsz, hfr⟩ hwX5 hwX6 hI hIs hT
  refine W.widen (k := k + 80) (n := n + 240) (by show k + 0 ≤ k + 80; omega) (by show n + 0 ≤ n + 240; omega) ?_
  exact K _ _ _ _ _ _ ls locs hF hl hL