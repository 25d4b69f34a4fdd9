theorem law_32 {p : Program} {l : Launch} {e : Env} {s : State} {m : MethodId} {args : Array Value} {below : List Frame} {meth : Method} {c : Code} {H : Heap} {locs : List Loc} {Q : State → Prop} {G : GG} (E : En G p s m args meth c cL_law 8 (some .boolean) RL) {b L : Nat} {xs : Nat → Int32} (hX : va_X b L xs s s.heap) (hbG : b < G.2.2) (hG : G.2.2 = s.heap.size) (hL2 : L ≤ 2048) {fl : Nat → Option Fil} {σ : St} {hs : List St} {tx : Nat → Int} {len : Nat} (x : Nat) (hx : x = G.2.2) (hh : LwS G x s.heap fl σ hs tx len H) (i : Nat) (hi : i + 4 ≤ L) {ls : Array Slot} (hl : lv_has ls 8 [(0, .ref b), (1, .ref x), (2, .ref (x + 179)), (3, .int (iI (i : Int)))]) (hL : Lk G locs) (k n : Nat) (hk : k ≤ 590000) (hn : n ≤ 7000000)
    (K : ∀ (H1 : Heap) (fl1 : Nat → Option Fil) (σ1 : St) (hs1 : List St) (tx1 : Nat → Int) (len1 : Nat) (ls : Array Slot) (locs : List Loc), LwS G x s.heap fl1 σ1 hs1 tx1 len1 H1 → lv_has ls 8 [(0, .ref b), (1, .ref x), (2, .ref (x + 179)), (3, .int (iI (i : Int)))] → Lk G locs → W p l e ({ frames := 10, cells := 600000, slots := 7302250, locals := 368 } : Room) s m args below meth c H1 locs (k + 80) (n + 240) Q (F0 m 916 ls [])) : W p l e ({ frames := 10, cells := 600000, slots := 7302250, locals := 368 } : Room) s m args below meth c H locs k n Q (F0 m 880 ls []) := by
  obtain ⟨hXA, hMA, hI, hIs, hT, hsz, hfr⟩ := hh
  obtain ⟨bf, pf, v6, v7, v8, v9, v10, ho9, ha9, hbf9, hpf9, hpk9, htx9⟩ := id hMA
  refine lv_aload_n E.1 E.2.1 dL_law_880 rfl (lv_at hl 1 rfl) ?_
  refine lv_aload_n E.1 E.2.1 dL_law_881 rfl (lv_at hl 0 rfl) ?_
  refine lv_iload_n E.1 E.2.1 dL_law_882 rfl (lv_at hl 3 rfl) ?_
  refine r_const E dL_law_883 ?_
  refine r_add E dL_law_884 ?_
  refine r_scr E hX hbG hG (by omega) (fun q hq => hfr q (by omega)) hL hL2 (i + 1) (by omega) (by omega) dL_law_885 (fun y hy hey => ?_)
  refine kVRE (As := [.int (iI (y))]) E cw_L_146 (c_X5_validIf G l x (x + 184) fl σ hs tx len hI hT (by omega) (by omega) y hy) hXA.1 ⟨_, _, rfl⟩ hXA hL hl.1 rfl rfl (Nat.le_of_ble_eq_true rfl) ⟨Nat.le_of_ble_eq_true rfl, Nat.le_of_ble_eq_true rfl⟩ ⟨rfl, rfl⟩ ⟨by show k ≤ 600000; omega, by show n ≤ 7302250; omega⟩ dL_law_886 (fun locs hL => ?_)
  refine lv_aload_n E.1 E.2.1 dL_law_889 rfl (lv_at hl 2 rfl) ?_
  refine lv_aload_n E.1 E.2.1 dL_law_890 rfl (lv_at hl 0 rfl) ?_
  refine lv_iload_n E.1 E.2.1 dL_law_891 rfl (lv_at hl 3 rfl) ?_
  refine r_const E dL_law_892 ?_
  refine r_add E dL_law_893 ?_
  refine r_scr E hX hbG hG (by omega) (fun q hq => hfr q (by omega)) hL hL2 (i + 1) (by omega) (by omega) dL_law_894 (fun y9 hy9 hey9 => ?_)
  have hee : y9 = y := by have h9 := hey9.symm.trans hey; exact (iI_eq hy9 hy).mp h9
  rw [hee]
  refine kVWE (As := [.int (iI (y))]) E cw_L_149 (c_X6_validIf G l (x + 179) σ _ _ _ _ _ _ _ hI y hy (by omega)) ho9 ⟨_, _, rfl⟩ ⟨ho9, ha9⟩ hL hl.1 rfl rfl (Nat.le_of_ble_eq_true rfl) ⟨Nat.le_of_ble_eq_true rfl, Nat.le_of_ble_eq_true rfl⟩ ⟨by show k ≤ 600000; omega, by show n ≤ 7302250; omega⟩ dL_law_895 (fun H9 locs hL hw9 => ?_)
  refine r_icmp_same (tgt := 916) E dL_law_898 (by decide) ?_
  have hMP : MP G (x + 179) σ hs tx len H H9 := ⟨⟨bf, pf, v6, v7, v8, v9, v10, hw9.1.1, hw9.1.2, hbf9.kept (hw9.2.2 _ (by omega)), hpf9.kept (hw9.2.2 _ (by omega)), hpk9, htx9.kept (hw9.2.2 _ (by omega))⟩, hw9.2.wide (by omega) (by omega)⟩
  have hF := LwS.own (H0 := s.heap) ⟨hXA, hMA, hI, hIs, hT, hsz, hfr⟩ hMP
  refine W.widen (k := k + 80) (n := n + 240) (by show k ≤ k + 80; omega) (by show n ≤ n + 240; omega) ?_
  exact K _ _ _ _ _ _ ls locs hF hl hL
theorem law_33 {p : Program} {l : Launch} {e : Env} {s : State} {m : MethodId} {args : Array Value} {below : List Frame} {meth : Method} {c : Code} {H : Heap} {locs : List Loc} {Q : State → Prop} {G : GG} (E : En G p s m args meth c cL_law 8 (some .boolean) RL) {b L : Nat} {xs : Nat → Int32} (hX : va_X b L xs s s.heap) (hbG : b < G.2.2) (hG : G.2.2 = s.heap.size) (hL2 : L ≤ 2048) {fl : Nat → Option Fil} {σ : St} {hs : List St} {tx : Nat → Int} {len : Nat} (x : Nat) (hx : x = G.2.2) (hh : LwS G x s.heap fl σ hs tx len H) (i : Nat) (hi : i + 4 ≤ L) {ls : Array Slot} (hl : lv_has ls 8 [(0, .ref b), (1, .ref x), (2, .ref (x + 179)), (3, .int (iI (i : Int)))]) (hL : Lk G locs) (k n : Nat) (hk : k ≤ 590000) (hn : n ≤ 7000000)
    (K : ∀ (H1 : Heap) (fl1 : Nat → Option Fil) (σ1 : St) (hs1 : List St) (tx1 : Nat → Int) (len1 : Nat) (ls : Array Slot) (locs : List Loc), LwS G x s.heap fl1 σ1 hs1 tx1 len1 H1 → lv_has ls 8 [(0, .ref b), (1, .ref x), (2, .ref (x + 179)), (3, .int (iI (i : Int)))] → Lk G locs → W p l e ({ frames := 10, cells := 600000, slots := 7302250, locals := 368 } : Room) s m args below meth c H1 locs (k + 80) (n + 240) Q (F0 m 916 ls [])) : W p l e ({ frames := 10, cells := 600000, slots := 7302250, locals := 368 } : Room) s m args below meth c H locs k n Q (F0 m 903 ls []) := by
  obtain ⟨hXA, hMA, hI, hIs, hT, hsz, hfr⟩ := hh
  obtain ⟨bf, pf, v6, v7, v8, v9, v10, ho9, ha9, hbf9, hpf9, hpk9, htx9⟩ := id hMA
  refine lv_aload_n E.1 E.2.1 dL_law_903 rfl (lv_at hl 1 rfl) ?_
  refine kVRE (As := []) E cw_L_150 (c_X5_worstSector G l x (x + 184) fl σ hs tx len hI hT (by omega) (by omega)  ) hXA.1 ⟨_, _, rfl⟩ hXA hL hl.1 rfl rfl (Nat.le_of_ble_eq_true rfl) ⟨Nat.le_of_ble_eq_true rfl, Nat.le_of_ble_eq_true rfl⟩ ⟨rfl, rfl⟩ ⟨by show k ≤ 600000; omega, by show n ≤ 7302250; omega⟩ dL_law_904 (fun locs hL => ?_)
  refine lv_aload_n E.1 E.2.1 dL_law_907 rfl (lv_at hl 2 rfl) ?_
  refine kVWE (As := []) E cw_L_153 (c_X6_worstSector G l (x + 179) σ _ _ _ _ _ _ _ hI   (by omega)) ho9 ⟨_, _, rfl⟩ ⟨ho9, ha9⟩ hL hl.1 rfl rfl (Nat.le_of_ble_eq_true rfl) ⟨Nat.le_of_ble_eq_true rfl, Nat.le_of_ble_eq_true rfl⟩ ⟨by show k ≤ 600000; omega, by show n ≤ 7302250; omega⟩ dL_law_908 (fun H9 locs hL hw9 => ?_)
  rw [worst_eq hI]
  refine r_icmp_same (tgt := 916) E dL_law_911 (by decide) ?_
  have hMP : MP G (x + 179) σ hs tx len H H9 := ⟨⟨bf, pf, v6, v7, v8, v9, v10, hw9.1.1, hw9.1.2, hbf9.kept (hw9.2.2 _ (by omega)), hpf9.kept (hw9.2.2 _ (by omega)), hpk9, htx9.kept (hw9.2.2 _ (by omega))⟩, hw9.2.wide (by omega) (by omega)⟩
  have hF := LwS.own (H0 := s.heap) ⟨hXA, hMA, hI, hIs, hT, hsz, hfr⟩ hMP
  refine W.widen (k := k + 80) (n := n + 240) (by show k ≤ k + 80; omega) (by show n ≤ n + 240; omega) ?_
  exact K _ _ _ _ _ _ ls locs hF hl hL