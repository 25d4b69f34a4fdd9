section MSAME
variable {p : Program} {l : Launch} {e : Env} {R : Room} {s : State} {m : MethodId} {args : Array Value} {below : List Frame} {meth : Method} {c : Code} {H : Heap} {locs : List Loc} {cells slots : Nat} {Q : State → Prop}
variable {G : GG} {cc : ByteArray} {n : Nat} {ret : Option FieldType} {own : String} {pc : Nat} {ls : Array Slot} {rest : List Value}
theorem r_icmp_same (E : En G p s m args meth c cc n ret own) {a : Int32} {off : Int} {tgt : Nat} (hdg : decode cc pc = .ok (.if_icmp .eq off, 3)) (ht : (pc : Int) + off = (tgt : Int))
    (kt : W p l e R s m args below meth c H locs cells slots Q (F0 m tgt ls rest)) : W p l e R s m args below meth c H locs cells slots Q (F0 m pc ls (.int a :: .int a :: rest)) := lv_icmp_eq E.1 E.2.1 hdg ht (fun _ => kt) (fun h => absurd rfl h)
end MSAME
theorem law_14 {p : Program} {l : Launch} {e : Env} {s : State} {m : MethodId} {args : Array Value} {below : List Frame} {meth : Method} {c : Code} {H : Heap} {locs : List Loc} {Q : State → Prop} {G : GG} (E : En G p s m args meth c cL_law 8 (some .boolean) RL) {b L : Nat} {xs : Nat → Int32} (hX : va_X b L xs s s.heap) (hbG : b < G.2.2) (hG : G.2.2 = s.heap.size) (hL2 : L ≤ 2048) {fl : Nat → Option Fil} {σ : St} {hs : List St} {tx : Nat → Int} {len : Nat} (x : Nat) (hx : x = G.2.2) (hh : LwS G x s.heap fl σ hs tx len H) (i : Nat) (hi : i + 4 ≤ L) {ls : Array Slot} (hl : lv_has ls 8 [(0, .ref b), (1, .ref x), (2, .ref (x + 179)), (3, .int (iI (i : Int)))]) (hL : Lk G locs) (k n : Nat) (hk : k ≤ 590000) (hn : n ≤ 7000000)
    (K : ∀ (H1 : Heap) (fl1 : Nat → Option Fil) (σ1 : St) (hs1 : List St) (tx1 : Nat → Int) (len1 : Nat) (ls : Array Slot) (locs : List Loc), LwS G x s.heap fl1 σ1 hs1 tx1 len1 H1 → lv_has ls 8 [(0, .ref b), (1, .ref x), (2, .ref (x + 179)), (3, .int (iI (i : Int)))] → Lk G locs → W p l e ({ frames := 10, cells := 600000, slots := 7302250, locals := 368 } : Room) s m args below meth c H1 locs (k + 80) (n + 240) Q (F0 m 916 ls [])) : W p l e ({ frames := 10, cells := 600000, slots := 7302250, locals := 368 } : Room) s m args below meth c H locs k n Q (F0 m 476 ls []) := by
  obtain ⟨hXA, hMA, hI, hIs, hT, hsz, hfr⟩ := hh
  obtain ⟨bf, pf, v6, v7, v8, v9, v10, ho9, ha9, hbf9, hpf9, hpk9, htx9⟩ := id hMA
  refine lv_aload_n E.1 E.2.1 dL_law_476 rfl (lv_at hl 1 rfl) ?_
  refine kVRE (As := []) E cw_L_72 (c_X5_sessions G l x (x + 184) fl σ hs tx len hI hT (by omega) (by omega)  ) hXA.1 ⟨_, _, rfl⟩ hXA hL hl.1 rfl rfl (Nat.le_of_ble_eq_true rfl) ⟨Nat.le_of_ble_eq_true rfl, Nat.le_of_ble_eq_true rfl⟩ ⟨rfl, rfl⟩ ⟨by show k ≤ 600000; omega, by show n ≤ 7302250; omega⟩ dL_law_477 (fun locs hL => ?_)
  refine lv_aload_n E.1 E.2.1 dL_law_480 rfl (lv_at hl 2 rfl) ?_
  refine kVRE (As := []) E cw_L_75 (c_X6_sessions G l (x + 179) σ _ _ _ _ _ _ _ hI  ) ho9 ⟨_, _, rfl⟩ ⟨ho9, ha9⟩ hL hl.1 rfl rfl (Nat.le_of_ble_eq_true rfl) ⟨Nat.le_of_ble_eq_true rfl, Nat.le_of_ble_eq_true rfl⟩ ⟨rfl, rfl⟩ ⟨by show k ≤ 600000; omega, by show n ≤ 7302250; omega⟩ dL_law_481 (fun locs hL => ?_)
  refine r_icmp_same (tgt := 916) E dL_law_484 (by decide) ?_
  refine W.widen (k := k + 80) (n := n + 240) (by omega) (by omega) ?_
  exact K _ _ _ _ _ _ ls locs ⟨hXA, hMA, hI, hIs, hT, hsz, hfr⟩ hl hL
theorem law_15 {p : Program} {l : Launch} {e : Env} {s : State} {m : MethodId} {args : Array Value} {below : List Frame} {meth : Method} {c : Code} {H : Heap} {locs : List Loc} {Q : State → Prop} {G : GG} (E : En G p s m args meth c cL_law 8 (some .boolean) RL) {b L : Nat} {xs : Nat → Int32} (hX : va_X b L xs s s.heap) (hbG : b < G.2.2) (hG : G.2.2 = s.heap.size) (hL2 : L ≤ 2048) {fl : Nat → Option Fil} {σ : St} {hs : List St} {tx : Nat → Int} {len : Nat} (x : Nat) (hx : x = G.2.2) (hh : LwS G x s.heap fl σ hs tx len H) (i : Nat) (hi : i + 4 ≤ L) {ls : Array Slot} (hl : lv_has ls 8 [(0, .ref b), (1, .ref x), (2, .ref (x + 179)), (3, .int (iI (i : Int)))]) (hL : Lk G locs) (k n : Nat) (hk : k ≤ 590000) (hn : n ≤ 7000000)
    (K : ∀ (H1 : Heap) (fl1 : Nat → Option Fil) (σ1 : St) (hs1 : List St) (tx1 : Nat → Int) (len1 : Nat) (ls : Array Slot) (locs : List Loc), LwS G x s.heap fl1 σ1 hs1 tx1 len1 H1 → lv_has ls 8 [(0, .ref b), (1, .ref x), (2, .ref (x + 179)), (3, .int (iI (i : Int)))] → Lk G locs → W p l e ({ frames := 10, cells := 600000, slots := 7302250, locals := 368 } : Room) s m args below meth c H1 locs (k + 80) (n + 240) Q (F0 m 916 ls [])) : W p l e ({ frames := 10, cells := 600000, slots := 7302250, locals := 368 } : Room) s m args below meth c H locs k n Q (F0 m 489 ls []) := by
  obtain ⟨hXA, hMA, hI, hIs, hT, hsz, hfr⟩ := hh
  obtain ⟨bf, pf, v6, v7, v8, v9, v10, ho9, ha9, hbf9, hpf9, hpk9, htx9⟩ := id hMA
  refine lv_aload_n E.1 E.2.1 dL_law_489 rfl (lv_at hl 1 rfl) ?_
  refine lv_aload_n E.1 E.2.1 dL_law_490 rfl (lv_at hl 0 rfl) ?_
  refine lv_iload_n E.1 E.2.1 dL_law_491 rfl (lv_at hl 3 rfl) ?_
  refine r_const E dL_law_492 ?_
  refine r_add E dL_law_493 ?_
  refine r_scr E hX hbG hG (by omega) (fun q hq => hfr q (by omega)) hL hL2 (i + 1) (by omega) (by omega) dL_law_494 (fun y hy hey => ?_)
  refine lv_aload_n E.1 E.2.1 dL_law_495 rfl (lv_at hl 0 rfl) ?_
  refine lv_iload_n E.1 E.2.1 dL_law_496 rfl (lv_at hl 3 rfl) ?_
  refine r_const E dL_law_497 ?_
  refine r_add E dL_law_498 ?_
  refine r_scr E hX hbG hG (by omega) (fun q hq => hfr q (by omega)) hL hL2 (i + 2) (by omega) (by omega) dL_law_499 (fun z hz hez => ?_)
  refine kVRE (As := [.int (iI (y)), .int (iI (z))]) E cw_L_76 (c_X5_session G l x (x + 184) fl σ hs tx len hI hT (by omega) (by omega) y z hy hz) hXA.1 ⟨_, _, rfl⟩ hXA hL hl.1 rfl rfl (Nat.le_of_ble_eq_true rfl) ⟨Nat.le_of_ble_eq_true rfl, Nat.le_of_ble_eq_true rfl⟩ ⟨rfl, rfl⟩ ⟨by show k ≤ 600000; omega, by show n ≤ 7302250; omega⟩ dL_law_500 (fun locs hL => ?_)
  refine lv_aload_n E.1 E.2.1 dL_law_503 rfl (lv_at hl 2 rfl) ?_
  refine lv_aload_n E.1 E.2.1 dL_law_504 rfl (lv_at hl 0 rfl) ?_
  refine lv_iload_n E.1 E.2.1 dL_law_505 rfl (lv_at hl 3 rfl) ?_
  refine r_const E dL_law_506 ?_
  refine r_add E dL_law_507 ?_
  refine r_scr E hX hbG hG (by omega) (fun q hq => hfr q (by omega)) hL hL2 (i + 1) (by omega) (by omega) dL_law_508 (fun y9 hy9 hey9 => ?_)
  have hee : y9 = y := by have h9 := hey9.symm.trans hey; exact (iI_eq hy9 hy).mp h9
  rw [hee]
  refine lv_aload_n E.1 E.2.1 dL_law_509 rfl (lv_at hl 0 rfl) ?_
  refine lv_iload_n E.1 E.2.1 dL_law_510 rfl (lv_at hl 3 rfl) ?_
  refine r_const E dL_law_511 ?_
  refine r_add E dL_law_512 ?_
  refine r_scr E hX hbG hG (by omega) (fun q hq => hfr q (by omega)) hL hL2 (i + 2) (by omega) (by omega) dL_law_513 (fun z9 hz9 hez9 => ?_)
  have hee : z9 = z := by have h9 := hez9.symm.trans hez; exact (iI_eq hz9 hz).mp h9
  rw [hee]
  refine kVRE (As := [.int (iI (y)), .int (iI (z))]) E cw_L_79 (c_X6_session G l (x + 179) σ _ _ _ _ _ _ _ hI y z hy hz) ho9 ⟨_, _, rfl⟩ ⟨ho9, ha9⟩ hL hl.1 rfl rfl (Nat.le_of_ble_eq_true rfl) ⟨Nat.le_of_ble_eq_true rfl, Nat.le_of_ble_eq_true rfl⟩ ⟨rfl, rfl⟩ ⟨by show k ≤ 600000; omega, by show n ≤ 7302250; omega⟩ dL_law_514 (fun locs hL => ?_)
  refine r_icmp_same (tgt := 916) E dL_law_517 (by decide) ?_
  refine W.widen (k := k + 80) (n := n + 240) (by omega) (by omega) ?_
  exact K _ _ _ _ _ _ ls locs ⟨hXA, hMA, hI, hIs, hT, hsz, hfr⟩ hl hL
theorem law_16 {p : Program} {l : Launch} {e : Env} {s : State} {m : MethodId} {args : Array Value} {below : List Frame} {meth : Method} {c : Code} {H : Heap} {locs : List Loc} {Q : State → Prop} {G : GG} (E : En G p s m args meth c cL_law 8 (some .boolean) RL) {b L : Nat} {xs : Nat → Int32} (hX : va_X b L xs s s.heap) (hbG : b < G.2.2) (hG : G.2.2 = s.heap.size) (hL2 : L ≤ 2048) {fl : Nat → Option Fil} {σ : St} {hs : List St} {tx : Nat → Int} {len : Nat} (x : Nat) (hx : x = G.2.2) (hh : LwS G x s.heap fl σ hs tx len H) (i : Nat) (hi : i + 4 ≤ L) {ls : Array Slot} (hl : lv_has ls 8 [(0, .ref b), (1, .ref x), (2, .ref (x + 179)), (3, .int (iI (i : Int)))]) (hL : Lk G locs) (k n : Nat) (hk : k ≤ 590000) (hn : n ≤ 7000000)
    (K : ∀ (H1 : Heap) (fl1 : Nat → Option Fil) (σ1 : St) (hs1 : List St) (tx1 : Nat → Int) (len1 : Nat) (ls : Array Slot) (locs : List Loc), LwS G x s.heap fl1 σ1 hs1 tx1 len1 H1 → lv_has ls 8 [(0, .ref b), (1, .ref x), (2, .ref (x + 179)), (3, .int (iI (i : Int)))] → Lk G locs → W p l e ({ frames := 10, cells := 600000, slots := 7302250, locals := 368 } : Room) s m args below meth c H1 locs (k + 80) (n + 240) Q (F0 m 916 ls [])) : W p l e ({ frames := 10, cells := 600000, slots := 7302250, locals := 368 } : Room) s m args below meth c H locs k n Q (F0 m 522 ls []) := by
  obtain ⟨hXA, hMA, hI, hIs, hT, hsz, hfr⟩ := hh
  obtain ⟨bf, pf, v6, v7, v8, v9, v10, ho9, ha9, hbf9, hpf9, hpk9, htx9⟩ := id hMA
  refine lv_aload_n E.1 E.2.1 dL_law_522 rfl (lv_at hl 1 rfl) ?_
  refine lv_aload_n E.1 E.2.1 dL_law_523 rfl (lv_at hl 0 rfl) ?_
  refine lv_iload_n E.1 E.2.1 dL_law_524 rfl (lv_at hl 3 rfl) ?_
  refine r_const E dL_law_525 ?_
  refine r_add E dL_law_526 ?_
  refine r_scr E hX hbG hG (by omega) (fun q hq => hfr q (by omega)) hL hL2 (i + 1) (by omega) (by omega) dL_law_527 (fun y hy hey => ?_)
  refine lv_aload_n E.1 E.2.1 dL_law_528 rfl (lv_at hl 0 rfl) ?_
  refine lv_iload_n E.1 E.2.1 dL_law_529 rfl (lv_at hl 3 rfl) ?_
  refine r_const E dL_law_530 ?_
  refine r_add E dL_law_531 ?_
  refine r_scr E hX hbG hG (by omega) (fun q hq => hfr q (by omega)) hL hL2 (i + 2) (by omega) (by omega) dL_law_532 (fun z hz hez => ?_)
  refine lv_aload_n E.1 E.2.1 dL_law_533 rfl (lv_at hl 0 rfl) ?_
  refine lv_iload_n E.1 E.2.1 dL_law_534 rfl (lv_at hl 3 rfl) ?_
  refine r_const E dL_law_535 ?_
  refine r_add E dL_law_536 ?_
  refine r_scr E hX hbG hG (by omega) (fun q hq => hfr q (by omega)) hL hL2 (i + 3) (by omega) (by omega) dL_law_537 (fun u hu heu => ?_)
  refine kVRE (As := [.int (iI (y)), .int (iI (z)), .int (iI (u))]) E cw_L_80 (c_X5_entry G l x (x + 184) fl σ hs tx len hI hT (by omega) (by omega) y z u hy hz hu) hXA.1 ⟨_, _, rfl⟩ hXA hL hl.1 rfl rfl (Nat.le_of_ble_eq_true rfl) ⟨Nat.le_of_ble_eq_true rfl, Nat.le_of_ble_eq_true rfl⟩ ⟨rfl, rfl⟩ ⟨by show k ≤ 600000; omega, by show n ≤ 7302250; omega⟩ dL_law_538 (fun locs hL => ?_)
  refine lv_aload_n E.1 E.2.1 dL_law_541 rfl (lv_at hl 2 rfl) ?_
  refine lv_aload_n E.1 E.2.1 dL_law_542 rfl (lv_at hl 0 rfl) ?_
  refine lv_iload_n E.1 E.2.1 dL_law_543 rfl (lv_at hl 3 rfl) ?_
  refine r_const E dL_law_544 ?_
  refine r_add E dL_law_545 ?_
  refine r_scr E hX hbG hG (by omega) (fun q hq => hfr q (by omega)) hL hL2 (i + 1) (by omega) (by omega) dL_law_546 (fun y9 hy9 hey9 => ?_)
  have hee : y9 = y := by have h9 := hey9.symm.trans hey; exact (iI_eq hy9 hy).mp h9
  rw [hee]
  refine lv_aload_n E.1 E.2.1 dL_law_547 rfl (lv_at hl 0 rfl) ?_
  refine lv_iload_n E.1 E.2.1 dL_law_548 rfl (lv_at hl 3 rfl) ?_
  refine r_const E dL_law_549 ?_
  refine r_add E dL_law_550 ?_
  refine r_scr E hX hbG hG (by omega) (fun q hq => hfr q (by omega)) hL hL2 (i + 2) (by omega) (by omega) dL_law_551 (fun z9 hz9 hez9 => ?_)
  have hee : z9 = z := by have h9 := hez9.symm.trans hez; exact (iI_eq hz9 hz).mp h9
  rw [hee]
  refine lv_aload_n E.1 E.2.1 dL_law_552 rfl (lv_at hl 0 rfl) ?_
  refine lv_iload_n E.1 E.2.1 dL_law_553 rfl (lv_at hl 3 rfl) ?_
  refine r_const E dL_law_554 ?_
  refine r_add E dL_law_555 ?_
  refine r_scr E hX hbG hG (by omega) (fun q hq => hfr q (by omega)) hL hL2 (i + 3) (by omega) (by omega) dL_law_556 (fun u9 hu9 heu9 => ?_)
  have hee : u9 = u := by have h9 := heu9.symm.trans heu; exact (iI_eq hu9 hu).mp h9
  rw [hee]
  refine kVRE (As := [.int (iI (y)), .int (iI (z)), .int (iI (u))]) E cw_L_84 (c_X6_entry G l (x + 179) σ _ _ _ _ _ _ _ hI y z u hy hz hu) ho9 ⟨_, _, rfl⟩ ⟨ho9, ha9⟩ hL hl.1 rfl rfl (Nat.le_of_ble_eq_true rfl) ⟨Nat.le_of_ble_eq_true rfl, Nat.le_of_ble_eq_true rfl⟩ ⟨rfl, rfl⟩ ⟨by show k ≤ 600000; omega, by show n ≤ 7302250; omega⟩ dL_law_557 (fun locs hL => ?_)
  refine r_icmp_same (tgt := 916) E dL_law_560 (by decide) ?_
  refine W.widen (k := k + 80) (n := n + 240) (by omega) (by omega) ?_
  exact K _ _ _ _ _ _ ls locs ⟨hXA, hMA, hI, hIs, hT, hsz, hfr⟩ hl hL
theorem law_17 {p : Program} {l : Launch} {e : Env} {s : State} {m : MethodId} {args : Array Value} {below : List Frame} {meth : Method} {c : Code} {H : Heap} {locs : List Loc} {Q : State → Prop} {G : GG} (E : En G p s m args meth c cL_law 8 (some .boolean) RL) {b L : Nat} {xs : Nat → Int32} (hX : va_X b L xs s s.heap) (hbG : b < G.2.2) (hG : G.2.2 = s.heap.size) (hL2 : L ≤ 2048) {fl : Nat → Option Fil} {σ : St} {hs : List St} {tx : Nat → Int} {len : Nat} (x : Nat) (hx : x = G.2.2) (hh : LwS G x s.heap fl σ hs tx len H) (i : Nat) (hi : i + 4 ≤ L) {ls : Array Slot} (hl : lv_has ls 8 [(0, .ref b), (1, .ref x), (2, .ref (x + 179)), (3, .int (iI (i : Int)))]) (hL : Lk G locs) (k n : Nat) (hk : k ≤ 590000) (hn : n ≤ 7000000)
    (K : ∀ (H1 : Heap) (fl1 : Nat → Option Fil) (σ1 : St) (hs1 : List St) (tx1 : Nat → Int) (len1 : Nat) (ls : Array Slot) (locs : List Loc), LwS G x s.heap fl1 σ1 hs1 tx1 len1 H1 → lv_has ls 8 [(0, .ref b), (1, .ref x), (2, .ref (x + 179)), (3, .int (iI (i : Int)))] → Lk G locs → W p l e ({ frames := 10, cells := 600000, slots := 7302250, locals := 368 } : Room) s m args below meth c H1 locs (k + 80) (n + 240) Q (F0 m 916 ls [])) : W p l e ({ frames := 10, cells := 600000, slots := 7302250, locals := 368 } : Room) s m args below meth c H locs k n Q (F0 m 565 ls []) := by
  obtain ⟨hXA, hMA, hI, hIs, hT, hsz, hfr⟩ := hh
  obtain ⟨bf, pf, v6, v7, v8, v9, v10, ho9, ha9, hbf9, hpf9, hpk9, htx9⟩ := id hMA
  refine lv_aload_n E.1 E.2.1 dL_law_565 rfl (lv_at hl 1 rfl) ?_
  refine kVRE (As := []) E cw_L_85 (c_X5_valid G l x (x + 184) fl σ hs tx len hI hT (by omega) (by omega)  ) hXA.1 ⟨_, _, rfl⟩ hXA hL hl.1 rfl rfl (Nat.le_of_ble_eq_true rfl) ⟨Nat.le_of_ble_eq_true rfl, Nat.le_of_ble_eq_true rfl⟩ ⟨rfl, rfl⟩ ⟨by show k ≤ 600000; omega, by show n ≤ 7302250; omega⟩ dL_law_566 (fun locs hL => ?_)
  refine lv_aload_n E.1 E.2.1 dL_law_569 rfl (lv_at hl 2 rfl) ?_
  refine kVRE (As := []) E cw_L_88 (c_X6_valid G l (x + 179) σ _ _ _ _ _ _ _ hI  ) ho9 ⟨_, _, rfl⟩ ⟨ho9, ha9⟩ hL hl.1 rfl rfl (Nat.le_of_ble_eq_true rfl) ⟨Nat.le_of_ble_eq_true rfl, Nat.le_of_ble_eq_true rfl⟩ ⟨rfl, rfl⟩ ⟨by show k ≤ 600000; omega, by show n ≤ 7302250; omega⟩ dL_law_570 (fun locs hL => ?_)
  refine r_icmp_same (tgt := 916) E dL_law_573 (by decide) ?_
  refine W.widen (k := k + 80) (n := n + 240) (by omega) (by omega) ?_
  exact K _ _ _ _ _ _ ls locs ⟨hXA, hMA, hI, hIs, hT, hsz, hfr⟩ hl hL
theorem law_18 {p : Program} {l : Launch} {e : Env} {s : State} {m : MethodId} {args : Array Value} {below : List Frame} {meth : Method} {c : Code} {H : Heap} {locs : List Loc} {Q : State → Prop} {G : GG} (E : En G p s m args meth c cL_law 8 (some .boolean) RL) {b L : Nat} {xs : Nat → Int32} (hX : va_X b L xs s s.heap) (hbG : b < G.2.2) (hG : G.2.2 = s.heap.size) (hL2 : L ≤ 2048) {fl : Nat → Option Fil} {σ : St} {hs : List St} {tx : Nat → Int} {len : Nat} (x : Nat) (hx : x = G.2.2) (hh : LwS G x s.heap fl σ hs tx len H) (i : Nat) (hi : i + 4 ≤ L) {ls : Array Slot} (hl : lv_has ls 8 [(0, .ref b), (1, .ref x), (2, .ref (x + 179)), (3, .int (iI (i : Int)))]) (hL : Lk G locs) (k n : Nat) (hk : k ≤ 590000) (hn : n ≤ 7000000)
    (K : ∀ (H1 : Heap) (fl1 : Nat → Option Fil) (σ1 : St) (hs1 : List St) (tx1 : Nat → Int) (len1 : Nat) (ls : Array Slot) (locs : List Loc), LwS G x s.heap fl1 σ1 hs1 tx1 len1 H1 → lv_has ls 8 [(0, .ref b), (1, .ref x), (2, .ref (x + 179)), (3, .int (iI (i : Int)))] → Lk G locs → W p l e ({ frames := 10, cells := 600000, slots := 7302250, locals := 368 } : Room) s m args below meth c H1 locs (k + 80) (n + 240) Q (F0 m 916 ls [])) : W p l e ({ frames := 10, cells := 600000, slots := 7302250, locals := 368 } : Room) s m args below meth c H locs k n Q (F0 m 578 ls []) := by
  obtain ⟨hXA, hMA, hI, hIs, hT, hsz, hfr⟩ := hh
  obtain ⟨bf, pf, v6, v7, v8, v9, v10, ho9, ha9, hbf9, hpf9, hpk9, htx9⟩ := id hMA
  refine lv_aload_n E.1 E.2.1 dL_law_578 rfl (lv_at hl 1 rfl) ?_
  refine kVRE (As := []) E cw_L_89 (c_X5_next G l x (x + 184) fl σ hs tx len hI hT (by omega) (by omega)  ) hXA.1 ⟨_, _, rfl⟩ hXA hL hl.1 rfl rfl (Nat.le_of_ble_eq_true rfl) ⟨Nat.le_of_ble_eq_true rfl, Nat.le_of_ble_eq_true rfl⟩ ⟨rfl, rfl⟩ ⟨by show k ≤ 600000; omega, by show n ≤ 7302250; omega⟩ dL_law_579 (fun locs hL => ?_)
  refine lv_aload_n E.1 E.2.1 dL_law_582 rfl (lv_at hl 2 rfl) ?_
  refine kVRE (As := []) E cw_L_92 (c_X6_next G l (x + 179) σ _ _ _ _ _ _ _ hI  ) ho9 ⟨_, _, rfl⟩ ⟨ho9, ha9⟩ hL hl.1 rfl rfl (Nat.le_of_ble_eq_true rfl) ⟨Nat.le_of_ble_eq_true rfl, Nat.le_of_ble_eq_true rfl⟩ ⟨rfl, rfl⟩ ⟨by show k ≤ 600000; omega, by show n ≤ 7302250; omega⟩ dL_law_583 (fun locs hL => ?_)
  refine r_icmp_same (tgt := 916) E dL_law_586 (by decide) ?_
  refine W.widen (k := k + 80) (n := n + 240) (by omega) (by omega) ?_
  exact K _ _ _ _ _ _ ls locs ⟨hXA, hMA, hI, hIs, hT, hsz, hfr⟩ hl hL
theorem law_19 {p : Program} {l : Launch} {e : Env} {s : State} {m : MethodId} {args : Array Value} {below : List Frame} {meth : Method} {c : Code} {H : Heap} {locs : List Loc} {Q : State → Prop} {G : GG} (E : En G p s m args meth c cL_law 8 (some .boolean) RL) {b L : Nat} {xs : Nat → Int32} (hX : va_X b L xs s s.heap) (hbG : b < G.2.2) (hG : G.2.2 = s.heap.size) (hL2 : L ≤ 2048) {fl : Nat → Option Fil} {σ : St} {hs : List St} {tx : Nat → Int} {len : Nat} (x : Nat) (hx : x = G.2.2) (hh : LwS G x s.heap fl σ hs tx len H) (i : Nat) (hi : i + 4 ≤ L) {ls : Array Slot} (hl : lv_has ls 8 [(0, .ref b), (1, .ref x), (2, .ref (x + 179)), (3, .int (iI (i : Int)))]) (hL : Lk G locs) (k n : Nat) (hk : k ≤ 590000) (hn : n ≤ 7000000)
    (K : ∀ (H1 : Heap) (fl1 : Nat → Option Fil) (σ1 : St) (hs1 : List St) (tx1 : Nat → Int) (len1 : Nat) (ls : Array Slot) (locs : List Loc), LwS G x s.heap fl1 σ1 hs1 tx1 len1 H1 → lv_has ls 8 [(0, .ref b), (1, .ref x), (2, .ref (x + 179)), (3, .int (iI (i : Int)))] → Lk G locs → W p l e ({ frames := 10, cells := 600000, slots := 7302250, locals := 368 } : Room) s m args below meth c H1 locs (k + 80) (n + 240) Q (F0 m 916 ls [])) : W p l e ({ frames := 10, cells := 600000, slots := 7302250, locals := 368 } : Room) s m args below meth c H locs k n Q (F0 m 591 ls []) := by
  obtain ⟨hXA, hMA, hI, hIs, hT, hsz, hfr⟩ := hh
  obtain ⟨bf, pf, v6, v7, v8, v9, v10, ho9, ha9, hbf9, hpf9, hpk9, htx9⟩ := id hMA
  refine lv_aload_n E.1 E.2.1 dL_law_591 rfl (lv_at hl 1 rfl) ?_
  refine lv_aload_n E.1 E.2.1 dL_law_592 rfl (lv_at hl 0 rfl) ?_
  refine lv_iload_n E.1 E.2.1 dL_law_593 rfl (lv_at hl 3 rfl) ?_
  refine r_const E dL_law_594 ?_
  refine r_add E dL_law_595 ?_
  refine r_scr E hX hbG hG (by omega) (fun q hq => hfr q (by omega)) hL hL2 (i + 1) (by omega) (by omega) dL_law_596 (fun y hy hey => ?_)
  refine kVRE (As := [.int (iI (y))]) E cw_L_93 (c_X5_damaged G l x (x + 184) fl σ hs tx len hI hT (by omega) (by omega) y hy) hXA.1 ⟨_, _, rfl⟩ hXA hL hl.1 rfl rfl (Nat.le_of_ble_eq_true rfl) ⟨Nat.le_of_ble_eq_true rfl, Nat.le_of_ble_eq_true rfl⟩ ⟨rfl, rfl⟩ ⟨by show k ≤ 600000; omega, by show n ≤ 7302250; omega⟩ dL_law_597 (fun locs hL => ?_)
  refine lv_aload_n E.1 E.2.1 dL_law_600 rfl (lv_at hl 2 rfl) ?_
  refine lv_aload_n E.1 E.2.1 dL_law_601 rfl (lv_at hl 0 rfl) ?_
  refine lv_iload_n E.1 E.2.1 dL_law_602 rfl (lv_at hl 3 rfl) ?_
  refine r_const E dL_law_603 ?_
  refine r_add E dL_law_604 ?_
  refine r_scr E hX hbG hG (by omega) (fun q hq => hfr q (by omega)) hL hL2 (i + 1) (by omega) (by omega) dL_law_605 (fun y9 hy9 hey9 => ?_)
  have hee : y9 = y := by have h9 := hey9.symm.trans hey; exact (iI_eq hy9 hy).mp h9
  rw [hee]
  refine kVRE (As := [.int (iI (y))]) E cw_L_96 (c_X6_damaged G l (x + 179) σ _ _ _ _ _ _ _ hI y hy) ho9 ⟨_, _, rfl⟩ ⟨ho9, ha9⟩ hL hl.1 rfl rfl (Nat.le_of_ble_eq_true rfl) ⟨Nat.le_of_ble_eq_true rfl, Nat.le_of_ble_eq_true rfl⟩ ⟨rfl, rfl⟩ ⟨by show k ≤ 600000; omega, by show n ≤ 7302250; omega⟩ dL_law_606 (fun locs hL => ?_)
  refine r_icmp_same (tgt := 916) E dL_law_609 (by decide) ?_
  refine W.widen (k := k + 80) (n := n + 240) (by omega) (by omega) ?_
  exact K _ _ _ _ _ _ ls locs ⟨hXA, hMA, hI, hIs, hT, hsz, hfr⟩ hl hL
theorem law_20 {p : Program} {l : Launch} {e : Env} {s : State} {m : MethodId} {args : Array Value} {below : List Frame} {meth : Method} {c : Code} {H : Heap} {locs : List Loc} {Q : State → Prop} {G : GG} (E : En G p s m args meth c cL_law 8 (some .boolean) RL) {b L : Nat} {xs : Nat → Int32} (hX : va_X b L xs s s.heap) (hbG : b < G.2.2) (hG : G.2.2 = s.heap.size) (hL2 : L ≤ 2048) {fl : Nat → Option Fil} {σ : St} {hs : List St} {tx : Nat → Int} {len : Nat} (x : Nat) (hx : x = G.2.2) (hh : LwS G x s.heap fl σ hs tx len H) (i : Nat) (hi : i + 4 ≤ L) {ls : Array Slot} (hl : lv_has ls 8 [(0, .ref b), (1, .ref x), (2, .ref (x + 179)), (3, .int (iI (i : Int)))]) (hL : Lk G locs) (k n : Nat) (hk : k ≤ 590000) (hn : n ≤ 7000000)
    (K : ∀ (H1 : Heap) (fl1 : Nat → Option Fil) (σ1 : St) (hs1 : List St) (tx1 : Nat → Int) (len1 : Nat) (ls : Array Slot) (locs : List Loc), LwS G x s.heap fl1 σ1 hs1 tx1 len1 H1 → lv_has ls 8 [(0, .ref b), (1, .ref x), (2, .ref (x + 179)), (3, .int (iI (i : Int)))] → Lk G locs → W p l e ({ frames := 10, cells := 600000, slots := 7302250, locals := 368 } : Room) s m args below meth c H1 locs (k + 80) (n + 240) Q (F0 m 916 ls [])) : W p l e ({ frames := 10, cells := 600000, slots := 7302250, locals := 368 } : Room) s m args below meth c H locs k n Q (F0 m 614 ls []) := by
  obtain ⟨hXA, hMA, hI, hIs, hT, hsz, hfr⟩ := hh
  obtain ⟨bf, pf, v6, v7, v8, v9, v10, ho9, ha9, hbf9, hpf9, hpk9, htx9⟩ := id hMA
  refine lv_aload_n E.1 E.2.1 dL_law_614 rfl (lv_at hl 1 rfl) ?_
  refine lv_aload_n E.1 E.2.1 dL_law_615 rfl (lv_at hl 0 rfl) ?_
  refine lv_iload_n E.1 E.2.1 dL_law_616 rfl (lv_at hl 3 rfl) ?_
  refine r_const E dL_law_617 ?_
  refine r_add E dL_law_618 ?_
  refine r_scr E hX hbG hG (by omega) (fun q hq => hfr q (by omega)) hL hL2 (i + 1) (by omega) (by omega) dL_law_619 (fun y hy hey => ?_)
  refine kVRE (As := [.int (iI (y))]) E cw_L_97 (c_X5_use G l x (x + 184) fl σ hs tx len hI hT (by omega) (by omega) y hy) hXA.1 ⟨_, _, rfl⟩ hXA hL hl.1 rfl rfl (Nat.le_of_ble_eq_true rfl) ⟨Nat.le_of_ble_eq_true rfl, Nat.le_of_ble_eq_true rfl⟩ ⟨rfl, rfl⟩ ⟨by show k ≤ 600000; omega, by show n ≤ 7302250; omega⟩ dL_law_620 (fun locs hL => ?_)
  refine lv_aload_n E.1 E.2.1 dL_law_623 rfl (lv_at hl 2 rfl) ?_
  refine lv_aload_n E.1 E.2.1 dL_law_624 rfl (lv_at hl 0 rfl) ?_
  refine lv_iload_n E.1 E.2.1 dL_law_625 rfl (lv_at hl 3 rfl) ?_
  refine r_const E dL_law_626 ?_
  refine r_add E dL_law_627 ?_
  refine r_scr E hX hbG hG (by omega) (fun q hq => hfr q (by omega)) hL hL2 (i + 1) (by omega) (by omega) dL_law_628 (fun y9 hy9 hey9 => ?_)
  have hee : y9 = y := by have h9 := hey9.symm.trans hey; exact (iI_eq hy9 hy).mp h9
  rw [hee]
  refine kVRE (As := [.int (iI (y))]) E cw_L_100 (c_X6_use G l (x + 179) σ _ _ _ _ _ _ _ hI y hy) ho9 ⟨_, _, rfl⟩ ⟨ho9, ha9⟩ hL hl.1 rfl rfl (Nat.le_of_ble_eq_true rfl) ⟨Nat.le_of_ble_eq_true rfl, Nat.le_of_ble_eq_true rfl⟩ ⟨rfl, rfl⟩ ⟨by show k ≤ 600000; omega, by show n ≤ 7302250; omega⟩ dL_law_629 (fun locs hL => ?_)
  refine r_icmp_same (tgt := 916) E dL_law_632 (by decide) ?_
  refine W.widen (k := k + 80) (n := n + 240) (by omega) (by omega) ?_
  exact K _ _ _ _ _ _ ls locs ⟨hXA, hMA, hI, hIs, hT, hsz, hfr⟩ hl hL
theorem law_21 {p : Program} {l : Launch} {e : Env} {s : State} {m : MethodId} {args : Array Value} {below : List Frame} {meth : Method} {c : Code} {H : Heap} {locs : List Loc} {Q : State → Prop} {G : GG} (E : En G p s m args meth c cL_law 8 (some .boolean) RL) {b L : Nat} {xs : Nat → Int32} (hX : va_X b L xs s s.heap) (hbG : b < G.2.2) (hG : G.2.2 = s.heap.size) (hL2 : L ≤ 2048) {fl : Nat → Option Fil} {σ : St} {hs : List St} {tx : Nat → Int} {len : Nat} (x : Nat) (hx : x = G.2.2) (hh : LwS G x s.heap fl σ hs tx len H) (i : Nat) (hi : i + 4 ≤ L) {ls : Array Slot} (hl : lv_has ls 8 [(0, .ref b), (1, .ref x), (2, .ref (x + 179)), (3, .int (iI (i : Int)))]) (hL : Lk G locs) (k n : Nat) (hk : k ≤ 590000) (hn : n ≤ 7000000)
    (K : ∀ (H1 : Heap) (fl1 : Nat → Option Fil) (σ1 : St) (hs1 : List St) (tx1 : Nat → Int) (len1 : Nat) (ls : Array Slot) (locs : List Loc), LwS G x s.heap fl1 σ1 hs1 tx1 len1 H1 → lv_has ls 8 [(0, .ref b), (1, .ref x), (2, .ref (x + 179)), (3, .int (iI (i : Int)))] → Lk G locs → W p l e ({ frames := 10, cells := 600000, slots := 7302250, locals := 368 } : Room) s m args below meth c H1 locs (k + 80) (n + 240) Q (F0 m 916 ls [])) : W p l e ({ frames := 10, cells := 600000, slots := 7302250, locals := 368 } : Room) s m args below meth c H locs k n Q (F0 m 637 ls []) := by
  obtain ⟨hXA, hMA, hI, hIs, hT, hsz, hfr⟩ := hh
  obtain ⟨bf, pf, v6, v7, v8, v9, v10, ho9, ha9, hbf9, hpf9, hpk9, htx9⟩ := id hMA
  refine lv_aload_n E.1 E.2.1 dL_law_637 rfl (lv_at hl 1 rfl) ?_
  refine lv_aload_n E.1 E.2.1 dL_law_638 rfl (lv_at hl 0 rfl) ?_
  refine lv_iload_n E.1 E.2.1 dL_law_639 rfl (lv_at hl 3 rfl) ?_
  refine r_const E dL_law_640 ?_
  refine r_add E dL_law_641 ?_
  refine r_scr E hX hbG hG (by omega) (fun q hq => hfr q (by omega)) hL hL2 (i + 1) (by omega) (by omega) dL_law_642 (fun y hy hey => ?_)
  refine kVRE (As := [.int (iI (y))]) E cw_L_101 (c_X5_setting G l x (x + 184) fl σ hs tx len hI hT (by omega) (by omega) y hy) hXA.1 ⟨_, _, rfl⟩ hXA hL hl.1 rfl rfl (Nat.le_of_ble_eq_true rfl) ⟨Nat.le_of_ble_eq_true rfl, Nat.le_of_ble_eq_true rfl⟩ ⟨rfl, rfl⟩ ⟨by show k ≤ 600000; omega, by show n ≤ 7302250; omega⟩ dL_law_643 (fun locs hL => ?_)
  refine lv_aload_n E.1 E.2.1 dL_law_646 rfl (lv_at hl 2 rfl) ?_
  refine lv_aload_n E.1 E.2.1 dL_law_647 rfl (lv_at hl 0 rfl) ?_
  refine lv_iload_n E.1 E.2.1 dL_law_648 rfl (lv_at hl 3 rfl) ?_
  refine r_const E dL_law_649 ?_
  refine r_add E dL_law_650 ?_
  refine r_scr E hX hbG hG (by omega) (fun q hq => hfr q (by omega)) hL hL2 (i + 1) (by omega) (by omega) dL_law_651 (fun y9 hy9 hey9 => ?_)
  have hee : y9 = y := by have h9 := hey9.symm.trans hey; exact (iI_eq hy9 hy).mp h9
  rw [hee]
  refine kVRE (As := [.int (iI (y))]) E cw_L_104 (c_X6_setting G l (x + 179) σ _ _ _ _ _ _ _ hI y hy) ho9 ⟨_, _, rfl⟩ ⟨ho9, ha9⟩ hL hl.1 rfl rfl (Nat.le_of_ble_eq_true rfl) ⟨Nat.le_of_ble_eq_true rfl, Nat.le_of_ble_eq_true rfl⟩ ⟨rfl, rfl⟩ ⟨by show k ≤ 600000; omega, by show n ≤ 7302250; omega⟩ dL_law_652 (fun locs hL => ?_)
  refine r_icmp_same (tgt := 916) E dL_law_655 (by decide) ?_
  refine W.widen (k := k + 80) (n := n + 240) (by omega) (by omega) ?_
  exact K _ _ _ _ _ _ ls locs ⟨hXA, hMA, hI, hIs, hT, hsz, hfr⟩ hl hL
theorem law_22 {p : Program} {l : Launch} {e : Env} {s : State} {m : MethodId} {args : Array Value} {below : List Frame} {meth : Method} {c : Code} {H : Heap} {locs : List Loc} {Q : State → Prop} {G : GG} (E : En G p s m args meth c cL_law 8 (some .boolean) RL) {b L : Nat} {xs : Nat → Int32} (hX : va_X b L xs s s.heap) (hbG : b < G.2.2) (hG : G.2.2 = s.heap.size) (hL2 : L ≤ 2048) {fl : Nat → Option Fil} {σ : St} {hs : List St} {tx : Nat → Int} {len : Nat} (x : Nat) (hx : x = G.2.2) (hh : LwS G x s.heap fl σ hs tx len H) (i : Nat) (hi : i + 4 ≤ L) {ls : Array Slot} (hl : lv_has ls 8 [(0, .ref b), (1, .ref x), (2, .ref (x + 179)), (3, .int (iI (i : Int)))]) (hL : Lk G locs) (k n : Nat) (hk : k ≤ 590000) (hn : n ≤ 7000000)
    (K : ∀ (H1 : Heap) (fl1 : Nat → Option Fil) (σ1 : St) (hs1 : List St) (tx1 : Nat → Int) (len1 : Nat) (ls : Array Slot) (locs : List Loc), LwS G x s.heap fl1 σ1 hs1 tx1 len1 H1 → lv_has ls 8 [(0, .ref b), (1, .ref x), (2, .ref (x + 179)), (3, .int (iI (i : Int)))] → Lk G locs → W p l e ({ frames := 10, cells := 600000, slots := 7302250, locals := 368 } : Room) s m args below meth c H1 locs (k + 80) (n + 240) Q (F0 m 916 ls [])) : W p l e ({ frames := 10, cells := 600000, slots := 7302250, locals := 368 } : Room) s m args below meth c H locs k n Q (F0 m 660 ls []) := by
  obtain ⟨hXA, hMA, hI, hIs, hT, hsz, hfr⟩ := hh
  obtain ⟨bf, pf, v6, v7, v8, v9, v10, ho9, ha9, hbf9, hpf9, hpk9, htx9⟩ := id hMA
  refine lv_aload_n E.1 E.2.1 dL_law_660 rfl (lv_at hl 1 rfl) ?_
  refine lv_aload_n E.1 E.2.1 dL_law_661 rfl (lv_at hl 0 rfl) ?_
  refine lv_iload_n E.1 E.2.1 dL_law_662 rfl (lv_at hl 3 rfl) ?_
  refine r_const E dL_law_663 ?_
  refine r_add E dL_law_664 ?_
  refine r_scr E hX hbG hG (by omega) (fun q hq => hfr q (by omega)) hL hL2 (i + 1) (by omega) (by omega) dL_law_665 (fun y hy hey => ?_)
  refine kVRE (As := [.int (iI (y))]) E cw_L_105 (c_X5_find G l x (x + 184) fl σ hs tx len hI hT (by omega) (by omega) y hy) hXA.1 ⟨_, _, rfl⟩ hXA hL hl.1 rfl rfl (Nat.le_of_ble_eq_true rfl) ⟨Nat.le_of_ble_eq_true rfl, Nat.le_of_ble_eq_true rfl⟩ ⟨rfl, rfl⟩ ⟨by show k ≤ 600000; omega, by show n ≤ 7302250; omega⟩ dL_law_666 (fun locs hL => ?_)
  refine lv_aload_n E.1 E.2.1 dL_law_669 rfl (lv_at hl 2 rfl) ?_
  refine lv_aload_n E.1 E.2.1 dL_law_670 rfl (lv_at hl 0 rfl) ?_
  refine lv_iload_n E.1 E.2.1 dL_law_671 rfl (lv_at hl 3 rfl) ?_
  refine r_const E dL_law_672 ?_
  refine r_add E dL_law_673 ?_
  refine r_scr E hX hbG hG (by omega) (fun q hq => hfr q (by omega)) hL hL2 (i + 1) (by omega) (by omega) dL_law_674 (fun y9 hy9 hey9 => ?_)
  have hee : y9 = y := by have h9 := hey9.symm.trans hey; exact (iI_eq hy9 hy).mp h9
  rw [hee]
  refine kVRE (As := [.int (iI (y))]) E cw_L_108 (c_X6_find G l (x + 179) σ _ _ _ _ _ _ _ hI y hy) ho9 ⟨_, _, rfl⟩ ⟨ho9, ha9⟩ hL hl.1 rfl rfl (Nat.le_of_ble_eq_true rfl) ⟨Nat.le_of_ble_eq_true rfl, Nat.le_of_ble_eq_true rfl⟩ ⟨rfl, rfl⟩ ⟨by show k ≤ 600000; omega, by show n ≤ 7302250; omega⟩ dL_law_675 (fun locs hL => ?_)
  refine r_icmp_same (tgt := 916) E dL_law_678 (by decide) ?_
  refine W.widen (k := k + 80) (n := n + 240) (by omega) (by omega) ?_
  exact K _ _ _ _ _ _ ls locs ⟨hXA, hMA, hI, hIs, hT, hsz, hfr⟩ hl hL
theorem law_23 {p : Program} {l : Launch} {e : Env} {s : State} {m : MethodId} {args : Array Value} {below : List Frame} {meth : Method} {c : Code} {H : Heap} {locs : List Loc} {Q : State → Prop} {G : GG} (E : En G p s m args meth c cL_law 8 (some .boolean) RL) {b L : Nat} {xs : Nat → Int32} (hX : va_X b L xs s s.heap) (hbG : b < G.2.2) (hG : G.2.2 = s.heap.size) (hL2 : L ≤ 2048) {fl : Nat → Option Fil} {σ : St} {hs : List St} {tx : Nat → Int} {len : Nat} (x : Nat) (hx : x = G.2.2) (hh : LwS G x s.heap fl σ hs tx len H) (i : Nat) (hi : i + 4 ≤ L) {ls : Array Slot} (hl : lv_has ls 8 [(0, .ref b), (1, .ref x), (2, .ref (x + 179)), (3, .int (iI (i : Int)))]) (hL : Lk G locs) (k n : Nat) (hk : k ≤ 590000) (hn : n ≤ 7000000)
    (K : ∀ (H1 : Heap) (fl1 : Nat → Option Fil) (σ1 : St) (hs1 : List St) (tx1 : Nat → Int) (len1 : Nat) (ls : Array Slot) (locs : List Loc), LwS G x s.heap fl1 σ1 hs1 tx1 len1 H1 → lv_has ls 8 [(0, .ref b), (1, .ref x), (2, .ref (x + 179)), (3, .int (iI (i : Int)))] → Lk G locs → W p l e ({ frames := 10, cells := 600000, slots := 7302250, locals := 368 } : Room) s m args below meth c H1 locs (k + 80) (n + 240) Q (F0 m 916 ls [])) : W p l e ({ frames := 10, cells := 600000, slots := 7302250, locals := 368 } : Room) s m args below meth c H locs k n Q (F0 m 683 ls []) := by
  obtain ⟨hXA, hMA, hI, hIs, hT, hsz, hfr⟩ := hh
  obtain ⟨bf, pf, v6, v7, v8, v9, v10, ho9, ha9, hbf9, hpf9, hpk9, htx9⟩ := id hMA
  refine lv_aload_n E.1 E.2.1 dL_law_683 rfl (lv_at hl 1 rfl) ?_
  refine lv_aload_n E.1 E.2.1 dL_law_684 rfl (lv_at hl 0 rfl) ?_
  refine lv_iload_n E.1 E.2.1 dL_law_685 rfl (lv_at hl 3 rfl) ?_
  refine r_const E dL_law_686 ?_
  refine r_add E dL_law_687 ?_
  refine r_scr E hX hbG hG (by omega) (fun q hq => hfr q (by omega)) hL hL2 (i + 1) (by omega) (by omega) dL_law_688 (fun y hy hey => ?_)
  refine kVRE (As := [.int (iI (y))]) E cw_L_109 (c_X5_intact G l x (x + 184) fl σ hs tx len hI hT (by omega) (by omega) y hy) hXA.1 ⟨_, _, rfl⟩ hXA hL hl.1 rfl rfl (Nat.le_of_ble_eq_true rfl) ⟨Nat.le_of_ble_eq_true rfl, Nat.le_of_ble_eq_true rfl⟩ ⟨rfl, rfl⟩ ⟨by show k ≤ 600000; omega, by show n ≤ 7302250; omega⟩ dL_law_689 (fun locs hL => ?_)
  refine lv_aload_n E.1 E.2.1 dL_law_692 rfl (lv_at hl 2 rfl) ?_
  refine lv_aload_n E.1 E.2.1 dL_law_693 rfl (lv_at hl 0 rfl) ?_
  refine lv_iload_n E.1 E.2.1 dL_law_694 rfl (lv_at hl 3 rfl) ?_
  refine r_const E dL_law_695 ?_
  refine r_add E dL_law_696 ?_
  refine r_scr E hX hbG hG (by omega) (fun q hq => hfr q (by omega)) hL hL2 (i + 1) (by omega) (by omega) dL_law_697 (fun y9 hy9 hey9 => ?_)
  have hee : y9 = y := by have h9 := hey9.symm.trans hey; exact (iI_eq hy9 hy).mp h9
  rw [hee]
  refine kVRE (As := [.int (iI (y))]) E cw_L_112 (c_X6_intact G l (x + 179) σ _ _ _ _ _ _ _ hI y hy) ho9 ⟨_, _, rfl⟩ ⟨ho9, ha9⟩ hL hl.1 rfl rfl (Nat.le_of_ble_eq_true rfl) ⟨Nat.le_of_ble_eq_true rfl, Nat.le_of_ble_eq_true rfl⟩ ⟨rfl, rfl⟩ ⟨by show k ≤ 600000; omega, by show n ≤ 7302250; omega⟩ dL_law_698 (fun locs hL => ?_)
  refine r_icmp_same (tgt := 916) E dL_law_701 (by decide) ?_
  refine W.widen (k := k + 80) (n := n + 240) (by omega) (by omega) ?_
  exact K _ _ _ _ _ _ ls locs ⟨hXA, hMA, hI, hIs, hT, hsz, hfr⟩ hl hL
theorem law_24 {p : Program} {l : Launch} {e : Env} {s : State} {m : MethodId} {args : Array Value} {below : List Frame} {meth : Method} {c : Code} {H : Heap} {locs : List Loc} {Q : State → Prop} {G : GG} (E : En G p s m args meth c cL_law 8 (some .boolean) RL) {b L : Nat} {xs : Nat → Int32} (hX : va_X b L xs s s.heap) (hbG : b < G.2.2) (hG : G.2.2 = s.heap.size) (hL2 : L ≤ 2048) {fl : Nat → Option Fil} {σ : St} {hs : List St} {tx : Nat → Int} {len : Nat} (x : Nat) (hx : x = G.2.2) (hh : LwS G x s.heap fl σ hs tx len H) (i : Nat) (hi : i + 4 ≤ L) {ls : Array Slot} (hl : lv_has ls 8 [(0, .ref b), (1, .ref x), (2, .ref (x + 179)), (3, .int (iI (i : Int)))]) (hL : Lk G locs) (k n : Nat) (hk : k ≤ 590000) (hn : n ≤ 7000000)
    (K : ∀ (H1 : Heap) (fl1 : Nat → Option Fil) (σ1 : St) (hs1 : List St) (tx1 : Nat → Int) (len1 : Nat) (ls : Array Slot) (locs : List Loc), LwS G x s.heap fl1 σ1 hs1 tx1 len1 H1 → lv_has ls 8 [(0, .ref b), (1, .ref x), (2, .ref (x + 179)), (3, .int (iI (i : Int)))] → Lk G locs → W p l e ({ frames := 10, cells := 600000, slots := 7302250, locals := 368 } : Room) s m args below meth c H1 locs (k + 80) (n + 240) Q (F0 m 916 ls [])) : W p l e ({ frames := 10, cells := 600000, slots := 7302250, locals := 368 } : Room) s m args below meth c H locs k n Q (F0 m 706 ls []) := by
  obtain ⟨hXA, hMA, hI, hIs, hT, hsz, hfr⟩ := hh
  obtain ⟨bf, pf, v6, v7, v8, v9, v10, ho9, ha9, hbf9, hpf9, hpk9, htx9⟩ := id hMA
  refine lv_aload_n E.1 E.2.1 dL_law_706 rfl (lv_at hl 1 rfl) ?_
  refine kVRE (As := []) E cw_L_113 (c_X5_intactFiles G l x (x + 184) fl σ hs tx len hI hT (by omega) (by omega)  ) hXA.1 ⟨_, _, rfl⟩ hXA hL hl.1 rfl rfl (Nat.le_of_ble_eq_true rfl) ⟨Nat.le_of_ble_eq_true rfl, Nat.le_of_ble_eq_true rfl⟩ ⟨rfl, rfl⟩ ⟨by show k ≤ 600000; omega, by show n ≤ 7302250; omega⟩ dL_law_707 (fun locs hL => ?_)
  refine lv_aload_n E.1 E.2.1 dL_law_710 rfl (lv_at hl 2 rfl) ?_
  refine kVRE (As := []) E cw_L_116 (c_X6_intactFiles G l (x + 179) σ _ _ _ _ _ _ _ hI  ) ho9 ⟨_, _, rfl⟩ ⟨ho9, ha9⟩ hL hl.1 rfl rfl (Nat.le_of_ble_eq_true rfl) ⟨Nat.le_of_ble_eq_true rfl, Nat.le_of_ble_eq_true rfl⟩ ⟨rfl, rfl⟩ ⟨by show k ≤ 600000; omega, by show n ≤ 7302250; omega⟩ dL_law_711 (fun locs hL => ?_)
  refine r_icmp_same (tgt := 916) E dL_law_714 (by decide) ?_
  refine W.widen (k := k + 80) (n := n + 240) (by omega) (by omega) ?_
  exact K _ _ _ _ _ _ ls locs ⟨hXA, hMA, hI, hIs, hT, hsz, hfr⟩ hl hL
theorem law_25 {p : Program} {l : Launch} {e : Env} {s : State} {m : MethodId} {args : Array Value} {below : List Frame} {meth : Method} {c : Code} {H : Heap} {locs : List Loc} {Q : State → Prop} {G : GG} (E : En G p s m args meth c cL_law 8 (some .boolean) RL) {b L : Nat} {xs : Nat → Int32} (hX : va_X b L xs s s.heap) (hbG : b < G.2.2) (hG : G.2.2 = s.heap.size) (hL2 : L ≤ 2048) {fl : Nat → Option Fil} {σ : St} {hs : List St} {tx : Nat → Int} {len : Nat} (x : Nat) (hx : x = G.2.2) (hh : LwS G x s.heap fl σ hs tx len H) (i : Nat) (hi : i + 4 ≤ L) {ls : Array Slot} (hl : lv_has ls 8 [(0, .ref b), (1, .ref x), (2, .ref (x + 179)), (3, .int (iI (i : Int)))]) (hL : Lk G locs) (k n : Nat) (hk : k ≤ 590000) (hn : n ≤ 7000000)
    (K : ∀ (H1 : Heap) (fl1 : Nat → Option Fil) (σ1 : St) (hs1 : List St) (tx1 : Nat → Int) (len1 : Nat) (ls : Array Slot) (locs : List Loc), LwS G x s.heap fl1 σ1 hs1 tx1 len1 H1 → lv_has ls 8 [(0, .ref b), (1, .ref x), (2, .ref (x + 179)), (3, .int (iI (i : Int)))] → Lk G locs → W p l e ({ frames := 10, cells := 600000, slots := 7302250, locals := 368 } : Room) s m args below meth c H1 locs (k + 80) (n + 240) Q (F0 m 916 ls [])) : W p l e ({ frames := 10, cells := 600000, slots := 7302250, locals := 368 } : Room) s m args below meth c H locs k n Q (F0 m 719 ls []) := by
  obtain ⟨hXA, hMA, hI, hIs, hT, hsz, hfr⟩ := hh
  obtain ⟨bf, pf, v6, v7, v8, v9, v10, ho9, ha9, hbf9, hpf9, hpk9, htx9⟩ := id hMA
  refine lv_aload_n E.1 E.2.1 dL_law_719 rfl (lv_at hl 1 rfl) ?_
  refine lv_aload_n E.1 E.2.1 dL_law_720 rfl (lv_at hl 0 rfl) ?_
  refine lv_iload_n E.1 E.2.1 dL_law_721 rfl (lv_at hl 3 rfl) ?_
  refine r_const E dL_law_722 ?_
  refine r_add E dL_law_723 ?_
  refine r_scr E hX hbG hG (by omega) (fun q hq => hfr q (by omega)) hL hL2 (i + 1) (by omega) (by omega) dL_law_724 (fun y hy hey => ?_)
  refine kVRE (As := [.int (iI (y))]) E cw_L_117 (c_X5_versions G l x (x + 184) fl σ hs tx len hI hT (by omega) (by omega) y hy) hXA.1 ⟨_, _, rfl⟩ hXA hL hl.1 rfl rfl (Nat.le_of_ble_eq_true rfl) ⟨Nat.le_of_ble_eq_true rfl, Nat.le_of_ble_eq_true rfl⟩ ⟨rfl, rfl⟩ ⟨by show k ≤ 600000; omega, by show n ≤ 7302250; omega⟩ dL_law_725 (fun locs hL => ?_)
  refine lv_aload_n E.1 E.2.1 dL_law_728 rfl (lv_at hl 2 rfl) ?_
  refine lv_aload_n E.1 E.2.1 dL_law_729 rfl (lv_at hl 0 rfl) ?_
  refine lv_iload_n E.1 E.2.1 dL_law_730 rfl (lv_at hl 3 rfl) ?_
  refine r_const E dL_law_731 ?_
  refine r_add E dL_law_732 ?_
  refine r_scr E hX hbG hG (by omega) (fun q hq => hfr q (by omega)) hL hL2 (i + 1) (by omega) (by omega) dL_law_733 (fun y9 hy9 hey9 => ?_)
  have hee : y9 = y := by have h9 := hey9.symm.trans hey; exact (iI_eq hy9 hy).mp h9
  rw [hee]
  refine kVRE (As := [.int (iI (y))]) E cw_L_120 (c_X6_versions G l (x + 179) σ _ _ _ _ _ _ _ hI y hy) ho9 ⟨_, _, rfl⟩ ⟨ho9, ha9⟩ hL hl.1 rfl rfl (Nat.le_of_ble_eq_true rfl) ⟨Nat.le_of_ble_eq_true rfl, Nat.le_of_ble_eq_true rfl⟩ ⟨rfl, rfl⟩ ⟨by show k ≤ 600000; omega, by show n ≤ 7302250; omega⟩ dL_law_734 (fun locs hL => ?_)
  refine r_icmp_same (tgt := 916) E dL_law_737 (by decide) ?_
  refine W.widen (k := k + 80) (n := n + 240) (by omega) (by omega) ?_
  exact K _ _ _ _ _ _ ls locs ⟨hXA, hMA, hI, hIs, hT, hsz, hfr⟩ hl hL
theorem law_26 {p : Program} {l : Launch} {e : Env} {s : State} {m : MethodId} {args : Array Value} {below : List Frame} {meth : Method} {c : Code} {H : Heap} {locs : List Loc} {Q : State → Prop} {G : GG} (E : En G p s m args meth c cL_law 8 (some .boolean) RL) {b L : Nat} {xs : Nat → Int32} (hX : va_X b L xs s s.heap) (hbG : b < G.2.2) (hG : G.2.2 = s.heap.size) (hL2 : L ≤ 2048) {fl : Nat → Option Fil} {σ : St} {hs : List St} {tx : Nat → Int} {len : Nat} (x : Nat) (hx : x = G.2.2) (hh : LwS G x s.heap fl σ hs tx len H) (i : Nat) (hi : i + 4 ≤ L) {ls : Array Slot} (hl : lv_has ls 8 [(0, .ref b), (1, .ref x), (2, .ref (x + 179)), (3, .int (iI (i : Int)))]) (hL : Lk G locs) (k n : Nat) (hk : k ≤ 590000) (hn : n ≤ 7000000)
    (K : ∀ (H1 : Heap) (fl1 : Nat → Option Fil) (σ1 : St) (hs1 : List St) (tx1 : Nat → Int) (len1 : Nat) (ls : Array Slot) (locs : List Loc), LwS G x s.heap fl1 σ1 hs1 tx1 len1 H1 → lv_has ls 8 [(0, .ref b), (1, .ref x), (2, .ref (x + 179)), (3, .int (iI (i : Int)))] → Lk G locs → W p l e ({ frames := 10, cells := 600000, slots := 7302250, locals := 368 } : Room) s m args below meth c H1 locs (k + 80) (n + 240) Q (F0 m 916 ls [])) : W p l e ({ frames := 10, cells := 600000, slots := 7302250, locals := 368 } : Room) s m args below meth c H locs k n Q (F0 m 742 ls []) := by
  obtain ⟨hXA, hMA, hI, hIs, hT, hsz, hfr⟩ := hh
  obtain ⟨bf, pf, v6, v7, v8, v9, v10, ho9, ha9, hbf9, hpf9, hpk9, htx9⟩ := id hMA
  refine lv_aload_n E.1 E.2.1 dL_law_742 rfl (lv_at hl 1 rfl) ?_
  refine lv_aload_n E.1 E.2.1 dL_law_743 rfl (lv_at hl 0 rfl) ?_
  refine lv_iload_n E.1 E.2.1 dL_law_744 rfl (lv_at hl 3 rfl) ?_
  refine r_const E dL_law_745 ?_
  refine r_add E dL_law_746 ?_
  refine r_scr E hX hbG hG (by omega) (fun q hq => hfr q (by omega)) hL hL2 (i + 1) (by omega) (by omega) dL_law_747 (fun y hy hey => ?_)
  refine kVRE (As := [.int (iI (y))]) E cw_L_121 (c_X5_latestIntact G l x (x + 184) fl σ hs tx len hI hT (by omega) (by omega) y hy) hXA.1 ⟨_, _, rfl⟩ hXA hL hl.1 rfl rfl (Nat.le_of_ble_eq_true rfl) ⟨Nat.le_of_ble_eq_true rfl, Nat.le_of_ble_eq_true rfl⟩ ⟨rfl, rfl⟩ ⟨by show k ≤ 600000; omega, by show n ≤ 7302250; omega⟩ dL_law_748 (fun locs hL => ?_)
  refine lv_aload_n E.1 E.2.1 dL_law_751 rfl (lv_at hl 2 rfl) ?_
  refine lv_aload_n E.1 E.2.1 dL_law_752 rfl (lv_at hl 0 rfl) ?_
  refine lv_iload_n E.1 E.2.1 dL_law_753 rfl (lv_at hl 3 rfl) ?_
  refine r_const E dL_law_754 ?_
  refine r_add E dL_law_755 ?_
  refine r_scr E hX hbG hG (by omega) (fun q hq => hfr q (by omega)) hL hL2 (i + 1) (by omega) (by omega) dL_law_756 (fun y9 hy9 hey9 => ?_)
  have hee : y9 = y := by have h9 := hey9.symm.trans hey; exact (iI_eq hy9 hy).mp h9
  rw [hee]
  refine kVRE (As := [.int (iI (y))]) E cw_L_124 (c_X6_latestIntact G l (x + 179) σ _ _ _ _ _ _ _ hI y hy) ho9 ⟨_, _, rfl⟩ ⟨ho9, ha9⟩ hL hl.1 rfl rfl (Nat.le_of_ble_eq_true rfl) ⟨Nat.le_of_ble_eq_true rfl, Nat.le_of_ble_eq_true rfl⟩ ⟨rfl, rfl⟩ ⟨by show k ≤ 600000; omega, by show n ≤ 7302250; omega⟩ dL_law_757 (fun locs hL => ?_)
  refine r_icmp_same (tgt := 916) E dL_law_760 (by decide) ?_
  refine W.widen (k := k + 80) (n := n + 240) (by omega) (by omega) ?_
  exact K _ _ _ _ _ _ ls locs ⟨hXA, hMA, hI, hIs, hT, hsz, hfr⟩ hl hL
theorem law_27 {p : Program} {l : Launch} {e : Env} {s : State} {m : MethodId} {args : Array Value} {below : List Frame} {meth : Method} {c : Code} {H : Heap} {locs : List Loc} {Q : State → Prop} {G : GG} (E : En G p s m args meth c cL_law 8 (some .boolean) RL) {b L : Nat} {xs : Nat → Int32} (hX : va_X b L xs s s.heap) (hbG : b < G.2.2) (hG : G.2.2 = s.heap.size) (hL2 : L ≤ 2048) {fl : Nat → Option Fil} {σ : St} {hs : List St} {tx : Nat → Int} {len : Nat} (x : Nat) (hx : x = G.2.2) (hh : LwS G x s.heap fl σ hs tx len H) (i : Nat) (hi : i + 4 ≤ L) {ls : Array Slot} (hl : lv_has ls 8 [(0, .ref b), (1, .ref x), (2, .ref (x + 179)), (3, .int (iI (i : Int)))]) (hL : Lk G locs) (k n : Nat) (hk : k ≤ 590000) (hn : n ≤ 7000000)
    (K : ∀ (H1 : Heap) (fl1 : Nat → Option Fil) (σ1 : St) (hs1 : List St) (tx1 : Nat → Int) (len1 : Nat) (ls : Array Slot) (locs : List Loc), LwS G x s.heap fl1 σ1 hs1 tx1 len1 H1 → lv_has ls 8 [(0, .ref b), (1, .ref x), (2, .ref (x + 179)), (3, .int (iI (i : Int)))] → Lk G locs → W p l e ({ frames := 10, cells := 600000, slots := 7302250, locals := 368 } : Room) s m args below meth c H1 locs (k + 80) (n + 240) Q (F0 m 916 ls [])) : W p l e ({ frames := 10, cells := 600000, slots := 7302250, locals := 368 } : Room) s m args below meth c H locs k n Q (F0 m 765 ls []) := by
  obtain ⟨hXA, hMA, hI, hIs, hT, hsz, hfr⟩ := hh
  obtain ⟨bf, pf, v6, v7, v8, v9, v10, ho9, ha9, hbf9, hpf9, hpk9, htx9⟩ := id hMA
  refine lv_aload_n E.1 E.2.1 dL_law_765 rfl (lv_at hl 1 rfl) ?_
  refine kVRE (As := []) E cw_L_125 (c_X5_lost G l x (x + 184) fl σ hs tx len hI hT (by omega) (by omega)  ) hXA.1 ⟨_, _, rfl⟩ hXA hL hl.1 rfl rfl (Nat.le_of_ble_eq_true rfl) ⟨Nat.le_of_ble_eq_true rfl, Nat.le_of_ble_eq_true rfl⟩ ⟨rfl, rfl⟩ ⟨by show k ≤ 600000; omega, by show n ≤ 7302250; omega⟩ dL_law_766 (fun locs hL => ?_)
  refine lv_aload_n E.1 E.2.1 dL_law_769 rfl (lv_at hl 2 rfl) ?_
  refine kVRE (As := []) E cw_L_128 (c_X6_lost G l (x + 179) σ _ _ _ _ _ _ _ hI  ) ho9 ⟨_, _, rfl⟩ ⟨ho9, ha9⟩ hL hl.1 rfl rfl (Nat.le_of_ble_eq_true rfl) ⟨Nat.le_of_ble_eq_true rfl, Nat.le_of_ble_eq_true rfl⟩ ⟨rfl, rfl⟩ ⟨by show k ≤ 600000; omega, by show n ≤ 7302250; omega⟩ dL_law_770 (fun locs hL => ?_)
  refine r_icmp_same (tgt := 916) E dL_law_773 (by decide) ?_
  refine W.widen (k := k + 80) (n := n + 240) (by omega) (by omega) ?_
  exact K _ _ _ _ _ _ ls locs ⟨hXA, hMA, hI, hIs, hT, hsz, hfr⟩ hl hL
theorem law_29 {p : Program} {l : Launch} {e : Env} {s : State} {m : MethodId} {args : Array Value} {below : List Frame} {meth : Method} {c : Code} {H : Heap} {locs : List Loc} {Q : State → Prop} {G : GG} (E : En G p s m args meth c cL_law 8 (some .boolean) RL) {b L : Nat} {xs : Nat → Int32} (hX : va_X b L xs s s.heap) (hbG : b < G.2.2) (hG : G.2.2 = s.heap.size) (hL2 : L ≤ 2048) {fl : Nat → Option Fil} {σ : St} {hs : List St} {tx : Nat → Int} {len : Nat} (x : Nat) (hx : x = G.2.2) (hh : LwS G x s.heap fl σ hs tx len H) (i : Nat) (hi : i + 4 ≤ L) {ls : Array Slot} (hl : lv_has ls 8 [(0, .ref b), (1, .ref x), (2, .ref (x + 179)), (3, .int (iI (i : Int)))]) (hL : Lk G locs) (k n : Nat) (hk : k ≤ 590000) (hn : n ≤ 7000000)
    (K : ∀ (H1 : Heap) (fl1 : Nat → Option Fil) (σ1 : St) (hs1 : List St) (tx1 : Nat → Int) (len1 : Nat) (ls : Array Slot) (locs : List Loc), LwS G x s.heap fl1 σ1 hs1 tx1 len1 H1 → lv_has ls 8 [(0, .ref b), (1, .ref x), (2, .ref (x + 179)), (3, .int (iI (i : Int)))] → Lk G locs → W p l e ({ frames := 10, cells := 600000, slots := 7302250, locals := 368 } : Room) s m args below meth c H1 locs (k + 80) (n + 240) Q (F0 m 916 ls [])) : W p l e ({ frames := 10, cells := 600000, slots := 7302250, locals := 368 } : Room) s m args below meth c H locs k n Q (F0 m 821 ls []) := by
  obtain ⟨hXA, hMA, hI, hIs, hT, hsz, hfr⟩ := hh
  obtain ⟨bf, pf, v6, v7, v8, v9, v10, ho9, ha9, hbf9, hpf9, hpk9, htx9⟩ := id hMA
  refine lv_aload_n E.1 E.2.1 dL_law_821 rfl (lv_at hl 1 rfl) ?_
  refine kVRE (As := []) E cw_L_134 (c_X5_largest G l x (x + 184) fl σ hs tx len hI hT (by omega) (by omega)  ) hXA.1 ⟨_, _, rfl⟩ hXA hL hl.1 rfl rfl (Nat.le_of_ble_eq_true rfl) ⟨Nat.le_of_ble_eq_true rfl, Nat.le_of_ble_eq_true rfl⟩ ⟨rfl, rfl⟩ ⟨by show k ≤ 600000; omega, by show n ≤ 7302250; omega⟩ dL_law_822 (fun locs hL => ?_)
  refine lv_aload_n E.1 E.2.1 dL_law_825 rfl (lv_at hl 2 rfl) ?_
  refine kVRE (As := []) E cw_L_137 (c_X6_largest G l (x + 179) σ _ _ _ _ _ _ _ hI  ) ho9 ⟨_, _, rfl⟩ ⟨ho9, ha9⟩ hL hl.1 rfl rfl (Nat.le_of_ble_eq_true rfl) ⟨Nat.le_of_ble_eq_true rfl, Nat.le_of_ble_eq_true rfl⟩ ⟨rfl, rfl⟩ ⟨by show k ≤ 600000; omega, by show n ≤ 7302250; omega⟩ dL_law_826 (fun locs hL => ?_)
  refine r_icmp_same (tgt := 916) E dL_law_829 (by decide) ?_
  refine W.widen (k := k + 80) (n := n + 240) (by omega) (by omega) ?_
  exact K _ _ _ _ _ _ ls locs ⟨hXA, hMA, hI, hIs, hT, hsz, hfr⟩ hl hL
theorem law_30 {p : Program} {l : Launch} {e : Env} {s : State} {m : MethodId} {args : Array Value} {below : List Frame} {meth : Method} {c : Code} {H : Heap} {locs : List Loc} {Q : State → Prop} {G : GG} (E : En G p s m args meth c cL_law 8 (some .boolean) RL) {b L : Nat} {xs : Nat → Int32} (hX : va_X b L xs s s.heap) (hbG : b < G.2.2) (hG : G.2.2 = s.heap.size) (hL2 : L ≤ 2048) {fl : Nat → Option Fil} {σ : St} {hs : List St} {tx : Nat → Int} {len : Nat} (x : Nat) (hx : x = G.2.2) (hh : LwS G x s.heap fl σ hs tx len H) (i : Nat) (hi : i + 4 ≤ L) {ls : Array Slot} (hl : lv_has ls 8 [(0, .ref b), (1, .ref x), (2, .ref (x + 179)), (3, .int (iI (i : Int)))]) (hL : Lk G locs) (k n : Nat) (hk : k ≤ 590000) (hn : n ≤ 7000000)
    (K : ∀ (H1 : Heap) (fl1 : Nat → Option Fil) (σ1 : St) (hs1 : List St) (tx1 : Nat → Int) (len1 : Nat) (ls : Array Slot) (locs : List Loc), LwS G x s.heap fl1 σ1 hs1 tx1 len1 H1 → lv_has ls 8 [(0, .ref b), (1, .ref x), (2, .ref (x + 179)), (3, .int (iI (i : Int)))] → Lk G locs → W p l e ({ frames := 10, cells := 600000, slots := 7302250, locals := 368 } : Room) s m args below meth c H1 locs (k + 80) (n + 240) Q (F0 m 916 ls [])) : W p l e ({ frames := 10, cells := 600000, slots := 7302250, locals := 368 } : Room) s m args below meth c H locs k n Q (F0 m 834 ls []) := by
  obtain ⟨hXA, hMA, hI, hIs, hT, hsz, hfr⟩ := hh
  obtain ⟨bf, pf, v6, v7, v8, v9, v10, ho9, ha9, hbf9, hpf9, hpk9, htx9⟩ := id hMA
  refine lv_aload_n E.1 E.2.1 dL_law_834 rfl (lv_at hl 1 rfl) ?_
  refine lv_aload_n E.1 E.2.1 dL_law_835 rfl (lv_at hl 0 rfl) ?_
  refine lv_iload_n E.1 E.2.1 dL_law_836 rfl (lv_at hl 3 rfl) ?_
  refine r_const E dL_law_837 ?_
  refine r_add E dL_law_838 ?_
  refine r_scr E hX hbG hG (by omega) (fun q hq => hfr q (by omega)) hL hL2 (i + 1) (by omega) (by omega) dL_law_839 (fun y hy hey => ?_)
  refine kVRE (As := [.int (iI (y))]) E cw_L_138 (c_X5_filesLeft G l x (x + 184) fl σ hs tx len hI hT (by omega) (by omega) y hy) hXA.1 ⟨_, _, rfl⟩ hXA hL hl.1 rfl rfl (Nat.le_of_ble_eq_true rfl) ⟨Nat.le_of_ble_eq_true rfl, Nat.le_of_ble_eq_true rfl⟩ ⟨rfl, rfl⟩ ⟨by show k ≤ 600000; omega, by show n ≤ 7302250; omega⟩ dL_law_840 (fun locs hL => ?_)
  refine lv_aload_n E.1 E.2.1 dL_law_843 rfl (lv_at hl 2 rfl) ?_
  refine lv_aload_n E.1 E.2.1 dL_law_844 rfl (lv_at hl 0 rfl) ?_
  refine lv_iload_n E.1 E.2.1 dL_law_845 rfl (lv_at hl 3 rfl) ?_
  refine r_const E dL_law_846 ?_
  refine r_add E dL_law_847 ?_
  refine r_scr E hX hbG hG (by omega) (fun q hq => hfr q (by omega)) hL hL2 (i + 1) (by omega) (by omega) dL_law_848 (fun y9 hy9 hey9 => ?_)
  have hee : y9 = y := by have h9 := hey9.symm.trans hey; exact (iI_eq hy9 hy).mp h9
  rw [hee]
  refine kVRE (As := [.int (iI (y))]) E cw_L_141 (c_X6_filesLeft G l (x + 179) σ _ _ _ _ _ _ _ hI y hy) ho9 ⟨_, _, rfl⟩ ⟨ho9, ha9⟩ hL hl.1 rfl rfl (Nat.le_of_ble_eq_true rfl) ⟨Nat.le_of_ble_eq_true rfl, Nat.le_of_ble_eq_true rfl⟩ ⟨rfl, rfl⟩ ⟨by show k ≤ 600000; omega, by show n ≤ 7302250; omega⟩ dL_law_849 (fun locs hL => ?_)
  refine r_icmp_same (tgt := 916) E dL_law_852 (by decide) ?_
  refine W.widen (k := k + 80) (n := n + 240) (by omega) (by omega) ?_
  exact K _ _ _ _ _ _ ls locs ⟨hXA, hMA, hI, hIs, hT, hsz, hfr⟩ hl hL
theorem law_31 {p : Program} {l : Launch} {e : Env} {s : State} {m : MethodId} {args : Array Value} {below : List Frame} {meth : Method} {c : Code} {H : Heap} {locs : List Loc} {Q : State → Prop} {G : GG} (E : En G p s m args meth c cL_law 8 (some .boolean) RL) {b L : Nat} {xs : Nat → Int32} (hX : va_X b L xs s s.heap) (hbG : b < G.2.2) (hG : G.2.2 = s.heap.size) (hL2 : L ≤ 2048) {fl : Nat → Option Fil} {σ : St} {hs : List St} {tx : Nat → Int} {len : Nat} (x : Nat) (hx : x = G.2.2) (hh : LwS G x s.heap fl σ hs tx len H) (i : Nat) (hi : i + 4 ≤ L) {ls : Array Slot} (hl : lv_has ls 8 [(0, .ref b), (1, .ref x), (2, .ref (x + 179)), (3, .int (iI (i : Int)))]) (hL : Lk G locs) (k n : Nat) (hk : k ≤ 590000) (hn : n ≤ 7000000)
    (K : ∀ (H1 : Heap) (fl1 : Nat → Option Fil) (σ1 : St) (hs1 : List St) (tx1 : Nat → Int) (len1 : Nat) (ls : Array Slot) (locs : List Loc), LwS G x s.heap fl1 σ1 hs1 tx1 len1 H1 → lv_has ls 8 [(0, .ref b), (1, .ref x), (2, .ref (x + 179)), (3, .int (iI (i : Int)))] → Lk G locs → W p l e ({ frames := 10, cells := 600000, slots := 7302250, locals := 368 } : Room) s m args below meth c H1 locs (k + 80) (n + 240) Q (F0 m 916 ls [])) : W p l e ({ frames := 10, cells := 600000, slots := 7302250, locals := 368 } : Room) s m args below meth c H locs k n Q (F0 m 857 ls []) := by
  obtain ⟨hXA, hMA, hI, hIs, hT, hsz, hfr⟩ := hh
  obtain ⟨bf, pf, v6, v7, v8, v9, v10, ho9, ha9, hbf9, hpf9, hpk9, htx9⟩ := id hMA
  refine lv_aload_n E.1 E.2.1 dL_law_857 rfl (lv_at hl 1 rfl) ?_
  refine lv_aload_n E.1 E.2.1 dL_law_858 rfl (lv_at hl 0 rfl) ?_
  refine lv_iload_n E.1 E.2.1 dL_law_859 rfl (lv_at hl 3 rfl) ?_
  refine r_const E dL_law_860 ?_
  refine r_add E dL_law_861 ?_
  refine r_scr E hX hbG hG (by omega) (fun q hq => hfr q (by omega)) hL hL2 (i + 1) (by omega) (by omega) dL_law_862 (fun y hy hey => ?_)
  refine kVRE (As := [.int (iI (y))]) E cw_L_142 (c_X5_filesEach G l x (x + 184) fl σ hs tx len hI hT (by omega) (by omega) y hy) hXA.1 ⟨_, _, rfl⟩ hXA hL hl.1 rfl rfl (Nat.le_of_ble_eq_true rfl) ⟨Nat.le_of_ble_eq_true rfl, Nat.le_of_ble_eq_true rfl⟩ ⟨rfl, rfl⟩ ⟨by show k ≤ 600000; omega, by show n ≤ 7302250; omega⟩ dL_law_863 (fun locs hL => ?_)
  refine lv_aload_n E.1 E.2.1 dL_law_866 rfl (lv_at hl 2 rfl) ?_
  refine lv_aload_n E.1 E.2.1 dL_law_867 rfl (lv_at hl 0 rfl) ?_
  refine lv_iload_n E.1 E.2.1 dL_law_868 rfl (lv_at hl 3 rfl) ?_
  refine r_const E dL_law_869 ?_
  refine r_add E dL_law_870 ?_
  refine r_scr E hX hbG hG (by omega) (fun q hq => hfr q (by omega)) hL hL2 (i + 1) (by omega) (by omega) dL_law_871 (fun y9 hy9 hey9 => ?_)
  have hee : y9 = y := by have h9 := hey9.symm.trans hey; exact (iI_eq hy9 hy).mp h9
  rw [hee]
  refine kVRE (As := [.int (iI (y))]) E cw_L_145 (c_X6_filesEach G l (x + 179) σ _ _ _ _ _ _ _ hI y hy) ho9 ⟨_, _, rfl⟩ ⟨ho9, ha9⟩ hL hl.1 rfl rfl (Nat.le_of_ble_eq_true rfl) ⟨Nat.le_of_ble_eq_true rfl, Nat.le_of_ble_eq_true rfl⟩ ⟨rfl, rfl⟩ ⟨by show k ≤ 600000; omega, by show n ≤ 7302250; omega⟩ dL_law_872 (fun locs hL => ?_)
  refine r_icmp_same (tgt := 916) E dL_law_875 (by decide) ?_
  refine W.widen (k := k + 80) (n := n + 240) (by omega) (by omega) ?_
  exact K _ _ _ _ _ _ ls locs ⟨hXA, hMA, hI, hIs, hT, hsz, hfr⟩ hl hL