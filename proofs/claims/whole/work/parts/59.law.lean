/-! the law's switch -/
set_option maxHeartbeats 4000000 in
set_option maxRecDepth 100000 in
theorem law_turn {p : Program} {l : Launch} {e : Env} {s : State} {m : MethodId} {args : Array Value} {below : List Frame} {meth : Method} {c : Code} {H : Heap} {locs : List Loc} {Q : State → Prop} {G : GG} (E : En G p s m args meth c cL_law 8 (some .boolean) RL) {b L : Nat} {xs : Nat → Int32} (hX : va_X b L xs s s.heap) (hbG : b < G.2.2) (hG : G.2.2 = s.heap.size) (hL2 : L ≤ 2048) {fl : Nat → Option Fil} {σ : St} {hs : List St} {tx : Nat → Int} {len : Nat} (x : Nat) (hx : x = G.2.2) (hh : LwS G x s.heap fl σ hs tx len H) (i : Nat) (hi : i + 4 ≤ L) {ls : Array Slot} (hl : lv_has ls 8 [(0, .ref b), (1, .ref x), (2, .ref (x + 179)), (3, .int (iI (i : Int)))]) (hL : Lk G locs) (k n : Nat) (hk : k ≤ 590000) (hn : n ≤ 7000000)
    (K : ∀ (H1 : Heap) (fl1 : Nat → Option Fil) (σ1 : St) (hs1 : List St) (tx1 : Nat → Int) (len1 : Nat) (ls : Array Slot) (locs : List Loc), LwS G x s.heap fl1 σ1 hs1 tx1 len1 H1 → lv_has ls 8 [(0, .ref b), (1, .ref x), (2, .ref (x + 179)), (3, .int (iI (i : Int)))] → Lk G locs → W p l e ({ frames := 10, cells := 600000, slots := 7302250, locals := 368 } : Room) s m args below meth c H1 locs (k + 80) (n + 240) Q (F0 m 916 ls [])) : W p l e ({ frames := 10, cells := 600000, slots := 7302250, locals := 368 } : Room) s m args below meth c H locs k n Q (F0 m 26 ls []) := by
  have hfr9 := hh.2.2.2.2.2.2
  have hz9 := hh.2.2.2.2.2.1
  refine lv_aload_n E.1 E.2.1 dL_law_26 rfl (lv_at hl 0 rfl) ?_
  refine lv_iload_n E.1 E.2.1 dL_law_27 rfl (lv_at hl 3 rfl) ?_
  refine r_scr E hX hbG hG (by omega) (fun q hq => hfr9 q (by omega)) hL hL2 i rfl (by omega) dL_law_28 (fun y hy hey => ?_)
  refine r_bipush E dL_law_29 (by decide) ?_
  refine lv_iand E.1 E.2.1 dL_law_31 ?_
  obtain ⟨j, hj, hej⟩ := pk_andE (iI y) (m := iI 63) 6 (by decide)
  have hj64 : j < 64 := hj
  rw [hej, iI_nat]
  by_cases h33 : 33 < j
  · refine lv_tableOut (tgt := 916) E.1 E.2.1 dL_law_32 (by rw [iI_toInt (by omega) (by omega)]; omega) (by decide) ?_
    refine W.widen (k := k + 80) (n := n + 240) (by show k ≤ k + 80; omega) (by show n ≤ n + 240; omega) ?_
    exact K _ _ _ _ _ _ ls locs hh hl hL
  · rcases (show j = 0 ∨ j = 1 ∨ j = 2 ∨ j = 3 ∨ j = 4 ∨ j = 5 ∨ j = 6 ∨ j = 7 ∨ j = 8 ∨ j = 9 ∨ j = 10 ∨ j = 11 ∨ j = 12 ∨ j = 13 ∨ j = 14 ∨ j = 15 ∨ j = 16 ∨ j = 17 ∨ j = 18 ∨ j = 19 ∨ j = 20 ∨ j = 21 ∨ j = 22 ∨ j = 23 ∨ j = 24 ∨ j = 25 ∨ j = 26 ∨ j = 27 ∨ j = 28 ∨ j = 29 ∨ j = 30 ∨ j = 31 ∨ j = 32 ∨ j = 33 by omega) with rfl | rfl | rfl | rfl | rfl | rfl | rfl | rfl | rfl | rfl | rfl | rfl | rfl | rfl | rfl | rfl | rfl | rfl | rfl | rfl | rfl | rfl | rfl | rfl | rfl | rfl | rfl | rfl | rfl | rfl | rfl | rfl | rfl | rfl
    · refine lv_tableIn (off := 152) (tgt := 184) E.1 E.2.1 dL_law_32 (by decide +kernel) (by decide +kernel) (by decide +kernel) (by decide) ?_
      exact law_0 E hX hbG hG hL2 x hx hh i hi hl hL k n hk hn K
    · refine lv_tableIn (off := 175) (tgt := 207) E.1 E.2.1 dL_law_32 (by decide +kernel) (by decide +kernel) (by decide +kernel) (by decide) ?_
      exact law_1 E hX hbG hG hL2 x hx hh i hi hl hL k n hk hn K
    · refine lv_tableIn (off := 208) (tgt := 240) E.1 E.2.1 dL_law_32 (by decide +kernel) (by decide +kernel) (by decide +kernel) (by decide) ?_
      exact law_2 E hX hbG hG hL2 x hx hh i hi hl hL k n hk hn K
    · refine lv_tableIn (off := 231) (tgt := 263) E.1 E.2.1 dL_law_32 (by decide +kernel) (by decide +kernel) (by decide +kernel) (by decide) ?_
      exact law_3 E hX hbG hG hL2 x hx hh i hi hl hL k n hk hn K
    · refine lv_tableIn (off := 264) (tgt := 296) E.1 E.2.1 dL_law_32 (by decide +kernel) (by decide +kernel) (by decide +kernel) (by decide) ?_
      exact law_4 E hX hbG hG hL2 x hx hh i hi hl hL k n hk hn K
    · refine lv_tableIn (off := 277) (tgt := 309) E.1 E.2.1 dL_law_32 (by decide +kernel) (by decide +kernel) (by decide +kernel) (by decide) ?_
      exact law_5 E hX hbG hG hL2 x hx hh i hi hl hL k n hk hn K
    · refine lv_tableIn (off := 290) (tgt := 322) E.1 E.2.1 dL_law_32 (by decide +kernel) (by decide +kernel) (by decide +kernel) (by decide) ?_
      exact law_6 E hX hbG hG hL2 x hx hh i hi hl hL k n hk hn K
    · refine lv_tableIn (off := 313) (tgt := 345) E.1 E.2.1 dL_law_32 (by decide +kernel) (by decide +kernel) (by decide +kernel) (by decide) ?_
      exact law_7 E hX hbG hG hL2 x hx hh i hi hl hL k n hk hn K
    · refine lv_tableIn (off := 336) (tgt := 368) E.1 E.2.1 dL_law_32 (by decide +kernel) (by decide +kernel) (by decide +kernel) (by decide) ?_
      exact law_8 E hX hbG hG hL2 x hx hh i hi hl hL k n hk hn K
    · refine lv_tableIn (off := 369) (tgt := 401) E.1 E.2.1 dL_law_32 (by decide +kernel) (by decide +kernel) (by decide +kernel) (by decide) ?_
      exact law_9 E hX hbG hG hL2 x hx hh i hi hl hL k n hk hn K
    · refine lv_tableIn (off := 392) (tgt := 424) E.1 E.2.1 dL_law_32 (by decide +kernel) (by decide +kernel) (by decide +kernel) (by decide) ?_
      exact law_10 E hX hbG hG hL2 x hx hh i hi hl hL k n hk hn K
    · refine lv_tableIn (off := 405) (tgt := 437) E.1 E.2.1 dL_law_32 (by decide +kernel) (by decide +kernel) (by decide +kernel) (by decide) ?_
      exact law_11 E hX hbG hG hL2 x hx hh i hi hl hL k n hk hn K
    · refine lv_tableIn (off := 418) (tgt := 450) E.1 E.2.1 dL_law_32 (by decide +kernel) (by decide +kernel) (by decide +kernel) (by decide) ?_
      exact law_12 E hX hbG hG hL2 x hx hh i hi hl hL k n hk hn K
    · refine lv_tableIn (off := 431) (tgt := 463) E.1 E.2.1 dL_law_32 (by decide +kernel) (by decide +kernel) (by decide +kernel) (by decide) ?_
      exact law_13 E hX hbG hG hL2 x hx hh i hi hl hL k n hk hn K
    · refine lv_tableIn (off := 444) (tgt := 476) E.1 E.2.1 dL_law_32 (by decide +kernel) (by decide +kernel) (by decide +kernel) (by decide) ?_
      exact law_14 E hX hbG hG hL2 x hx hh i hi hl hL k n hk hn K
    · refine lv_tableIn (off := 457) (tgt := 489) E.1 E.2.1 dL_law_32 (by decide +kernel) (by decide +kernel) (by decide +kernel) (by decide) ?_
      exact law_15 E hX hbG hG hL2 x hx hh i hi hl hL k n hk hn K
    · refine lv_tableIn (off := 490) (tgt := 522) E.1 E.2.1 dL_law_32 (by decide +kernel) (by decide +kernel) (by decide +kernel) (by decide) ?_
      exact law_16 E hX hbG hG hL2 x hx hh i hi hl hL k n hk hn K
    · refine lv_tableIn (off := 533) (tgt := 565) E.1 E.2.1 dL_law_32 (by decide +kernel) (by decide +kernel) (by decide +kernel) (by decide) ?_
      exact law_17 E hX hbG hG hL2 x hx hh i hi hl hL k n hk hn K
    · refine lv_tableIn (off := 546) (tgt := 578) E.1 E.2.1 dL_law_32 (by decide +kernel) (by decide +kernel) (by decide +kernel) (by decide) ?_
      exact law_18 E hX hbG hG hL2 x hx hh i hi hl hL k n hk hn K
    · refine lv_tableIn (off := 559) (tgt := 591) E.1 E.2.1 dL_law_32 (by decide +kernel) (by decide +kernel) (by decide +kernel) (by decide) ?_
      exact law_19 E hX hbG hG hL2 x hx hh i hi hl hL k n hk hn K
    · refine lv_tableIn (off := 582) (tgt := 614) E.1 E.2.1 dL_law_32 (by decide +kernel) (by decide +kernel) (by decide +kernel) (by decide) ?_
      exact law_20 E hX hbG hG hL2 x hx hh i hi hl hL k n hk hn K
    · refine lv_tableIn (off := 605) (tgt := 637) E.1 E.2.1 dL_law_32 (by decide +kernel) (by decide +kernel) (by decide +kernel) (by decide) ?_
      exact law_21 E hX hbG hG hL2 x hx hh i hi hl hL k n hk hn K
    · refine lv_tableIn (off := 628) (tgt := 660) E.1 E.2.1 dL_law_32 (by decide +kernel) (by decide +kernel) (by decide +kernel) (by decide) ?_
      exact law_22 E hX hbG hG hL2 x hx hh i hi hl hL k n hk hn K
    · refine lv_tableIn (off := 651) (tgt := 683) E.1 E.2.1 dL_law_32 (by decide +kernel) (by decide +kernel) (by decide +kernel) (by decide) ?_
      exact law_23 E hX hbG hG hL2 x hx hh i hi hl hL k n hk hn K
    · refine lv_tableIn (off := 674) (tgt := 706) E.1 E.2.1 dL_law_32 (by decide +kernel) (by decide +kernel) (by decide +kernel) (by decide) ?_
      exact law_24 E hX hbG hG hL2 x hx hh i hi hl hL k n hk hn K
    · refine lv_tableIn (off := 687) (tgt := 719) E.1 E.2.1 dL_law_32 (by decide +kernel) (by decide +kernel) (by decide +kernel) (by decide) ?_
      exact law_25 E hX hbG hG hL2 x hx hh i hi hl hL k n hk hn K
    · refine lv_tableIn (off := 710) (tgt := 742) E.1 E.2.1 dL_law_32 (by decide +kernel) (by decide +kernel) (by decide +kernel) (by decide) ?_
      exact law_26 E hX hbG hG hL2 x hx hh i hi hl hL k n hk hn K
    · refine lv_tableIn (off := 733) (tgt := 765) E.1 E.2.1 dL_law_32 (by decide +kernel) (by decide +kernel) (by decide +kernel) (by decide) ?_
      exact law_27 E hX hbG hG hL2 x hx hh i hi hl hL k n hk hn K
    · refine lv_tableIn (off := 746) (tgt := 778) E.1 E.2.1 dL_law_32 (by decide +kernel) (by decide +kernel) (by decide +kernel) (by decide) ?_
      exact law_28 E hX hbG hG hL2 x hx hh i hi hl hL k n hk hn K
    · refine lv_tableIn (off := 789) (tgt := 821) E.1 E.2.1 dL_law_32 (by decide +kernel) (by decide +kernel) (by decide +kernel) (by decide) ?_
      exact law_29 E hX hbG hG hL2 x hx hh i hi hl hL k n hk hn K
    · refine lv_tableIn (off := 802) (tgt := 834) E.1 E.2.1 dL_law_32 (by decide +kernel) (by decide +kernel) (by decide +kernel) (by decide) ?_
      exact law_30 E hX hbG hG hL2 x hx hh i hi hl hL k n hk hn K
    · refine lv_tableIn (off := 825) (tgt := 857) E.1 E.2.1 dL_law_32 (by decide +kernel) (by decide +kernel) (by decide +kernel) (by decide) ?_
      exact law_31 E hX hbG hG hL2 x hx hh i hi hl hL k n hk hn K
    · refine lv_tableIn (off := 848) (tgt := 880) E.1 E.2.1 dL_law_32 (by decide +kernel) (by decide +kernel) (by decide +kernel) (by decide) ?_
      exact law_32 E hX hbG hG hL2 x hx hh i hi hl hL k n hk hn K
    · refine lv_tableIn (off := 871) (tgt := 903) E.1 E.2.1 dL_law_32 (by decide +kernel) (by decide +kernel) (by decide +kernel) (by decide) ?_
      exact law_33 E hX hbG hG hL2 x hx hh i hi hl hL k n hk hn K
