/-! the law's loop: k and n count what the turns have made -/
set_option maxHeartbeats 4000000 in
set_option maxRecDepth 100000 in
theorem law_loop {p : Program} {l : Launch} {e : Env} {s : State} {m : MethodId} {args : Array Value} {below : List Frame} {meth : Method} {c : Code} {Q : State → Prop} {G : GG} (E : En G p s m args meth c cL_law 8 (some .boolean) RL) {b L : Nat} {xs : Nat → Int32} (hX : va_X b L xs s s.heap) (hbG : b < G.2.2) (hG : G.2.2 = s.heap.size) (hL2 : L ≤ 2048) (x : Nat) (hx : x = G.2.2)
    (K : ∀ (H1 : Heap) (ls : Array Slot) (locs : List Loc) (k n : Nat), Lk G locs → k ≤ 600000 → n ≤ 7302250 → W p l e ({ frames := 10, cells := 600000, slots := 7302250, locals := 368 } : Room) s m args below meth c H1 locs k n Q (F0 m 922 ls [])) :
    ∀ (d i : Nat) (H : Heap) (locs : List Loc) (fl : Nat → Option Fil) (σ : St) (hs : List St) (tx : Nat → Int) (len : Nat) (ls : Array Slot) (k n : Nat), L + 4 - i = d → i ≤ L + 3 → LwS G x s.heap fl σ hs tx len H → lv_has ls 8 [(0, .ref b), (1, .ref x), (2, .ref (x + 179)), (3, .int (iI (i : Int)))] → Lk G locs → k ≤ 1000 + 20 * i → n ≤ 10000 + 60 * i → W p l e ({ frames := 10, cells := 600000, slots := 7302250, locals := 368 } : Room) s m args below meth c H locs k n Q (F0 m 18 ls []) := by
  intro d
  induction d using Nat.strongRecOn with
  | ind d ih =>
    intro i H locs fl σ hs tx len ls k n hd hi hh hl hL hk hn
    have hfr9 := hh.2.2.2.2.2.2
    have hz9 := hh.2.2.2.2.2.1
    refine lv_iload_n E.1 E.2.1 dL_law_18 rfl (lv_at hl 3 rfl) ?_
    refine lv_aload_n E.1 E.2.1 dL_law_19 rfl (lv_at hl 0 rfl) ?_
    refine r_slen E hX hbG hG (by omega) (fun q hq => hfr9 q (by omega)) hL dL_law_20 ?_
    refine r_const E dL_law_21 ?_
    refine r_sub E dL_law_22 ?_
    refine r_icmp_gt (tgt := 922) E dL_law_23 (by decide) (by omega) (by omega) (fun _ => K H ls locs k n hL (by omega) (by omega)) (fun h9 => ?_)
    refine law_turn E hX hbG hG hL2 x hx hh i (by omega) hl hL k n (by omega) (by omega) (fun H1 fl1 σ1 hs1 tx1 len1 ls locs hh1 hl hL => ?_)
    refine r_inc (lv' := [(3, .int (iI ((i : Int) + 4))), (0, .ref b), (1, .ref x), (2, .ref (x + 179))]) E dL_law_916 hl (k := 3) rfl (by decide) rfl (fun ls hl => ?_)
    refine lv_goto (tgt := 18) E.1 E.2.1 dL_law_919 (by decide) ?_
    rw [show (i : Int) + 4 = ((i + 4 : Nat) : Int) by omega] at hl
    exact ih (L + 4 - (i + 4)) (by omega) (i + 4) H1 locs fl1 σ1 hs1 tx1 len1 ls (k + 80) (n + 240) rfl (by omega) hh1 (lv_sub hl [1, 2, 3, 0] rfl) hL (by omega) (by omega)
