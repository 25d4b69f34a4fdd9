/-! the law's case 28, usedWell: two floats made doubles, compared -/
section MKF
variable {p : Program} {l : Launch} {e : Env} {R : Room} {s : State} {m : MethodId} {args : Array Value} {below : List Frame} {meth : Method} {c : Code} {H : Heap} {locs : List Loc} {cells slots : Nat} {Q : State → Prop}
variable {G : GG} {cc : ByteArray} {n : Nat} {ret : Option FieldType} {own : String} {pc : Nat} {ls : Array Slot} {st rest : List Value}
theorem kVRF (E : En G p s m args meth c cc n ret own) {y : MethodName} {b : ByteArray} {mL k idx : Nat} {ret' : Option FieldType} {a ci : Nat} {fs : List Value} {rm' : Room} {As : List Value} {Pre : Heap → Prop} {x : UInt32} (hC : CWV own idx y b mL ret' k) (hM : Ct G l y b mL ret' rm' (.ref a :: As) Pre (RF x)) (hO : Ob G a ci fs H) (hc : ∃ T N, vwCl[ci]? = some (y.cls, T, N)) (hp : Pre H) (hL : Lk G locs) (hls : ls.size = n) (hst : st = As.reverse ++ .ref a :: rest) (hk : As.length = k) (hW : (rest.map fun v => v.category).sum ≤ 8) (hR : rm'.frames + 1 ≤ R.frames ∧ 8 + (mL + 11) + rm'.locals ≤ R.locals) (hz : rm'.cells = 0 ∧ rm'.slots = 0) (hf : cells ≤ R.cells ∧ slots ≤ R.slots) (hdg : decode cc pc = .ok (.invokevirtual idx, 3))
    (kk : ∀ (locs1 : List Loc), Lk G locs1 → W p l e R s m args below meth c H locs1 cells slots Q (F0 m (pc + 3) ls (.float x :: rest))) : W p l e R s m args below meth c H locs cells slots Q (F0 m pc ls st) :=
  m_callV E hC hM hO hc hp hL hls hst hk hW hR (by rw [hz.1, hz.2]; exact hf) hdg (fun v H1 locs1 hL1 hv => by
    obtain ⟨rfl, rfl⟩ := hv
    rw [hz.1, hz.2]
    exact kk locs1 hL1)
end MKF
theorem law_28 {p : Program} {l : Launch} {e : Env} {s : State} {m : MethodId} {args : Array Value} {below : List Frame} {meth : Method} {c : Code} {H : Heap} {locs : List Loc} {Q : State → Prop} {G : GG} (E : En G p s m args meth c cL_law 8 (some .boolean) RL) {b L : Nat} {xs : Nat → Int32} (hX : va_X b L xs s s.heap) (hbG : b < G.2.2) (hG : G.2.2 = s.heap.size) (hL2 : L ≤ 2048) {fl : Nat → Option Fil} {σ : St} {hs : List St} {tx : Nat → Int} {len : Nat} (x : Nat) (hx : x = G.2.2) (hh : LwS G x s.heap fl σ hs tx len H) (i : Nat) (hi : i + 4 ≤ L) {ls : Array Slot} (hl : lv_has ls 8 [(0, .ref b), (1, .ref x), (2, .ref (x + 179)), (3, .int (iI (i : Int)))]) (hL : Lk G locs) (k n : Nat) (hk : k ≤ 590000) (hn : n ≤ 7000000)
    (K : ∀ (H1 : Heap) (fl1 : Nat → Option Fil) (σ1 : St) (hs1 : List St) (tx1 : Nat → Int) (len1 : Nat) (ls : Array Slot) (locs : List Loc), LwS G x s.heap fl1 σ1 hs1 tx1 len1 H1 → lv_has ls 8 [(0, .ref b), (1, .ref x), (2, .ref (x + 179)), (3, .int (iI (i : Int)))] → Lk G locs → W p l e ({ frames := 10, cells := 600000, slots := 7302250, locals := 368 } : Room) s m args below meth c H1 locs (k + 80) (n + 240) Q (F0 m 916 ls [])) : W p l e ({ frames := 10, cells := 600000, slots := 7302250, locals := 368 } : Room) s m args below meth c H locs k n Q (F0 m 778 ls []) := by
  obtain ⟨hXA, hMA, hI, hIs, hT, hsz, hfr⟩ := hh
  obtain ⟨bf, pf, v6, v7, v8, v9, v10, ho9, ha9, hbf9, hpf9, hpk9, htx9⟩ := id hMA
  have hw := wlD_n (spWell_n hI)
  refine lv_aload_n E.1 E.2.1 dL_law_778 rfl (lv_at hl 1 rfl) ?_
  refine kVRF (As := []) E cw_L_129 (c_X5_usedWell G l x (x + 184) fl σ hs tx len hI hT (by omega) (by omega)) hXA.1 ⟨_, _, rfl⟩ hXA hL hl.1 rfl rfl (Nat.le_of_ble_eq_true rfl) ⟨Nat.le_of_ble_eq_true rfl, Nat.le_of_ble_eq_true rfl⟩ ⟨rfl, rfl⟩ ⟨by show k ≤ 600000; omega, by show n ≤ 7302250; omega⟩ dL_law_779 (fun locs hL => ?_)
  refine lv_f2d E.1 E.2.1 dL_law_782 hw.2.1 ?_
  obtain ⟨d, hd⟩ : ∃ d, d = FP.f2d (spWell σ) := ⟨_, rfl⟩
  rw [← hd]
  refine lv_dstore (lv' := [(4, .double d), (0, .ref b), (1, .ref x), (2, .ref (x + 179)), (3, .int (iI (i : Int)))]) E.1 E.2.1 dL_law_783 hl (by decide) rfl (fun ls hl => ?_)
  refine lv_aload_n E.1 E.2.1 dL_law_785 rfl (lv_at hl 3 rfl) ?_
  refine kVRF (As := []) E cw_L_133 (c_X6_usedWell G l (x + 179) σ _ _ _ _ _ _ _ hI) ho9 ⟨_, _, rfl⟩ ⟨ho9, ha9⟩ hL hl.1 rfl rfl (Nat.le_of_ble_eq_true rfl) ⟨Nat.le_of_ble_eq_true rfl, Nat.le_of_ble_eq_true rfl⟩ ⟨rfl, rfl⟩ ⟨by show k ≤ 600000; omega, by show n ≤ 7302250; omega⟩ dL_law_786 (fun locs hL => ?_)
  refine lv_f2d E.1 E.2.1 dL_law_789 hw.2.1 ?_
  rw [← hd]
  refine lv_dstore (lv' := [(6, .double d), (4, .double d), (0, .ref b), (1, .ref x), (2, .ref (x + 179)), (3, .int (iI (i : Int)))]) E.1 E.2.1 dL_law_790 hl (by decide) rfl (fun ls hl => ?_)
  refine lv_dload E.1 E.2.1 dL_law_792 (lv_at hl 1 rfl) ?_
  refine lv_dload E.1 E.2.1 dL_law_794 (lv_at hl 0 rfl) ?_
  refine lv_dcmp E.1 E.2.1 dL_law_796 ?_
  have hc9 : FP.dcmp d d = some .eq := by rw [hd]; exact hw.2.2
  rw [hc9, show Op.cmpValue (some .eq) .l = iI 0 from rfl]
  refine r_if_eq (tgt := 818) E dL_law_797 (by decide) (by decide) (fun _ => ?_) (fun h9 => absurd rfl h9)
  refine lv_goto (tgt := 916) E.1 E.2.1 dL_law_818 (by decide) ?_
  refine W.widen (k := k + 80) (n := n + 240) (by show k ≤ k + 80; omega) (by show n ≤ n + 240; omega) ?_
  exact K _ _ _ _ _ _ ls locs ⟨hXA, hMA, hI, hIs, hT, hsz, hfr⟩ (lv_sub hl [2, 3, 4, 5] rfl) hL
