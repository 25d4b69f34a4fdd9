set_option maxHeartbeats 4000000 in
set_option maxRecDepth 100000 in
theorem law_rest {p : Program} {l : Launch} {e : Env} {s : State} {m : MethodId} {args : Array Value} {below : List Frame} {meth : Method} {c : Code} {H : Heap} {locs : List Loc} {Q : State → Prop} {G : GG} (E : En G p s m args meth c cL_law 10 (some .boolean) RL) {b L : Nat} {xs : Nat → Int32} (hX : va_X b L xs s s.heap) (hbG : b < G.2.2) (hL2 : L ≤ 260) (x : Nat) (hx : x = G.2.2) (hgx : G.2.2 ≤ x) (hfx : x + 179 ≤ x + 179)
    (hP : XAt G x (x + 179) (fun _ => none) sig0 [] (fun _ => 0) 0 H) (hz : x + 179 ≤ H.size) (hfr : ∀ q, q < x → H[q]? = s.heap[q]?) {ls : Array Slot} (hl : lv_has ls 10 [(1, .ref x), (0, .ref b)]) (hL : Lk G locs) (k n : Nat) (hk : k ≤ 1000) (hn : n ≤ 10000)
    (K : ∀ (H1 : Heap) (ls : Array Slot) (locs : List Loc) (k n : Nat), Lk G locs → k ≤ 600000 → n ≤ 7302250 → W p l e ({ frames := 11, cells := 600000, slots := 7302250, locals := 438 } : Room) s m args below meth c H1 locs k n Q (F0 m 260 ls [.int (iI 1)])) : W p l e ({ frames := 11, cells := 600000, slots := 7302250, locals := 438 } : Room) s m args below meth c H locs k n Q (F0 m 8 ls []) := by
  refine lv_aload_n E.1 E.2.1 dL_law_8 rfl (lv_at hl 0 rfl) ?_
  refine kSRE (As := [.ref (x)]) E cw_L_153 (c_L_holds G l x (x + 179) (fun _ => none) sig0 [] (fun _ => 0) 0 VS.sig0 TxOk.zero hfx hgx) hP hL hl.1 rfl rfl (Nat.le_of_ble_eq_true rfl) ⟨Nat.le_of_ble_eq_true rfl, Nat.le_of_ble_eq_true rfl⟩ ⟨rfl, rfl⟩ ⟨by show k + 0 ≤ 600000; omega, by show n + 0 ≤ 7302250; omega⟩ dL_law_9 (fun locs hL => ?_)
  refine r_if_eq (tgt := 36) E dL_law_12 (by decide) (by omega) (fun c12 => absurd c12 (by omega)) (fun c12 => ?_)
  refine lv_aload_n E.1 E.2.1 dL_law_15 rfl (lv_at hl 0 rfl) ?_
  refine r_const E dL_law_16 ?_
  refine kSRE (As := [.ref (x), .int (iI (0))]) E cw_L_157 (c_L_would G l x (x + 179) (fun _ => none) sig0 [] (fun _ => 0) 0 VS.sig0 TxOk.zero hfx hgx (iI (0))) hP hL hl.1 rfl rfl (Nat.le_of_ble_eq_true rfl) ⟨Nat.le_of_ble_eq_true rfl, Nat.le_of_ble_eq_true rfl⟩ ⟨rfl, rfl⟩ ⟨by show k + 0 ≤ 600000; omega, by show n + 0 ≤ 7302250; omega⟩ dL_law_17 (fun locs hL => ?_)
  refine r_if_eq (tgt := 36) E dL_law_20 (by decide) (by omega) (fun c20 => absurd c20 (by omega)) (fun c20 => ?_)
  refine lv_aload_n E.1 E.2.1 dL_law_23 rfl (lv_at hl 0 rfl) ?_
  refine kVWE (As := []) E cw_L_116 (c_X5_undo G l x (x + 179) (fun _ => none) sig0 [] (fun _ => 0) 0 VS.sig0.1 TxOk.zero hfx hgx VH.nil.inv) hP.1 ⟨_, _, rfl⟩ ⟨hP, hz⟩ hL hl.1 rfl rfl (Nat.le_of_ble_eq_true rfl) ⟨Nat.le_of_ble_eq_true rfl, Nat.le_of_ble_eq_true rfl⟩ ⟨by show k + 0 ≤ 600000; omega, by show n + 0 ≤ 7302250; omega⟩ dL_law_24 (fun H1 locs hL hw_ => ?_)
  rw [show spUndo sig0 [] = (-6, sig0, []) from rfl] at hw_ ⊢
  obtain ⟨⟨fl0, hE0, hX0⟩, hR0⟩ := hw_
  have hX0 : XAt G x (x + 179) fl0 sig0 [] (fun _ => 0) 0 H1 := hX0
  refine W.cs (cells' := k) (slots' := n) (by show _ + 0 = _; omega) (by show _ + 0 = _; omega) ?_
  have hfr0 : ∀ q, q < x → H1[q]? = s.heap[q]? := fun q h9 => (hR0.2 q (by have := hz; omega) (Or.inl h9)).trans (hfr q h9)
  have hz0 := FrR.size hR0 hz
  refine r_bipush E dL_law_27 (by decide) ?_
  refine r_icmp_ne (tgt := 36) E dL_law_29 (by decide) (by omega) (by omega) (fun c29 => absurd c29 (by omega)) (fun c29 => ?_)
  refine r_const E dL_law_32 ?_
  refine lv_goto (tgt := 37) E.1 E.2.1 dL_law_33 (by decide) ?_
  refine lv_istore_n (lv' := [(2, .int (iI (1))), (1, .ref (x)), (0, .ref (b))]) E.1 E.2.1 dL_law_37 rfl hl (by decide) rfl (fun ls hl => ?_)
  refine r_const E dL_law_38 ?_
  refine lv_istore_n (lv' := [(3, .int (iI (0))), (2, .int (iI (1))), (1, .ref (x)), (0, .ref (b))]) E.1 E.2.1 dL_law_39 rfl hl (by decide) rfl (fun ls hl => ?_)
  have LP40 : ∀ (kin40 : Nat) (i : Nat) (H : Heap) (u : Int) (fli : Nat → Option Fil) (σ : St) (hs : List St) (txi : Nat → Int) (leni : Nat) (kk nn : Nat) (ls : Array Slot) (locs : List Loc) (hi : i ≤ 54) (hu : u = (i : Int)) (hXi : XAt G x (x + 179) fli σ hs txi leni H) (hzi : x + 179 ≤ H.size) (hfri : ∀ q, q < x → H[q]? = s.heap[q]?) (hVi : VS σ) (hHi : VH hs) (hTi : TxOk txi leni) (hki : kk ≤ 1000 + 80 * i) (hni : nn ≤ 10000 + 240 * i) (hkin40 : 54 - i = kin40) (hl : lv_has ls 10 [(3, .int (iI (u))), (2, .int (iI (1))), (1, .ref (x)), (0, .ref (b))]) (hL : Lk G locs), W p l e ({ frames := 11, cells := 600000, slots := 7302250, locals := 438 } : Room) s m args below meth c H locs (kk) (nn) Q (F0 m 40 ls []) := by
    intro kin40
    induction kin40 using Nat.strongRecOn with
    | ind kin40 ihin40 =>
      intro i H u fli σ hs txi leni kk nn ls locs hi hu hXi hzi hfri hVi hHi hTi hki hni hkin40 hl hL
      refine lv_iload_n E.1 E.2.1 dL_law_40 rfl (lv_at hl 0 rfl) ?_
      refine r_bipush E dL_law_41 (by decide) ?_
      refine r_icmp_ge (tgt := 244) E dL_law_43 (by decide) (by omega) (by omega) (fun c43 => ?_) (fun c43 => ?_)
      · refine lv_iload_n E.1 E.2.1 dL_law_244 rfl (lv_at hl 1 rfl) ?_
        refine r_if_eq (tgt := 259) E dL_law_245 (by decide) (by omega) (fun c245 => absurd c245 (by omega)) (fun c245 => ?_)
        refine lv_aload_n E.1 E.2.1 dL_law_248 rfl (lv_at hl 2 rfl) ?_
        refine kSRE (As := [.ref (x)]) E cw_L_153 (c_L_holds G l x (x + 179) fli σ hs txi leni hVi hTi hfx hgx) hXi hL hl.1 rfl rfl (Nat.le_of_ble_eq_true rfl) ⟨Nat.le_of_ble_eq_true rfl, Nat.le_of_ble_eq_true rfl⟩ ⟨rfl, rfl⟩ ⟨by show kk + 0 ≤ 600000; omega, by show nn + 0 ≤ 7302250; omega⟩ dL_law_249 (fun locs hL => ?_)
        refine r_if_eq (tgt := 259) E dL_law_252 (by decide) (by omega) (fun c252 => absurd c252 (by omega)) (fun c252 => ?_)
        refine r_const E dL_law_255 ?_
        refine lv_goto (tgt := 260) E.1 E.2.1 dL_law_256 (by decide) ?_
        exact K _ _ _ _ _ hL (by omega) (by omega)
      · subst hu
        refine lv_iload_n E.1 E.2.1 dL_law_46 rfl (lv_at hl 1 rfl) ?_
        refine r_if_eq (tgt := 244) E dL_law_47 (by decide) (by omega) (fun c47 => absurd c47 (by omega)) (fun c47 => ?_)
        refine lv_aload_n E.1 E.2.1 dL_law_50 rfl (lv_at hl 3 rfl) ?_
        refine r_const E dL_law_51 ?_
        refine lv_iload_n E.1 E.2.1 dL_law_52 rfl (lv_at hl 0 rfl) ?_
        refine r_mul E dL_law_53 ?_
        rw [show (2 * (i : Int) : Int) = ((2 * i : Nat) : Int) by omega]
        have hXs := hX.kept (H1 := H) (hfri b (by omega))
        refine kSLot (As := [.ref b, .int (iI ((2 * i : Nat) : Int))]) E cw_L_160 (c_L_lot G l b L (2 * i) xs hbG hL2 (by omega)) hXs hL hl.1 rfl rfl (Nat.le_of_ble_eq_true rfl) ⟨Nat.le_of_ble_eq_true rfl, Nat.le_of_ble_eq_true rfl⟩ ⟨rfl, rfl⟩ ⟨by show kk + 0 ≤ 600000; omega, by show nn + 0 ≤ 7302250; omega⟩ dL_law_54 (fun r1 locs hL => ?_)
        refine lv_istore (lv' := [(4, .int (r1)), (3, .int (iI ((i : Int)))), (2, .int (iI (1))), (1, .ref (x)), (0, .ref (b))]) E.1 E.2.1 dL_law_57 hl (by decide) rfl (fun ls hl => ?_)
        refine lv_aload_n E.1 E.2.1 dL_law_59 rfl (lv_at hl 4 rfl) ?_
        refine r_const E dL_law_60 ?_
        refine lv_iload_n E.1 E.2.1 dL_law_61 rfl (lv_at hl 1 rfl) ?_
        refine r_mul E dL_law_62 ?_
        refine r_const E dL_law_63 ?_
        refine r_add E dL_law_64 ?_
        rw [show ((2 * (i : Int)) + 1 : Int) = ((2 * i + 1 : Nat) : Int) by omega]
        have hXs := hX.kept (H1 := H) (hfri b (by omega))
        refine kSLot (As := [.ref b, .int (iI ((2 * i + 1 : Nat) : Int))]) E cw_L_160 (c_L_lot G l b L (2 * i + 1) xs hbG hL2 (by omega)) hXs hL hl.1 rfl rfl (Nat.le_of_ble_eq_true rfl) ⟨Nat.le_of_ble_eq_true rfl, Nat.le_of_ble_eq_true rfl⟩ ⟨rfl, rfl⟩ ⟨by show kk + 0 ≤ 600000; omega, by show nn + 0 ≤ 7302250; omega⟩ dL_law_65 (fun r2 locs hL => ?_)
        refine lv_istore (lv' := [(5, .int (r2)), (4, .int (r1)), (3, .int (iI ((i : Int)))), (2, .int (iI (1))), (1, .ref (x)), (0, .ref (b))]) E.1 E.2.1 dL_law_68 hl (by decide) rfl (fun ls hl => ?_)
        refine lv_aload_n E.1 E.2.1 dL_law_70 rfl (lv_at hl 4 rfl) ?_
        refine kSRJ (As := [.ref (x)]) E cw_L_103 (c_L_look G l x (x + 179) fli σ hs txi leni hVi.1 hTi hfx hgx) hXi hL hl.1 rfl rfl (Nat.le_of_ble_eq_true rfl) ⟨Nat.le_of_ble_eq_true rfl, Nat.le_of_ble_eq_true rfl⟩ ⟨rfl, rfl⟩ ⟨by show kk + 0 ≤ 600000; omega, by show nn + 0 ≤ 7302250; omega⟩ dL_law_71 (fun locs hL => ?_)
        refine lv_lstore (lv' := [(6, .long (lookV σ)), (5, .int (r2)), (4, .int (r1)), (3, .int (iI ((i : Int)))), (2, .int (iI (1))), (1, .ref (x)), (0, .ref (b))]) E.1 E.2.1 dL_law_74 hl (by decide) rfl (fun ls hl => ?_)
        have J93_3 : ∀ (v93 : Int) (hv93 : (v93 = 1 ∧ 26 < lowI (r1) (30)) ∨ (v93 = 0 ∧ lowI (r1) (30) ≤ 26)) (ls : Array Slot) (locs : List Loc) (hl : lv_has ls 10 [(6, .long (lookV σ)), (5, .int (r2)), (4, .int (r1)), (3, .int (iI ((i : Int)))), (2, .int (iI (1))), (1, .ref (x)), (0, .ref (b))]) (hL : Lk G locs), W p l e ({ frames := 11, cells := 600000, slots := 7302250, locals := 438 } : Room) s m args below meth c H locs (kk) (nn) Q (F0 m 93 ls [.int (iI (v93))]) := by
          intro v93 hv93 ls locs hl hL
          refine lv_istore (lv' := [(8, .int (iI (v93))), (6, .long (lookV σ)), (5, .int (r2)), (4, .int (r1)), (3, .int (iI ((i : Int)))), (2, .int (iI (1))), (1, .ref (x)), (0, .ref (b))]) E.1 E.2.1 dL_law_93 hl (by decide) rfl (fun ls hl => ?_)
          refine lv_aload_n E.1 E.2.1 dL_law_95 rfl (lv_at hl 6 rfl) ?_
          refine lv_iload E.1 E.2.1 dL_law_96 (lv_at hl 3 rfl) ?_
          refine lv_iload E.1 E.2.1 dL_law_98 (lv_at hl 2 rfl) ?_
          refine kSWE (As := [.ref (x), .int (r1), .int (r2)]) E cw_L_164 (c_L_acts G l x (x + 179) fli σ hs txi leni hVi hHi hTi hfx hgx (r1) (r2)) ⟨hXi, hzi⟩ hL hl.1 rfl rfl (Nat.le_of_ble_eq_true rfl) ⟨Nat.le_of_ble_eq_true rfl, Nat.le_of_ble_eq_true rfl⟩ ⟨by show kk + 80 ≤ 600000; omega, by show nn + 240 ≤ 7302250; omega⟩ dL_law_100 (fun H6 locs hL hw_ => ?_)
          obtain ⟨τ, hs4, tx4, len4, hV4, hD4, hT4, hC, ⟨fl4, hE4, hX4⟩, hR4⟩ := hw_
          have hfr4 : ∀ q, q < x → H6[q]? = s.heap[q]? := fun q h9 => (hR4.2 q (by have := hzi; omega) (Or.inl h9)).trans (hfri q h9)
          have hz4 := FrR.size hR4 hzi
          refine W.cs (cells' := kk + 80) (slots' := nn + 240) rfl rfl ?_
          refine r_if_eq (tgt := 139) E dL_law_103 (by decide) (by omega) (fun c103 => absurd c103 (by omega)) (fun c103 => ?_)
          have J119_6 : ∀ (ls : Array Slot) (locs : List Loc) (hl : lv_has ls 10 [(8, .int (iI (v93))), (6, .long (lookV σ)), (5, .int (r2)), (4, .int (r1)), (3, .int (iI ((i : Int)))), (2, .int (iI (1))), (1, .ref (x)), (0, .ref (b))]) (hL : Lk G locs), W p l e ({ frames := 11, cells := 600000, slots := 7302250, locals := 438 } : Room) s m args below meth c H6 locs (kk + 80) (nn + 240) Q (F0 m 119 ls []) := by
            intro ls locs hl hL
            have J135_7 : ∀ (ls : Array Slot) (locs : List Loc) (hl : lv_has ls 10 [(8, .int (iI (v93))), (6, .long (lookV σ)), (5, .int (r2)), (4, .int (r1)), (3, .int (iI ((i : Int)))), (2, .int (iI (1))), (1, .ref (x)), (0, .ref (b))]) (hL : Lk G locs), W p l e ({ frames := 11, cells := 600000, slots := 7302250, locals := 438 } : Room) s m args below meth c H6 locs (kk + 80) (nn + 240) Q (F0 m 135 ls []) := by
              intro ls locs hl hL
              refine r_const E dL_law_135 ?_
              refine lv_goto (tgt := 140) E.1 E.2.1 dL_law_136 (by decide) ?_
              refine lv_istore_n (lv' := [(2, .int (iI (1))), (8, .int (iI (v93))), (6, .long (lookV σ)), (5, .int (r2)), (4, .int (r1)), (3, .int (iI ((i : Int)))), (1, .ref (x)), (0, .ref (b))]) E.1 E.2.1 dL_law_140 rfl hl (by decide) rfl (fun ls hl => ?_)
              refine lv_iload_n E.1 E.2.1 dL_law_141 rfl (lv_at hl 0 rfl) ?_
              refine r_if_eq (tgt := 195) E dL_law_142 (by decide) (by omega) (fun c142 => absurd c142 (by omega)) (fun c142 => ?_)
              refine lv_iload E.1 E.2.1 dL_law_145 (lv_at hl 1 rfl) ?_
              refine r_if_ne (tgt := 195) E dL_law_147 (by decide) (by omega) (fun c147 => ?_) (fun c147 => ?_)
              · refine lv_iload_n E.1 E.2.1 dL_law_195 rfl (lv_at hl 0 rfl) ?_
                refine r_if_eq (tgt := 238) E dL_law_196 (by decide) (by omega) (fun c196 => absurd c196 (by omega)) (fun c196 => ?_)
                refine lv_iload_n E.1 E.2.1 dL_law_199 rfl (lv_at hl 5 rfl) ?_
                refine r_bipush E dL_law_200 (by decide) ?_
                refine r_rem E dL_law_202 (by omega) (by omega) (by omega) (by omega) ?_
                refine r_bipush E dL_law_203 (by decide) ?_
                refine r_icmp_ne (tgt := 238) E dL_law_205 (by decide) (by omega) (by omega) (fun c205 => ?_) (fun c205 => ?_)
                · refine r_inc (lv' := [(3, .int (iI ((i : Int) + 1))), (2, .int (iI (1))), (8, .int (iI (v93))), (6, .long (lookV σ)), (5, .int (r2)), (4, .int (r1)), (1, .ref (x)), (0, .ref (b))]) E dL_law_238 hl (k := 5) rfl (by decide) rfl (fun ls hl => ?_)
                  refine lv_goto (tgt := 40) E.1 E.2.1 dL_law_241 (by decide) ?_
                  refine ihin40 _ ?_ (i + 1) H6 ((i : Int) + 1) fl4 τ hs4 tx4 len4 (kk + 80) (nn + 240) ls locs ?_ ?_ ?_ ?_ ?_ ?_ ?_ ?_ ?_ ?_ rfl (lv_sub hl [0, 1, 6, 7] rfl) hL
                  · omega
                  · omega
                  · omega
                  · exact hX4
                  · exact hz4
                  · exact hfr4
                  · exact hV4
                  · exact hD4
                  · exact hT4
                  · omega
                  · omega
                · refine lv_aload_n E.1 E.2.1 dL_law_208 rfl (lv_at hl 6 rfl) ?_
                  have hun := undo_vs hV4 hD4
                  refine kVWE (As := []) E cw_L_116 (c_X5_undo G l x (x + 179) fl4 τ hs4 tx4 len4 hV4.1 hT4 hfx hgx hD4.inv) hX4.1 ⟨_, _, rfl⟩ ⟨hX4, hz4⟩ hL hl.1 rfl rfl (Nat.le_of_ble_eq_true rfl) ⟨Nat.le_of_ble_eq_true rfl, Nat.le_of_ble_eq_true rfl⟩ ⟨by show kk + 80 + 0 ≤ 600000; omega, by show nn + 240 + 0 ≤ 7302250; omega⟩ dL_law_209 (fun H10 locs hL hw_ => ?_)
                  obtain ⟨⟨fl8, hE8, hX8⟩, hR8⟩ := hw_
                  refine W.cs (cells' := kk + 80) (slots' := nn + 240) (by show _ + 0 = _; omega) (by show _ + 0 = _; omega) ?_
                  have hfr8 : ∀ q, q < x → H10[q]? = s.heap[q]? := fun q h9 => (hR8.2 q (by have := hz4; omega) (Or.inl h9)).trans (hfr4 q h9)
                  have hz8 := FrR.size hR8 hz4
                  obtain ⟨un8, hun8⟩ : ∃ z, (spUndo τ hs4).1 = z := ⟨_, rfl⟩
                  rw [hun8]
                  rw [hun8] at hun
                  generalize (spUndo τ hs4).2.1 = σ8 at hX8 hun
                  generalize (spUndo τ hs4).2.2 = hs8 at hX8 hun
                  obtain ⟨hV8, hD8, hun⟩ := hun
                  refine lv_istore (lv' := [(9, .int (iI (un8))), (2, .int (iI (1))), (8, .int (iI (v93))), (6, .long (lookV σ)), (5, .int (r2)), (4, .int (r1)), (3, .int (iI ((i : Int)))), (1, .ref (x)), (0, .ref (b))]) E.1 E.2.1 dL_law_212 hl (by decide) rfl (fun ls hl => ?_)
                  refine lv_iload E.1 E.2.1 dL_law_214 (lv_at hl 0 rfl) ?_
                  refine r_bipush E dL_law_216 (by decide) ?_
                  refine r_icmp_eq (tgt := 232) E dL_law_218 (by decide) (by omega) (by omega) (fun c218 => ?_) (fun c218 => ?_)
                  · refine r_const E dL_law_232 ?_
                    refine lv_goto (tgt := 237) E.1 E.2.1 dL_law_233 (by decide) ?_
                    refine lv_istore_n (lv' := [(2, .int (iI (1))), (9, .int (iI (un8))), (8, .int (iI (v93))), (6, .long (lookV σ)), (5, .int (r2)), (4, .int (r1)), (3, .int (iI ((i : Int)))), (1, .ref (x)), (0, .ref (b))]) E.1 E.2.1 dL_law_237 rfl hl (by decide) rfl (fun ls hl => ?_)
                    refine r_inc (lv' := [(3, .int (iI ((i : Int) + 1))), (2, .int (iI (1))), (9, .int (iI (un8))), (8, .int (iI (v93))), (6, .long (lookV σ)), (5, .int (r2)), (4, .int (r1)), (1, .ref (x)), (0, .ref (b))]) E dL_law_238 hl (k := 6) rfl (by decide) rfl (fun ls hl => ?_)
                    refine lv_goto (tgt := 40) E.1 E.2.1 dL_law_241 (by decide) ?_
                    refine ihin40 _ ?_ (i + 1) H10 ((i : Int) + 1) fl8 σ8 hs8 tx4 len4 (kk + 80) (nn + 240) ls locs ?_ ?_ ?_ ?_ ?_ ?_ ?_ ?_ ?_ ?_ rfl (lv_sub hl [0, 1, 7, 8] rfl) hL
                    · omega
                    · omega
                    · omega
                    · exact hX8
                    · exact hz8
                    · exact hfr8
                    · exact hV8
                    · exact hD8
                    · exact hT4
                    · omega
                    · omega
                  · refine lv_iload E.1 E.2.1 dL_law_221 (lv_at hl 0 rfl) ?_
                    refine r_if_lt (tgt := 236) E dL_law_223 (by decide) (by omega) (fun c223 => absurd c223 (by omega)) (fun c223 => ?_)
                    refine lv_iload E.1 E.2.1 dL_law_226 (lv_at hl 0 rfl) ?_
                    refine r_const E dL_law_228 ?_
                    refine r_icmp_ge (tgt := 236) E dL_law_229 (by decide) (by omega) (by omega) (fun c229 => absurd c229 (by omega)) (fun c229 => ?_)
                    refine r_const E dL_law_232 ?_
                    refine lv_goto (tgt := 237) E.1 E.2.1 dL_law_233 (by decide) ?_
                    refine lv_istore_n (lv' := [(2, .int (iI (1))), (9, .int (iI (un8))), (8, .int (iI (v93))), (6, .long (lookV σ)), (5, .int (r2)), (4, .int (r1)), (3, .int (iI ((i : Int)))), (1, .ref (x)), (0, .ref (b))]) E.1 E.2.1 dL_law_237 rfl hl (by decide) rfl (fun ls hl => ?_)
                    refine r_inc (lv' := [(3, .int (iI ((i : Int) + 1))), (2, .int (iI (1))), (9, .int (iI (un8))), (8, .int (iI (v93))), (6, .long (lookV σ)), (5, .int (r2)), (4, .int (r1)), (1, .ref (x)), (0, .ref (b))]) E dL_law_238 hl (k := 6) rfl (by decide) rfl (fun ls hl => ?_)
                    refine lv_goto (tgt := 40) E.1 E.2.1 dL_law_241 (by decide) ?_
                    refine ihin40 _ ?_ (i + 1) H10 ((i : Int) + 1) fl8 σ8 hs8 tx4 len4 (kk + 80) (nn + 240) ls locs ?_ ?_ ?_ ?_ ?_ ?_ ?_ ?_ ?_ ?_ rfl (lv_sub hl [0, 1, 7, 8] rfl) hL
                    · omega
                    · omega
                    · omega
                    · exact hX8
                    · exact hz8
                    · exact hfr8
                    · exact hV8
                    · exact hD8
                    · exact hT4
                    · omega
                    · omega
              · refine lv_aload_n E.1 E.2.1 dL_law_150 rfl (lv_at hl 6 rfl) ?_
                refine kSRJ (As := [.ref (x)]) E cw_L_103 (c_L_look G l x (x + 179) fl4 τ hs4 tx4 len4 hV4.1 hT4 hfx hgx) hX4 hL hl.1 rfl rfl (Nat.le_of_ble_eq_true rfl) ⟨Nat.le_of_ble_eq_true rfl, Nat.le_of_ble_eq_true rfl⟩ ⟨rfl, rfl⟩ ⟨by show kk + 80 + 0 ≤ 600000; omega, by show nn + 240 + 0 ≤ 7302250; omega⟩ dL_law_151 (fun locs hL => ?_)
                refine lv_lload E.1 E.2.1 dL_law_154 (lv_at hl 2 rfl) ?_
                refine r_lcmp E dL_law_156 (fun z9 hz9a hz9b hz9 => ?_)
                refine r_if_eq (tgt := 195) E dL_law_157 (by decide) (by omega) (fun c157 => ?_) (fun c157 => ?_)
                · refine lv_iload_n E.1 E.2.1 dL_law_195 rfl (lv_at hl 0 rfl) ?_
                  refine r_if_eq (tgt := 238) E dL_law_196 (by decide) (by omega) (fun c196 => absurd c196 (by omega)) (fun c196 => ?_)
                  refine lv_iload_n E.1 E.2.1 dL_law_199 rfl (lv_at hl 5 rfl) ?_
                  refine r_bipush E dL_law_200 (by decide) ?_
                  refine r_rem E dL_law_202 (by omega) (by omega) (by omega) (by omega) ?_
                  refine r_bipush E dL_law_203 (by decide) ?_
                  refine r_icmp_ne (tgt := 238) E dL_law_205 (by decide) (by omega) (by omega) (fun c205 => ?_) (fun c205 => ?_)
                  · refine r_inc (lv' := [(3, .int (iI ((i : Int) + 1))), (2, .int (iI (1))), (8, .int (iI (v93))), (6, .long (lookV σ)), (5, .int (r2)), (4, .int (r1)), (1, .ref (x)), (0, .ref (b))]) E dL_law_238 hl (k := 5) rfl (by decide) rfl (fun ls hl => ?_)
                    refine lv_goto (tgt := 40) E.1 E.2.1 dL_law_241 (by decide) ?_
                    refine ihin40 _ ?_ (i + 1) H6 ((i : Int) + 1) fl4 τ hs4 tx4 len4 (kk + 80) (nn + 240) ls locs ?_ ?_ ?_ ?_ ?_ ?_ ?_ ?_ ?_ ?_ rfl (lv_sub hl [0, 1, 6, 7] rfl) hL
                    · omega
                    · omega
                    · omega
                    · exact hX4
                    · exact hz4
                    · exact hfr4
                    · exact hV4
                    · exact hD4
                    · exact hT4
                    · omega
                    · omega
                  · refine lv_aload_n E.1 E.2.1 dL_law_208 rfl (lv_at hl 6 rfl) ?_
                    have hun := undo_vs hV4 hD4
                    refine kVWE (As := []) E cw_L_116 (c_X5_undo G l x (x + 179) fl4 τ hs4 tx4 len4 hV4.1 hT4 hfx hgx hD4.inv) hX4.1 ⟨_, _, rfl⟩ ⟨hX4, hz4⟩ hL hl.1 rfl rfl (Nat.le_of_ble_eq_true rfl) ⟨Nat.le_of_ble_eq_true rfl, Nat.le_of_ble_eq_true rfl⟩ ⟨by show kk + 80 + 0 ≤ 600000; omega, by show nn + 240 + 0 ≤ 7302250; omega⟩ dL_law_209 (fun H11 locs hL hw_ => ?_)
                    obtain ⟨⟨fl9, hE9, hX9⟩, hR9⟩ := hw_
                    refine W.cs (cells' := kk + 80) (slots' := nn + 240) (by show _ + 0 = _; omega) (by show _ + 0 = _; omega) ?_
                    have hfr9 : ∀ q, q < x → H11[q]? = s.heap[q]? := fun q h9 => (hR9.2 q (by have := hz4; omega) (Or.inl h9)).trans (hfr4 q h9)
                    have hz9 := FrR.size hR9 hz4
                    obtain ⟨un9, hun9⟩ : ∃ z, (spUndo τ hs4).1 = z := ⟨_, rfl⟩
                    rw [hun9]
                    rw [hun9] at hun
                    generalize (spUndo τ hs4).2.1 = σ9 at hX9 hun
                    generalize (spUndo τ hs4).2.2 = hs9 at hX9 hun
                    obtain ⟨hV9, hD9, hun⟩ := hun
                    refine lv_istore (lv' := [(9, .int (iI (un9))), (2, .int (iI (1))), (8, .int (iI (v93))), (6, .long (lookV σ)), (5, .int (r2)), (4, .int (r1)), (3, .int (iI ((i : Int)))), (1, .ref (x)), (0, .ref (b))]) E.1 E.2.1 dL_law_212 hl (by decide) rfl (fun ls hl => ?_)
                    refine lv_iload E.1 E.2.1 dL_law_214 (lv_at hl 0 rfl) ?_
                    refine r_bipush E dL_law_216 (by decide) ?_
                    refine r_icmp_eq (tgt := 232) E dL_law_218 (by decide) (by omega) (by omega) (fun c218 => ?_) (fun c218 => ?_)
                    · refine r_const E dL_law_232 ?_
                      refine lv_goto (tgt := 237) E.1 E.2.1 dL_law_233 (by decide) ?_
                      refine lv_istore_n (lv' := [(2, .int (iI (1))), (9, .int (iI (un9))), (8, .int (iI (v93))), (6, .long (lookV σ)), (5, .int (r2)), (4, .int (r1)), (3, .int (iI ((i : Int)))), (1, .ref (x)), (0, .ref (b))]) E.1 E.2.1 dL_law_237 rfl hl (by decide) rfl (fun ls hl => ?_)
                      refine r_inc (lv' := [(3, .int (iI ((i : Int) + 1))), (2, .int (iI (1))), (9, .int (iI (un9))), (8, .int (iI (v93))), (6, .long (lookV σ)), (5, .int (r2)), (4, .int (r1)), (1, .ref (x)), (0, .ref (b))]) E dL_law_238 hl (k := 6) rfl (by decide) rfl (fun ls hl => ?_)
                      refine lv_goto (tgt := 40) E.1 E.2.1 dL_law_241 (by decide) ?_
                      refine ihin40 _ ?_ (i + 1) H11 ((i : Int) + 1) fl9 σ9 hs9 tx4 len4 (kk + 80) (nn + 240) ls locs ?_ ?_ ?_ ?_ ?_ ?_ ?_ ?_ ?_ ?_ rfl (lv_sub hl [0, 1, 7, 8] rfl) hL
                      · omega
                      · omega
                      · omega
                      · exact hX9
                      · exact hz9
                      · exact hfr9
                      · exact hV9
                      · exact hD9
                      · exact hT4
                      · omega
                      · omega
                    · refine lv_iload E.1 E.2.1 dL_law_221 (lv_at hl 0 rfl) ?_
                      refine r_if_lt (tgt := 236) E dL_law_223 (by decide) (by omega) (fun c223 => absurd c223 (by omega)) (fun c223 => ?_)
                      refine lv_iload E.1 E.2.1 dL_law_226 (lv_at hl 0 rfl) ?_
                      refine r_const E dL_law_228 ?_
                      refine r_icmp_ge (tgt := 236) E dL_law_229 (by decide) (by omega) (by omega) (fun c229 => absurd c229 (by omega)) (fun c229 => ?_)
                      refine r_const E dL_law_232 ?_
                      refine lv_goto (tgt := 237) E.1 E.2.1 dL_law_233 (by decide) ?_
                      refine lv_istore_n (lv' := [(2, .int (iI (1))), (9, .int (iI (un9))), (8, .int (iI (v93))), (6, .long (lookV σ)), (5, .int (r2)), (4, .int (r1)), (3, .int (iI ((i : Int)))), (1, .ref (x)), (0, .ref (b))]) E.1 E.2.1 dL_law_237 rfl hl (by decide) rfl (fun ls hl => ?_)
                      refine r_inc (lv' := [(3, .int (iI ((i : Int) + 1))), (2, .int (iI (1))), (9, .int (iI (un9))), (8, .int (iI (v93))), (6, .long (lookV σ)), (5, .int (r2)), (4, .int (r1)), (1, .ref (x)), (0, .ref (b))]) E dL_law_238 hl (k := 6) rfl (by decide) rfl (fun ls hl => ?_)
                      refine lv_goto (tgt := 40) E.1 E.2.1 dL_law_241 (by decide) ?_
                      refine ihin40 _ ?_ (i + 1) H11 ((i : Int) + 1) fl9 σ9 hs9 tx4 len4 (kk + 80) (nn + 240) ls locs ?_ ?_ ?_ ?_ ?_ ?_ ?_ ?_ ?_ ?_ rfl (lv_sub hl [0, 1, 7, 8] rfl) hL
                      · omega
                      · omega
                      · omega
                      · exact hX9
                      · exact hz9
                      · exact hfr9
                      · exact hV9
                      · exact hD9
                      · exact hT4
                      · omega
                      · omega
                · refine lv_iload E.1 E.2.1 dL_law_160 (lv_at hl 3 rfl) ?_
                  refine r_bipush E dL_law_162 (by decide) ?_
                  refine lv_ishr E.1 E.2.1 dL_law_164 ?_
                  refine r_const E dL_law_165 ?_
                  obtain ⟨w10, hw10⟩ : ∃ z : Int, lowI (((r2) >>> ((iI (8)) &&& 31))) (3) = z := ⟨_, rfl⟩
                  have hw10b : 0 ≤ w10 ∧ w10 < (3) := by rw [← hw10]; exact low_b _ (by omega)
                  have hw10c := c_L_low G l (((r2) >>> ((iI (8)) &&& 31))) (3) (by omega)
                  rw [hw10] at hw10c
                  refine kSRE (As := [.int (((r2) >>> ((iI (8)) &&& 31))), .int (iI (3))]) E cw_L_72 hw10c trivial hL hl.1 rfl rfl (Nat.le_of_ble_eq_true rfl) ⟨Nat.le_of_ble_eq_true rfl, Nat.le_of_ble_eq_true rfl⟩ ⟨rfl, rfl⟩ ⟨by show kk + 80 + 0 ≤ 600000; omega, by show nn + 240 + 0 ≤ 7302250; omega⟩ dL_law_166 (fun locs hL => ?_)
                  refine r_if_ne (tgt := 195) E dL_law_169 (by decide) (by omega) (fun c169 => ?_) (fun c169 => ?_)
                  · refine lv_iload_n E.1 E.2.1 dL_law_195 rfl (lv_at hl 0 rfl) ?_
                    refine r_if_eq (tgt := 238) E dL_law_196 (by decide) (by omega) (fun c196 => absurd c196 (by omega)) (fun c196 => ?_)
                    refine lv_iload_n E.1 E.2.1 dL_law_199 rfl (lv_at hl 5 rfl) ?_
                    refine r_bipush E dL_law_200 (by decide) ?_
                    refine r_rem E dL_law_202 (by omega) (by omega) (by omega) (by omega) ?_
                    refine r_bipush E dL_law_203 (by decide) ?_
                    refine r_icmp_ne (tgt := 238) E dL_law_205 (by decide) (by omega) (by omega) (fun c205 => ?_) (fun c205 => ?_)
                    · refine r_inc (lv' := [(3, .int (iI ((i : Int) + 1))), (2, .int (iI (1))), (8, .int (iI (v93))), (6, .long (lookV σ)), (5, .int (r2)), (4, .int (r1)), (1, .ref (x)), (0, .ref (b))]) E dL_law_238 hl (k := 5) rfl (by decide) rfl (fun ls hl => ?_)
                      refine lv_goto (tgt := 40) E.1 E.2.1 dL_law_241 (by decide) ?_
                      refine ihin40 _ ?_ (i + 1) H6 ((i : Int) + 1) fl4 τ hs4 tx4 len4 (kk + 80) (nn + 240) ls locs ?_ ?_ ?_ ?_ ?_ ?_ ?_ ?_ ?_ ?_ rfl (lv_sub hl [0, 1, 6, 7] rfl) hL
                      · omega
                      · omega
                      · omega
                      · exact hX4
                      · exact hz4
                      · exact hfr4
                      · exact hV4
                      · exact hD4
                      · exact hT4
                      · omega
                      · omega
                    · refine lv_aload_n E.1 E.2.1 dL_law_208 rfl (lv_at hl 6 rfl) ?_
                      have hun := undo_vs hV4 hD4
                      refine kVWE (As := []) E cw_L_116 (c_X5_undo G l x (x + 179) fl4 τ hs4 tx4 len4 hV4.1 hT4 hfx hgx hD4.inv) hX4.1 ⟨_, _, rfl⟩ ⟨hX4, hz4⟩ hL hl.1 rfl rfl (Nat.le_of_ble_eq_true rfl) ⟨Nat.le_of_ble_eq_true rfl, Nat.le_of_ble_eq_true rfl⟩ ⟨by show kk + 80 + 0 ≤ 600000; omega, by show nn + 240 + 0 ≤ 7302250; omega⟩ dL_law_209 (fun H12 locs hL hw_ => ?_)
                      obtain ⟨⟨fl10, hE10, hX10⟩, hR10⟩ := hw_
                      refine W.cs (cells' := kk + 80) (slots' := nn + 240) (by show _ + 0 = _; omega) (by show _ + 0 = _; omega) ?_
                      have hfr10 : ∀ q, q < x → H12[q]? = s.heap[q]? := fun q h9 => (hR10.2 q (by have := hz4; omega) (Or.inl h9)).trans (hfr4 q h9)
                      have hz10 := FrR.size hR10 hz4
                      obtain ⟨un10, hun10⟩ : ∃ z, (spUndo τ hs4).1 = z := ⟨_, rfl⟩
                      rw [hun10]
                      rw [hun10] at hun
                      generalize (spUndo τ hs4).2.1 = σ10 at hX10 hun
                      generalize (spUndo τ hs4).2.2 = hs10 at hX10 hun
                      obtain ⟨hV10, hD10, hun⟩ := hun
                      refine lv_istore (lv' := [(9, .int (iI (un10))), (2, .int (iI (1))), (8, .int (iI (v93))), (6, .long (lookV σ)), (5, .int (r2)), (4, .int (r1)), (3, .int (iI ((i : Int)))), (1, .ref (x)), (0, .ref (b))]) E.1 E.2.1 dL_law_212 hl (by decide) rfl (fun ls hl => ?_)
                      refine lv_iload E.1 E.2.1 dL_law_214 (lv_at hl 0 rfl) ?_
                      refine r_bipush E dL_law_216 (by decide) ?_
                      refine r_icmp_eq (tgt := 232) E dL_law_218 (by decide) (by omega) (by omega) (fun c218 => ?_) (fun c218 => ?_)
                      · refine r_const E dL_law_232 ?_
                        refine lv_goto (tgt := 237) E.1 E.2.1 dL_law_233 (by decide) ?_
                        refine lv_istore_n (lv' := [(2, .int (iI (1))), (9, .int (iI (un10))), (8, .int (iI (v93))), (6, .long (lookV σ)), (5, .int (r2)), (4, .int (r1)), (3, .int (iI ((i : Int)))), (1, .ref (x)), (0, .ref (b))]) E.1 E.2.1 dL_law_237 rfl hl (by decide) rfl (fun ls hl => ?_)
                        refine r_inc (lv' := [(3, .int (iI ((i : Int) + 1))), (2, .int (iI (1))), (9, .int (iI (un10))), (8, .int (iI (v93))), (6, .long (lookV σ)), (5, .int (r2)), (4, .int (r1)), (1, .ref (x)), (0, .ref (b))]) E dL_law_238 hl (k := 6) rfl (by decide) rfl (fun ls hl => ?_)
                        refine lv_goto (tgt := 40) E.1 E.2.1 dL_law_241 (by decide) ?_
                        refine ihin40 _ ?_ (i + 1) H12 ((i : Int) + 1) fl10 σ10 hs10 tx4 len4 (kk + 80) (nn + 240) ls locs ?_ ?_ ?_ ?_ ?_ ?_ ?_ ?_ ?_ ?_ rfl (lv_sub hl [0, 1, 7, 8] rfl) hL
                        · omega
                        · omega
                        · omega
                        · exact hX10
                        · exact hz10
                        · exact hfr10
                        · exact hV10
                        · exact hD10
                        · exact hT4
                        · omega
                        · omega
                      · refine lv_iload E.1 E.2.1 dL_law_221 (lv_at hl 0 rfl) ?_
                        refine r_if_lt (tgt := 236) E dL_law_223 (by decide) (by omega) (fun c223 => absurd c223 (by omega)) (fun c223 => ?_)
                        refine lv_iload E.1 E.2.1 dL_law_226 (lv_at hl 0 rfl) ?_
                        refine r_const E dL_law_228 ?_
                        refine r_icmp_ge (tgt := 236) E dL_law_229 (by decide) (by omega) (by omega) (fun c229 => absurd c229 (by omega)) (fun c229 => ?_)
                        refine r_const E dL_law_232 ?_
                        refine lv_goto (tgt := 237) E.1 E.2.1 dL_law_233 (by decide) ?_
                        refine lv_istore_n (lv' := [(2, .int (iI (1))), (9, .int (iI (un10))), (8, .int (iI (v93))), (6, .long (lookV σ)), (5, .int (r2)), (4, .int (r1)), (3, .int (iI ((i : Int)))), (1, .ref (x)), (0, .ref (b))]) E.1 E.2.1 dL_law_237 rfl hl (by decide) rfl (fun ls hl => ?_)
                        refine r_inc (lv' := [(3, .int (iI ((i : Int) + 1))), (2, .int (iI (1))), (9, .int (iI (un10))), (8, .int (iI (v93))), (6, .long (lookV σ)), (5, .int (r2)), (4, .int (r1)), (1, .ref (x)), (0, .ref (b))]) E dL_law_238 hl (k := 6) rfl (by decide) rfl (fun ls hl => ?_)
                        refine lv_goto (tgt := 40) E.1 E.2.1 dL_law_241 (by decide) ?_
                        refine ihin40 _ ?_ (i + 1) H12 ((i : Int) + 1) fl10 σ10 hs10 tx4 len4 (kk + 80) (nn + 240) ls locs ?_ ?_ ?_ ?_ ?_ ?_ ?_ ?_ ?_ ?_ rfl (lv_sub hl [0, 1, 7, 8] rfl) hL
                        · omega
                        · omega
                        · omega
                        · exact hX10
                        · exact hz10
                        · exact hfr10
                        · exact hV10
                        · exact hD10
                        · exact hT4
                        · omega
                        · omega
                  · refine lv_aload_n E.1 E.2.1 dL_law_172 rfl (lv_at hl 6 rfl) ?_
                    have hC9 : hs4 = recd hs σ := by rcases hC (by omega) with ⟨h8, h9⟩ | h9; exact absurd (hz9.mpr (by rw [h8])) (by omega); exact h9
                    have hun := undo_recd (σ := σ) (τ := τ) hHi.2
                    rw [← hC9] at hun
                    refine kVWE (As := []) E cw_L_116 (c_X5_undo G l x (x + 179) fl4 τ hs4 tx4 len4 hV4.1 hT4 hfx hgx hD4.inv) hX4.1 ⟨_, _, rfl⟩ ⟨hX4, hz4⟩ hL hl.1 rfl rfl (Nat.le_of_ble_eq_true rfl) ⟨Nat.le_of_ble_eq_true rfl, Nat.le_of_ble_eq_true rfl⟩ ⟨by show kk + 80 + 0 ≤ 600000; omega, by show nn + 240 + 0 ≤ 7302250; omega⟩ dL_law_173 (fun H12 locs hL hw_ => ?_)
                    rw [hun.2.2.1, hun.2.2.2] at hw_
                    obtain ⟨⟨fl10, hE10, hX10⟩, hR10⟩ := hw_
                    refine W.cs (cells' := kk + 80) (slots' := nn + 240) (by show _ + 0 = _; omega) (by show _ + 0 = _; omega) ?_
                    have hfr10 : ∀ q, q < x → H12[q]? = s.heap[q]? := fun q h9 => (hR10.2 q (by have := hz4; omega) (Or.inl h9)).trans (hfr4 q h9)
                    have hz10 := FrR.size hR10 hz4
                    obtain ⟨un10, hun10⟩ : ∃ z, (spUndo τ hs4).1 = z := ⟨_, rfl⟩
                    rw [hun10]
                    rw [hun10] at hun
                    clear hC9
                    have hD10 : VH hs4.dropLast := VH.drop hD4
                    refine r_if_lt (tgt := 193) E dL_law_176 (by decide) (by omega) (fun c176 => absurd c176 (by omega)) (fun c176 => ?_)
                    refine lv_aload_n E.1 E.2.1 dL_law_179 rfl (lv_at hl 6 rfl) ?_
                    refine kSRJ (As := [.ref (x)]) E cw_L_103 (c_L_look G l x (x + 179) fl10 σ hs4.dropLast tx4 len4 hVi.1 hT4 hfx hgx) hX10 hL hl.1 rfl rfl (Nat.le_of_ble_eq_true rfl) ⟨Nat.le_of_ble_eq_true rfl, Nat.le_of_ble_eq_true rfl⟩ ⟨rfl, rfl⟩ ⟨by show kk + 80 + 0 ≤ 600000; omega, by show nn + 240 + 0 ≤ 7302250; omega⟩ dL_law_180 (fun locs hL => ?_)
                    refine lv_lload E.1 E.2.1 dL_law_183 (lv_at hl 2 rfl) ?_
                    refine r_lcmp E dL_law_185 (fun z13 hz13a hz13b hz13 => ?_)
                    have hz9 : z13 = 0 := hz13.mpr rfl
                    refine r_if_ne (tgt := 193) E dL_law_186 (by decide) (by omega) (fun c186 => absurd c186 (by omega)) (fun c186 => ?_)
                    refine r_const E dL_law_189 ?_
                    refine lv_goto (tgt := 194) E.1 E.2.1 dL_law_190 (by decide) ?_
                    refine lv_istore_n (lv' := [(2, .int (iI (1))), (8, .int (iI (v93))), (6, .long (lookV σ)), (5, .int (r2)), (4, .int (r1)), (3, .int (iI ((i : Int)))), (1, .ref (x)), (0, .ref (b))]) E.1 E.2.1 dL_law_194 rfl hl (by decide) rfl (fun ls hl => ?_)
                    refine lv_iload_n E.1 E.2.1 dL_law_195 rfl (lv_at hl 0 rfl) ?_
                    refine r_if_eq (tgt := 238) E dL_law_196 (by decide) (by omega) (fun c196 => absurd c196 (by omega)) (fun c196 => ?_)
                    refine lv_iload_n E.1 E.2.1 dL_law_199 rfl (lv_at hl 5 rfl) ?_
                    refine r_bipush E dL_law_200 (by decide) ?_
                    refine r_rem E dL_law_202 (by omega) (by omega) (by omega) (by omega) ?_
                    refine r_bipush E dL_law_203 (by decide) ?_
                    refine r_icmp_ne (tgt := 238) E dL_law_205 (by decide) (by omega) (by omega) (fun c205 => ?_) (fun c205 => ?_)
                    · refine r_inc (lv' := [(3, .int (iI ((i : Int) + 1))), (2, .int (iI (1))), (8, .int (iI (v93))), (6, .long (lookV σ)), (5, .int (r2)), (4, .int (r1)), (1, .ref (x)), (0, .ref (b))]) E dL_law_238 hl (k := 5) rfl (by decide) rfl (fun ls hl => ?_)
                      refine lv_goto (tgt := 40) E.1 E.2.1 dL_law_241 (by decide) ?_
                      refine ihin40 _ ?_ (i + 1) H12 ((i : Int) + 1) fl10 σ hs4.dropLast tx4 len4 (kk + 80) (nn + 240) ls locs ?_ ?_ ?_ ?_ ?_ ?_ ?_ ?_ ?_ ?_ rfl (lv_sub hl [0, 1, 6, 7] rfl) hL
                      · omega
                      · omega
                      · omega
                      · exact hX10
                      · exact hz10
                      · exact hfr10
                      · exact hVi
                      · exact hD10
                      · exact hT4
                      · omega
                      · omega
                    · refine lv_aload_n E.1 E.2.1 dL_law_208 rfl (lv_at hl 6 rfl) ?_
                      have hun := undo_vs hVi hD10
                      refine kVWE (As := []) E cw_L_116 (c_X5_undo G l x (x + 179) fl10 σ hs4.dropLast tx4 len4 hVi.1 hT4 hfx hgx hD10.inv) hX10.1 ⟨_, _, rfl⟩ ⟨hX10, hz10⟩ hL hl.1 rfl rfl (Nat.le_of_ble_eq_true rfl) ⟨Nat.le_of_ble_eq_true rfl, Nat.le_of_ble_eq_true rfl⟩ ⟨by show kk + 80 + 0 ≤ 600000; omega, by show nn + 240 + 0 ≤ 7302250; omega⟩ dL_law_209 (fun H15 locs hL hw_ => ?_)
                      obtain ⟨⟨fl13, hE13, hX13⟩, hR13⟩ := hw_
                      refine W.cs (cells' := kk + 80) (slots' := nn + 240) (by show _ + 0 = _; omega) (by show _ + 0 = _; omega) ?_
                      have hfr13 : ∀ q, q < x → H15[q]? = s.heap[q]? := fun q h9 => (hR13.2 q (by have := hz10; omega) (Or.inl h9)).trans (hfr10 q h9)
                      have hz13 := FrR.size hR13 hz10
                      obtain ⟨un13, hun13⟩ : ∃ z, (spUndo σ hs4.dropLast).1 = z := ⟨_, rfl⟩
                      rw [hun13]
                      rw [hun13] at hun
                      generalize (spUndo σ hs4.dropLast).2.1 = σ13 at hX13 hun
                      generalize (spUndo σ hs4.dropLast).2.2 = hs13 at hX13 hun
                      obtain ⟨hV13, hD13, hun⟩ := hun
                      refine lv_istore (lv' := [(9, .int (iI (un13))), (2, .int (iI (1))), (8, .int (iI (v93))), (6, .long (lookV σ)), (5, .int (r2)), (4, .int (r1)), (3, .int (iI ((i : Int)))), (1, .ref (x)), (0, .ref (b))]) E.1 E.2.1 dL_law_212 hl (by decide) rfl (fun ls hl => ?_)
                      refine lv_iload E.1 E.2.1 dL_law_214 (lv_at hl 0 rfl) ?_
                      refine r_bipush E dL_law_216 (by decide) ?_
                      refine r_icmp_eq (tgt := 232) E dL_law_218 (by decide) (by omega) (by omega) (fun c218 => ?_) (fun c218 => ?_)
                      · refine r_const E dL_law_232 ?_
                        refine lv_goto (tgt := 237) E.1 E.2.1 dL_law_233 (by decide) ?_
                        refine lv_istore_n (lv' := [(2, .int (iI (1))), (9, .int (iI (un13))), (8, .int (iI (v93))), (6, .long (lookV σ)), (5, .int (r2)), (4, .int (r1)), (3, .int (iI ((i : Int)))), (1, .ref (x)), (0, .ref (b))]) E.1 E.2.1 dL_law_237 rfl hl (by decide) rfl (fun ls hl => ?_)
                        refine r_inc (lv' := [(3, .int (iI ((i : Int) + 1))), (2, .int (iI (1))), (9, .int (iI (un13))), (8, .int (iI (v93))), (6, .long (lookV σ)), (5, .int (r2)), (4, .int (r1)), (1, .ref (x)), (0, .ref (b))]) E dL_law_238 hl (k := 6) rfl (by decide) rfl (fun ls hl => ?_)
                        refine lv_goto (tgt := 40) E.1 E.2.1 dL_law_241 (by decide) ?_
                        refine ihin40 _ ?_ (i + 1) H15 ((i : Int) + 1) fl13 σ13 hs13 tx4 len4 (kk + 80) (nn + 240) ls locs ?_ ?_ ?_ ?_ ?_ ?_ ?_ ?_ ?_ ?_ rfl (lv_sub hl [0, 1, 7, 8] rfl) hL
                        · omega
                        · omega
                        · omega
                        · exact hX13
                        · exact hz13
                        · exact hfr13
                        · exact hV13
                        · exact hD13
                        · exact hT4
                        · omega
                        · omega
                      · refine lv_iload E.1 E.2.1 dL_law_221 (lv_at hl 0 rfl) ?_
                        refine r_if_lt (tgt := 236) E dL_law_223 (by decide) (by omega) (fun c223 => absurd c223 (by omega)) (fun c223 => ?_)
                        refine lv_iload E.1 E.2.1 dL_law_226 (lv_at hl 0 rfl) ?_
                        refine r_const E dL_law_228 ?_
                        refine r_icmp_ge (tgt := 236) E dL_law_229 (by decide) (by omega) (by omega) (fun c229 => absurd c229 (by omega)) (fun c229 => ?_)
                        refine r_const E dL_law_232 ?_
                        refine lv_goto (tgt := 237) E.1 E.2.1 dL_law_233 (by decide) ?_
                        refine lv_istore_n (lv' := [(2, .int (iI (1))), (9, .int (iI (un13))), (8, .int (iI (v93))), (6, .long (lookV σ)), (5, .int (r2)), (4, .int (r1)), (3, .int (iI ((i : Int)))), (1, .ref (x)), (0, .ref (b))]) E.1 E.2.1 dL_law_237 rfl hl (by decide) rfl (fun ls hl => ?_)
                        refine r_inc (lv' := [(3, .int (iI ((i : Int) + 1))), (2, .int (iI (1))), (9, .int (iI (un13))), (8, .int (iI (v93))), (6, .long (lookV σ)), (5, .int (r2)), (4, .int (r1)), (1, .ref (x)), (0, .ref (b))]) E dL_law_238 hl (k := 6) rfl (by decide) rfl (fun ls hl => ?_)
                        refine lv_goto (tgt := 40) E.1 E.2.1 dL_law_241 (by decide) ?_
                        refine ihin40 _ ?_ (i + 1) H15 ((i : Int) + 1) fl13 σ13 hs13 tx4 len4 (kk + 80) (nn + 240) ls locs ?_ ?_ ?_ ?_ ?_ ?_ ?_ ?_ ?_ ?_ rfl (lv_sub hl [0, 1, 7, 8] rfl) hL
                        · omega
                        · omega
                        · omega
                        · exact hX13
                        · exact hz13
                        · exact hfr13
                        · exact hV13
                        · exact hD13
                        · exact hT4
                        · omega
                        · omega
            refine lv_iload_n E.1 E.2.1 dL_law_119 rfl (lv_at hl 4 rfl) ?_
            refine r_const E dL_law_120 ?_
            refine r_rem E dL_law_121 (by omega) (by omega) (by omega) (by omega) ?_
            refine r_const E dL_law_122 ?_
            refine r_icmp_ne (tgt := 135) E dL_law_123 (by decide) (by omega) (by omega) (fun c123 => ?_) (fun c123 => ?_)
            · exact J135_7 ls locs (lv_sub hl [0, 1, 2, 3, 4, 5, 6, 7] rfl) hL
            · refine lv_aload_n E.1 E.2.1 dL_law_126 rfl (lv_at hl 6 rfl) ?_
              refine lv_iload E.1 E.2.1 dL_law_127 (lv_at hl 2 rfl) ?_
              refine kSRE (As := [.ref (x), .int (r2)]) E cw_L_157 (c_L_would G l x (x + 179) fl4 τ hs4 tx4 len4 hV4 hT4 hfx hgx (r2)) hX4 hL hl.1 rfl rfl (Nat.le_of_ble_eq_true rfl) ⟨Nat.le_of_ble_eq_true rfl, Nat.le_of_ble_eq_true rfl⟩ ⟨rfl, rfl⟩ ⟨by show kk + 80 + 0 ≤ 600000; omega, by show nn + 240 + 0 ≤ 7302250; omega⟩ dL_law_129 (fun locs hL => ?_)
              refine r_if_eq (tgt := 139) E dL_law_132 (by decide) (by omega) (fun c132 => absurd c132 (by omega)) (fun c132 => ?_)
              exact J135_7 ls locs (lv_sub hl [0, 1, 2, 3, 4, 5, 6, 7] rfl) hL
          refine lv_iload_n E.1 E.2.1 dL_law_106 rfl (lv_at hl 4 rfl) ?_
          refine r_const E dL_law_107 ?_
          refine r_rem E dL_law_108 (by omega) (by omega) (by omega) (by omega) ?_
          refine r_if_gt (tgt := 119) E dL_law_109 (by decide) (by omega) (fun c109 => ?_) (fun c109 => ?_)
          · exact J119_6 ls locs (lv_sub hl [0, 1, 2, 3, 4, 5, 6, 7] rfl) hL
          · refine lv_aload_n E.1 E.2.1 dL_law_112 rfl (lv_at hl 6 rfl) ?_
            refine kSRE (As := [.ref (x)]) E cw_L_153 (c_L_holds G l x (x + 179) fl4 τ hs4 tx4 len4 hV4 hT4 hfx hgx) hX4 hL hl.1 rfl rfl (Nat.le_of_ble_eq_true rfl) ⟨Nat.le_of_ble_eq_true rfl, Nat.le_of_ble_eq_true rfl⟩ ⟨rfl, rfl⟩ ⟨by show kk + 80 + 0 ≤ 600000; omega, by show nn + 240 + 0 ≤ 7302250; omega⟩ dL_law_113 (fun locs hL => ?_)
            refine r_if_eq (tgt := 139) E dL_law_116 (by decide) (by omega) (fun c116 => absurd c116 (by omega)) (fun c116 => ?_)
            exact J119_6 ls locs (lv_sub hl [0, 1, 2, 3, 4, 5, 6, 7] rfl) hL
        refine lv_iload E.1 E.2.1 dL_law_76 (lv_at hl 2 rfl) ?_
        refine r_bipush E dL_law_78 (by decide) ?_
        obtain ⟨w5, hw5⟩ : ∃ z : Int, lowI (r1) (30) = z := ⟨_, rfl⟩
        have hw5b : 0 ≤ w5 ∧ w5 < (30) := by rw [← hw5]; exact low_b _ (by omega)
        have hw5c := c_L_low G l (r1) (30) (by omega)
        rw [hw5] at hw5c
        refine kSRE (As := [.int (r1), .int (iI (30))]) E cw_L_72 hw5c trivial hL hl.1 rfl rfl (Nat.le_of_ble_eq_true rfl) ⟨Nat.le_of_ble_eq_true rfl, Nat.le_of_ble_eq_true rfl⟩ ⟨rfl, rfl⟩ ⟨by show kk + 0 ≤ 600000; omega, by show nn + 0 ≤ 7302250; omega⟩ dL_law_80 (fun locs hL => ?_)
        refine r_bipush E dL_law_83 (by decide) ?_
        refine r_icmp_le (tgt := 92) E dL_law_85 (by decide) (by omega) (by omega) (fun c85 => ?_) (fun c85 => ?_)
        · refine r_const E dL_law_92 ?_
          exact J93_3 _ (by omega) ls locs (lv_sub hl [0, 1, 2, 3, 4, 5, 6] rfl) hL
        · refine r_const E dL_law_88 ?_
          refine lv_goto (tgt := 93) E.1 E.2.1 dL_law_89 (by decide) ?_
          exact J93_3 _ (by omega) ls locs (lv_sub hl [0, 1, 2, 3, 4, 5, 6] rfl) hL
  refine LP40 _ 0 H1 0 fl0 sig0 ([]) ((fun _ => 0)) 0 k n ls locs ?_ ?_ ?_ ?_ ?_ ?_ ?_ ?_ ?_ ?_ rfl (lv_sub hl [0, 1, 2, 3] rfl) hL
  · omega
  · rfl
  · exact hX0
  · exact hz0
  · exact hfr0
  · exact VS.sig0
  · exact VH.nil
  · exact TxOk.zero
  · omega
  · omega
