theorem law_0 {p : Program} {l : Launch} {e : Env} {s : State} {m : MethodId} {args : Array Value} {below : List Frame} {meth : Method} {c : Code} {H : Heap} {locs : List Loc} {Q : State → Prop} {G : GG} (E : En G p s m args meth c cL_law 8 (some .boolean) RL) {b L : Nat} {xs : Nat → Int32} (hX : va_X b L xs s s.heap) (hbG : b < G.2.2) (hG : G.2.2 = s.heap.size) (hL2 : L ≤ 2048) {fl : Nat → Option Fil} {σ : St} {hs : List St} {tx : Nat → Int} {len : Nat} (x : Nat) (hx : x = G.2.2) (hh : LwS G x s.heap fl σ hs tx len H) (i : Nat) (hi : i + 4 ≤ L) {ls : Array Slot} (hl : lv_has ls 8 [(0, .ref b), (1, .ref x), (2, .ref (x + 179)), (3, .int (iI (i : Int)))]) (hL : Lk G locs) (k n : Nat) (hk : k ≤ 590000) (hn : n ≤ 7000000)
    (K : ∀ (H1 : Heap) (fl1 : Nat → Option Fil) (σ1 : St) (hs1 : List St) (tx1 : Nat → Int) (len1 : Nat) (ls : Array Slot) (locs : List Loc), LwS G x s.heap fl1 σ1 hs1 tx1 len1 H1 → lv_has ls 8 [(0, .ref b), (1, .ref x), (2, .ref (x + 179)), (3, .int (iI (i : Int)))] → Lk G locs → W p l e ({ frames := 10, cells := 600000, slots := 7302250, locals := 368 } : Room) s m args below meth c H1 locs (k + 80) (n + 240) Q (F0 m 916 ls [])) : W p l e ({ frames := 10, cells := 600000, slots := 7302250, locals := 368 } : Room) s m args below meth c H locs k n Q (F0 m 184 ls []) := by
  obtain ⟨hXA, hMA, hI, hIs, hT, hsz, hfr⟩ := hh
  have hMA0 := hMA
  refine lv_aload_n E.1 E.2.1 dL_law_184 rfl (lv_at hl 1 rfl) ?_
  refine lv_aload_n E.1 E.2.1 dL_law_185 rfl (lv_at hl 0 rfl) ?_
  refine lv_iload_n E.1 E.2.1 dL_law_186 rfl (lv_at hl 3 rfl) ?_
  refine r_const E dL_law_187 ?_
  refine r_add E dL_law_188 ?_
  refine r_scr E hX hbG hG (by omega) (fun q hq => hfr q (by omega)) hL hL2 (i + 1) (by omega) (by omega) dL_law_189 (fun y hy hey => ?_)
  refine kVWE (As := [.int (iI (y))]) E cw_L_13 (c_X5_begin G l x (x + 184) fl σ hs tx len hI hT (by omega) (by omega) y hy) hXA.1 ⟨_, _, rfl⟩ ⟨hXA, hsz⟩ hL hl.1 rfl rfl (Nat.le_of_ble_eq_true rfl) ⟨Nat.le_of_ble_eq_true rfl, Nat.le_of_ble_eq_true rfl⟩ ⟨by show k + 0 ≤ 600000; omega, by show n + 0 ≤ 7302250; omega⟩ dL_law_190 (fun H1 locs hL hwX5 => ?_)
  have hMA := LwS.mid (H0 := s.heap) ⟨hXA, hMA, hI, hIs, hT, hsz, hfr⟩ hwX5.2
  have hfr1 : ∀ q, q < G.2.2 → H1[q]? = s.heap[q]? := fun q hq => (hwX5.2.2 q (by omega) (by omega)).trans (hfr q (by omega))
  have hz1 : G.2.2 ≤ H1.size := by have h9 := hwX5.2.1; omega
  refine lv_aload_n E.1 E.2.1 dL_law_193 rfl (lv_at hl 2 rfl) ?_
  refine lv_aload_n E.1 E.2.1 dL_law_194 rfl (lv_at hl 0 rfl) ?_
  refine lv_iload_n E.1 E.2.1 dL_law_195 rfl (lv_at hl 3 rfl) ?_
  refine r_const E dL_law_196 ?_
  refine r_add E dL_law_197 ?_
  refine r_scr E hX hbG hG hz1 hfr1 hL hL2 (i + 1) (by omega) (by omega) dL_law_198 (fun y9 hy9 hey9 => ?_)
  have hee : y9 = y := by have h9 := hey9.symm.trans hey; exact (iI_eq hy9 hy).mp h9
  rw [hee]
  refine kVWE (As := [.int (iI (y))]) E cw_L_17 (c_X6_begin G l (x + 179) σ hs tx len hI hT y hy (by omega)) hMA.choose_spec.choose_spec.choose_spec.choose_spec.choose_spec.choose_spec.choose_spec.1 ⟨_, _, rfl⟩ hMA hL hl.1 rfl rfl (Nat.le_of_ble_eq_true rfl) ⟨Nat.le_of_ble_eq_true rfl, Nat.le_of_ble_eq_true rfl⟩ ⟨by show k + 0 + 0 ≤ 600000; omega, by show n + 0 + 0 ≤ 7302250; omega⟩ dL_law_199 (fun H2 locs hL hwX6 => ?_)
  refine r_icmp_eq (tgt := 916) E dL_law_202 (by decide) (by have hbd := spBegin_b hI y; omega) (by have hbd := spBegin_b hI y; omega) (fun c202 => ?_) (fun c202 => absurd c202 (by omega))
  obtain ⟨fl2, hF⟩ := LwS.act (H0 := s.heap) ⟨hXA, hMA0, hI, hIs, hT, hsz, hfr⟩ hwX5 hwX6 (hI.begin y) (hsA_inv hI hIs) hT
  refine W.widen (k := k + 80) (n := n + 240) (by show k + 0 ≤ k + 80; omega) (by show n + 0 ≤ n + 240; omega) ?_
  exact K _ _ _ _ _ _ ls locs hF hl hL
theorem law_1 {p : Program} {l : Launch} {e : Env} {s : State} {m : MethodId} {args : Array Value} {below : List Frame} {meth : Method} {c : Code} {H : Heap} {locs : List Loc} {Q : State → Prop} {G : GG} (E : En G p s m args meth c cL_law 8 (some .boolean) RL) {b L : Nat} {xs : Nat → Int32} (hX : va_X b L xs s s.heap) (hbG : b < G.2.2) (hG : G.2.2 = s.heap.size) (hL2 : L ≤ 2048) {fl : Nat → Option Fil} {σ : St} {hs : List St} {tx : Nat → Int} {len : Nat} (x : Nat) (hx : x = G.2.2) (hh : LwS G x s.heap fl σ hs tx len H) (i : Nat) (hi : i + 4 ≤ L) {ls : Array Slot} (hl : lv_has ls 8 [(0, .ref b), (1, .ref x), (2, .ref (x + 179)), (3, .int (iI (i : Int)))]) (hL : Lk G locs) (k n : Nat) (hk : k ≤ 590000) (hn : n ≤ 7000000)
    (K : ∀ (H1 : Heap) (fl1 : Nat → Option Fil) (σ1 : St) (hs1 : List St) (tx1 : Nat → Int) (len1 : Nat) (ls : Array Slot) (locs : List Loc), LwS G x s.heap fl1 σ1 hs1 tx1 len1 H1 → lv_has ls 8 [(0, .ref b), (1, .ref x), (2, .ref (x + 179)), (3, .int (iI (i : Int)))] → Lk G locs → W p l e ({ frames := 10, cells := 600000, slots := 7302250, locals := 368 } : Room) s m args below meth c H1 locs (k + 80) (n + 240) Q (F0 m 916 ls [])) : W p l e ({ frames := 10, cells := 600000, slots := 7302250, locals := 368 } : Room) s m args below meth c H locs k n Q (F0 m 207 ls []) := by
  obtain ⟨hXA, hMA, hI, hIs, hT, hsz, hfr⟩ := hh
  have hMA0 := hMA
  refine lv_aload_n E.1 E.2.1 dL_law_207 rfl (lv_at hl 1 rfl) ?_
  refine lv_aload_n E.1 E.2.1 dL_law_208 rfl (lv_at hl 0 rfl) ?_
  refine lv_iload_n E.1 E.2.1 dL_law_209 rfl (lv_at hl 3 rfl) ?_
  refine r_const E dL_law_210 ?_
  refine r_add E dL_law_211 ?_
  refine r_scr E hX hbG hG (by omega) (fun q hq => hfr q (by omega)) hL hL2 (i + 1) (by omega) (by omega) dL_law_212 (fun y hy hey => ?_)
  refine lv_aload_n E.1 E.2.1 dL_law_213 rfl (lv_at hl 0 rfl) ?_
  refine lv_iload_n E.1 E.2.1 dL_law_214 rfl (lv_at hl 3 rfl) ?_
  refine r_const E dL_law_215 ?_
  refine r_add E dL_law_216 ?_
  refine r_scr E hX hbG hG (by omega) (fun q hq => hfr q (by omega)) hL hL2 (i + 2) (by omega) (by omega) dL_law_217 (fun z hz hez => ?_)
  refine kVWE (As := [.int (iI (y)), .int (iI (z))]) E cw_L_18 (c_X5_write G l x (x + 184) fl σ hs tx len hI hT (by omega) (by omega) y z hy hz) hXA.1 ⟨_, _, rfl⟩ ⟨hXA, hsz⟩ hL hl.1 rfl rfl (Nat.le_of_ble_eq_true rfl) ⟨Nat.le_of_ble_eq_true rfl, Nat.le_of_ble_eq_true rfl⟩ ⟨by show k + 1 ≤ 600000; omega, by show n + 3 ≤ 7302250; omega⟩ dL_law_218 (fun H1 locs hL hwX5 => ?_)
  have hMA := LwS.mid (H0 := s.heap) ⟨hXA, hMA, hI, hIs, hT, hsz, hfr⟩ hwX5.2
  have hfr1 : ∀ q, q < G.2.2 → H1[q]? = s.heap[q]? := fun q hq => (hwX5.2.2 q (by omega) (by omega)).trans (hfr q (by omega))
  have hz1 : G.2.2 ≤ H1.size := by have h9 := hwX5.2.1; omega
  refine lv_aload_n E.1 E.2.1 dL_law_221 rfl (lv_at hl 2 rfl) ?_
  refine lv_aload_n E.1 E.2.1 dL_law_222 rfl (lv_at hl 0 rfl) ?_
  refine lv_iload_n E.1 E.2.1 dL_law_223 rfl (lv_at hl 3 rfl) ?_
  refine r_const E dL_law_224 ?_
  refine r_add E dL_law_225 ?_
  refine r_scr E hX hbG hG hz1 hfr1 hL hL2 (i + 1) (by omega) (by omega) dL_law_226 (fun y9 hy9 hey9 => ?_)
  have hee : y9 = y := by have h9 := hey9.symm.trans hey; exact (iI_eq hy9 hy).mp h9
  rw [hee]
  refine lv_aload_n E.1 E.2.1 dL_law_227 rfl (lv_at hl 0 rfl) ?_
  refine lv_iload_n E.1 E.2.1 dL_law_228 rfl (lv_at hl 3 rfl) ?_
  refine r_const E dL_law_229 ?_
  refine r_add E dL_law_230 ?_
  refine r_scr E hX hbG hG hz1 hfr1 hL hL2 (i + 2) (by omega) (by omega) dL_law_231 (fun z9 hz9 hez9 => ?_)
  have hee : z9 = z := by have h9 := hez9.symm.trans hez; exact (iI_eq hz9 hz).mp h9
  rw [hee]
  refine kVWE (As := [.int (iI (y)), .int (iI (z))]) E cw_L_22 (c_X6_write G l (x + 179) σ hs tx len hI hT y z hy hz (by omega)) hMA.choose_spec.choose_spec.choose_spec.choose_spec.choose_spec.choose_spec.choose_spec.1 ⟨_, _, rfl⟩ hMA hL hl.1 rfl rfl (Nat.le_of_ble_eq_true rfl) ⟨Nat.le_of_ble_eq_true rfl, Nat.le_of_ble_eq_true rfl⟩ ⟨by show k + 1 + 0 ≤ 600000; omega, by show n + 3 + 0 ≤ 7302250; omega⟩ dL_law_232 (fun H2 locs hL hwX6 => ?_)
  refine r_icmp_eq (tgt := 916) E dL_law_235 (by decide) (by have hbd := spWrite_b hI y z; omega) (by have hbd := spWrite_b hI y z; omega) (fun c235 => ?_) (fun c235 => absurd c235 (by omega))
  obtain ⟨fl2, hF⟩ := LwS.act (H0 := s.heap) ⟨hXA, hMA0, hI, hIs, hT, hsz, hfr⟩ hwX5 hwX6 (hI.write y z) (hsA_inv hI hIs) hT
  refine W.widen (k := k + 80) (n := n + 240) (by show k + 1 ≤ k + 80; omega) (by show n + 3 ≤ n + 240; omega) ?_
  exact K _ _ _ _ _ _ ls locs hF hl hL
theorem law_2 {p : Program} {l : Launch} {e : Env} {s : State} {m : MethodId} {args : Array Value} {below : List Frame} {meth : Method} {c : Code} {H : Heap} {locs : List Loc} {Q : State → Prop} {G : GG} (E : En G p s m args meth c cL_law 8 (some .boolean) RL) {b L : Nat} {xs : Nat → Int32} (hX : va_X b L xs s s.heap) (hbG : b < G.2.2) (hG : G.2.2 = s.heap.size) (hL2 : L ≤ 2048) {fl : Nat → Option Fil} {σ : St} {hs : List St} {tx : Nat → Int} {len : Nat} (x : Nat) (hx : x = G.2.2) (hh : LwS G x s.heap fl σ hs tx len H) (i : Nat) (hi : i + 4 ≤ L) {ls : Array Slot} (hl : lv_has ls 8 [(0, .ref b), (1, .ref x), (2, .ref (x + 179)), (3, .int (iI (i : Int)))]) (hL : Lk G locs) (k n : Nat) (hk : k ≤ 590000) (hn : n ≤ 7000000)
    (K : ∀ (H1 : Heap) (fl1 : Nat → Option Fil) (σ1 : St) (hs1 : List St) (tx1 : Nat → Int) (len1 : Nat) (ls : Array Slot) (locs : List Loc), LwS G x s.heap fl1 σ1 hs1 tx1 len1 H1 → lv_has ls 8 [(0, .ref b), (1, .ref x), (2, .ref (x + 179)), (3, .int (iI (i : Int)))] → Lk G locs → W p l e ({ frames := 10, cells := 600000, slots := 7302250, locals := 368 } : Room) s m args below meth c H1 locs (k + 80) (n + 240) Q (F0 m 916 ls [])) : W p l e ({ frames := 10, cells := 600000, slots := 7302250, locals := 368 } : Room) s m args below meth c H locs k n Q (F0 m 240 ls []) := by
  obtain ⟨hXA, hMA, hI, hIs, hT, hsz, hfr⟩ := hh
  have hMA0 := hMA
  refine lv_aload_n E.1 E.2.1 dL_law_240 rfl (lv_at hl 1 rfl) ?_
  refine lv_aload_n E.1 E.2.1 dL_law_241 rfl (lv_at hl 0 rfl) ?_
  refine lv_iload_n E.1 E.2.1 dL_law_242 rfl (lv_at hl 3 rfl) ?_
  refine r_const E dL_law_243 ?_
  refine r_add E dL_law_244 ?_
  refine r_scr E hX hbG hG (by omega) (fun q hq => hfr q (by omega)) hL hL2 (i + 1) (by omega) (by omega) dL_law_245 (fun y hy hey => ?_)
  refine kVWE (As := [.int (iI (y))]) E cw_L_23 (c_X5_remove G l x (x + 184) fl σ hs tx len hI hT (by omega) (by omega) y hy) hXA.1 ⟨_, _, rfl⟩ ⟨hXA, hsz⟩ hL hl.1 rfl rfl (Nat.le_of_ble_eq_true rfl) ⟨Nat.le_of_ble_eq_true rfl, Nat.le_of_ble_eq_true rfl⟩ ⟨by show k + 0 ≤ 600000; omega, by show n + 0 ≤ 7302250; omega⟩ dL_law_246 (fun H1 locs hL hwX5 => ?_)
  have hMA := LwS.mid (H0 := s.heap) ⟨hXA, hMA, hI, hIs, hT, hsz, hfr⟩ hwX5.2
  have hfr1 : ∀ q, q < G.2.2 → H1[q]? = s.heap[q]? := fun q hq => (hwX5.2.2 q (by omega) (by omega)).trans (hfr q (by omega))
  have hz1 : G.2.2 ≤ H1.size := by have h9 := hwX5.2.1; omega
  refine lv_aload_n E.1 E.2.1 dL_law_249 rfl (lv_at hl 2 rfl) ?_
  refine lv_aload_n E.1 E.2.1 dL_law_250 rfl (lv_at hl 0 rfl) ?_
  refine lv_iload_n E.1 E.2.1 dL_law_251 rfl (lv_at hl 3 rfl) ?_
  refine r_const E dL_law_252 ?_
  refine r_add E dL_law_253 ?_
  refine r_scr E hX hbG hG hz1 hfr1 hL hL2 (i + 1) (by omega) (by omega) dL_law_254 (fun y9 hy9 hey9 => ?_)
  have hee : y9 = y := by have h9 := hey9.symm.trans hey; exact (iI_eq hy9 hy).mp h9
  rw [hee]
  refine kVWE (As := [.int (iI (y))]) E cw_L_26 (c_X6_remove G l (x + 179) σ hs tx len hI hT y hy (by omega)) hMA.choose_spec.choose_spec.choose_spec.choose_spec.choose_spec.choose_spec.choose_spec.1 ⟨_, _, rfl⟩ hMA hL hl.1 rfl rfl (Nat.le_of_ble_eq_true rfl) ⟨Nat.le_of_ble_eq_true rfl, Nat.le_of_ble_eq_true rfl⟩ ⟨by show k + 0 + 0 ≤ 600000; omega, by show n + 0 + 0 ≤ 7302250; omega⟩ dL_law_255 (fun H2 locs hL hwX6 => ?_)
  refine r_icmp_eq (tgt := 916) E dL_law_258 (by decide) (by have hbd := spRemove_b (σ := σ) y; omega) (by have hbd := spRemove_b (σ := σ) y; omega) (fun c258 => ?_) (fun c258 => absurd c258 (by omega))
  obtain ⟨fl2, hF⟩ := LwS.act (H0 := s.heap) ⟨hXA, hMA0, hI, hIs, hT, hsz, hfr⟩ hwX5 hwX6 (hI.remove y) (hsA_inv hI hIs) hT
  refine W.widen (k := k + 80) (n := n + 240) (by show k + 0 ≤ k + 80; omega) (by show n + 0 ≤ n + 240; omega) ?_
  exact K _ _ _ _ _ _ ls locs hF hl hL
theorem law_3 {p : Program} {l : Launch} {e : Env} {s : State} {m : MethodId} {args : Array Value} {below : List Frame} {meth : Method} {c : Code} {H : Heap} {locs : List Loc} {Q : State → Prop} {G : GG} (E : En G p s m args meth c cL_law 8 (some .boolean) RL) {b L : Nat} {xs : Nat → Int32} (hX : va_X b L xs s s.heap) (hbG : b < G.2.2) (hG : G.2.2 = s.heap.size) (hL2 : L ≤ 2048) {fl : Nat → Option Fil} {σ : St} {hs : List St} {tx : Nat → Int} {len : Nat} (x : Nat) (hx : x = G.2.2) (hh : LwS G x s.heap fl σ hs tx len H) (i : Nat) (hi : i + 4 ≤ L) {ls : Array Slot} (hl : lv_has ls 8 [(0, .ref b), (1, .ref x), (2, .ref (x + 179)), (3, .int (iI (i : Int)))]) (hL : Lk G locs) (k n : Nat) (hk : k ≤ 590000) (hn : n ≤ 7000000)
    (K : ∀ (H1 : Heap) (fl1 : Nat → Option Fil) (σ1 : St) (hs1 : List St) (tx1 : Nat → Int) (len1 : Nat) (ls : Array Slot) (locs : List Loc), LwS G x s.heap fl1 σ1 hs1 tx1 len1 H1 → lv_has ls 8 [(0, .ref b), (1, .ref x), (2, .ref (x + 179)), (3, .int (iI (i : Int)))] → Lk G locs → W p l e ({ frames := 10, cells := 600000, slots := 7302250, locals := 368 } : Room) s m args below meth c H1 locs (k + 80) (n + 240) Q (F0 m 916 ls [])) : W p l e ({ frames := 10, cells := 600000, slots := 7302250, locals := 368 } : Room) s m args below meth c H locs k n Q (F0 m 263 ls []) := by
  obtain ⟨hXA, hMA, hI, hIs, hT, hsz, hfr⟩ := hh
  have hMA0 := hMA
  refine lv_aload_n E.1 E.2.1 dL_law_263 rfl (lv_at hl 1 rfl) ?_
  refine lv_aload_n E.1 E.2.1 dL_law_264 rfl (lv_at hl 0 rfl) ?_
  refine lv_iload_n E.1 E.2.1 dL_law_265 rfl (lv_at hl 3 rfl) ?_
  refine r_const E dL_law_266 ?_
  refine r_add E dL_law_267 ?_
  refine r_scr E hX hbG hG (by omega) (fun q hq => hfr q (by omega)) hL hL2 (i + 1) (by omega) (by omega) dL_law_268 (fun y hy hey => ?_)
  refine lv_aload_n E.1 E.2.1 dL_law_269 rfl (lv_at hl 0 rfl) ?_
  refine lv_iload_n E.1 E.2.1 dL_law_270 rfl (lv_at hl 3 rfl) ?_
  refine r_const E dL_law_271 ?_
  refine r_add E dL_law_272 ?_
  refine r_scr E hX hbG hG (by omega) (fun q hq => hfr q (by omega)) hL hL2 (i + 2) (by omega) (by omega) dL_law_273 (fun z hz hez => ?_)
  refine kVWE (As := [.int (iI (y)), .int (iI (z))]) E cw_L_27 (c_X5_keep G l x (x + 184) fl σ hs tx len hI hT (by omega) (by omega) y z hy hz) hXA.1 ⟨_, _, rfl⟩ ⟨hXA, hsz⟩ hL hl.1 rfl rfl (Nat.le_of_ble_eq_true rfl) ⟨Nat.le_of_ble_eq_true rfl, Nat.le_of_ble_eq_true rfl⟩ ⟨by show k + 0 ≤ 600000; omega, by show n + 0 ≤ 7302250; omega⟩ dL_law_274 (fun H1 locs hL hwX5 => ?_)
  have hMA := LwS.mid (H0 := s.heap) ⟨hXA, hMA, hI, hIs, hT, hsz, hfr⟩ hwX5.2
  have hfr1 : ∀ q, q < G.2.2 → H1[q]? = s.heap[q]? := fun q hq => (hwX5.2.2 q (by omega) (by omega)).trans (hfr q (by omega))
  have hz1 : G.2.2 ≤ H1.size := by have h9 := hwX5.2.1; omega
  refine lv_aload_n E.1 E.2.1 dL_law_277 rfl (lv_at hl 2 rfl) ?_
  refine lv_aload_n E.1 E.2.1 dL_law_278 rfl (lv_at hl 0 rfl) ?_
  refine lv_iload_n E.1 E.2.1 dL_law_279 rfl (lv_at hl 3 rfl) ?_
  refine r_const E dL_law_280 ?_
  refine r_add E dL_law_281 ?_
  refine r_scr E hX hbG hG hz1 hfr1 hL hL2 (i + 1) (by omega) (by omega) dL_law_282 (fun y9 hy9 hey9 => ?_)
  have hee : y9 = y := by have h9 := hey9.symm.trans hey; exact (iI_eq hy9 hy).mp h9
  rw [hee]
  refine lv_aload_n E.1 E.2.1 dL_law_283 rfl (lv_at hl 0 rfl) ?_
  refine lv_iload_n E.1 E.2.1 dL_law_284 rfl (lv_at hl 3 rfl) ?_
  refine r_const E dL_law_285 ?_
  refine r_add E dL_law_286 ?_
  refine r_scr E hX hbG hG hz1 hfr1 hL hL2 (i + 2) (by omega) (by omega) dL_law_287 (fun z9 hz9 hez9 => ?_)
  have hee : z9 = z := by have h9 := hez9.symm.trans hez; exact (iI_eq hz9 hz).mp h9
  rw [hee]
  refine kVWE (As := [.int (iI (y)), .int (iI (z))]) E cw_L_30 (c_X6_keep G l (x + 179) σ hs tx len hI hT y z hy hz (by omega)) hMA.choose_spec.choose_spec.choose_spec.choose_spec.choose_spec.choose_spec.choose_spec.1 ⟨_, _, rfl⟩ hMA hL hl.1 rfl rfl (Nat.le_of_ble_eq_true rfl) ⟨Nat.le_of_ble_eq_true rfl, Nat.le_of_ble_eq_true rfl⟩ ⟨by show k + 0 + 0 ≤ 600000; omega, by show n + 0 + 0 ≤ 7302250; omega⟩ dL_law_288 (fun H2 locs hL hwX6 => ?_)
  refine r_icmp_eq (tgt := 916) E dL_law_291 (by decide) (by have hbd := spKeep_b hI y z; omega) (by have hbd := spKeep_b hI y z; omega) (fun c291 => ?_) (fun c291 => absurd c291 (by omega))
  obtain ⟨fl2, hF⟩ := LwS.act (H0 := s.heap) ⟨hXA, hMA0, hI, hIs, hT, hsz, hfr⟩ hwX5 hwX6 (hI.keep y z) (hsA_inv hI hIs) hT
  refine W.widen (k := k + 80) (n := n + 240) (by show k + 0 ≤ k + 80; omega) (by show n + 0 ≤ n + 240; omega) ?_
  exact K _ _ _ _ _ _ ls locs hF hl hL
theorem law_4 {p : Program} {l : Launch} {e : Env} {s : State} {m : MethodId} {args : Array Value} {below : List Frame} {meth : Method} {c : Code} {H : Heap} {locs : List Loc} {Q : State → Prop} {G : GG} (E : En G p s m args meth c cL_law 8 (some .boolean) RL) {b L : Nat} {xs : Nat → Int32} (hX : va_X b L xs s s.heap) (hbG : b < G.2.2) (hG : G.2.2 = s.heap.size) (hL2 : L ≤ 2048) {fl : Nat → Option Fil} {σ : St} {hs : List St} {tx : Nat → Int} {len : Nat} (x : Nat) (hx : x = G.2.2) (hh : LwS G x s.heap fl σ hs tx len H) (i : Nat) (hi : i + 4 ≤ L) {ls : Array Slot} (hl : lv_has ls 8 [(0, .ref b), (1, .ref x), (2, .ref (x + 179)), (3, .int (iI (i : Int)))]) (hL : Lk G locs) (k n : Nat) (hk : k ≤ 590000) (hn : n ≤ 7000000)
    (K : ∀ (H1 : Heap) (fl1 : Nat → Option Fil) (σ1 : St) (hs1 : List St) (tx1 : Nat → Int) (len1 : Nat) (ls : Array Slot) (locs : List Loc), LwS G x s.heap fl1 σ1 hs1 tx1 len1 H1 → lv_has ls 8 [(0, .ref b), (1, .ref x), (2, .ref (x + 179)), (3, .int (iI (i : Int)))] → Lk G locs → W p l e ({ frames := 10, cells := 600000, slots := 7302250, locals := 368 } : Room) s m args below meth c H1 locs (k + 80) (n + 240) Q (F0 m 916 ls [])) : W p l e ({ frames := 10, cells := 600000, slots := 7302250, locals := 368 } : Room) s m args below meth c H locs k n Q (F0 m 296 ls []) := by
  obtain ⟨hXA, hMA, hI, hIs, hT, hsz, hfr⟩ := hh
  have hMA0 := hMA
  refine lv_aload_n E.1 E.2.1 dL_law_296 rfl (lv_at hl 1 rfl) ?_
  refine kVWE (As := []) E cw_L_31 (c_X5_close G l x (x + 184) fl σ hs tx len hI hT (by omega) (by omega)  ) hXA.1 ⟨_, _, rfl⟩ ⟨hXA, hsz⟩ hL hl.1 rfl rfl (Nat.le_of_ble_eq_true rfl) ⟨Nat.le_of_ble_eq_true rfl, Nat.le_of_ble_eq_true rfl⟩ ⟨by show k + 0 ≤ 600000; omega, by show n + 0 ≤ 7302250; omega⟩ dL_law_297 (fun H1 locs hL hwX5 => ?_)
  have hMA := LwS.mid (H0 := s.heap) ⟨hXA, hMA, hI, hIs, hT, hsz, hfr⟩ hwX5.2
  have hfr1 : ∀ q, q < G.2.2 → H1[q]? = s.heap[q]? := fun q hq => (hwX5.2.2 q (by omega) (by omega)).trans (hfr q (by omega))
  have hz1 : G.2.2 ≤ H1.size := by have h9 := hwX5.2.1; omega
  refine lv_aload_n E.1 E.2.1 dL_law_300 rfl (lv_at hl 2 rfl) ?_
  refine kVWE (As := []) E cw_L_35 (c_X6_close G l (x + 179) σ hs tx len hI hT   (by omega)) hMA.choose_spec.choose_spec.choose_spec.choose_spec.choose_spec.choose_spec.choose_spec.1 ⟨_, _, rfl⟩ hMA hL hl.1 rfl rfl (Nat.le_of_ble_eq_true rfl) ⟨Nat.le_of_ble_eq_true rfl, Nat.le_of_ble_eq_true rfl⟩ ⟨by show k + 0 + 0 ≤ 600000; omega, by show n + 0 + 0 ≤ 7302250; omega⟩ dL_law_301 (fun H2 locs hL hwX6 => ?_)
  refine r_icmp_eq (tgt := 916) E dL_law_304 (by decide) (by have hbd := spClose_b hI; omega) (by have hbd := spClose_b hI; omega) (fun c304 => ?_) (fun c304 => absurd c304 (by omega))
  obtain ⟨fl2, hF⟩ := LwS.act (H0 := s.heap) ⟨hXA, hMA0, hI, hIs, hT, hsz, hfr⟩ hwX5 hwX6 (hI.close) (hsA_inv hI hIs) hT
  refine W.widen (k := k + 80) (n := n + 240) (by show k + 0 ≤ k + 80; omega) (by show n + 0 ≤ n + 240; omega) ?_
  exact K _ _ _ _ _ _ ls locs hF hl hL
theorem law_5 {p : Program} {l : Launch} {e : Env} {s : State} {m : MethodId} {args : Array Value} {below : List Frame} {meth : Method} {c : Code} {H : Heap} {locs : List Loc} {Q : State → Prop} {G : GG} (E : En G p s m args meth c cL_law 8 (some .boolean) RL) {b L : Nat} {xs : Nat → Int32} (hX : va_X b L xs s s.heap) (hbG : b < G.2.2) (hG : G.2.2 = s.heap.size) (hL2 : L ≤ 2048) {fl : Nat → Option Fil} {σ : St} {hs : List St} {tx : Nat → Int} {len : Nat} (x : Nat) (hx : x = G.2.2) (hh : LwS G x s.heap fl σ hs tx len H) (i : Nat) (hi : i + 4 ≤ L) {ls : Array Slot} (hl : lv_has ls 8 [(0, .ref b), (1, .ref x), (2, .ref (x + 179)), (3, .int (iI (i : Int)))]) (hL : Lk G locs) (k n : Nat) (hk : k ≤ 590000) (hn : n ≤ 7000000)
    (K : ∀ (H1 : Heap) (fl1 : Nat → Option Fil) (σ1 : St) (hs1 : List St) (tx1 : Nat → Int) (len1 : Nat) (ls : Array Slot) (locs : List Loc), LwS G x s.heap fl1 σ1 hs1 tx1 len1 H1 → lv_has ls 8 [(0, .ref b), (1, .ref x), (2, .ref (x + 179)), (3, .int (iI (i : Int)))] → Lk G locs → W p l e ({ frames := 10, cells := 600000, slots := 7302250, locals := 368 } : Room) s m args below meth c H1 locs (k + 80) (n + 240) Q (F0 m 916 ls [])) : W p l e ({ frames := 10, cells := 600000, slots := 7302250, locals := 368 } : Room) s m args below meth c H locs k n Q (F0 m 309 ls []) := by
  obtain ⟨hXA, hMA, hI, hIs, hT, hsz, hfr⟩ := hh
  have hMA0 := hMA
  refine lv_aload_n E.1 E.2.1 dL_law_309 rfl (lv_at hl 1 rfl) ?_
  refine kVWE (As := []) E cw_L_36 (c_X5_eject G l x (x + 184) fl σ hs tx len hI hT (by omega) (by omega)  ) hXA.1 ⟨_, _, rfl⟩ ⟨hXA, hsz⟩ hL hl.1 rfl rfl (Nat.le_of_ble_eq_true rfl) ⟨Nat.le_of_ble_eq_true rfl, Nat.le_of_ble_eq_true rfl⟩ ⟨by show k + 0 ≤ 600000; omega, by show n + 0 ≤ 7302250; omega⟩ dL_law_310 (fun H1 locs hL hwX5 => ?_)
  have hMA := LwS.mid (H0 := s.heap) ⟨hXA, hMA, hI, hIs, hT, hsz, hfr⟩ hwX5.2
  have hfr1 : ∀ q, q < G.2.2 → H1[q]? = s.heap[q]? := fun q hq => (hwX5.2.2 q (by omega) (by omega)).trans (hfr q (by omega))
  have hz1 : G.2.2 ≤ H1.size := by have h9 := hwX5.2.1; omega
  refine lv_aload_n E.1 E.2.1 dL_law_313 rfl (lv_at hl 2 rfl) ?_
  refine kVWE (As := []) E cw_L_39 (c_X6_eject G l (x + 179) σ hs tx len hI hT   (by omega)) hMA.choose_spec.choose_spec.choose_spec.choose_spec.choose_spec.choose_spec.choose_spec.1 ⟨_, _, rfl⟩ hMA hL hl.1 rfl rfl (Nat.le_of_ble_eq_true rfl) ⟨Nat.le_of_ble_eq_true rfl, Nat.le_of_ble_eq_true rfl⟩ ⟨by show k + 0 + 0 ≤ 600000; omega, by show n + 0 + 0 ≤ 7302250; omega⟩ dL_law_314 (fun H2 locs hL hwX6 => ?_)
  refine r_icmp_eq (tgt := 916) E dL_law_317 (by decide) (by have hbd := spEject_b (σ := σ); omega) (by have hbd := spEject_b (σ := σ); omega) (fun c317 => ?_) (fun c317 => absurd c317 (by omega))
  obtain ⟨fl2, hF⟩ := LwS.act (H0 := s.heap) ⟨hXA, hMA0, hI, hIs, hT, hsz, hfr⟩ hwX5 hwX6 (hI.eject) (hsA_inv hI hIs) hT
  refine W.widen (k := k + 80) (n := n + 240) (by show k + 0 ≤ k + 80; omega) (by show n + 0 ≤ n + 240; omega) ?_
  exact K _ _ _ _ _ _ ls locs hF hl hL
theorem law_6 {p : Program} {l : Launch} {e : Env} {s : State} {m : MethodId} {args : Array Value} {below : List Frame} {meth : Method} {c : Code} {H : Heap} {locs : List Loc} {Q : State → Prop} {G : GG} (E : En G p s m args meth c cL_law 8 (some .boolean) RL) {b L : Nat} {xs : Nat → Int32} (hX : va_X b L xs s s.heap) (hbG : b < G.2.2) (hG : G.2.2 = s.heap.size) (hL2 : L ≤ 2048) {fl : Nat → Option Fil} {σ : St} {hs : List St} {tx : Nat → Int} {len : Nat} (x : Nat) (hx : x = G.2.2) (hh : LwS G x s.heap fl σ hs tx len H) (i : Nat) (hi : i + 4 ≤ L) {ls : Array Slot} (hl : lv_has ls 8 [(0, .ref b), (1, .ref x), (2, .ref (x + 179)), (3, .int (iI (i : Int)))]) (hL : Lk G locs) (k n : Nat) (hk : k ≤ 590000) (hn : n ≤ 7000000)
    (K : ∀ (H1 : Heap) (fl1 : Nat → Option Fil) (σ1 : St) (hs1 : List St) (tx1 : Nat → Int) (len1 : Nat) (ls : Array Slot) (locs : List Loc), LwS G x s.heap fl1 σ1 hs1 tx1 len1 H1 → lv_has ls 8 [(0, .ref b), (1, .ref x), (2, .ref (x + 179)), (3, .int (iI (i : Int)))] → Lk G locs → W p l e ({ frames := 10, cells := 600000, slots := 7302250, locals := 368 } : Room) s m args below meth c H1 locs (k + 80) (n + 240) Q (F0 m 916 ls [])) : W p l e ({ frames := 10, cells := 600000, slots := 7302250, locals := 368 } : Room) s m args below meth c H locs k n Q (F0 m 322 ls []) := by
  obtain ⟨hXA, hMA, hI, hIs, hT, hsz, hfr⟩ := hh
  have hMA0 := hMA
  refine lv_aload_n E.1 E.2.1 dL_law_322 rfl (lv_at hl 1 rfl) ?_
  refine lv_aload_n E.1 E.2.1 dL_law_323 rfl (lv_at hl 0 rfl) ?_
  refine lv_iload_n E.1 E.2.1 dL_law_324 rfl (lv_at hl 3 rfl) ?_
  refine r_const E dL_law_325 ?_
  refine r_add E dL_law_326 ?_
  refine r_scr E hX hbG hG (by omega) (fun q hq => hfr q (by omega)) hL hL2 (i + 1) (by omega) (by omega) dL_law_327 (fun y hy hey => ?_)
  refine kVWE (As := [.int (iI (y))]) E cw_L_40 (c_X5_repair G l x (x + 184) fl σ hs tx len hI hT (by omega) (by omega) y hy) hXA.1 ⟨_, _, rfl⟩ ⟨hXA, hsz⟩ hL hl.1 rfl rfl (Nat.le_of_ble_eq_true rfl) ⟨Nat.le_of_ble_eq_true rfl, Nat.le_of_ble_eq_true rfl⟩ ⟨by show k + 0 ≤ 600000; omega, by show n + 0 ≤ 7302250; omega⟩ dL_law_328 (fun H1 locs hL hwX5 => ?_)
  have hMA := LwS.mid (H0 := s.heap) ⟨hXA, hMA, hI, hIs, hT, hsz, hfr⟩ hwX5.2
  have hfr1 : ∀ q, q < G.2.2 → H1[q]? = s.heap[q]? := fun q hq => (hwX5.2.2 q (by omega) (by omega)).trans (hfr q (by omega))
  have hz1 : G.2.2 ≤ H1.size := by have h9 := hwX5.2.1; omega
  refine lv_aload_n E.1 E.2.1 dL_law_331 rfl (lv_at hl 2 rfl) ?_
  refine lv_aload_n E.1 E.2.1 dL_law_332 rfl (lv_at hl 0 rfl) ?_
  refine lv_iload_n E.1 E.2.1 dL_law_333 rfl (lv_at hl 3 rfl) ?_
  refine r_const E dL_law_334 ?_
  refine r_add E dL_law_335 ?_
  refine r_scr E hX hbG hG hz1 hfr1 hL hL2 (i + 1) (by omega) (by omega) dL_law_336 (fun y9 hy9 hey9 => ?_)
  have hee : y9 = y := by have h9 := hey9.symm.trans hey; exact (iI_eq hy9 hy).mp h9
  rw [hee]
  refine kVWE (As := [.int (iI (y))]) E cw_L_43 (c_X6_repair G l (x + 179) σ hs tx len hI hT y hy (by omega)) hMA.choose_spec.choose_spec.choose_spec.choose_spec.choose_spec.choose_spec.choose_spec.1 ⟨_, _, rfl⟩ hMA hL hl.1 rfl rfl (Nat.le_of_ble_eq_true rfl) ⟨Nat.le_of_ble_eq_true rfl, Nat.le_of_ble_eq_true rfl⟩ ⟨by show k + 0 + 0 ≤ 600000; omega, by show n + 0 + 0 ≤ 7302250; omega⟩ dL_law_337 (fun H2 locs hL hwX6 => ?_)
  refine r_icmp_eq (tgt := 916) E dL_law_340 (by decide) (by have hbd := spRepair_b hI y; omega) (by have hbd := spRepair_b hI y; omega) (fun c340 => ?_) (fun c340 => absurd c340 (by omega))
  obtain ⟨fl2, hF⟩ := LwS.act (H0 := s.heap) ⟨hXA, hMA0, hI, hIs, hT, hsz, hfr⟩ hwX5 hwX6 (hI.repair y) (hsA_inv hI hIs) hT
  refine W.widen (k := k + 80) (n := n + 240) (by show k + 0 ≤ k + 80; omega) (by show n + 0 ≤ n + 240; omega) ?_
  exact K _ _ _ _ _ _ ls locs hF hl hL
theorem law_7 {p : Program} {l : Launch} {e : Env} {s : State} {m : MethodId} {args : Array Value} {below : List Frame} {meth : Method} {c : Code} {H : Heap} {locs : List Loc} {Q : State → Prop} {G : GG} (E : En G p s m args meth c cL_law 8 (some .boolean) RL) {b L : Nat} {xs : Nat → Int32} (hX : va_X b L xs s s.heap) (hbG : b < G.2.2) (hG : G.2.2 = s.heap.size) (hL2 : L ≤ 2048) {fl : Nat → Option Fil} {σ : St} {hs : List St} {tx : Nat → Int} {len : Nat} (x : Nat) (hx : x = G.2.2) (hh : LwS G x s.heap fl σ hs tx len H) (i : Nat) (hi : i + 4 ≤ L) {ls : Array Slot} (hl : lv_has ls 8 [(0, .ref b), (1, .ref x), (2, .ref (x + 179)), (3, .int (iI (i : Int)))]) (hL : Lk G locs) (k n : Nat) (hk : k ≤ 590000) (hn : n ≤ 7000000)
    (K : ∀ (H1 : Heap) (fl1 : Nat → Option Fil) (σ1 : St) (hs1 : List St) (tx1 : Nat → Int) (len1 : Nat) (ls : Array Slot) (locs : List Loc), LwS G x s.heap fl1 σ1 hs1 tx1 len1 H1 → lv_has ls 8 [(0, .ref b), (1, .ref x), (2, .ref (x + 179)), (3, .int (iI (i : Int)))] → Lk G locs → W p l e ({ frames := 10, cells := 600000, slots := 7302250, locals := 368 } : Room) s m args below meth c H1 locs (k + 80) (n + 240) Q (F0 m 916 ls [])) : W p l e ({ frames := 10, cells := 600000, slots := 7302250, locals := 368 } : Room) s m args below meth c H locs k n Q (F0 m 345 ls []) := by
  obtain ⟨hXA, hMA, hI, hIs, hT, hsz, hfr⟩ := hh
  have hMA0 := hMA
  refine lv_aload_n E.1 E.2.1 dL_law_345 rfl (lv_at hl 1 rfl) ?_
  refine lv_aload_n E.1 E.2.1 dL_law_346 rfl (lv_at hl 0 rfl) ?_
  refine lv_iload_n E.1 E.2.1 dL_law_347 rfl (lv_at hl 3 rfl) ?_
  refine r_const E dL_law_348 ?_
  refine r_add E dL_law_349 ?_
  refine r_scr E hX hbG hG (by omega) (fun q hq => hfr q (by omega)) hL hL2 (i + 1) (by omega) (by omega) dL_law_350 (fun y hy hey => ?_)
  refine kVWE (As := [.int (iI (y))]) E cw_L_44 (c_X5_damage G l x (x + 184) fl σ hs tx len hI hT (by omega) (by omega) y hy) hXA.1 ⟨_, _, rfl⟩ ⟨hXA, hsz⟩ hL hl.1 rfl rfl (Nat.le_of_ble_eq_true rfl) ⟨Nat.le_of_ble_eq_true rfl, Nat.le_of_ble_eq_true rfl⟩ ⟨by show k + 0 ≤ 600000; omega, by show n + 0 ≤ 7302250; omega⟩ dL_law_351 (fun H1 locs hL hwX5 => ?_)
  have hMA := LwS.mid (H0 := s.heap) ⟨hXA, hMA, hI, hIs, hT, hsz, hfr⟩ hwX5.2
  have hfr1 : ∀ q, q < G.2.2 → H1[q]? = s.heap[q]? := fun q hq => (hwX5.2.2 q (by omega) (by omega)).trans (hfr q (by omega))
  have hz1 : G.2.2 ≤ H1.size := by have h9 := hwX5.2.1; omega
  refine lv_aload_n E.1 E.2.1 dL_law_354 rfl (lv_at hl 2 rfl) ?_
  refine lv_aload_n E.1 E.2.1 dL_law_355 rfl (lv_at hl 0 rfl) ?_
  refine lv_iload_n E.1 E.2.1 dL_law_356 rfl (lv_at hl 3 rfl) ?_
  refine r_const E dL_law_357 ?_
  refine r_add E dL_law_358 ?_
  refine r_scr E hX hbG hG hz1 hfr1 hL hL2 (i + 1) (by omega) (by omega) dL_law_359 (fun y9 hy9 hey9 => ?_)
  have hee : y9 = y := by have h9 := hey9.symm.trans hey; exact (iI_eq hy9 hy).mp h9
  rw [hee]
  refine kVWE (As := [.int (iI (y))]) E cw_L_47 (c_X6_damage G l (x + 179) σ hs tx len hI hT y hy (by omega)) hMA.choose_spec.choose_spec.choose_spec.choose_spec.choose_spec.choose_spec.choose_spec.1 ⟨_, _, rfl⟩ hMA hL hl.1 rfl rfl (Nat.le_of_ble_eq_true rfl) ⟨Nat.le_of_ble_eq_true rfl, Nat.le_of_ble_eq_true rfl⟩ ⟨by show k + 0 + 0 ≤ 600000; omega, by show n + 0 + 0 ≤ 7302250; omega⟩ dL_law_360 (fun H2 locs hL hwX6 => ?_)
  refine r_icmp_eq (tgt := 916) E dL_law_363 (by decide) (by have hbd := spDamage_b (σ := σ) y; omega) (by have hbd := spDamage_b (σ := σ) y; omega) (fun c363 => ?_) (fun c363 => absurd c363 (by omega))
  obtain ⟨fl2, hF⟩ := LwS.act (H0 := s.heap) ⟨hXA, hMA0, hI, hIs, hT, hsz, hfr⟩ hwX5 hwX6 (hI.damage y) (hsA_inv hI hIs) hT
  refine W.widen (k := k + 80) (n := n + 240) (by show k + 0 ≤ k + 80; omega) (by show n + 0 ≤ n + 240; omega) ?_
  exact K _ _ _ _ _ _ ls locs hF hl hL
theorem law_8 {p : Program} {l : Launch} {e : Env} {s : State} {m : MethodId} {args : Array Value} {below : List Frame} {meth : Method} {c : Code} {H : Heap} {locs : List Loc} {Q : State → Prop} {G : GG} (E : En G p s m args meth c cL_law 8 (some .boolean) RL) {b L : Nat} {xs : Nat → Int32} (hX : va_X b L xs s s.heap) (hbG : b < G.2.2) (hG : G.2.2 = s.heap.size) (hL2 : L ≤ 2048) {fl : Nat → Option Fil} {σ : St} {hs : List St} {tx : Nat → Int} {len : Nat} (x : Nat) (hx : x = G.2.2) (hh : LwS G x s.heap fl σ hs tx len H) (i : Nat) (hi : i + 4 ≤ L) {ls : Array Slot} (hl : lv_has ls 8 [(0, .ref b), (1, .ref x), (2, .ref (x + 179)), (3, .int (iI (i : Int)))]) (hL : Lk G locs) (k n : Nat) (hk : k ≤ 590000) (hn : n ≤ 7000000)
    (K : ∀ (H1 : Heap) (fl1 : Nat → Option Fil) (σ1 : St) (hs1 : List St) (tx1 : Nat → Int) (len1 : Nat) (ls : Array Slot) (locs : List Loc), LwS G x s.heap fl1 σ1 hs1 tx1 len1 H1 → lv_has ls 8 [(0, .ref b), (1, .ref x), (2, .ref (x + 179)), (3, .int (iI (i : Int)))] → Lk G locs → W p l e ({ frames := 10, cells := 600000, slots := 7302250, locals := 368 } : Room) s m args below meth c H1 locs (k + 80) (n + 240) Q (F0 m 916 ls [])) : W p l e ({ frames := 10, cells := 600000, slots := 7302250, locals := 368 } : Room) s m args below meth c H locs k n Q (F0 m 368 ls []) := by
  obtain ⟨hXA, hMA, hI, hIs, hT, hsz, hfr⟩ := hh
  have hMA0 := hMA
  refine lv_aload_n E.1 E.2.1 dL_law_368 rfl (lv_at hl 1 rfl) ?_
  refine lv_aload_n E.1 E.2.1 dL_law_369 rfl (lv_at hl 0 rfl) ?_
  refine lv_iload_n E.1 E.2.1 dL_law_370 rfl (lv_at hl 3 rfl) ?_
  refine r_const E dL_law_371 ?_
  refine r_add E dL_law_372 ?_
  refine r_scr E hX hbG hG (by omega) (fun q hq => hfr q (by omega)) hL hL2 (i + 1) (by omega) (by omega) dL_law_373 (fun y hy hey => ?_)
  refine lv_aload_n E.1 E.2.1 dL_law_374 rfl (lv_at hl 0 rfl) ?_
  refine lv_iload_n E.1 E.2.1 dL_law_375 rfl (lv_at hl 3 rfl) ?_
  refine r_const E dL_law_376 ?_
  refine r_add E dL_law_377 ?_
  refine r_scr E hX hbG hG (by omega) (fun q hq => hfr q (by omega)) hL hL2 (i + 2) (by omega) (by omega) dL_law_378 (fun z hz hez => ?_)
  refine kVWE (As := [.int (iI (y)), .int (iI (z))]) E cw_L_48 (c_X5_set G l x (x + 184) fl σ hs tx len hI hT (by omega) (by omega) y z hy hz) hXA.1 ⟨_, _, rfl⟩ ⟨hXA, hsz⟩ hL hl.1 rfl rfl (Nat.le_of_ble_eq_true rfl) ⟨Nat.le_of_ble_eq_true rfl, Nat.le_of_ble_eq_true rfl⟩ ⟨by show k + 0 ≤ 600000; omega, by show n + 0 ≤ 7302250; omega⟩ dL_law_379 (fun H1 locs hL hwX5 => ?_)
  have hMA := LwS.mid (H0 := s.heap) ⟨hXA, hMA, hI, hIs, hT, hsz, hfr⟩ hwX5.2
  have hfr1 : ∀ q, q < G.2.2 → H1[q]? = s.heap[q]? := fun q hq => (hwX5.2.2 q (by omega) (by omega)).trans (hfr q (by omega))
  have hz1 : G.2.2 ≤ H1.size := by have h9 := hwX5.2.1; omega
  refine lv_aload_n E.1 E.2.1 dL_law_382 rfl (lv_at hl 2 rfl) ?_
  refine lv_aload_n E.1 E.2.1 dL_law_383 rfl (lv_at hl 0 rfl) ?_
  refine lv_iload_n E.1 E.2.1 dL_law_384 rfl (lv_at hl 3 rfl) ?_
  refine r_const E dL_law_385 ?_
  refine r_add E dL_law_386 ?_
  refine r_scr E hX hbG hG hz1 hfr1 hL hL2 (i + 1) (by omega) (by omega) dL_law_387 (fun y9 hy9 hey9 => ?_)
  have hee : y9 = y := by have h9 := hey9.symm.trans hey; exact (iI_eq hy9 hy).mp h9
  rw [hee]
  refine lv_aload_n E.1 E.2.1 dL_law_388 rfl (lv_at hl 0 rfl) ?_
  refine lv_iload_n E.1 E.2.1 dL_law_389 rfl (lv_at hl 3 rfl) ?_
  refine r_const E dL_law_390 ?_
  refine r_add E dL_law_391 ?_
  refine r_scr E hX hbG hG hz1 hfr1 hL hL2 (i + 2) (by omega) (by omega) dL_law_392 (fun z9 hz9 hez9 => ?_)
  have hee : z9 = z := by have h9 := hez9.symm.trans hez; exact (iI_eq hz9 hz).mp h9
  rw [hee]
  refine kVWE (As := [.int (iI (y)), .int (iI (z))]) E cw_L_51 (c_X6_set G l (x + 179) σ hs tx len hI hT y z hy hz (by omega)) hMA.choose_spec.choose_spec.choose_spec.choose_spec.choose_spec.choose_spec.choose_spec.1 ⟨_, _, rfl⟩ hMA hL hl.1 rfl rfl (Nat.le_of_ble_eq_true rfl) ⟨Nat.le_of_ble_eq_true rfl, Nat.le_of_ble_eq_true rfl⟩ ⟨by show k + 0 + 0 ≤ 600000; omega, by show n + 0 + 0 ≤ 7302250; omega⟩ dL_law_393 (fun H2 locs hL hwX6 => ?_)
  refine r_icmp_eq (tgt := 916) E dL_law_396 (by decide) (by have hbd := spSet_b hI y z; omega) (by have hbd := spSet_b hI y z; omega) (fun c396 => ?_) (fun c396 => absurd c396 (by omega))
  obtain ⟨fl2, hF⟩ := LwS.act (H0 := s.heap) ⟨hXA, hMA0, hI, hIs, hT, hsz, hfr⟩ hwX5 hwX6 (hI.set y z) (hsA_inv hI hIs) hT
  refine W.widen (k := k + 80) (n := n + 240) (by show k + 0 ≤ k + 80; omega) (by show n + 0 ≤ n + 240; omega) ?_
  exact K _ _ _ _ _ _ ls locs hF hl hL