def slot (a i : Nat) : Nat := a + 2 + 29 * i
/-- the history at a: its ring begins at o; the states it holds, the oldest first -/
def HistR (G : GG) (a : Nat) (fl : Nat → Option Fil) (o : Nat) (hs : List St) (H : Heap) : Prop :=
  o < 5 ∧ hs.length ≤ 4 ∧ Ob G a 2 [.ref (a + 1), .int (iI o), .int (iI hs.length)] H ∧ Ra G (a + 1) 5 5 (fun k => some (a + 2 + 29 * k)) H ∧
  (∀ k, k < 5 → ∃ τ, DiscAt G (a + 2 + 29 * k) fl τ H) ∧ ∀ i τ, hs[i]? = some τ → DiscAt G (a + 2 + 29 * ((o + i) % 5)) fl τ H
theorem HistR.kept {G : GG} {a o : Nat} {fl : Nat → Option Fil} {hs : List St} {H H1 : Heap} (h : HistR G a fl o hs H) (e : ∀ q, a ≤ q → q < a + 147 → H1[q]? = H[q]?) : HistR G a fl o hs H1 := by
  obtain ⟨h1, h2, h3, h4, h5, h6⟩ := h
  refine ⟨h1, h2, h3.kept (e _ (by omega) (by omega)), h4.kept (e _ (by omega) (by omega)), fun k hk => ?_, fun i τ hi => ?_⟩
  · obtain ⟨τ, hτ⟩ := h5 k hk
    exact ⟨τ, hτ.kept (fun q g1 g2 => e q (by omega) (by omega))⟩
  · have := Nat.mod_lt (o + i) (show 0 < 5 by decide)
    exact (h6 i τ hi).kept (fun q g1 g2 => e q (by omega) (by omega))
theorem HistR.ext {G : GG} {a o : Nat} {fl fl' : Nat → Option Fil} {hs : List St} {H : Heap} (h : HistR G a fl o hs H) (hE : Ext fl fl') : HistR G a fl' o hs H := by
  obtain ⟨h1, h2, h3, h4, h5, h6⟩ := h
  exact ⟨h1, h2, h3, h4, fun k hk => by obtain ⟨τ, hτ⟩ := h5 k hk; exact ⟨τ, hτ.ext hE⟩, fun i τ hi => (h6 i τ hi).ext hE⟩

set_option maxHeartbeats 4000000 in
set_option maxRecDepth 100000 in
theorem c_X2_init (G : GG) (l : Launch) (a : Nat) (fl : Nat → Option Fil) (hga : G.2.2 ≤ a) : Ct G l yX2_init cX2_init 2 none ({ frames := 3, cells := 146, slots := 3030, locals := 65 } : Room) [.ref (a)] (fun H => Ob G a 2 [.null, .int 0, .int 0] H ∧ H.size = a + 1) (WV (fun H H1 => HistR G a fl 0 [] H1 ∧ H1.size = a + 147 ∧ ∀ q, q < a → H1[q]? = H[q]?)) := by
  refine Ct.of (by decide +kernel) (Nat.le_of_ble_eq_true rfl) ?_
  intro p e s m args below meth c ls E hnm hP hl
  obtain ⟨ho, hsz⟩ := hP
  have hfr : ∀ q, q < a → s.heap[q]? = s.heap[q]? := fun _ _ => rfl
  have hl : lv_has ls 2 [(0, .ref (a))] := hl
  have hL : Lk G [] := Lk.nil
  generalize ([] : List Loc) = locs at hL ⊢
  refine lv_aload_n E.1 E.2.1 dX2_init_0 rfl (lv_at hl 0 rfl) ?_
  refine m_objinit E oi_X2 hl.1 (Nat.le_of_ble_eq_true rfl) (Nat.le_of_ble_eq_true rfl) dX2_init_1 ?_
  refine lv_aload_n E.1 E.2.1 dX2_init_4 rfl (lv_at hl 0 rfl) ?_
  refine r_const E dX2_init_5 ?_
  refine m_newq (t := 5) (N := 5) E cl_X2_9 E.2.2.2.2.2.2.2.2.1.2.2 rfl (by decide) (by decide) (by decide) (Nat.le_of_ble_eq_true rfl) (Nat.le_of_ble_eq_true rfl) dX2_init_6 (fun H1 hn2 hPu_ => ?_)
  rw [hsz] at hn2
  rw [hsz]
  have ho := ho.kept (hPu_.2 _ (by omega))
  have hfr : ∀ q, q < a → H1[q]? = s.heap[q]? := fun q hq => (hPu_.2 q (by omega)).trans (hfr q hq)
  have hsz : H1.size = a + 2 := by rw [hPu_.1]; omega
  refine m_putF E hnm ho fw_X2_11 fp_X2_0 rfl rfl (Nat.le_of_ble_eq_true rfl) hL (by omega) ⟨_, _, rfl⟩ dX2_init_9 (fun H3 locs hL hO_ hF_ => ?_)
  have hn2 := hn2.kept (hF_.2 _ (by omega))
  have hsz : H3.size = a + 2 := hF_.1.trans hsz
  have hfr : ∀ q, q < a → H3[q]? = s.heap[q]? := fun q hq => (hF_.2 q (by omega)).trans (hfr q hq)
  have ho : Ob G (a) 2 [.ref (a + 1), .int (0), .int (0)] H3 := hO_
  clear hO_
  refine r_const E dX2_init_12 ?_
  refine lv_istore_n (lv' := [(1, .int (iI (0))), (0, .ref (a))]) E.1 E.2.1 dX2_init_13 rfl hl (by decide) rfl (fun ls hl => ?_)
  have LP14 : ∀ (kin14 : Nat) (k : Nat) (H : Heap) (u : Int) (ls : Array Slot) (locs : List Loc) (hk : k ≤ 5) (hu : u = (k : Int)) (hb0 : Ob G a 2 [.ref (a + 1), .int 0, .int 0] H) (hb1 : Ra G (a + 1) 5 5 (fun j => if j < k then some (a + 2 + 29 * j) else none) H) (hS : ∀ n, n < k → DiscAt G (a + 2 + 29 * n) fl sig0 H) (hsz : H.size = a + 2 + 29 * k) (hfr : ∀ q, q < a → H[q]? = s.heap[q]?) (hkin14 : 5 - k = kin14) (hl : lv_has ls 2 [(1, .int (iI (u))), (0, .ref (a))]) (hL : Lk G locs), W p l e ({ frames := 3, cells := 146, slots := 3030, locals := 65 } : Room) s m args below meth c H locs (1 + 29 * k) (5 + 605 * k) (QQ G below args s ({ frames := 3, cells := 146, slots := 3030, locals := 65 } : Room) (WV (fun H H1 => HistR G a fl 0 [] H1 ∧ H1.size = a + 147 ∧ ∀ q, q < a → H1[q]? = H[q]?))) (F0 m 14 ls []) := by
    intro kin14
    induction kin14 using Nat.strongRecOn with
    | ind kin14 ihin14 =>
      intro k H u ls locs hk hu hb0 hb1 hS hsz hfr hkin14 hl hL
      refine lv_iload_n E.1 E.2.1 dX2_init_14 rfl (lv_at hl 0 rfl) ?_
      refine r_const E dX2_init_15 ?_
      refine r_icmp_ge (tgt := 38) E dX2_init_16 (by decide) (by omega) (by omega) (fun c16 => ?_) (fun c16 => ?_)
      · have hk5 : k = 5 := by omega
        subst hk5
        refine e_vret (rm := ({ frames := 3, cells := 146, slots := 3030, locals := 65 } : Room)) E hL dX2_init_38 ⟨rfl, ?_⟩
        exact ⟨⟨by decide, by decide, hb0, hb1.to (fun j hj => by simp [hj]), fun k hk => ⟨sig0, hS k hk⟩, fun i τ hi => by simp at hi⟩, by omega, hfr⟩
      · subst hu
        refine lv_aload_n E.1 E.2.1 dX2_init_19 rfl (lv_at hl 1 rfl) ?_
        refine m_get E hb0 fw_X2_11 rfl dX2_init_20 ?_
        refine lv_iload_n E.1 E.2.1 dX2_init_23 rfl (lv_at hl 0 rfl) ?_
        refine m_new E nw_X2_9 (by show 1 + 29 * k + 1 ≤ 146; omega) (by show 5 + 605 * k + 7 ≤ 3030; omega) dX2_init_24 (fun H4 hn5 hPu_ => ?_)
        rw [hsz] at hn5
        rw [hsz]
        have hb0 := hb0.kept (hPu_.2 _ (by omega))
        have hb1 := hb1.kept (hPu_.2 _ (by omega))
        have hfr : ∀ q, q < a → H4[q]? = s.heap[q]? := fun q hq => (hPu_.2 q (by omega)).trans (hfr q hq)
        have hS : ∀ n, n < k → DiscAt G (a + 2 + 29 * n) fl sig0 H4 := fun n hn => (hS n hn).kept (fun q g1 g2 => hPu_.2 q (by omega))
        have hsz : H4.size = a + 2 + 29 * k + 1 := by rw [hPu_.1]; omega
        refine lv_dup E.1 E.2.1 dX2_init_27 rfl ?_
        refine kIWV (As := []) E cw_X2_17 (c_X1_init G l (a + 2 + 29 * k) fl (by omega)) ⟨hn5, by omega⟩ hL hl.1 rfl rfl (Nat.le_of_ble_eq_true rfl) ⟨Nat.le_of_ble_eq_true rfl, Nat.le_of_ble_eq_true rfl⟩ ⟨by show 1 + 29 * k + 1 + 28 ≤ 146; omega, by show 5 + 605 * k + 7 + 598 ≤ 3030; omega⟩ dX2_init_28 (fun H6 locs hL hw_ => ?_)
        obtain ⟨hse, hz, hq⟩ := hw_
        have hb0 := hb0.kept (hq _ (by omega))
        have hb1 := hb1.kept (hq _ (by omega))
        have hS : ∀ n, n < k → DiscAt G (a + 2 + 29 * n) fl sig0 H6 := fun n hn => (hS n hn).kept (fun q g1 g2 => hq _ (by omega))
        have hfr : ∀ q, q < a → H6[q]? = s.heap[q]? := fun q h9 => (hq q (by omega)).trans (hfr q h9)
        have hsz : H6.size = a + 2 + 29 * (k + 1) := by omega
        refine W.cs (cells' := 1 + 29 * (k + 1)) (slots' := 5 + 605 * (k + 1)) (by show 1 + 29 * k + 1 + 28 = _; omega) (by show 5 + 605 * k + 7 + 598 = _; omega) ?_
        refine r_aastQ (v := some (a + 2 + 29 * k)) E hb1 rfl (fun _ h => by cases h; exact ⟨_, hse.1⟩) (show vwCl[1]? = some _ from rfl) (k) rfl (by omega) (by decide) hL (by omega) dX2_init_31 (fun H7 locs hL hO_ hF_ => ?_)
        have hb0 := hb0.kept (hF_.2 _ (by omega))
        have hsz : H7.size = a + 2 + 29 * (k + 1) := hF_.1.trans hsz
        have hfr : ∀ q, q < a → H7[q]? = s.heap[q]? := fun q hq => (hF_.2 q (by omega)).trans (hfr q hq)
        have hS : ∀ n, n < k → DiscAt G (a + 2 + 29 * n) fl sig0 H7 := fun n hn => (hS n hn).kept (fun q g1 g2 => hF_.2 q (by omega))
        have hse : DiscAt G (a + 2 + 29 * k) fl sig0 H7 := hse.kept (fun q g1 g2 => hF_.2 q (by omega))
        have hb1 : Ra G (a + 1) 5 5 (va_up (fun j => if j < k then some (a + 2 + 29 * j) else none) (k) (some (a + 2 + 29 * k))) H7 := hO_
        clear hO_
        refine r_inc (lv' := [(1, .int (iI ((k : Int) + 1))), (0, .ref (a))]) E dX2_init_32 hl (k := 0) rfl (by decide) rfl (fun ls hl => ?_)
        refine lv_goto (tgt := 14) E.1 E.2.1 dX2_init_35 (by decide) ?_
        refine ihin14 _ ?_ (k + 1) H7 ((k : Int) + 1) ls locs ?_ ?_ ?_ ?_ ?_ ?_ ?_ rfl (lv_sub hl [0, 1] rfl) hL
        · omega
        · omega
        · omega
        · exact hb0
        · refine hb1.to (fun j hj => ?_)
          by_cases h1 : j = k
          · subst h1; simp [va_up]
          · have h2 : j < k + 1 ↔ j < k := by omega
            simp [va_up, h1, h2]
        · intro n hn
          by_cases h1 : n = k
          · subst h1; exact hse
          · exact hS n (by omega)
        · omega
        · exact hfr
  refine LP14 _ 0 H3 0 ls locs ?_ ?_ ?_ ?_ ?_ ?_ ?_ rfl (lv_sub hl [0, 1] rfl) hL
  · omega
  · rfl
  · exact ho
  · exact hn2.to (fun j hj => by simp)
  · exact fun n hn => absurd hn (Nat.not_lt_zero n)
  · omega
  · exact hfr

/-- the start of a method's proof, where the machine has entries for others of its class -/
theorem Ct.ofF {G : GG} {l : Launch} {y : MethodName} {b : ByteArray} {n : Nat} {ret : Option FieldType} {rm : Room} {av : List Value} {Pre : Heap → Prop} {Post : Option Value → Heap → Heap → Prop} (hy : plainFor y = true) (hn : (lg_sl av).length ≤ n)
    (body : ∀ p e s m args below meth c ls, En G p s m args meth c b n ret y.cls → meth.name = y.name → Pre s.heap → lv_has ls n (lv_args 0 av) → W p l e rm s m args below meth c s.heap [] 0 0 (QQ G below args s rm Post) (F0 m 0 ls [])) : Ct G l y b n ret rm av Pre Post := by
  refine va_MetF (cc := b) (maxL := n) (ret := ret) hy rfl ?_
  intro p e s m args below meth c s₁ B hml hv
  obtain ⟨rfl, hG, hP⟩ := hv
  have hts := atoms_spec (ws := .code y b n ret :: lw_all) B.pre
  have hl := lv_entry av hn
  rw [lg_entry_eq]
  exact body p e s m _ below meth c _ ⟨B.exec, B.bytes, hml, B.returns, fun w hw => hts w (List.mem_cons_of_mem _ hw), findClass_of_methodNamed B.named, B.notSynchronized, hG⟩ (name_of_methodNamed B.named B.method).1 hP hl

set_option maxHeartbeats 4000000 in
set_option maxRecDepth 100000 in
theorem c_J9_floorMod_7cf53 (G : GG) (l : Launch) (x : Nat) (hx : x ≤ 8) : Ct G l yJ9_floorMod_7cf53 cJ9_floorMod_7cf53 3 (some .int) ({ frames := 0, cells := 0, slots := 0, locals := 0 } : Room) [.int (iI ((x : Int))), .int (iI (5))] (fun H => True) (RE (iI ((x % 5 : Nat) : Int))) := by
  refine Ct.ofF (by decide +kernel) (Nat.le_of_ble_eq_true rfl) ?_
  intro p e s m args below meth c ls E hnm hP hl
  have hl : lv_has ls 3 [(0, .int (iI ((x : Int)))), (1, .int (iI (5)))] := hl
  have hL : Lk G [] := Lk.nil
  generalize ([] : List Loc) = locs at hL ⊢
  refine lv_iload_n E.1 E.2.1 dJ9_floorMod_7cf53_0 rfl (lv_at hl 0 rfl) ?_
  refine lv_iload_n E.1 E.2.1 dJ9_floorMod_7cf53_1 rfl (lv_at hl 1 rfl) ?_
  refine r_rem E dJ9_floorMod_7cf53_2 (by omega) (by omega) (by omega) (by omega) ?_
  refine lv_istore_n (lv' := [(2, .int (iI (((x : Int)) % (5)))), (0, .int (iI ((x : Int)))), (1, .int (iI (5)))]) E.1 E.2.1 dJ9_floorMod_7cf53_3 rfl hl (by decide) rfl (fun ls hl => ?_)
  refine lv_iload_n E.1 E.2.1 dJ9_floorMod_7cf53_4 rfl (lv_at hl 1 rfl) ?_
  refine lv_iload_n E.1 E.2.1 dJ9_floorMod_7cf53_5 rfl (lv_at hl 2 rfl) ?_
  refine lv_ixor E.1 E.2.1 dJ9_floorMod_7cf53_6 ?_
  obtain ⟨z, hz, hz0⟩ : ∃ z : Int, (iI (x : Int) ^^^ iI 5) = iI z ∧ 0 ≤ z ∧ z ≤ 15 := by rcases (show x = 0 ∨ x = 1 ∨ x = 2 ∨ x = 3 ∨ x = 4 ∨ x = 5 ∨ x = 6 ∨ x = 7 ∨ x = 8 by omega) with rfl | rfl | rfl | rfl | rfl | rfl | rfl | rfl | rfl <;> first | exact ⟨5, by decide, by decide, by decide⟩ | exact ⟨4, by decide, by decide, by decide⟩ | exact ⟨7, by decide, by decide, by decide⟩ | exact ⟨6, by decide, by decide, by decide⟩ | exact ⟨1, by decide, by decide, by decide⟩ | exact ⟨0, by decide, by decide, by decide⟩ | exact ⟨3, by decide, by decide, by decide⟩ | exact ⟨2, by decide, by decide, by decide⟩ | exact ⟨13, by decide, by decide, by decide⟩
  rw [hz]
  refine r_if_ge (tgt := 18) E dJ9_floorMod_7cf53_7 (by decide) (by omega) (fun c7 => ?_) (fun c7 => absurd c7 (by omega))
  refine lv_iload_n E.1 E.2.1 dJ9_floorMod_7cf53_18 rfl (lv_at hl 0 rfl) ?_
  refine e_iret (rm := ({ frames := 0, cells := 0, slots := 0, locals := 0 } : Room)) (v := iI (((x : Int)) % (5))) E hL dJ9_floorMod_7cf53_19 ?_
  exact RE_i (by omega)

set_option maxHeartbeats 4000000 in
set_option maxRecDepth 100000 in
theorem c_X2_slotBehindHeld (G : GG) (l : Launch) (a o hd : Nat) (ho : o < 5) (hh : hd ≤ 4) : Ct G l yX2_slotBehindHeld cX2_slotBehindHeld 1 (some (.object "WriteOnceDisc$Disc")) ({ frames := 1, cells := 0, slots := 0, locals := 22 } : Room) [.ref (a)] (fun H => Ob G a 2 [.ref (a + 1), .int (iI o), .int (iI hd)] H ∧ Ra G (a + 1) 5 5 (fun k => some (a + 2 + 29 * k)) H) (QE (some (a + 2 + 29 * ((o + hd) % 5)))) := by
  refine Ct.of (by decide +kernel) (Nat.le_of_ble_eq_true rfl) ?_
  intro p e s m args below meth c ls E hnm hP hl
  have hl : lv_has ls 1 [(0, .ref (a))] := hl
  have hL : Lk G [] := Lk.nil
  generalize ([] : List Loc) = locs at hL ⊢
  refine lv_aload_n E.1 E.2.1 dX2_slotBehindHeld_0 rfl (lv_at hl 0 rfl) ?_
  refine m_get E hP.1 fw_X2_11 rfl dX2_slotBehindHeld_1 ?_
  refine lv_aload_n E.1 E.2.1 dX2_slotBehindHeld_4 rfl (lv_at hl 0 rfl) ?_
  refine m_get E hP.1 fw_X2_18 rfl dX2_slotBehindHeld_5 ?_
  refine lv_aload_n E.1 E.2.1 dX2_slotBehindHeld_8 rfl (lv_at hl 0 rfl) ?_
  refine m_get E hP.1 fw_X2_22 rfl dX2_slotBehindHeld_9 ?_
  refine r_add E dX2_slotBehindHeld_12 ?_
  refine r_const E dX2_slotBehindHeld_13 ?_
  rw [show ((o : Int) + (hd : Int) : Int) = ((o + hd : Nat) : Int) by omega]
  refine kSRE (As := [.int (iI (((o + hd : Nat) : Int))), .int (iI (5))]) E cw_X2_25 (c_J9_floorMod_7cf53 G l (o + hd) (by omega)) trivial hL hl.1 rfl rfl (Nat.le_of_ble_eq_true rfl) ⟨Nat.le_of_ble_eq_true rfl, Nat.le_of_ble_eq_true rfl⟩ ⟨rfl, rfl⟩ ⟨Nat.le_of_ble_eq_true rfl, Nat.le_of_ble_eq_true rfl⟩ dX2_slotBehindHeld_14 (fun locs hL => ?_)
  refine r_aald E hP.2 rfl ((o + hd) % 5) rfl (by omega) (by decide) dX2_slotBehindHeld_17 ?_
  refine e_aret (rm := ({ frames := 1, cells := 0, slots := 0, locals := 22 } : Room)) (r := some (a + 2 + 29 * ((o + hd) % 5))) E hL dX2_slotBehindHeld_18 ?_
  exact ⟨rfl, rfl⟩

set_option maxHeartbeats 4000000 in
set_option maxRecDepth 100000 in
theorem c_X2_sketch (G : GG) (l : Launch) (a b fb o : Nat) (fl : Nat → Option Fil) (hs : List St) (σ : St) (hI : Inv σ) (hga : G.2.2 ≤ a) (hd : b + 29 ≤ a) (hfb : a + 147 ≤ fb) : Ct G l yX2_sketch cX2_sketch 2 none ({ frames := 3, cells := 0, slots := 0, locals := 65 } : Room) [.ref (a), .ref (b)] (fun H => HistR G a fl o hs H ∧ DiscAt G b fl σ H ∧ FlAt G fb fl H) (WV (fun H H1 => HistR G a fl o hs H1 ∧ DiscAt G (a + 2 + 29 * ((o + hs.length) % 5)) fl σ H1 ∧ FrS (a + 2) (a + 147) H H1)) := by
  refine Ct.of (by decide +kernel) (Nat.le_of_ble_eq_true rfl) ?_
  intro p e s m args below meth c ls E hnm hP hl
  obtain ⟨hP, hD, hFl⟩ := hP
  have ho5 := hP.1
  have hl4 := hP.2.1
  have hl : lv_has ls 2 [(0, .ref (a)), (1, .ref (b))] := hl
  have hL : Lk G [] := Lk.nil
  generalize ([] : List Loc) = locs at hL ⊢
  refine lv_aload_n E.1 E.2.1 dX2_sketch_0 rfl (lv_at hl 0 rfl) ?_
  refine kVQE (As := []) E cw_X2_31 (c_X2_slotBehindHeld G l a o (hs.length) (by omega) (by omega)) hP.2.2.1 ⟨_, _, rfl⟩ ⟨hP.2.2.1, hP.2.2.2.1⟩ hL hl.1 rfl rfl (Nat.le_of_ble_eq_true rfl) ⟨Nat.le_of_ble_eq_true rfl, Nat.le_of_ble_eq_true rfl⟩ ⟨rfl, rfl⟩ ⟨Nat.le_of_ble_eq_true rfl, Nat.le_of_ble_eq_true rfl⟩ dX2_sketch_1 (fun locs hL => ?_)
  obtain ⟨i, hi⟩ : ∃ i, i = (o + (hs.length)) % 5 := ⟨_, rfl⟩
  rw [← hi]
  have hi5 : i < 5 := by omega
  refine lv_aload_n E.1 E.2.1 dX2_sketch_4 rfl (lv_at hl 1 rfl) ?_
  obtain ⟨τ, hg⟩ := hP.2.2.2.2.1 i hi5
  refine kVWV (As := [.ref (b)]) E cw_X2_35 (c_X1_copyAll G l (a + 2 + 29 * i) b fb fl τ σ hI.mn12 (by omega) (by omega) (by omega)) hg.1 ⟨_, _, rfl⟩ ⟨hg, hD, hFl⟩ hL hl.1 rfl rfl (Nat.le_of_ble_eq_true rfl) ⟨Nat.le_of_ble_eq_true rfl, Nat.le_of_ble_eq_true rfl⟩ ⟨Nat.le_of_ble_eq_true rfl, Nat.le_of_ble_eq_true rfl⟩ dX2_sketch_5 (fun H1 locs hL hw_ => ?_)
  obtain ⟨hn1, hq⟩ := hw_
  refine e_vret (rm := ({ frames := 3, cells := 0, slots := 0, locals := 65 } : Room)) E hL dX2_sketch_8 ⟨rfl, ?_⟩
  refine ⟨?_, hn1, hq.wide (by omega) (by omega)⟩
  obtain ⟨h1, h2, h3, h4, h5, h6⟩ := hP
  refine ⟨h1, h2, h3.kept (hq.2 _ (by omega)), h4.kept (hq.2 _ (by omega)), fun k hk => ?_, fun j τ2 hj => ?_⟩
  · by_cases e1 : k = i
    · subst e1; exact ⟨σ, hn1⟩
    · obtain ⟨τ3, h9⟩ := h5 k hk
      exact ⟨τ3, h9.kept (fun q g1 g2 => hq.2 q (by omega))⟩
  · have hj2 : j < hs.length := (List.getElem?_eq_some_iff.mp hj).1
    exact (h6 j τ2 hj).kept (fun q g1 g2 => hq.2 q (by omega))

set_option maxHeartbeats 4000000 in
set_option maxRecDepth 100000 in
theorem c_X2_recordSketch (G : GG) (l : Launch) (a o : Nat) (fl : Nat → Option Fil) (hs : List St) (σ : St) (hga : G.2.2 ≤ a) : Ct G l yX2_recordSketch cX2_recordSketch 1 none ({ frames := 0, cells := 0, slots := 0, locals := 0 } : Room) [.ref (a)] (fun H => HistR G a fl o hs H ∧ DiscAt G (a + 2 + 29 * ((o + hs.length) % 5)) fl σ H) (WV (fun H H1 => (∃ o, HistR G a fl o (recd hs σ) H1) ∧ FrS a (a + 1) H H1)) := by
  refine Ct.of (by decide +kernel) (Nat.le_of_ble_eq_true rfl) ?_
  intro p e s m args below meth c ls E hnm hP hl
  obtain ⟨hP, hD⟩ := hP
  have ho5 := hP.1
  have hl4 := hP.2.1
  have hb0 := hP.2.2.1
  have hS : FrS a (a + 1) s.heap s.heap := FrS.rf
  have hl : lv_has ls 1 [(0, .ref (a))] := hl
  have hL : Lk G [] := Lk.nil
  generalize ([] : List Loc) = locs at hL ⊢
  refine lv_aload_n E.1 E.2.1 dX2_recordSketch_0 rfl (lv_at hl 0 rfl) ?_
  refine m_get E hb0 fw_X2_22 rfl dX2_recordSketch_1 ?_
  refine r_const E dX2_recordSketch_4 ?_
  refine r_icmp_ge (tgt := 21) E dX2_recordSketch_5 (by decide) (by omega) (by omega) (fun c5 => ?_) (fun c5 => ?_)
  · refine lv_aload_n E.1 E.2.1 dX2_recordSketch_21 rfl (lv_at hl 0 rfl) ?_
    refine lv_aload_n E.1 E.2.1 dX2_recordSketch_22 rfl (lv_at hl 0 rfl) ?_
    refine m_get E hb0 fw_X2_18 rfl dX2_recordSketch_23 ?_
    refine r_const E dX2_recordSketch_26 ?_
    refine r_add E dX2_recordSketch_27 ?_
    refine r_const E dX2_recordSketch_28 ?_
    refine r_rem E dX2_recordSketch_29 (by omega) (by omega) (by omega) (by omega) ?_
    refine m_put E hb0 fw_X2_18 fp_X2_1 rfl rfl (Nat.le_of_ble_eq_true rfl) hL (by omega) dX2_recordSketch_30 (fun H1 locs hL hO_ hF_ => ?_)
    have hS := hS.trans (FrS.of1 (lo := a) (hi := a + 1) hF_ (by omega) (by omega))
    have hb0 : Ob G (a) 2 [.ref (a + 1), .int (iI (((o : Int) + 1) % (5))), .int (iI ((hs.length : Int)))] H1 := hO_
    clear hO_
    obtain ⟨h1, h2, h3, h4, h5, h6⟩ := hP
    refine e_vret (rm := ({ frames := 0, cells := 0, slots := 0, locals := 0 } : Room)) E hL dX2_recordSketch_33 ⟨rfl, ?_⟩
    have e : (recd hs σ).length = hs.length := by unfold recd; rw [if_pos (by omega), List.length_append, List.length_tail]; show hs.length - 1 + 1 = _; omega
    refine ⟨⟨(o + 1) % 5, by omega, by omega, ?_, h4.kept (hS.2 _ (by omega)), fun k hk => ?_, fun j τ hj => ?_⟩, hS⟩
    · rw [e]; exact hb0
    · obtain ⟨τ, h9⟩ := h5 k hk; exact ⟨τ, h9.kept (fun q g1 g2 => hS.2 q (by omega))⟩
    · unfold recd at hj
      rw [if_pos (by omega)] at hj
      by_cases hjl : j < hs.tail.length
      · rw [List.getElem?_append_left hjl] at hj
        rw [List.getElem?_tail] at hj
        have h9 := (h6 (j + 1) τ hj).kept (fun q g1 g2 => hS.2 q (by omega))
        rw [show ((o + 1) % 5 + j) % 5 = (o + (j + 1)) % 5 by omega]
        exact h9
      · rw [List.length_tail] at hjl
        rw [List.getElem?_append_right (by rw [List.length_tail]; omega), List.length_tail] at hj
        have hz : j - (hs.length - 1) < 1 := (List.getElem?_eq_some_iff.mp hj).1
        have hj3 : j = hs.length - 1 := by omega
        subst hj3
        rw [Nat.sub_self] at hj
        cases hj
        have h9 := hD.kept (fun q g1 g2 => hS.2 q (by omega))
        rw [show ((o + 1) % 5 + (hs.length - 1)) % 5 = (o + hs.length) % 5 by omega]
        exact h9
  · refine lv_aload_n E.1 E.2.1 dX2_recordSketch_8 rfl (lv_at hl 0 rfl) ?_
    refine lv_dup E.1 E.2.1 dX2_recordSketch_9 rfl ?_
    refine m_get E hb0 fw_X2_22 rfl dX2_recordSketch_10 ?_
    refine r_const E dX2_recordSketch_13 ?_
    refine r_add E dX2_recordSketch_14 ?_
    refine m_put E hb0 fw_X2_22 fp_X2_2 rfl rfl (Nat.le_of_ble_eq_true rfl) hL (by omega) dX2_recordSketch_15 (fun H1 locs hL hO_ hF_ => ?_)
    have hS := hS.trans (FrS.of1 (lo := a) (hi := a + 1) hF_ (by omega) (by omega))
    have hb0 : Ob G (a) 2 [.ref (a + 1), .int (iI ((o : Int))), .int (iI ((hs.length : Int) + 1))] H1 := hO_
    clear hO_
    refine lv_goto (tgt := 33) E.1 E.2.1 dX2_recordSketch_18 (by decide) ?_
    obtain ⟨h1, h2, h3, h4, h5, h6⟩ := hP
    refine e_vret (rm := ({ frames := 0, cells := 0, slots := 0, locals := 0 } : Room)) E hL dX2_recordSketch_33 ⟨rfl, ?_⟩
    refine ⟨⟨o, h1, ?_, ?_, h4.kept (hS.2 _ (by omega)), fun k hk => ?_, fun j τ hj => ?_⟩, hS⟩
    · unfold recd; rw [if_neg (by omega), List.length_append]; show hs.length + 1 ≤ 4; omega
    · have e : (recd hs σ).length = hs.length + 1 := by unfold recd; rw [if_neg (by omega), List.length_append]; rfl
      rw [e]; exact hb0
    · obtain ⟨τ, h9⟩ := h5 k hk; exact ⟨τ, h9.kept (fun q g1 g2 => hS.2 q (by omega))⟩
    · unfold recd at hj
      rw [if_neg (by omega)] at hj
      by_cases hjl : j < hs.length
      · rw [List.getElem?_append_left hjl] at hj; exact (h6 j τ hj).kept (fun q g1 g2 => hS.2 q (by omega))
      · rw [List.getElem?_append_right (by omega)] at hj
        have hz : j - hs.length < 1 := (List.getElem?_eq_some_iff.mp hj).1
        have hj3 : j = hs.length := by omega
        subst hj3
        rw [Nat.sub_self] at hj
        cases hj
        exact hD.kept (fun q g1 g2 => hS.2 q (by omega))

set_option maxHeartbeats 4000000 in
set_option maxRecDepth 100000 in
theorem c_X2_takeBack (G : GG) (l : Launch) (a b fb o : Nat) (fl : Nat → Option Fil) (hs : List St) (σ : St) (hga : G.2.2 ≤ b) (hd : b + 29 ≤ a) (hfb : a + 147 ≤ fb) (hI : ∀ τ ∈ hs, Inv τ) : Ct G l yX2_takeBack cX2_takeBack 2 (some .boolean) ({ frames := 3, cells := 0, slots := 0, locals := 65 } : Room) [.ref (a), .ref (b)] (fun H => HistR G a fl o hs H ∧ DiscAt G b fl σ H ∧ FlAt G fb fl H) (WE (b2i (decide (¬ hs = []))) (fun H H1 => HistR G a fl o hs.dropLast H1 ∧ DiscAt G b fl (hs.getLast?.getD σ) H1 ∧ (∀ q, ¬ (q = a ∨ (b ≤ q ∧ q < b + 29)) → H1[q]? = H[q]?) ∧ H1.size = H.size)) := by
  refine Ct.of (by decide +kernel) (Nat.le_of_ble_eq_true rfl) ?_
  intro p e s m args below meth c ls E hnm hP hl
  obtain ⟨hP, hD, hFl⟩ := hP
  have ho5 := hP.1
  have hl4 := hP.2.1
  have hb0 := hP.2.2.1
  have hb1 := hP.2.2.2.1
  have hl : lv_has ls 2 [(0, .ref (a)), (1, .ref (b))] := hl
  have hL : Lk G [] := Lk.nil
  generalize ([] : List Loc) = locs at hL ⊢
  refine lv_aload_n E.1 E.2.1 dX2_takeBack_0 rfl (lv_at hl 0 rfl) ?_
  refine m_get E hb0 fw_X2_22 rfl dX2_takeBack_1 ?_
  refine r_if_ne (tgt := 9) E dX2_takeBack_4 (by decide) (by omega) (fun c4 => ?_) (fun c4 => ?_)
  · obtain ⟨hd0, hd1⟩ : ∃ n, n + 1 = hs.length := ⟨hs.length - 1, by omega⟩
    refine lv_aload_n E.1 E.2.1 dX2_takeBack_9 rfl (lv_at hl 0 rfl) ?_
    refine lv_dup E.1 E.2.1 dX2_takeBack_10 rfl ?_
    refine m_get E hb0 fw_X2_22 rfl dX2_takeBack_11 ?_
    refine r_const E dX2_takeBack_14 ?_
    refine r_sub E dX2_takeBack_15 ?_
    refine m_put E hb0 fw_X2_22 fp_X2_2 rfl rfl (Nat.le_of_ble_eq_true rfl) hL (by omega) dX2_takeBack_16 (fun H1 locs hL hO_ hF_ => ?_)
    have hb1 := hb1.kept (hF_.2 _ (by omega))
    have hS : Fr1 a s.heap H1 := hF_
    have hb0 : Ob G (a) 2 [.ref (a + 1), .int (iI ((o : Int))), .int (iI ((hs.length : Int) - 1))] H1 := hO_
    clear hO_
    rw [show ((hs.length : Int) - 1) = (hd0 : Int) by omega] at hb0
    refine lv_aload_n E.1 E.2.1 dX2_takeBack_19 rfl (lv_at hl 1 rfl) ?_
    refine lv_aload_n E.1 E.2.1 dX2_takeBack_20 rfl (lv_at hl 0 rfl) ?_
    refine kVQE (As := []) E cw_X2_31 (c_X2_slotBehindHeld G l a o (hd0) (by omega) (by omega)) hb0 ⟨_, _, rfl⟩ ⟨hb0, hb1⟩ hL hl.1 rfl rfl (Nat.le_of_ble_eq_true rfl) ⟨Nat.le_of_ble_eq_true rfl, Nat.le_of_ble_eq_true rfl⟩ ⟨rfl, rfl⟩ ⟨Nat.le_of_ble_eq_true rfl, Nat.le_of_ble_eq_true rfl⟩ dX2_takeBack_21 (fun locs hL => ?_)
    obtain ⟨i, hi⟩ : ∃ i, i = (o + (hd0)) % 5 := ⟨_, rfl⟩
    rw [← hi]
    have hi5 : i < 5 := by omega
    obtain ⟨τ, hτ⟩ : ∃ τ, hs[hd0]? = some τ := ⟨hs[hd0], List.getElem?_eq_getElem (by omega)⟩
    have hg : DiscAt G (a + 2 + 29 * i) fl τ H1 := by rw [hi]; exact (hP.2.2.2.2.2 hd0 τ hτ).kept (fun q g1 g2 => hS.2 q (by omega))
    have hD2 : DiscAt G b fl σ H1 := hD.kept (fun q g1 g2 => hS.2 q (by omega))
    have hFl2 : FlAt G fb fl H1 := hFl.kept (fun q g1 g2 => hS.2 q (by omega))
    have hmem : τ ∈ hs := List.mem_of_getElem? hτ
    refine kVWV (As := [.ref (a + 2 + 29 * i)]) E cw_X2_35 (c_X1_copyAll G l b (a + 2 + 29 * i) fb fl σ τ (hI τ hmem).mn12 (by omega) (by omega) (by omega)) hD2.1 ⟨_, _, rfl⟩ ⟨hD2, hg, hFl2⟩ hL hl.1 rfl rfl (Nat.le_of_ble_eq_true rfl) ⟨Nat.le_of_ble_eq_true rfl, Nat.le_of_ble_eq_true rfl⟩ ⟨Nat.le_of_ble_eq_true rfl, Nat.le_of_ble_eq_true rfl⟩ dX2_takeBack_24 (fun H2 locs hL hw_ => ?_)
    obtain ⟨hn1, hq⟩ := hw_
    refine r_const E dX2_takeBack_27 ?_
    have hne : ¬ hs = [] := fun e => by rw [e] at hd1; simp at hd1
    refine e_zret (rm := ({ frames := 3, cells := 0, slots := 0, locals := 65 } : Room)) (v := iI (1)) E hL rfl dX2_takeBack_28 ?_
    refine ⟨by rw [decide_eq_true hne]; rfl, ?_, ?_, fun q hq9 => (hq.2 q (by omega)).trans (hS.2 q (by omega)), hq.1.trans hS.1⟩
    · obtain ⟨h1, h2, h3, h4, h5, h6⟩ := hP
      have e : hs.dropLast.length = hd0 := by rw [List.length_dropLast]; omega
      refine ⟨h1, by omega, ?_, hb1.kept (hq.2 _ (by omega)), fun k hk => ?_, fun j τ2 hj => ?_⟩
      · rw [e]; exact hb0.kept (hq.2 _ (by omega))
      · obtain ⟨τ3, h9⟩ := h5 k hk; exact ⟨τ3, h9.kept (fun q g1 g2 => (hq.2 q (by omega)).trans (hS.2 q (by omega)))⟩
      · have hj2 : j < hs.dropLast.length := (List.getElem?_eq_some_iff.mp hj).1
        have hj3 : hs[j]? = some τ2 := by rw [← hj, List.getElem?_dropLast, if_pos (by omega)]
        exact (h6 j τ2 hj3).kept (fun q g1 g2 => (hq.2 q (by omega)).trans (hS.2 q (by omega)))
    · have e : hs.getLast?.getD σ = τ := by rw [List.getLast?_eq_getElem?, show hs.length - 1 = hd0 by omega, hτ]; rfl
      rw [e]; exact hn1
  · refine r_const E dX2_takeBack_7 ?_
    have hnil : hs = [] := List.eq_nil_of_length_eq_zero (by omega)
    refine e_zret (rm := ({ frames := 3, cells := 0, slots := 0, locals := 65 } : Room)) (v := iI (0)) E hL rfl dX2_takeBack_8 ?_
    subst hnil
    exact ⟨rfl, hP, hD, fun q _ => rfl, rfl⟩
