/-- the reference's object, with what it keeps -/
def MAt (G : GG) (g : Nat) (σ : St) (hs : List St) (tx : Nat → Int) (len : Nat) (H : Heap) : Prop := ∃ (bf pf : Nat → Int32) (v6 v7 v8 v9 v10 : Int32), Ob G g 6 [.ref (g + 1), .ref (g + 2), .ref (g + 3), .int (iI (hs.length : Int)), .ref (g + 4), .int (iI (len : Int)), .int v6, .int v7, .int v8, .int v9, .int v10] H ∧ Ia G (g + 1) 0 344 (encI σ) H ∧ Ia G (g + 2) 0 344 bf H ∧ Ia G (g + 3) 0 1376 pf H ∧ PastOk pf hs ∧ Ia G (g + 4) 0 80 (fun k => iI (tx k)) H
theorem MAt.kept {G : GG} {g len : Nat} {σ : St} {hs : List St} {tx : Nat → Int} {H H1 : Heap} (h : MAt G g σ hs tx len H) (e : ∀ q, g ≤ q → q < g + 5 → H1[q]? = H[q]?) : MAt G g σ hs tx len H1 := by
  obtain ⟨bf, pf, v6, v7, v8, v9, v10, h1, h2, h3, h4, h5, h6⟩ := h
  exact ⟨bf, pf, v6, v7, v8, v9, v10, h1.kept (e _ (by omega) (by omega)), h2.kept (e _ (by omega) (by omega)), h3.kept (e _ (by omega) (by omega)), h4.kept (e _ (by omega) (by omega)), h5, h6.kept (e _ (by omega) (by omega))⟩
def MP (G : GG) (g : Nat) (σ : St) (hs : List St) (tx : Nat → Int) (len : Nat) : Heap → Heap → Prop := fun H H1 => MAt G g σ hs tx len H1 ∧ FrS g (g + 5) H H1
theorem bitsN_0 (b : Nat) : ∀ k, bitsN (fun _ => false) b k = 0
  | 0 => rfl
  | k + 1 => by rw [bitsN, bitsN_0 b k]; rfl
theorem enc_sig0 : ∀ j, upd (upd (fun _ => 0) 2 (iI 4)) 3 (iI 3) j = encI sig0 j := by
  intro j
  by_cases h2 : j = 2
  · subst h2; rfl
  · by_cases h3 : j = 3
    · subst h3; rfl
    · have e : encN sig0 j = 0 := by
        unfold encN
        by_cases h4 : j < 4
        · rcases (show j = 0 ∨ j = 1 by omega) with rfl | rfl <;> rfl
        · rw [if_neg h4]
          by_cases h5 : j < 12
          · rw [if_pos h5]; exact bitsN_0 _ _
          · rw [if_neg h5]
            split
            · rfl
            · split <;> rfl
      unfold encI
      rw [e]
      simp [upd, h2, h3]
      rfl
set_option maxHeartbeats 4000000 in
set_option maxRecDepth 100000 in
theorem c_X6_begin (G : GG) (l : Launch) (g : Nat) (σ : St) (hs : List St) (tx : Nat → Int) (len : Nat) (hI : Inv σ) (hT : TxOk tx len) (y : Int) (hy : okI y) (hga : G.2.2 ≤ g) : Ct G l yX6_begin cX6_begin 2 (some .int) ({ frames := 5, cells := 0, slots := 0, locals := 111 } : Room) [.ref (g), .int (iI (y))] (fun H => MAt G g σ hs tx len H) (WE (iI (spBegin σ y).1) (MP G g (spBegin σ y).2 (hsA σ hs (spBegin σ y).1) tx len)) := by
  refine Ct.of (by decide +kernel) (Nat.le_of_ble_eq_true rfl) ?_
  intro p e s m args below meth c ls E hnm hP hl
  obtain ⟨bf, pf, v6, v7, v8, v9, v10, ho, ha, hbf, hpf, hpk, htx⟩ := hP
  have i1 := hI.mn12
  have i2 := hI.nx240
  have hT80 := hT.1
  have hp4 := hpk.1
  have hS : FrS g (g + 5) s.heap s.heap := FrS.rf
  obtain ⟨hy1, hy2⟩ := hy
  have hl : lv_has ls 2 [(0, .ref (g)), (1, .int (iI (y)))] := hl
  have hL : Lk G [] := Lk.nil
  generalize ([] : List Loc) = locs at hL ⊢
  refine lv_aload_n E.1 E.2.1 dX6_begin_0 rfl (lv_at hl 0 rfl) ?_
  refine kVWV (As := []) E cw_X6_92 (c_X6_begins G l g σ _ _ _ _ _ _ _ bf (by omega)) ho ⟨_, _, rfl⟩ ⟨ho, ha, hbf⟩ hL hl.1 rfl rfl (Nat.le_of_ble_eq_true rfl) ⟨Nat.le_of_ble_eq_true rfl, Nat.le_of_ble_eq_true rfl⟩ ⟨Nat.le_of_ble_eq_true rfl, Nat.le_of_ble_eq_true rfl⟩ dX6_begin_1 (fun H1 locs hL hw_ => ?_)
  obtain ⟨hbf, hq⟩ := hw_
  have ho := ho.kept (hq.2 _ (by omega))
  have ha := ha.kept (hq.2 _ (by omega))
  have hpf := hpf.kept (hq.2 _ (by omega))
  have htx := htx.kept (hq.2 _ (by omega))
  have hS := hS.trans (hq.wide (lo' := g) (hi' := g + 5) (by omega) (by omega))
  refine lv_aload_n E.1 E.2.1 dX6_begin_4 rfl (lv_at hl 0 rfl) ?_
  refine lv_aload_n E.1 E.2.1 dX6_begin_5 rfl (lv_at hl 0 rfl) ?_
  refine lv_iload_n E.1 E.2.1 dX6_begin_6 rfl (lv_at hl 1 rfl) ?_
  refine kVWE (As := [.int (iI (y))]) E cw_X6_95 (c_X6_goBegin G l g σ _ _ _ _ _ _ _ hI (y) (by unfold okI; omega) (by omega)) ho ⟨_, _, rfl⟩ ⟨ho, ha⟩ hL hl.1 rfl rfl (Nat.le_of_ble_eq_true rfl) ⟨Nat.le_of_ble_eq_true rfl, Nat.le_of_ble_eq_true rfl⟩ ⟨Nat.le_of_ble_eq_true rfl, Nat.le_of_ble_eq_true rfl⟩ dX6_begin_7 (fun H2 locs hL hw_ => ?_)
  have hbd := spBegin_b hI (y)
  obtain ⟨⟨ho, ha⟩, hq⟩ := hw_
  have hbf := hbf.kept (hq.2 _ (by omega))
  have hpf := hpf.kept (hq.2 _ (by omega))
  have htx := htx.kept (hq.2 _ (by omega))
  have hS := hS.trans (hq.wide (lo' := g) (hi' := g + 5) (by omega) (by omega))
  refine kVWE (As := [.int (iI ((spBegin σ (y)).1))]) E cw_X6_98 (c_X6_records G l g hs _ _ _ _ _ _ σ pf hpk ((spBegin σ (y)).1) (by unfold okI; omega) (by omega)) ho ⟨_, _, rfl⟩ ⟨ho, hbf, hpf⟩ hL hl.1 rfl rfl (Nat.le_of_ble_eq_true rfl) ⟨Nat.le_of_ble_eq_true rfl, Nat.le_of_ble_eq_true rfl⟩ ⟨Nat.le_of_ble_eq_true rfl, Nat.le_of_ble_eq_true rfl⟩ dX6_begin_10 (fun H3 locs hL hw_ => ?_)
  obtain ⟨⟨pf1, ho, hpf, hpk⟩, hQ⟩ := hw_
  have ha := ha.kept (hQ.2 _ (by omega))
  have hbf := hbf.kept (hQ.2 _ (by omega))
  have htx := htx.kept (hQ.2 _ (by omega))
  have hS := hS.trans hQ.S
  refine e_iret (rm := ({ frames := 5, cells := 0, slots := 0, locals := 111 } : Room)) (v := iI ((spBegin σ (y)).1)) E hL dX6_begin_13 ?_
  exact ⟨rfl, ⟨⟨_, _, _, _, _, _, _, ho, ha, hbf, hpf, hpk, htx⟩, hS⟩⟩

set_option maxHeartbeats 4000000 in
set_option maxRecDepth 100000 in
theorem c_X6_write (G : GG) (l : Launch) (g : Nat) (σ : St) (hs : List St) (tx : Nat → Int) (len : Nat) (hI : Inv σ) (hT : TxOk tx len) (y z : Int) (hy : okI y) (hz : okI z) (hga : G.2.2 ≤ g) : Ct G l yX6_write cX6_write 3 (some .int) ({ frames := 3, cells := 0, slots := 0, locals := 69 } : Room) [.ref (g), .int (iI (y)), .int (iI (z))] (fun H => MAt G g σ hs tx len H) (WE (iI (spWrite σ y z).1) (MP G g (spWrite σ y z).2 (hsA σ hs (spWrite σ y z).1) tx len)) := by
  refine Ct.of (by decide +kernel) (Nat.le_of_ble_eq_true rfl) ?_
  intro p e s m args below meth c ls E hnm hP hl
  obtain ⟨bf, pf, v6, v7, v8, v9, v10, ho, ha, hbf, hpf, hpk, htx⟩ := hP
  have i1 := hI.mn12
  have i2 := hI.nx240
  have hT80 := hT.1
  have hp4 := hpk.1
  have hS : FrS g (g + 5) s.heap s.heap := FrS.rf
  obtain ⟨hy1, hy2⟩ := hy
  obtain ⟨hz1, hz2⟩ := hz
  have hl : lv_has ls 3 [(0, .ref (g)), (1, .int (iI (y))), (2, .int (iI (z)))] := hl
  have hL : Lk G [] := Lk.nil
  generalize ([] : List Loc) = locs at hL ⊢
  refine lv_aload_n E.1 E.2.1 dX6_write_0 rfl (lv_at hl 0 rfl) ?_
  refine kVWV (As := []) E cw_X6_92 (c_X6_begins G l g σ _ _ _ _ _ _ _ bf (by omega)) ho ⟨_, _, rfl⟩ ⟨ho, ha, hbf⟩ hL hl.1 rfl rfl (Nat.le_of_ble_eq_true rfl) ⟨Nat.le_of_ble_eq_true rfl, Nat.le_of_ble_eq_true rfl⟩ ⟨Nat.le_of_ble_eq_true rfl, Nat.le_of_ble_eq_true rfl⟩ dX6_write_1 (fun H1 locs hL hw_ => ?_)
  obtain ⟨hbf, hq⟩ := hw_
  have ho := ho.kept (hq.2 _ (by omega))
  have ha := ha.kept (hq.2 _ (by omega))
  have hpf := hpf.kept (hq.2 _ (by omega))
  have htx := htx.kept (hq.2 _ (by omega))
  have hS := hS.trans (hq.wide (lo' := g) (hi' := g + 5) (by omega) (by omega))
  refine lv_aload_n E.1 E.2.1 dX6_write_4 rfl (lv_at hl 0 rfl) ?_
  refine lv_aload_n E.1 E.2.1 dX6_write_5 rfl (lv_at hl 0 rfl) ?_
  refine lv_iload_n E.1 E.2.1 dX6_write_6 rfl (lv_at hl 1 rfl) ?_
  refine lv_iload_n E.1 E.2.1 dX6_write_7 rfl (lv_at hl 2 rfl) ?_
  refine kVWE (As := [.int (iI (y)), .int (iI (z))]) E cw_X6_101 (c_X6_goWrite G l g σ _ _ _ _ _ _ _ hI (y) (z) (by unfold okI; omega) (by unfold okI; omega) (by omega)) ho ⟨_, _, rfl⟩ ⟨ho, ha⟩ hL hl.1 rfl rfl (Nat.le_of_ble_eq_true rfl) ⟨Nat.le_of_ble_eq_true rfl, Nat.le_of_ble_eq_true rfl⟩ ⟨Nat.le_of_ble_eq_true rfl, Nat.le_of_ble_eq_true rfl⟩ dX6_write_8 (fun H2 locs hL hw_ => ?_)
  have hbd := spWrite_b hI (y) (z)
  obtain ⟨⟨ho, ha⟩, hq⟩ := hw_
  have hbf := hbf.kept (hq.2 _ (by omega))
  have hpf := hpf.kept (hq.2 _ (by omega))
  have htx := htx.kept (hq.2 _ (by omega))
  have hS := hS.trans (hq.wide (lo' := g) (hi' := g + 5) (by omega) (by omega))
  refine kVWE (As := [.int (iI ((spWrite σ (y) (z)).1))]) E cw_X6_98 (c_X6_records G l g hs _ _ _ _ _ _ σ pf hpk ((spWrite σ (y) (z)).1) (by unfold okI; omega) (by omega)) ho ⟨_, _, rfl⟩ ⟨ho, hbf, hpf⟩ hL hl.1 rfl rfl (Nat.le_of_ble_eq_true rfl) ⟨Nat.le_of_ble_eq_true rfl, Nat.le_of_ble_eq_true rfl⟩ ⟨Nat.le_of_ble_eq_true rfl, Nat.le_of_ble_eq_true rfl⟩ dX6_write_11 (fun H3 locs hL hw_ => ?_)
  obtain ⟨⟨pf1, ho, hpf, hpk⟩, hQ⟩ := hw_
  have ha := ha.kept (hQ.2 _ (by omega))
  have hbf := hbf.kept (hQ.2 _ (by omega))
  have htx := htx.kept (hQ.2 _ (by omega))
  have hS := hS.trans hQ.S
  refine e_iret (rm := ({ frames := 3, cells := 0, slots := 0, locals := 69 } : Room)) (v := iI ((spWrite σ (y) (z)).1)) E hL dX6_write_14 ?_
  exact ⟨rfl, ⟨⟨_, _, _, _, _, _, _, ho, ha, hbf, hpf, hpk, htx⟩, hS⟩⟩

set_option maxHeartbeats 4000000 in
set_option maxRecDepth 100000 in
theorem c_X6_remove (G : GG) (l : Launch) (g : Nat) (σ : St) (hs : List St) (tx : Nat → Int) (len : Nat) (hI : Inv σ) (hT : TxOk tx len) (y : Int) (hy : okI y) (hga : G.2.2 ≤ g) : Ct G l yX6_remove cX6_remove 2 (some .int) ({ frames := 3, cells := 0, slots := 0, locals := 67 } : Room) [.ref (g), .int (iI (y))] (fun H => MAt G g σ hs tx len H) (WE (iI (spRemove σ y).1) (MP G g (spRemove σ y).2 (hsA σ hs (spRemove σ y).1) tx len)) := by
  refine Ct.of (by decide +kernel) (Nat.le_of_ble_eq_true rfl) ?_
  intro p e s m args below meth c ls E hnm hP hl
  obtain ⟨bf, pf, v6, v7, v8, v9, v10, ho, ha, hbf, hpf, hpk, htx⟩ := hP
  have i1 := hI.mn12
  have i2 := hI.nx240
  have hT80 := hT.1
  have hp4 := hpk.1
  have hS : FrS g (g + 5) s.heap s.heap := FrS.rf
  obtain ⟨hy1, hy2⟩ := hy
  have hl : lv_has ls 2 [(0, .ref (g)), (1, .int (iI (y)))] := hl
  have hL : Lk G [] := Lk.nil
  generalize ([] : List Loc) = locs at hL ⊢
  refine lv_aload_n E.1 E.2.1 dX6_remove_0 rfl (lv_at hl 0 rfl) ?_
  refine kVWV (As := []) E cw_X6_92 (c_X6_begins G l g σ _ _ _ _ _ _ _ bf (by omega)) ho ⟨_, _, rfl⟩ ⟨ho, ha, hbf⟩ hL hl.1 rfl rfl (Nat.le_of_ble_eq_true rfl) ⟨Nat.le_of_ble_eq_true rfl, Nat.le_of_ble_eq_true rfl⟩ ⟨Nat.le_of_ble_eq_true rfl, Nat.le_of_ble_eq_true rfl⟩ dX6_remove_1 (fun H1 locs hL hw_ => ?_)
  obtain ⟨hbf, hq⟩ := hw_
  have ho := ho.kept (hq.2 _ (by omega))
  have ha := ha.kept (hq.2 _ (by omega))
  have hpf := hpf.kept (hq.2 _ (by omega))
  have htx := htx.kept (hq.2 _ (by omega))
  have hS := hS.trans (hq.wide (lo' := g) (hi' := g + 5) (by omega) (by omega))
  refine lv_aload_n E.1 E.2.1 dX6_remove_4 rfl (lv_at hl 0 rfl) ?_
  refine lv_aload_n E.1 E.2.1 dX6_remove_5 rfl (lv_at hl 0 rfl) ?_
  refine lv_iload_n E.1 E.2.1 dX6_remove_6 rfl (lv_at hl 1 rfl) ?_
  refine kVWE (As := [.int (iI (y))]) E cw_X6_104 (c_X6_goRemove G l g σ _ _ _ _ _ _ _ hI (y) (by unfold okI; omega) (by omega)) ho ⟨_, _, rfl⟩ ⟨ho, ha⟩ hL hl.1 rfl rfl (Nat.le_of_ble_eq_true rfl) ⟨Nat.le_of_ble_eq_true rfl, Nat.le_of_ble_eq_true rfl⟩ ⟨Nat.le_of_ble_eq_true rfl, Nat.le_of_ble_eq_true rfl⟩ dX6_remove_7 (fun H2 locs hL hw_ => ?_)
  have hbd := spRemove_b (σ := σ) (y)
  obtain ⟨⟨ho, ha⟩, hq⟩ := hw_
  have hbf := hbf.kept (hq.2 _ (by omega))
  have hpf := hpf.kept (hq.2 _ (by omega))
  have htx := htx.kept (hq.2 _ (by omega))
  have hS := hS.trans (hq.wide (lo' := g) (hi' := g + 5) (by omega) (by omega))
  refine kVWE (As := [.int (iI ((spRemove σ (y)).1))]) E cw_X6_98 (c_X6_records G l g hs _ _ _ _ _ _ σ pf hpk ((spRemove σ (y)).1) (by unfold okI; omega) (by omega)) ho ⟨_, _, rfl⟩ ⟨ho, hbf, hpf⟩ hL hl.1 rfl rfl (Nat.le_of_ble_eq_true rfl) ⟨Nat.le_of_ble_eq_true rfl, Nat.le_of_ble_eq_true rfl⟩ ⟨Nat.le_of_ble_eq_true rfl, Nat.le_of_ble_eq_true rfl⟩ dX6_remove_10 (fun H3 locs hL hw_ => ?_)
  obtain ⟨⟨pf1, ho, hpf, hpk⟩, hQ⟩ := hw_
  have ha := ha.kept (hQ.2 _ (by omega))
  have hbf := hbf.kept (hQ.2 _ (by omega))
  have htx := htx.kept (hQ.2 _ (by omega))
  have hS := hS.trans hQ.S
  refine e_iret (rm := ({ frames := 3, cells := 0, slots := 0, locals := 67 } : Room)) (v := iI ((spRemove σ (y)).1)) E hL dX6_remove_13 ?_
  exact ⟨rfl, ⟨⟨_, _, _, _, _, _, _, ho, ha, hbf, hpf, hpk, htx⟩, hS⟩⟩

set_option maxHeartbeats 4000000 in
set_option maxRecDepth 100000 in
theorem c_X6_keep (G : GG) (l : Launch) (g : Nat) (σ : St) (hs : List St) (tx : Nat → Int) (len : Nat) (hI : Inv σ) (hT : TxOk tx len) (y z : Int) (hy : okI y) (hz : okI z) (hga : G.2.2 ≤ g) : Ct G l yX6_keep cX6_keep 3 (some .int) ({ frames := 4, cells := 0, slots := 0, locals := 89 } : Room) [.ref (g), .int (iI (y)), .int (iI (z))] (fun H => MAt G g σ hs tx len H) (WE (iI (spKeep σ y z).1) (MP G g (spKeep σ y z).2 (hsA σ hs (spKeep σ y z).1) tx len)) := by
  refine Ct.of (by decide +kernel) (Nat.le_of_ble_eq_true rfl) ?_
  intro p e s m args below meth c ls E hnm hP hl
  obtain ⟨bf, pf, v6, v7, v8, v9, v10, ho, ha, hbf, hpf, hpk, htx⟩ := hP
  have i1 := hI.mn12
  have i2 := hI.nx240
  have hT80 := hT.1
  have hp4 := hpk.1
  have hS : FrS g (g + 5) s.heap s.heap := FrS.rf
  obtain ⟨hy1, hy2⟩ := hy
  obtain ⟨hz1, hz2⟩ := hz
  have hl : lv_has ls 3 [(0, .ref (g)), (1, .int (iI (y))), (2, .int (iI (z)))] := hl
  have hL : Lk G [] := Lk.nil
  generalize ([] : List Loc) = locs at hL ⊢
  refine lv_aload_n E.1 E.2.1 dX6_keep_0 rfl (lv_at hl 0 rfl) ?_
  refine kVWV (As := []) E cw_X6_92 (c_X6_begins G l g σ _ _ _ _ _ _ _ bf (by omega)) ho ⟨_, _, rfl⟩ ⟨ho, ha, hbf⟩ hL hl.1 rfl rfl (Nat.le_of_ble_eq_true rfl) ⟨Nat.le_of_ble_eq_true rfl, Nat.le_of_ble_eq_true rfl⟩ ⟨Nat.le_of_ble_eq_true rfl, Nat.le_of_ble_eq_true rfl⟩ dX6_keep_1 (fun H1 locs hL hw_ => ?_)
  obtain ⟨hbf, hq⟩ := hw_
  have ho := ho.kept (hq.2 _ (by omega))
  have ha := ha.kept (hq.2 _ (by omega))
  have hpf := hpf.kept (hq.2 _ (by omega))
  have htx := htx.kept (hq.2 _ (by omega))
  have hS := hS.trans (hq.wide (lo' := g) (hi' := g + 5) (by omega) (by omega))
  refine lv_aload_n E.1 E.2.1 dX6_keep_4 rfl (lv_at hl 0 rfl) ?_
  refine lv_aload_n E.1 E.2.1 dX6_keep_5 rfl (lv_at hl 0 rfl) ?_
  refine lv_iload_n E.1 E.2.1 dX6_keep_6 rfl (lv_at hl 1 rfl) ?_
  refine lv_iload_n E.1 E.2.1 dX6_keep_7 rfl (lv_at hl 2 rfl) ?_
  refine kVWE (As := [.int (iI (y)), .int (iI (z))]) E cw_X6_107 (c_X6_goKeep G l g σ _ _ _ _ _ _ _ hI (y) (z) (by unfold okI; omega) (by unfold okI; omega) (by omega)) ho ⟨_, _, rfl⟩ ⟨ho, ha⟩ hL hl.1 rfl rfl (Nat.le_of_ble_eq_true rfl) ⟨Nat.le_of_ble_eq_true rfl, Nat.le_of_ble_eq_true rfl⟩ ⟨Nat.le_of_ble_eq_true rfl, Nat.le_of_ble_eq_true rfl⟩ dX6_keep_8 (fun H2 locs hL hw_ => ?_)
  have hbd := spKeep_b hI (y) (z)
  obtain ⟨⟨ho, ha⟩, hq⟩ := hw_
  have hbf := hbf.kept (hq.2 _ (by omega))
  have hpf := hpf.kept (hq.2 _ (by omega))
  have htx := htx.kept (hq.2 _ (by omega))
  have hS := hS.trans (hq.wide (lo' := g) (hi' := g + 5) (by omega) (by omega))
  refine kVWE (As := [.int (iI ((spKeep σ (y) (z)).1))]) E cw_X6_98 (c_X6_records G l g hs _ _ _ _ _ _ σ pf hpk ((spKeep σ (y) (z)).1) (by unfold okI; omega) (by omega)) ho ⟨_, _, rfl⟩ ⟨ho, hbf, hpf⟩ hL hl.1 rfl rfl (Nat.le_of_ble_eq_true rfl) ⟨Nat.le_of_ble_eq_true rfl, Nat.le_of_ble_eq_true rfl⟩ ⟨Nat.le_of_ble_eq_true rfl, Nat.le_of_ble_eq_true rfl⟩ dX6_keep_11 (fun H3 locs hL hw_ => ?_)
  obtain ⟨⟨pf1, ho, hpf, hpk⟩, hQ⟩ := hw_
  have ha := ha.kept (hQ.2 _ (by omega))
  have hbf := hbf.kept (hQ.2 _ (by omega))
  have htx := htx.kept (hQ.2 _ (by omega))
  have hS := hS.trans hQ.S
  refine e_iret (rm := ({ frames := 4, cells := 0, slots := 0, locals := 89 } : Room)) (v := iI ((spKeep σ (y) (z)).1)) E hL dX6_keep_14 ?_
  exact ⟨rfl, ⟨⟨_, _, _, _, _, _, _, ho, ha, hbf, hpf, hpk, htx⟩, hS⟩⟩

set_option maxHeartbeats 4000000 in
set_option maxRecDepth 100000 in
theorem c_X6_close (G : GG) (l : Launch) (g : Nat) (σ : St) (hs : List St) (tx : Nat → Int) (len : Nat) (hI : Inv σ) (hT : TxOk tx len) (hga : G.2.2 ≤ g) : Ct G l yX6_close cX6_close 1 (some .int) ({ frames := 4, cells := 0, slots := 0, locals := 86 } : Room) [.ref (g)] (fun H => MAt G g σ hs tx len H) (WE (iI (spClose σ).1) (MP G g (spClose σ).2 (hsA σ hs (spClose σ).1) tx len)) := by
  refine Ct.of (by decide +kernel) (Nat.le_of_ble_eq_true rfl) ?_
  intro p e s m args below meth c ls E hnm hP hl
  obtain ⟨bf, pf, v6, v7, v8, v9, v10, ho, ha, hbf, hpf, hpk, htx⟩ := hP
  have i1 := hI.mn12
  have i2 := hI.nx240
  have hT80 := hT.1
  have hp4 := hpk.1
  have hS : FrS g (g + 5) s.heap s.heap := FrS.rf
  have hl : lv_has ls 1 [(0, .ref (g))] := hl
  have hL : Lk G [] := Lk.nil
  generalize ([] : List Loc) = locs at hL ⊢
  refine lv_aload_n E.1 E.2.1 dX6_close_0 rfl (lv_at hl 0 rfl) ?_
  refine kVWV (As := []) E cw_X6_92 (c_X6_begins G l g σ _ _ _ _ _ _ _ bf (by omega)) ho ⟨_, _, rfl⟩ ⟨ho, ha, hbf⟩ hL hl.1 rfl rfl (Nat.le_of_ble_eq_true rfl) ⟨Nat.le_of_ble_eq_true rfl, Nat.le_of_ble_eq_true rfl⟩ ⟨Nat.le_of_ble_eq_true rfl, Nat.le_of_ble_eq_true rfl⟩ dX6_close_1 (fun H1 locs hL hw_ => ?_)
  obtain ⟨hbf, hq⟩ := hw_
  have ho := ho.kept (hq.2 _ (by omega))
  have ha := ha.kept (hq.2 _ (by omega))
  have hpf := hpf.kept (hq.2 _ (by omega))
  have htx := htx.kept (hq.2 _ (by omega))
  have hS := hS.trans (hq.wide (lo' := g) (hi' := g + 5) (by omega) (by omega))
  refine lv_aload_n E.1 E.2.1 dX6_close_4 rfl (lv_at hl 0 rfl) ?_
  refine lv_aload_n E.1 E.2.1 dX6_close_5 rfl (lv_at hl 0 rfl) ?_
  refine kVWE (As := []) E cw_X6_110 (c_X6_goClose G l g σ _ _ _ _ _ _ _ hI   (by omega)) ho ⟨_, _, rfl⟩ ⟨ho, ha⟩ hL hl.1 rfl rfl (Nat.le_of_ble_eq_true rfl) ⟨Nat.le_of_ble_eq_true rfl, Nat.le_of_ble_eq_true rfl⟩ ⟨Nat.le_of_ble_eq_true rfl, Nat.le_of_ble_eq_true rfl⟩ dX6_close_6 (fun H2 locs hL hw_ => ?_)
  have hbd := spClose_b hI 
  obtain ⟨⟨ho, ha⟩, hq⟩ := hw_
  have hbf := hbf.kept (hq.2 _ (by omega))
  have hpf := hpf.kept (hq.2 _ (by omega))
  have htx := htx.kept (hq.2 _ (by omega))
  have hS := hS.trans (hq.wide (lo' := g) (hi' := g + 5) (by omega) (by omega))
  refine kVWE (As := [.int (iI ((spClose σ).1))]) E cw_X6_98 (c_X6_records G l g hs _ _ _ _ _ _ σ pf hpk ((spClose σ).1) (by unfold okI; omega) (by omega)) ho ⟨_, _, rfl⟩ ⟨ho, hbf, hpf⟩ hL hl.1 rfl rfl (Nat.le_of_ble_eq_true rfl) ⟨Nat.le_of_ble_eq_true rfl, Nat.le_of_ble_eq_true rfl⟩ ⟨Nat.le_of_ble_eq_true rfl, Nat.le_of_ble_eq_true rfl⟩ dX6_close_9 (fun H3 locs hL hw_ => ?_)
  obtain ⟨⟨pf1, ho, hpf, hpk⟩, hQ⟩ := hw_
  have ha := ha.kept (hQ.2 _ (by omega))
  have hbf := hbf.kept (hQ.2 _ (by omega))
  have htx := htx.kept (hQ.2 _ (by omega))
  have hS := hS.trans hQ.S
  refine e_iret (rm := ({ frames := 4, cells := 0, slots := 0, locals := 86 } : Room)) (v := iI ((spClose σ).1)) E hL dX6_close_12 ?_
  exact ⟨rfl, ⟨⟨_, _, _, _, _, _, _, ho, ha, hbf, hpf, hpk, htx⟩, hS⟩⟩

set_option maxHeartbeats 4000000 in
set_option maxRecDepth 100000 in
theorem c_X6_eject (G : GG) (l : Launch) (g : Nat) (σ : St) (hs : List St) (tx : Nat → Int) (len : Nat) (hI : Inv σ) (hT : TxOk tx len) (hga : G.2.2 ≤ g) : Ct G l yX6_eject cX6_eject 1 (some .int) ({ frames := 3, cells := 0, slots := 0, locals := 64 } : Room) [.ref (g)] (fun H => MAt G g σ hs tx len H) (WE (iI (spEject σ).1) (MP G g (spEject σ).2 (hsA σ hs (spEject σ).1) tx len)) := by
  refine Ct.of (by decide +kernel) (Nat.le_of_ble_eq_true rfl) ?_
  intro p e s m args below meth c ls E hnm hP hl
  obtain ⟨bf, pf, v6, v7, v8, v9, v10, ho, ha, hbf, hpf, hpk, htx⟩ := hP
  have i1 := hI.mn12
  have i2 := hI.nx240
  have hT80 := hT.1
  have hp4 := hpk.1
  have hS : FrS g (g + 5) s.heap s.heap := FrS.rf
  have hl : lv_has ls 1 [(0, .ref (g))] := hl
  have hL : Lk G [] := Lk.nil
  generalize ([] : List Loc) = locs at hL ⊢
  refine lv_aload_n E.1 E.2.1 dX6_eject_0 rfl (lv_at hl 0 rfl) ?_
  refine kVWV (As := []) E cw_X6_92 (c_X6_begins G l g σ _ _ _ _ _ _ _ bf (by omega)) ho ⟨_, _, rfl⟩ ⟨ho, ha, hbf⟩ hL hl.1 rfl rfl (Nat.le_of_ble_eq_true rfl) ⟨Nat.le_of_ble_eq_true rfl, Nat.le_of_ble_eq_true rfl⟩ ⟨Nat.le_of_ble_eq_true rfl, Nat.le_of_ble_eq_true rfl⟩ dX6_eject_1 (fun H1 locs hL hw_ => ?_)
  obtain ⟨hbf, hq⟩ := hw_
  have ho := ho.kept (hq.2 _ (by omega))
  have ha := ha.kept (hq.2 _ (by omega))
  have hpf := hpf.kept (hq.2 _ (by omega))
  have htx := htx.kept (hq.2 _ (by omega))
  have hS := hS.trans (hq.wide (lo' := g) (hi' := g + 5) (by omega) (by omega))
  refine lv_aload_n E.1 E.2.1 dX6_eject_4 rfl (lv_at hl 0 rfl) ?_
  refine lv_aload_n E.1 E.2.1 dX6_eject_5 rfl (lv_at hl 0 rfl) ?_
  refine kVWE (As := []) E cw_X6_113 (c_X6_goEject G l g σ _ _ _ _ _ _ _ hI   (by omega)) ho ⟨_, _, rfl⟩ ⟨ho, ha⟩ hL hl.1 rfl rfl (Nat.le_of_ble_eq_true rfl) ⟨Nat.le_of_ble_eq_true rfl, Nat.le_of_ble_eq_true rfl⟩ ⟨Nat.le_of_ble_eq_true rfl, Nat.le_of_ble_eq_true rfl⟩ dX6_eject_6 (fun H2 locs hL hw_ => ?_)
  have hbd := spEject_b (σ := σ) 
  obtain ⟨⟨ho, ha⟩, hq⟩ := hw_
  have hbf := hbf.kept (hq.2 _ (by omega))
  have hpf := hpf.kept (hq.2 _ (by omega))
  have htx := htx.kept (hq.2 _ (by omega))
  have hS := hS.trans (hq.wide (lo' := g) (hi' := g + 5) (by omega) (by omega))
  refine kVWE (As := [.int (iI ((spEject σ).1))]) E cw_X6_98 (c_X6_records G l g hs _ _ _ _ _ _ σ pf hpk ((spEject σ).1) (by unfold okI; omega) (by omega)) ho ⟨_, _, rfl⟩ ⟨ho, hbf, hpf⟩ hL hl.1 rfl rfl (Nat.le_of_ble_eq_true rfl) ⟨Nat.le_of_ble_eq_true rfl, Nat.le_of_ble_eq_true rfl⟩ ⟨Nat.le_of_ble_eq_true rfl, Nat.le_of_ble_eq_true rfl⟩ dX6_eject_9 (fun H3 locs hL hw_ => ?_)
  obtain ⟨⟨pf1, ho, hpf, hpk⟩, hQ⟩ := hw_
  have ha := ha.kept (hQ.2 _ (by omega))
  have hbf := hbf.kept (hQ.2 _ (by omega))
  have htx := htx.kept (hQ.2 _ (by omega))
  have hS := hS.trans hQ.S
  refine e_iret (rm := ({ frames := 3, cells := 0, slots := 0, locals := 64 } : Room)) (v := iI ((spEject σ).1)) E hL dX6_eject_12 ?_
  exact ⟨rfl, ⟨⟨_, _, _, _, _, _, _, ho, ha, hbf, hpf, hpk, htx⟩, hS⟩⟩

set_option maxHeartbeats 4000000 in
set_option maxRecDepth 100000 in
theorem c_X6_repair (G : GG) (l : Launch) (g : Nat) (σ : St) (hs : List St) (tx : Nat → Int) (len : Nat) (hI : Inv σ) (hT : TxOk tx len) (y : Int) (hy : okI y) (hga : G.2.2 ≤ g) : Ct G l yX6_repair cX6_repair 2 (some .int) ({ frames := 4, cells := 0, slots := 0, locals := 88 } : Room) [.ref (g), .int (iI (y))] (fun H => MAt G g σ hs tx len H) (WE (iI (spRepair σ y).1) (MP G g (spRepair σ y).2 (hsA σ hs (spRepair σ y).1) tx len)) := by
  refine Ct.of (by decide +kernel) (Nat.le_of_ble_eq_true rfl) ?_
  intro p e s m args below meth c ls E hnm hP hl
  obtain ⟨bf, pf, v6, v7, v8, v9, v10, ho, ha, hbf, hpf, hpk, htx⟩ := hP
  have i1 := hI.mn12
  have i2 := hI.nx240
  have hT80 := hT.1
  have hp4 := hpk.1
  have hS : FrS g (g + 5) s.heap s.heap := FrS.rf
  obtain ⟨hy1, hy2⟩ := hy
  have hl : lv_has ls 2 [(0, .ref (g)), (1, .int (iI (y)))] := hl
  have hL : Lk G [] := Lk.nil
  generalize ([] : List Loc) = locs at hL ⊢
  refine lv_aload_n E.1 E.2.1 dX6_repair_0 rfl (lv_at hl 0 rfl) ?_
  refine kVWV (As := []) E cw_X6_92 (c_X6_begins G l g σ _ _ _ _ _ _ _ bf (by omega)) ho ⟨_, _, rfl⟩ ⟨ho, ha, hbf⟩ hL hl.1 rfl rfl (Nat.le_of_ble_eq_true rfl) ⟨Nat.le_of_ble_eq_true rfl, Nat.le_of_ble_eq_true rfl⟩ ⟨Nat.le_of_ble_eq_true rfl, Nat.le_of_ble_eq_true rfl⟩ dX6_repair_1 (fun H1 locs hL hw_ => ?_)
  obtain ⟨hbf, hq⟩ := hw_
  have ho := ho.kept (hq.2 _ (by omega))
  have ha := ha.kept (hq.2 _ (by omega))
  have hpf := hpf.kept (hq.2 _ (by omega))
  have htx := htx.kept (hq.2 _ (by omega))
  have hS := hS.trans (hq.wide (lo' := g) (hi' := g + 5) (by omega) (by omega))
  refine lv_aload_n E.1 E.2.1 dX6_repair_4 rfl (lv_at hl 0 rfl) ?_
  refine lv_aload_n E.1 E.2.1 dX6_repair_5 rfl (lv_at hl 0 rfl) ?_
  refine lv_iload_n E.1 E.2.1 dX6_repair_6 rfl (lv_at hl 1 rfl) ?_
  refine kVWE (As := [.int (iI (y))]) E cw_X6_116 (c_X6_goRepair G l g σ _ _ _ _ _ _ _ hI (y) (by unfold okI; omega) (by omega)) ho ⟨_, _, rfl⟩ ⟨ho, ha⟩ hL hl.1 rfl rfl (Nat.le_of_ble_eq_true rfl) ⟨Nat.le_of_ble_eq_true rfl, Nat.le_of_ble_eq_true rfl⟩ ⟨Nat.le_of_ble_eq_true rfl, Nat.le_of_ble_eq_true rfl⟩ dX6_repair_7 (fun H2 locs hL hw_ => ?_)
  have hbd := spRepair_b hI (y)
  obtain ⟨⟨ho, ha⟩, hq⟩ := hw_
  have hbf := hbf.kept (hq.2 _ (by omega))
  have hpf := hpf.kept (hq.2 _ (by omega))
  have htx := htx.kept (hq.2 _ (by omega))
  have hS := hS.trans (hq.wide (lo' := g) (hi' := g + 5) (by omega) (by omega))
  refine kVWE (As := [.int (iI ((spRepair σ (y)).1))]) E cw_X6_98 (c_X6_records G l g hs _ _ _ _ _ _ σ pf hpk ((spRepair σ (y)).1) (by unfold okI; omega) (by omega)) ho ⟨_, _, rfl⟩ ⟨ho, hbf, hpf⟩ hL hl.1 rfl rfl (Nat.le_of_ble_eq_true rfl) ⟨Nat.le_of_ble_eq_true rfl, Nat.le_of_ble_eq_true rfl⟩ ⟨Nat.le_of_ble_eq_true rfl, Nat.le_of_ble_eq_true rfl⟩ dX6_repair_10 (fun H3 locs hL hw_ => ?_)
  obtain ⟨⟨pf1, ho, hpf, hpk⟩, hQ⟩ := hw_
  have ha := ha.kept (hQ.2 _ (by omega))
  have hbf := hbf.kept (hQ.2 _ (by omega))
  have htx := htx.kept (hQ.2 _ (by omega))
  have hS := hS.trans hQ.S
  refine e_iret (rm := ({ frames := 4, cells := 0, slots := 0, locals := 88 } : Room)) (v := iI ((spRepair σ (y)).1)) E hL dX6_repair_13 ?_
  exact ⟨rfl, ⟨⟨_, _, _, _, _, _, _, ho, ha, hbf, hpf, hpk, htx⟩, hS⟩⟩

set_option maxHeartbeats 4000000 in
set_option maxRecDepth 100000 in
theorem c_X6_damage (G : GG) (l : Launch) (g : Nat) (σ : St) (hs : List St) (tx : Nat → Int) (len : Nat) (hI : Inv σ) (hT : TxOk tx len) (y : Int) (hy : okI y) (hga : G.2.2 ≤ g) : Ct G l yX6_damage cX6_damage 2 (some .int) ({ frames := 3, cells := 0, slots := 0, locals := 64 } : Room) [.ref (g), .int (iI (y))] (fun H => MAt G g σ hs tx len H) (WE (iI (spDamage σ y).1) (MP G g (spDamage σ y).2 (hsA σ hs (spDamage σ y).1) tx len)) := by
  refine Ct.of (by decide +kernel) (Nat.le_of_ble_eq_true rfl) ?_
  intro p e s m args below meth c ls E hnm hP hl
  obtain ⟨bf, pf, v6, v7, v8, v9, v10, ho, ha, hbf, hpf, hpk, htx⟩ := hP
  have i1 := hI.mn12
  have i2 := hI.nx240
  have hT80 := hT.1
  have hp4 := hpk.1
  have hS : FrS g (g + 5) s.heap s.heap := FrS.rf
  obtain ⟨hy1, hy2⟩ := hy
  have hl : lv_has ls 2 [(0, .ref (g)), (1, .int (iI (y)))] := hl
  have hL : Lk G [] := Lk.nil
  generalize ([] : List Loc) = locs at hL ⊢
  refine lv_aload_n E.1 E.2.1 dX6_damage_0 rfl (lv_at hl 0 rfl) ?_
  refine kVWV (As := []) E cw_X6_92 (c_X6_begins G l g σ _ _ _ _ _ _ _ bf (by omega)) ho ⟨_, _, rfl⟩ ⟨ho, ha, hbf⟩ hL hl.1 rfl rfl (Nat.le_of_ble_eq_true rfl) ⟨Nat.le_of_ble_eq_true rfl, Nat.le_of_ble_eq_true rfl⟩ ⟨Nat.le_of_ble_eq_true rfl, Nat.le_of_ble_eq_true rfl⟩ dX6_damage_1 (fun H1 locs hL hw_ => ?_)
  obtain ⟨hbf, hq⟩ := hw_
  have ho := ho.kept (hq.2 _ (by omega))
  have ha := ha.kept (hq.2 _ (by omega))
  have hpf := hpf.kept (hq.2 _ (by omega))
  have htx := htx.kept (hq.2 _ (by omega))
  have hS := hS.trans (hq.wide (lo' := g) (hi' := g + 5) (by omega) (by omega))
  refine lv_aload_n E.1 E.2.1 dX6_damage_4 rfl (lv_at hl 0 rfl) ?_
  refine lv_aload_n E.1 E.2.1 dX6_damage_5 rfl (lv_at hl 0 rfl) ?_
  refine lv_iload_n E.1 E.2.1 dX6_damage_6 rfl (lv_at hl 1 rfl) ?_
  refine kVWE (As := [.int (iI (y))]) E cw_X6_119 (c_X6_goDamage G l g σ _ _ _ _ _ _ _ hI (y) (by unfold okI; omega) (by omega)) ho ⟨_, _, rfl⟩ ⟨ho, ha⟩ hL hl.1 rfl rfl (Nat.le_of_ble_eq_true rfl) ⟨Nat.le_of_ble_eq_true rfl, Nat.le_of_ble_eq_true rfl⟩ ⟨Nat.le_of_ble_eq_true rfl, Nat.le_of_ble_eq_true rfl⟩ dX6_damage_7 (fun H2 locs hL hw_ => ?_)
  have hbd := spDamage_b (σ := σ) (y)
  obtain ⟨⟨ho, ha⟩, hq⟩ := hw_
  have hbf := hbf.kept (hq.2 _ (by omega))
  have hpf := hpf.kept (hq.2 _ (by omega))
  have htx := htx.kept (hq.2 _ (by omega))
  have hS := hS.trans (hq.wide (lo' := g) (hi' := g + 5) (by omega) (by omega))
  refine kVWE (As := [.int (iI ((spDamage σ (y)).1))]) E cw_X6_98 (c_X6_records G l g hs _ _ _ _ _ _ σ pf hpk ((spDamage σ (y)).1) (by unfold okI; omega) (by omega)) ho ⟨_, _, rfl⟩ ⟨ho, hbf, hpf⟩ hL hl.1 rfl rfl (Nat.le_of_ble_eq_true rfl) ⟨Nat.le_of_ble_eq_true rfl, Nat.le_of_ble_eq_true rfl⟩ ⟨Nat.le_of_ble_eq_true rfl, Nat.le_of_ble_eq_true rfl⟩ dX6_damage_10 (fun H3 locs hL hw_ => ?_)
  obtain ⟨⟨pf1, ho, hpf, hpk⟩, hQ⟩ := hw_
  have ha := ha.kept (hQ.2 _ (by omega))
  have hbf := hbf.kept (hQ.2 _ (by omega))
  have htx := htx.kept (hQ.2 _ (by omega))
  have hS := hS.trans hQ.S
  refine e_iret (rm := ({ frames := 3, cells := 0, slots := 0, locals := 64 } : Room)) (v := iI ((spDamage σ (y)).1)) E hL dX6_damage_13 ?_
  exact ⟨rfl, ⟨⟨_, _, _, _, _, _, _, ho, ha, hbf, hpf, hpk, htx⟩, hS⟩⟩

set_option maxHeartbeats 4000000 in
set_option maxRecDepth 100000 in
theorem c_X6_set (G : GG) (l : Launch) (g : Nat) (σ : St) (hs : List St) (tx : Nat → Int) (len : Nat) (hI : Inv σ) (hT : TxOk tx len) (y z : Int) (hy : okI y) (hz : okI z) (hga : G.2.2 ≤ g) : Ct G l yX6_set cX6_set 3 (some .int) ({ frames := 2, cells := 0, slots := 0, locals := 46 } : Room) [.ref (g), .int (iI (y)), .int (iI (z))] (fun H => MAt G g σ hs tx len H) (WE (iI (spSet σ y z).1) (MP G g (spSet σ y z).2 (hsA σ hs (spSet σ y z).1) tx len)) := by
  refine Ct.of (by decide +kernel) (Nat.le_of_ble_eq_true rfl) ?_
  intro p e s m args below meth c ls E hnm hP hl
  obtain ⟨bf, pf, v6, v7, v8, v9, v10, ho, ha, hbf, hpf, hpk, htx⟩ := hP
  have i1 := hI.mn12
  have i2 := hI.nx240
  have hT80 := hT.1
  have hp4 := hpk.1
  have hS : FrS g (g + 5) s.heap s.heap := FrS.rf
  obtain ⟨hy1, hy2⟩ := hy
  obtain ⟨hz1, hz2⟩ := hz
  have hl : lv_has ls 3 [(0, .ref (g)), (1, .int (iI (y))), (2, .int (iI (z)))] := hl
  have hL : Lk G [] := Lk.nil
  generalize ([] : List Loc) = locs at hL ⊢
  refine lv_aload_n E.1 E.2.1 dX6_set_0 rfl (lv_at hl 0 rfl) ?_
  refine kVWV (As := []) E cw_X6_92 (c_X6_begins G l g σ _ _ _ _ _ _ _ bf (by omega)) ho ⟨_, _, rfl⟩ ⟨ho, ha, hbf⟩ hL hl.1 rfl rfl (Nat.le_of_ble_eq_true rfl) ⟨Nat.le_of_ble_eq_true rfl, Nat.le_of_ble_eq_true rfl⟩ ⟨Nat.le_of_ble_eq_true rfl, Nat.le_of_ble_eq_true rfl⟩ dX6_set_1 (fun H1 locs hL hw_ => ?_)
  obtain ⟨hbf, hq⟩ := hw_
  have ho := ho.kept (hq.2 _ (by omega))
  have ha := ha.kept (hq.2 _ (by omega))
  have hpf := hpf.kept (hq.2 _ (by omega))
  have htx := htx.kept (hq.2 _ (by omega))
  have hS := hS.trans (hq.wide (lo' := g) (hi' := g + 5) (by omega) (by omega))
  refine lv_aload_n E.1 E.2.1 dX6_set_4 rfl (lv_at hl 0 rfl) ?_
  refine lv_aload_n E.1 E.2.1 dX6_set_5 rfl (lv_at hl 0 rfl) ?_
  refine lv_iload_n E.1 E.2.1 dX6_set_6 rfl (lv_at hl 1 rfl) ?_
  refine lv_iload_n E.1 E.2.1 dX6_set_7 rfl (lv_at hl 2 rfl) ?_
  refine kVWE (As := [.int (iI (y)), .int (iI (z))]) E cw_X6_122 (c_X6_goSet G l g σ _ _ _ _ _ _ _ hI (y) (z) (by unfold okI; omega) (by unfold okI; omega) (by omega)) ho ⟨_, _, rfl⟩ ⟨ho, ha⟩ hL hl.1 rfl rfl (Nat.le_of_ble_eq_true rfl) ⟨Nat.le_of_ble_eq_true rfl, Nat.le_of_ble_eq_true rfl⟩ ⟨Nat.le_of_ble_eq_true rfl, Nat.le_of_ble_eq_true rfl⟩ dX6_set_8 (fun H2 locs hL hw_ => ?_)
  have hbd := spSet_b hI (y) (z)
  obtain ⟨⟨ho, ha⟩, hq⟩ := hw_
  have hbf := hbf.kept (hq.2 _ (by omega))
  have hpf := hpf.kept (hq.2 _ (by omega))
  have htx := htx.kept (hq.2 _ (by omega))
  have hS := hS.trans (hq.wide (lo' := g) (hi' := g + 5) (by omega) (by omega))
  refine kVWE (As := [.int (iI ((spSet σ (y) (z)).1))]) E cw_X6_98 (c_X6_records G l g hs _ _ _ _ _ _ σ pf hpk ((spSet σ (y) (z)).1) (by unfold okI; omega) (by omega)) ho ⟨_, _, rfl⟩ ⟨ho, hbf, hpf⟩ hL hl.1 rfl rfl (Nat.le_of_ble_eq_true rfl) ⟨Nat.le_of_ble_eq_true rfl, Nat.le_of_ble_eq_true rfl⟩ ⟨Nat.le_of_ble_eq_true rfl, Nat.le_of_ble_eq_true rfl⟩ dX6_set_11 (fun H3 locs hL hw_ => ?_)
  obtain ⟨⟨pf1, ho, hpf, hpk⟩, hQ⟩ := hw_
  have ha := ha.kept (hQ.2 _ (by omega))
  have hbf := hbf.kept (hQ.2 _ (by omega))
  have htx := htx.kept (hQ.2 _ (by omega))
  have hS := hS.trans hQ.S
  refine e_iret (rm := ({ frames := 2, cells := 0, slots := 0, locals := 46 } : Room)) (v := iI ((spSet σ (y) (z)).1)) E hL dX6_set_14 ?_
  exact ⟨rfl, ⟨⟨_, _, _, _, _, _, _, ho, ha, hbf, hpf, hpk, htx⟩, hS⟩⟩

set_option maxHeartbeats 4000000 in
set_option maxRecDepth 100000 in
theorem c_X6_append (G : GG) (l : Launch) (g : Nat) (σ : St) (hs : List St) (tx : Nat → Int) (len : Nat) (hI : Inv σ) (hT : TxOk tx len) (y : Int) (hy : okI y) (hga : G.2.2 ≤ g) : Ct G l yX6_append cX6_append 2 (some .int) ({ frames := 1, cells := 0, slots := 0, locals := 22 } : Room) [.ref (g), .int (iI (y))] (fun H => MAt G g σ hs tx len H) (WE (iI (spAppend tx len y).1) (MP G g σ hs (spAppend tx len y).2.1 (spAppend tx len y).2.2)) := by
  refine Ct.of (by decide +kernel) (Nat.le_of_ble_eq_true rfl) ?_
  intro p e s m args below meth c ls E hnm hP hl
  obtain ⟨bf, pf, v6, v7, v8, v9, v10, ho, ha, hbf, hpf, hpk, htx⟩ := hP
  have i1 := hI.mn12
  have i2 := hI.nx240
  have hT80 := hT.1
  have hp4 := hpk.1
  have hS : FrS g (g + 5) s.heap s.heap := FrS.rf
  obtain ⟨hy1, hy2⟩ := hy
  have hl : lv_has ls 2 [(0, .ref (g)), (1, .int (iI (y)))] := hl
  have hL : Lk G [] := Lk.nil
  generalize ([] : List Loc) = locs at hL ⊢
  refine lv_iload_n E.1 E.2.1 dX6_append_0 rfl (lv_at hl 1 rfl) ?_
  refine r_bipush E dX6_append_1 (by decide) ?_
  refine r_bipush E dX6_append_3 (by decide) ?_
  refine kSRE (As := [.int (iI (y)), .int (iI (32)), .int (iI (126))]) E cw_X6_30 (c_X6_in G l (y) (32) (126) (by unfold okI; omega) (by unfold okI; omega) (by unfold okI; omega)) trivial hL hl.1 rfl rfl (Nat.le_of_ble_eq_true rfl) ⟨Nat.le_of_ble_eq_true rfl, Nat.le_of_ble_eq_true rfl⟩ ⟨rfl, rfl⟩ ⟨Nat.le_of_ble_eq_true rfl, Nat.le_of_ble_eq_true rfl⟩ dX6_append_5 (fun locs hL => ?_)
  refine r_bif_ne (tgt := 14) E dX6_append_8 (by decide)  (fun c8 => ?_) (fun c8 => ?_)
  · have c8 := of_decide_eq_true c8
    refine lv_aload_n E.1 E.2.1 dX6_append_14 rfl (lv_at hl 0 rfl) ?_
    refine m_get E ho fw_X6_125 rfl dX6_append_15 ?_
    refine r_bipush E dX6_append_18 (by decide) ?_
    refine r_icmp_ne (tgt := 26) E dX6_append_20 (by decide) (by omega) (by omega) (fun c20 => ?_) (fun c20 => ?_)
    · refine lv_aload_n E.1 E.2.1 dX6_append_26 rfl (lv_at hl 0 rfl) ?_
      refine m_get E ho fw_X6_19 rfl dX6_append_27 ?_
      refine lv_aload_n E.1 E.2.1 dX6_append_30 rfl (lv_at hl 0 rfl) ?_
      refine m_get E ho fw_X6_125 rfl dX6_append_31 ?_
      refine lv_iload_n E.1 E.2.1 dX6_append_34 rfl (lv_at hl 1 rfl) ?_
      refine r_iast E htx (len) rfl (by omega) (by decide) hL (by omega) dX6_append_35 (fun H1 locs hL hO_ hF_ => ?_)
      have ho := ho.kept (hF_.2 _ (by omega))
      have ha := ha.kept (hF_.2 _ (by omega))
      have hbf := hbf.kept (hF_.2 _ (by omega))
      have hpf := hpf.kept (hF_.2 _ (by omega))
      have hS := hS.trans (FrS.of1 (lo := g) (hi := g + 5) hF_ (by omega) (by omega))
      have htx : Ia G (g + 4) 0 80 (upd (fun k => iI (tx k)) (len) (iI (y))) H1 := hO_
      clear hO_
      refine lv_aload_n E.1 E.2.1 dX6_append_36 rfl (lv_at hl 0 rfl) ?_
      refine lv_dup E.1 E.2.1 dX6_append_37 rfl ?_
      refine m_get E ho fw_X6_125 rfl dX6_append_38 ?_
      refine r_const E dX6_append_41 ?_
      refine r_add E dX6_append_42 ?_
      rw [show (((len : Int) + 1 : Int)) = ((len + 1 : Nat) : Int) by omega]
      refine m_put E ho fw_X6_125 fp_X6_5 rfl rfl (Nat.le_of_ble_eq_true rfl) hL (by omega) dX6_append_43 (fun H2 locs hL hO_ hF_ => ?_)
      have ha := ha.kept (hF_.2 _ (by omega))
      have hbf := hbf.kept (hF_.2 _ (by omega))
      have hpf := hpf.kept (hF_.2 _ (by omega))
      have htx := htx.kept (hF_.2 _ (by omega))
      have hS := hS.trans (FrS.of1 (lo := g) (hi := g + 5) hF_ (by omega) (by omega))
      have ho : Ob G (g) 6 [.ref (g + 1), .ref (g + 2), .ref (g + 3), .int (iI ((hs.length : Int))), .ref (g + 4), .int (iI (((len + 1 : Nat) : Int))), .int (v6), .int (v7), .int (v8), .int (v9), .int (v10)] H2 := hO_
      clear hO_
      refine lv_aload_n E.1 E.2.1 dX6_append_46 rfl (lv_at hl 0 rfl) ?_
      refine m_get E ho fw_X6_125 rfl dX6_append_47 ?_
      refine e_iret (rm := ({ frames := 1, cells := 0, slots := 0, locals := 22 } : Room)) (v := iI (((len + 1 : Nat) : Int))) E hL dX6_append_50 ?_
      have hsp : spAppend tx len y = ((len : Int) + 1, va_up tx len y, len + 1) := by unfold spAppend; rw [if_neg (by omega), if_pos (by omega)]
      rw [hsp]
      have htx : Ia G (g + 4) 0 80 (fun k => iI (va_up tx len y k)) H2 := htx.to (fun j _ => by by_cases hj : j = len <;> simp [upd, va_up, hj])
      exact ⟨congrArg (fun z : Int => some (Value.int (iI z))) (show ((len + 1 : Nat) : Int) = (len : Int) + 1 by omega), ⟨⟨_, _, _, _, _, _, _, ho, ha, hbf, hpf, hpk, htx⟩, hS⟩⟩
    · refine r_bipush E dX6_append_23 (by decide) ?_
      refine e_iret (rm := ({ frames := 1, cells := 0, slots := 0, locals := 22 } : Room)) (v := iI ((-4))) E hL dX6_append_25 ?_
      have hsp : spAppend tx len y = (-4, tx, len) := by unfold spAppend; rw [if_neg (by omega), if_neg (by omega)]
      rw [hsp]
      exact ⟨rfl, ⟨⟨_, _, _, _, _, _, _, ho, ha, hbf, hpf, hpk, htx⟩, hS⟩⟩
  · have c8 := of_decide_eq_false c8
    refine r_bipush E dX6_append_11 (by decide) ?_
    refine e_iret (rm := ({ frames := 1, cells := 0, slots := 0, locals := 22 } : Room)) (v := iI ((-2))) E hL dX6_append_13 ?_
    have hsp : spAppend tx len y = (-2, tx, len) := by unfold spAppend; rw [if_pos (by omega)]
    rw [hsp]
    exact ⟨rfl, ⟨⟨_, _, _, _, _, _, _, ho, ha, hbf, hpf, hpk, htx⟩, hS⟩⟩

set_option maxHeartbeats 4000000 in
set_option maxRecDepth 100000 in
theorem c_X6_clearText (G : GG) (l : Launch) (g : Nat) (σ : St) (hs : List St) (tx : Nat → Int) (len : Nat) (hI : Inv σ) (hT : TxOk tx len) (hga : G.2.2 ≤ g) : Ct G l yX6_clearText cX6_clearText 2 (some .int) ({ frames := 0, cells := 0, slots := 0, locals := 0 } : Room) [.ref (g)] (fun H => MAt G g σ hs tx len H) (WE (iI (len : Int)) (MP G g σ hs tx 0)) := by
  refine Ct.of (by decide +kernel) (Nat.le_of_ble_eq_true rfl) ?_
  intro p e s m args below meth c ls E hnm hP hl
  obtain ⟨bf, pf, v6, v7, v8, v9, v10, ho, ha, hbf, hpf, hpk, htx⟩ := hP
  have i1 := hI.mn12
  have i2 := hI.nx240
  have hT80 := hT.1
  have hp4 := hpk.1
  have hS : FrS g (g + 5) s.heap s.heap := FrS.rf
  have hl : lv_has ls 2 [(0, .ref (g))] := hl
  have hL : Lk G [] := Lk.nil
  generalize ([] : List Loc) = locs at hL ⊢
  refine lv_aload_n E.1 E.2.1 dX6_clearText_0 rfl (lv_at hl 0 rfl) ?_
  refine m_get E ho fw_X6_125 rfl dX6_clearText_1 ?_
  refine lv_istore_n (lv' := [(1, .int (iI ((len : Int)))), (0, .ref (g))]) E.1 E.2.1 dX6_clearText_4 rfl hl (by decide) rfl (fun ls hl => ?_)
  refine lv_aload_n E.1 E.2.1 dX6_clearText_5 rfl (lv_at hl 1 rfl) ?_
  refine r_const E dX6_clearText_6 ?_
  refine m_put E ho fw_X6_125 fp_X6_5 rfl rfl (Nat.le_of_ble_eq_true rfl) hL (by omega) dX6_clearText_7 (fun H1 locs hL hO_ hF_ => ?_)
  have ha := ha.kept (hF_.2 _ (by omega))
  have hbf := hbf.kept (hF_.2 _ (by omega))
  have hpf := hpf.kept (hF_.2 _ (by omega))
  have htx := htx.kept (hF_.2 _ (by omega))
  have hS := hS.trans (FrS.of1 (lo := g) (hi := g + 5) hF_ (by omega) (by omega))
  have ho : Ob G (g) 6 [.ref (g + 1), .ref (g + 2), .ref (g + 3), .int (iI ((hs.length : Int))), .ref (g + 4), .int (iI (0)), .int (v6), .int (v7), .int (v8), .int (v9), .int (v10)] H1 := hO_
  clear hO_
  refine lv_iload_n E.1 E.2.1 dX6_clearText_10 rfl (lv_at hl 0 rfl) ?_
  refine e_iret (rm := ({ frames := 0, cells := 0, slots := 0, locals := 0 } : Room)) (v := iI ((len : Int))) E hL dX6_clearText_11 ?_
  exact ⟨rfl, ⟨⟨_, _, _, _, _, _, _, ho, ha, hbf, hpf, hpk, htx⟩, hS⟩⟩

set_option maxHeartbeats 4000000 in
set_option maxRecDepth 100000 in
theorem c_X6_undo (G : GG) (l : Launch) (g : Nat) (σ : St) (hs : List St) (tx : Nat → Int) (len : Nat) (hI : Inv σ) (hT : TxOk tx len) (hga : G.2.2 ≤ g) : Ct G l yX6_undo cX6_undo 1 (some .int) ({ frames := 1, cells := 0, slots := 0, locals := 24 } : Room) [.ref (g)] (fun H => MAt G g σ hs tx len H) (WE (iI (spUndo σ hs).1) (MP G g (spUndo σ hs).2.1 (spUndo σ hs).2.2 tx len)) := by
  refine Ct.of (by decide +kernel) (Nat.le_of_ble_eq_true rfl) ?_
  intro p e s m args below meth c ls E hnm hP hl
  obtain ⟨bf, pf, v6, v7, v8, v9, v10, ho, ha, hbf, hpf, hpk, htx⟩ := hP
  have i1 := hI.mn12
  have i2 := hI.nx240
  have hT80 := hT.1
  have hp4 := hpk.1
  have hS : FrS g (g + 5) s.heap s.heap := FrS.rf
  have hl : lv_has ls 1 [(0, .ref (g))] := hl
  have hL : Lk G [] := Lk.nil
  generalize ([] : List Loc) = locs at hL ⊢
  refine lv_aload_n E.1 E.2.1 dX6_undo_0 rfl (lv_at hl 0 rfl) ?_
  refine m_get E ho fw_X6_26 rfl dX6_undo_1 ?_
  refine r_if_ne (tgt := 10) E dX6_undo_4 (by decide) (by omega) (fun c4 => ?_) (fun c4 => ?_)
  · refine lv_aload_n E.1 E.2.1 dX6_undo_10 rfl (lv_at hl 0 rfl) ?_
    refine lv_dup E.1 E.2.1 dX6_undo_11 rfl ?_
    refine m_get E ho fw_X6_26 rfl dX6_undo_12 ?_
    refine r_const E dX6_undo_15 ?_
    refine r_sub E dX6_undo_16 ?_
    have hne : ¬ hs = [] := fun h => c4 (by rw [h]; rfl)
    have hln : 0 < hs.length := List.length_pos_iff.mpr hne
    rw [show (((hs.length : Int) - 1 : Int)) = (hs.dropLast.length : Int) by (rw [List.length_dropLast]; omega)]
    refine m_put E ho fw_X6_26 fp_X6_3 rfl rfl (Nat.le_of_ble_eq_true rfl) hL (by omega) dX6_undo_17 (fun H1 locs hL hO_ hF_ => ?_)
    have ha := ha.kept (hF_.2 _ (by omega))
    have hbf := hbf.kept (hF_.2 _ (by omega))
    have hpf := hpf.kept (hF_.2 _ (by omega))
    have htx := htx.kept (hF_.2 _ (by omega))
    have hS := hS.trans (FrS.of1 (lo := g) (hi := g + 5) hF_ (by omega) (by omega))
    have ho : Ob G (g) 6 [.ref (g + 1), .ref (g + 2), .ref (g + 3), .int (iI ((hs.dropLast.length : Int))), .ref (g + 4), .int (iI ((len : Int))), .int (v6), .int (v7), .int (v8), .int (v9), .int (v10)] H1 := hO_
    clear hO_
    have hdl : hs.dropLast.length < 4 := by rw [List.length_dropLast]; omega
    refine lv_aload_n E.1 E.2.1 dX6_undo_20 rfl (lv_at hl 0 rfl) ?_
    refine m_get E ho fw_X6_16 rfl dX6_undo_21 ?_
    refine r_sipush E dX6_undo_24 (by decide) ?_
    refine lv_aload_n E.1 E.2.1 dX6_undo_27 rfl (lv_at hl 0 rfl) ?_
    refine m_get E ho fw_X6_26 rfl dX6_undo_28 ?_
    refine r_mul E dX6_undo_31 ?_
    refine lv_aload_n E.1 E.2.1 dX6_undo_32 rfl (lv_at hl 0 rfl) ?_
    refine m_get E ho fw_X6_7 rfl dX6_undo_33 ?_
    refine r_const E dX6_undo_36 ?_
    rw [show ((344 : Int) * (hs.dropLast.length : Int)) = ((344 * hs.dropLast.length : Nat) : Int) by omega]
    refine kSWV (As := [.ref (g + 3), .int (iI ((344 * hs.dropLast.length : Nat))), .ref (g + 1), .int (iI (0))]) E cw_X6_22 (c_X6_copies G l (g + 3) (g + 1) 1376 344 (344 * hs.dropLast.length) (0) (pf) (encI σ) (by omega) (by omega) (by omega) (by omega) (by omega) (by omega)) ⟨hpf, ha⟩ hL hl.1 rfl rfl (Nat.le_of_ble_eq_true rfl) ⟨Nat.le_of_ble_eq_true rfl, Nat.le_of_ble_eq_true rfl⟩ ⟨Nat.le_of_ble_eq_true rfl, Nat.le_of_ble_eq_true rfl⟩ dX6_undo_37 (fun H2 locs hL hw_ => ?_)
    obtain ⟨ha, hq⟩ := hw_
    have ho := ho.kept (hq.2 _ (by omega))
    have hbf := hbf.kept (hq.2 _ (by omega))
    have hpf := hpf.kept (hq.2 _ (by omega))
    have htx := htx.kept (hq.2 _ (by omega))
    have hS := hS.trans (hq.wide (lo' := g) (hi' := g + 5) (by omega) (by omega))
    refine lv_aload_n E.1 E.2.1 dX6_undo_40 rfl (lv_at hl 0 rfl) ?_
    refine m_get E ho fw_X6_26 rfl dX6_undo_41 ?_
    refine e_iret (rm := ({ frames := 1, cells := 0, slots := 0, locals := 24 } : Room)) (v := iI ((hs.dropLast.length : Int))) E hL dX6_undo_44 ?_
    have hsp : spUndo σ hs = ((hs.length : Int) - 1, hs.getLast?.getD σ, hs.dropLast) := by unfold spUndo; rw [if_neg hne]
    rw [hsp]
    have hla := hpk.last (σ := σ) hne
    have ha : Ia G (g + 1) 0 344 (encI (hs.getLast?.getD σ)) H2 := ha.to (fun j hj => by rw [if_pos (by omega)]; exact hla _ (by omega))
    have hpk := hpk.drop
    exact ⟨congrArg (fun z : Int => some (Value.int (iI z))) (show (hs.dropLast.length : Int) = (hs.length : Int) - 1 by rw [List.length_dropLast]; omega), ⟨⟨_, _, _, _, _, _, _, ho, ha, hbf, hpf, hpk, htx⟩, hS⟩⟩
  · refine r_bipush E dX6_undo_7 (by decide) ?_
    refine e_iret (rm := ({ frames := 1, cells := 0, slots := 0, locals := 24 } : Room)) (v := iI ((-6))) E hL dX6_undo_9 ?_
    have hnil : hs = [] := List.length_eq_zero_iff.mp (by omega)
    have hsp : spUndo σ hs = (-6, σ, hs) := by unfold spUndo; rw [if_pos hnil]
    rw [hsp]
    exact ⟨rfl, ⟨⟨_, _, _, _, _, _, _, ho, ha, hbf, hpf, hpk, htx⟩, hS⟩⟩

set_option maxHeartbeats 4000000 in
set_option maxRecDepth 100000 in
theorem c_X6_init (G : GG) (l : Launch) (g : Nat) (hga : G.2.2 ≤ g) : Ct G l yX6_init cX6_init 1 none ({ frames := 1, cells := 4, slots := 2144, locals := 24 } : Room) [.ref (g)] (fun H => Ob G g 6 [.null, .null, .null, .int 0, .null, .int 0, .int 0, .int 0, .int 0, .int 0, .int 0] H ∧ H.size = g + 1) (WV (fun H H1 => MAt G g sig0 [] (fun _ => 0) 0 H1 ∧ H1.size = g + 5 ∧ ∀ q, q < g → H1[q]? = H[q]?)) := by
  refine Ct.of (by decide +kernel) (Nat.le_of_ble_eq_true rfl) ?_
  intro p e s m args below meth c ls E hnm hP hl
  obtain ⟨ho, hsz⟩ := hP
  have hfr : ∀ q, q < g → s.heap[q]? = s.heap[q]? := fun _ _ => rfl
  have hl : lv_has ls 1 [(0, .ref (g))] := hl
  have hL : Lk G [] := Lk.nil
  generalize ([] : List Loc) = locs at hL ⊢
  refine lv_aload_n E.1 E.2.1 dX6_init_0 rfl (lv_at hl 0 rfl) ?_
  refine m_objinit E oi_X6 hl.1 (Nat.le_of_ble_eq_true rfl) (Nat.le_of_ble_eq_true rfl) dX6_init_1 ?_
  refine lv_aload_n E.1 E.2.1 dX6_init_4 rfl (lv_at hl 0 rfl) ?_
  refine r_sipush E dX6_init_5 (by decide) ?_
  refine m_newi (atype := .int) (t := 0) (N := 344) E ac_int rfl rfl (fun _ _ => rfl) (by decide) (by decide) (by decide) (Nat.le_of_ble_eq_true rfl) (Nat.le_of_ble_eq_true rfl) dX6_init_8 (fun H1 hn2 hPu_ => ?_)
  rw [hsz] at hn2
  rw [hsz]
  have ho := ho.kept (hPu_.2 _ (by omega))
  have hfr : ∀ q, q < g → H1[q]? = s.heap[q]? := fun q h9 => (hPu_.2 q (by omega)).trans (hfr q h9)
  have hsz : H1.size = g + 2 := by rw [hPu_.1]; omega
  refine m_putF E hnm ho fw_X6_7 fp_X6_0 rfl rfl (Nat.le_of_ble_eq_true rfl) hL (by omega) ⟨_, _, rfl⟩ dX6_init_10 (fun H3 locs hL hO_ hF_ => ?_)
  have hn2 := hn2.kept (hF_.2 _ (by omega))
  have hsz : H3.size = g + 2 := hF_.1.trans hsz
  have hfr : ∀ q, q < g → H3[q]? = s.heap[q]? := fun q h9 => (hF_.2 q (by omega)).trans (hfr q h9)
  have ho : Ob G (g) 6 [.ref (g + 1), .null, .null, .int (0), .null, .int (0), .int (0), .int (0), .int (0), .int (0), .int (0)] H3 := hO_
  clear hO_
  refine lv_aload_n E.1 E.2.1 dX6_init_13 rfl (lv_at hl 0 rfl) ?_
  refine r_sipush E dX6_init_14 (by decide) ?_
  refine m_newi (atype := .int) (t := 0) (N := 344) E ac_int rfl rfl (fun _ _ => rfl) (by decide) (by decide) (by decide) (Nat.le_of_ble_eq_true rfl) (Nat.le_of_ble_eq_true rfl) dX6_init_17 (fun H4 hn5 hPu_ => ?_)
  rw [hsz] at hn5
  rw [hsz]
  have ho := ho.kept (hPu_.2 _ (by omega))
  have hn2 := hn2.kept (hPu_.2 _ (by omega))
  have hfr : ∀ q, q < g → H4[q]? = s.heap[q]? := fun q h9 => (hPu_.2 q (by omega)).trans (hfr q h9)
  have hsz : H4.size = g + 3 := by rw [hPu_.1]; omega
  refine m_putF E hnm ho fw_X6_13 fp_X6_1 rfl rfl (Nat.le_of_ble_eq_true rfl) hL (by omega) ⟨_, _, rfl⟩ dX6_init_19 (fun H6 locs hL hO_ hF_ => ?_)
  have hn2 := hn2.kept (hF_.2 _ (by omega))
  have hn5 := hn5.kept (hF_.2 _ (by omega))
  have hsz : H6.size = g + 3 := hF_.1.trans hsz
  have hfr : ∀ q, q < g → H6[q]? = s.heap[q]? := fun q h9 => (hF_.2 q (by omega)).trans (hfr q h9)
  have ho : Ob G (g) 6 [.ref (g + 1), .ref (g + 2), .null, .int (0), .null, .int (0), .int (0), .int (0), .int (0), .int (0), .int (0)] H6 := hO_
  clear hO_
  refine lv_aload_n E.1 E.2.1 dX6_init_22 rfl (lv_at hl 0 rfl) ?_
  refine r_sipush E dX6_init_23 (by decide) ?_
  refine m_newi (atype := .int) (t := 0) (N := 1376) E ac_int rfl rfl (fun _ _ => rfl) (by decide) (by decide) (by decide) (Nat.le_of_ble_eq_true rfl) (Nat.le_of_ble_eq_true rfl) dX6_init_26 (fun H7 hn8 hPu_ => ?_)
  rw [hsz] at hn8
  rw [hsz]
  have ho := ho.kept (hPu_.2 _ (by omega))
  have hn2 := hn2.kept (hPu_.2 _ (by omega))
  have hn5 := hn5.kept (hPu_.2 _ (by omega))
  have hfr : ∀ q, q < g → H7[q]? = s.heap[q]? := fun q h9 => (hPu_.2 q (by omega)).trans (hfr q h9)
  have hsz : H7.size = g + 4 := by rw [hPu_.1]; omega
  refine m_putF E hnm ho fw_X6_16 fp_X6_2 rfl rfl (Nat.le_of_ble_eq_true rfl) hL (by omega) ⟨_, _, rfl⟩ dX6_init_28 (fun H9 locs hL hO_ hF_ => ?_)
  have hn2 := hn2.kept (hF_.2 _ (by omega))
  have hn5 := hn5.kept (hF_.2 _ (by omega))
  have hn8 := hn8.kept (hF_.2 _ (by omega))
  have hsz : H9.size = g + 4 := hF_.1.trans hsz
  have hfr : ∀ q, q < g → H9[q]? = s.heap[q]? := fun q h9 => (hF_.2 q (by omega)).trans (hfr q h9)
  have ho : Ob G (g) 6 [.ref (g + 1), .ref (g + 2), .ref (g + 3), .int (0), .null, .int (0), .int (0), .int (0), .int (0), .int (0), .int (0)] H9 := hO_
  clear hO_
  refine lv_aload_n E.1 E.2.1 dX6_init_31 rfl (lv_at hl 0 rfl) ?_
  refine r_bipush E dX6_init_32 (by decide) ?_
  refine m_newi (atype := .int) (t := 0) (N := 80) E ac_int rfl rfl (fun _ _ => rfl) (by decide) (by decide) (by decide) (Nat.le_of_ble_eq_true rfl) (Nat.le_of_ble_eq_true rfl) dX6_init_34 (fun H10 hn11 hPu_ => ?_)
  rw [hsz] at hn11
  rw [hsz]
  have ho := ho.kept (hPu_.2 _ (by omega))
  have hn2 := hn2.kept (hPu_.2 _ (by omega))
  have hn5 := hn5.kept (hPu_.2 _ (by omega))
  have hn8 := hn8.kept (hPu_.2 _ (by omega))
  have hfr : ∀ q, q < g → H10[q]? = s.heap[q]? := fun q h9 => (hPu_.2 q (by omega)).trans (hfr q h9)
  have hsz : H10.size = g + 5 := by rw [hPu_.1]; omega
  refine m_putF E hnm ho fw_X6_19 fp_X6_4 rfl rfl (Nat.le_of_ble_eq_true rfl) hL (by omega) ⟨_, _, rfl⟩ dX6_init_36 (fun H12 locs hL hO_ hF_ => ?_)
  have hn2 := hn2.kept (hF_.2 _ (by omega))
  have hn5 := hn5.kept (hF_.2 _ (by omega))
  have hn8 := hn8.kept (hF_.2 _ (by omega))
  have hn11 := hn11.kept (hF_.2 _ (by omega))
  have hsz : H12.size = g + 5 := hF_.1.trans hsz
  have hfr : ∀ q, q < g → H12[q]? = s.heap[q]? := fun q h9 => (hF_.2 q (by omega)).trans (hfr q h9)
  have ho : Ob G (g) 6 [.ref (g + 1), .ref (g + 2), .ref (g + 3), .int (0), .ref (g + 4), .int (0), .int (0), .int (0), .int (0), .int (0), .int (0)] H12 := hO_
  clear hO_
  refine lv_aload_n E.1 E.2.1 dX6_init_39 rfl (lv_at hl 0 rfl) ?_
  refine m_get E ho fw_X6_7 rfl dX6_init_40 ?_
  refine r_const E dX6_init_43 ?_
  refine r_const E dX6_init_44 ?_
  refine r_iast E hn2 (2) rfl (by decide) (by decide) hL (by omega) dX6_init_45 (fun H13 locs hL hO_ hF_ => ?_)
  have ho := ho.kept (hF_.2 _ (by omega))
  have hn5 := hn5.kept (hF_.2 _ (by omega))
  have hn8 := hn8.kept (hF_.2 _ (by omega))
  have hn11 := hn11.kept (hF_.2 _ (by omega))
  have hsz : H13.size = g + 5 := hF_.1.trans hsz
  have hfr : ∀ q, q < g → H13[q]? = s.heap[q]? := fun q h9 => (hF_.2 q (by omega)).trans (hfr q h9)
  have hn2 : Ia G (g + 1) 0 344 (upd (fun _ => 0) (2) (iI (4))) H13 := hO_
  clear hO_
  refine lv_aload_n E.1 E.2.1 dX6_init_46 rfl (lv_at hl 0 rfl) ?_
  refine m_get E ho fw_X6_7 rfl dX6_init_47 ?_
  refine r_const E dX6_init_50 ?_
  refine r_const E dX6_init_51 ?_
  refine r_iast E hn2 (3) rfl (by decide) (by decide) hL (by omega) dX6_init_52 (fun H14 locs hL hO_ hF_ => ?_)
  have ho := ho.kept (hF_.2 _ (by omega))
  have hn5 := hn5.kept (hF_.2 _ (by omega))
  have hn8 := hn8.kept (hF_.2 _ (by omega))
  have hn11 := hn11.kept (hF_.2 _ (by omega))
  have hsz : H14.size = g + 5 := hF_.1.trans hsz
  have hfr : ∀ q, q < g → H14[q]? = s.heap[q]? := fun q h9 => (hF_.2 q (by omega)).trans (hfr q h9)
  have hn2 : Ia G (g + 1) 0 344 (upd (upd (fun _ => 0) (2) (iI (4))) (3) (iI (3))) H14 := hO_
  clear hO_
  refine e_vret (rm := ({ frames := 1, cells := 4, slots := 2144, locals := 24 } : Room)) E hL dX6_init_53 ⟨rfl, ?_⟩
  exact ⟨⟨_, _, _, _, _, _, _, ho, hn2.to (fun j _ => enc_sig0 j), hn5, hn8, ⟨Nat.zero_le _, fun i τ h => by simp at h⟩, hn11⟩, by omega, hfr⟩
