theorem pFlt_b {tx : Nat → Int} {len : Nat} (hT : TxOk tx len) : ∀ n p, len - p = n → p ≤ len → -6 ≤ pFlt tx len p ∧ pFlt tx len p ≤ len := by
  intro n
  induction n using Nat.strongRecOn with
  | ind n ih =>
    intro p hn hp
    have h0 := pCmd_all hT p
    rw [pFlt]
    by_cases h1 : (pCmd tx len p).2 = none
    · rw [if_pos h1]
      omega
    · rw [if_neg h1]
      by_cases h2 : len ≤ (pCmd tx len p).1
      · rw [if_pos h2]
        omega
      · rw [if_neg h2]
        by_cases h3 : hr tx len (pCmd tx len p).1 = 59 ∧ p ≤ (pCmd tx len p).1 ∧ (pCmd tx len p).1 < len
        · rw [dif_pos h3]
          exact ih (len - ((pCmd tx len p).1 + 1)) (by omega) _ rfl (by omega)
        · rw [dif_neg h3]
          omega
set_option maxHeartbeats 4000000 in
set_option maxRecDepth 100000 in
theorem c_X5_run (G : GG) (l : Launch) (x fb : Nat) (fl : Nat → Option Fil) (σ : St) (hs : List St) (tx : Nat → Int) (len : Nat) (hI : Inv σ) (hT : TxOk tx len) (hfx : x + 179 ≤ fb) (hgx : G.2.2 ≤ x) : Ct G l yX5_run cX5_run 3 (some .int) ({ frames := 6, cells := 80, slots := 240, locals := 138 } : Room) [.ref (x)] (fun H => XAt G x fb fl σ hs tx len H ∧ fb ≤ H.size) (WE (iI (spRun σ hs tx len).1) (XP G x fb fl (spRun σ hs tx len).2.1 (spRun σ hs tx len).2.2 tx len)) := by
  refine Ct.of (by decide +kernel) (Nat.le_of_ble_eq_true rfl) ?_
  intro p e s m args below meth c ls E hnm hP hl
  obtain ⟨hP, hsz⟩ := hP
  obtain ⟨hx0, hP, ⟨o, hH⟩, ⟨p1, le, fi, sc, ho, ha⟩, hFl⟩ := hP
  obtain ⟨b, hbe⟩ : ∃ b, b = x + 1 := ⟨_, rfl⟩
  obtain ⟨hh, hhe⟩ : ∃ q, q = x + 30 := ⟨_, rfl⟩
  obtain ⟨a, hae⟩ : ∃ q, q = x + 177 := ⟨_, rfl⟩
  rw [← hbe] at hx0 hP
  rw [← hhe] at hx0 hH
  rw [← hae] at hx0 ho ha
  have i1 := hI.mn12
  have i2 := hI.nx240
  have hR : FrR x (x + 179) s.heap s.heap := FrR.rf
  have hT80 := hT.1
  have hgf := hFl.1
  have hl : lv_has ls 3 [(0, .ref (x))] := hl
  have hL : Lk G [] := Lk.nil
  generalize ([] : List Loc) = locs at hL ⊢
  refine lv_aload_n E.1 E.2.1 dX5_run_0 rfl (lv_at hl 0 rfl) ?_
  refine m_get E hx0 fw_X5_26 rfl dX5_run_1 ?_
  refine kVWE (As := []) E cw_X5_75 (c_X0_firstFault G l a tx len p1 le fi sc hT (by omega)) ho ⟨_, _, rfl⟩ ⟨ho, ha⟩ hL hl.1 rfl rfl (Nat.le_of_ble_eq_true rfl) ⟨Nat.le_of_ble_eq_true rfl, Nat.le_of_ble_eq_true rfl⟩ ⟨Nat.le_of_ble_eq_true rfl, Nat.le_of_ble_eq_true rfl⟩ dX5_run_4 (fun H1 locs hL hw_ => ?_)
  obtain ⟨⟨p1, le, fi, sc, ho, ha⟩, hq⟩ := hw_
  have hx0 := hx0.kept (hq.2 _ (by omega))
  have hP : DiscAt G b fl σ H1 := hP.kept (fun q g1 g2 => hq.2 q (by omega))
  have hFl : FlAt G fb fl H1 := hFl.kept (fun q g1 g2 => hq.2 q (by omega))
  have hH : HistR G hh fl o hs H1 := hH.kept (fun q g1 g2 => hq.2 q (by omega))
  have hsz : fb ≤ H1.size := by have h9 := hq.1; omega
  have hR : FrR x (x + 179) s.heap H1 := hR.trans (hq.R.wide (by omega) (by omega))
  have hfb9 := pFlt_b hT _ 0 rfl (Nat.zero_le _)
  refine r_bipush E dX5_run_7 (by decide) ?_
  refine r_icmp_eq (tgt := 15) E dX5_run_9 (by decide) (by omega) (by omega) (fun c9 => ?_) (fun c9 => ?_)
  · have hok0 : pFlt tx len 0 = -6 := by omega
    refine lv_aload_n E.1 E.2.1 dX5_run_15 rfl (lv_at hl 0 rfl) ?_
    refine m_get E hx0 fw_X5_19 rfl dX5_run_16 ?_
    refine lv_aload_n E.1 E.2.1 dX5_run_19 rfl (lv_at hl 0 rfl) ?_
    refine m_get E hx0 fw_X5_12 rfl dX5_run_20 ?_
    refine kVWV (As := [.ref (b)]) E cw_X5_30 (c_X2_sketch G l hh b fb o fl hs σ hI (by omega) (by omega) (by omega)) hH.2.2.1 ⟨_, _, rfl⟩ ⟨hH, hP, hFl⟩ hL hl.1 rfl rfl (Nat.le_of_ble_eq_true rfl) ⟨Nat.le_of_ble_eq_true rfl, Nat.le_of_ble_eq_true rfl⟩ ⟨Nat.le_of_ble_eq_true rfl, Nat.le_of_ble_eq_true rfl⟩ dX5_run_23 (fun H2 locs hL hw_ => ?_)
    obtain ⟨hH, hSl, hq⟩ := hw_
    have hx0 := hx0.kept (hq.2 _ (by omega))
    have hP : DiscAt G b fl σ H2 := hP.kept (fun q g1 g2 => hq.2 q (by omega))
    have ho := ho.kept (hq.2 _ (by omega))
    have ha := ha.kept (hq.2 _ (by omega))
    have hFl : FlAt G fb fl H2 := hFl.kept (fun q g1 g2 => hq.2 q (by omega))
    have hsz : fb ≤ H2.size := by have h9 := hq.1; omega
    have hR : FrR x (x + 179) s.heap H2 := hR.trans (hq.R.wide (by omega) (by omega))
    refine r_const E dX5_run_26 ?_
    refine lv_istore_n (lv' := [(1, .int (iI (0))), (0, .ref (x))]) E.1 E.2.1 dX5_run_27 rfl hl (by decide) rfl (fun ls hl => ?_)
    refine lv_aload_n E.1 E.2.1 dX5_run_28 rfl (lv_at hl 1 rfl) ?_
    refine m_get E hx0 fw_X5_26 rfl dX5_run_29 ?_
    refine r_const E dX5_run_32 ?_
    refine m_put E ho fw_X5_78 fp_X0_2 rfl rfl (Nat.le_of_ble_eq_true rfl) hL (by omega) dX5_run_33 (fun H3 locs hL hO_ hF_ => ?_)
    have hx0 := hx0.kept (hF_.2 _ (by omega))
    have ha := ha.kept (hF_.2 _ (by omega))
    have hq : FrS a (a + 1) H2 H3 := FrS.of1 hF_ (by omega) (by omega)
    have hP : DiscAt G b fl σ H3 := hP.kept (fun q g1 g2 => hq.2 q (by omega))
    have hFl : FlAt G fb fl H3 := hFl.kept (fun q g1 g2 => hq.2 q (by omega))
    have hH : HistR G hh fl o hs H3 := hH.kept (fun q g1 g2 => hq.2 q (by omega))
    have hSl : DiscAt G (hh + 2 + 29 * ((o + hs.length) % 5)) fl σ H3 := hSl.kept (fun q g1 g2 => hq.2 q (by omega))
    have hsz : fb ≤ H3.size := by have h9 := hq.1; omega
    have hR : FrR x (x + 179) s.heap H3 := hR.trans (hq.R.wide (by omega) (by omega))
    have ho : Ob G (a) 0 [.ref (a + 1), .int (iI ((len : Int))), .int (iI (0)), .int (iI (le)), .int (iI (fi)), .int (iI (sc))] H3 := hO_
    clear hO_
    refine r_const E dX5_run_36 ?_
    refine lv_istore_n (lv' := [(2, .int (iI (0))), (1, .int (iI (0))), (0, .ref (x))]) E.1 E.2.1 dX5_run_37 rfl hl (by decide) rfl (fun ls hl => ?_)
    have LP38 : ∀ (kin38 : Nat) (t q : Nat) (σ1 : St) (fl1 : Nat → Option Fil) (le fi sc : Int) (H : Heap) (u v : Int) (ls : Array Slot) (locs : List Loc) (ht : 2 * t ≤ q ∨ (q = len ∧ 2 * t ≤ q + 1)) (hu : u = (t : Int)) (hv : v = (t : Int)) (hq9 : q ≤ len) (hI1 : Inv σ1) (hfq : pFlt tx len q = -6 ∨ q = len) (hpr : pRun tx len σ 0 0 = pRun tx len σ1 q t) (hE1 : Ext fl fl1) (hx0 : Ob G x 5 [.ref b, .ref hh, .ref a] H) (hP : DiscAt G b fl1 σ1 H) (hH : HistR G hh fl1 o hs H) (hSl : DiscAt G (hh + 2 + 29 * ((o + hs.length) % 5)) fl1 σ H) (hTx : TxR G a tx len q le fi sc H) (hFl : FlAt G fb fl1 H) (hsz : fb ≤ H.size) (hR : FrR x (x + 179) s.heap H) (hkin38 : len - q = kin38) (hl : lv_has ls 3 [(2, .int (iI (u))), (1, .int (iI (v))), (0, .ref (x))]) (hL : Lk G locs), W p l e ({ frames := 6, cells := 80, slots := 240, locals := 138 } : Room) s m args below meth c H locs t (3 * t) (QQ G below args s ({ frames := 6, cells := 80, slots := 240, locals := 138 } : Room) (WE (iI (spRun σ hs tx len).1) (XP G x fb fl (spRun σ hs tx len).2.1 (spRun σ hs tx len).2.2 tx len))) (F0 m 38 ls []) := by
      intro kin38
      induction kin38 using Nat.strongRecOn with
      | ind kin38 ihin38 =>
        intro t q σ1 fl1 le fi sc H u v ls locs ht hu hv hq9 hI1 hfq hpr hE1 hx0 hP hH hSl hTx hFl hsz hR hkin38 hl hL
        obtain ⟨ho, ha⟩ := hTx
        refine lv_iload_n E.1 E.2.1 dX5_run_38 rfl (lv_at hl 0 rfl) ?_
        refine r_bipush E dX5_run_39 (by decide) ?_
        refine r_icmp_ge (tgt := 89) E dX5_run_41 (by decide) (by omega) (by omega) (fun c41 => absurd c41 (by omega)) (fun c41 => ?_)
        refine lv_aload_n E.1 E.2.1 dX5_run_44 rfl (lv_at hl 2 rfl) ?_
        refine m_get E hx0 fw_X5_26 rfl dX5_run_45 ?_
        refine kVWE (As := []) E cw_X5_81 (c_X0_readCommand G l a tx len q le fi sc hT (by omega) (by omega)) ho ⟨_, _, rfl⟩ ⟨ho, ha⟩ hL hl.1 rfl rfl (Nat.le_of_ble_eq_true rfl) ⟨Nat.le_of_ble_eq_true rfl, Nat.le_of_ble_eq_true rfl⟩ ⟨by show t + 0 ≤ 80; omega, by show (3 * t) + 0 ≤ 240; omega⟩ dX5_run_48 (fun H4 locs hL hw_ => ?_)
        obtain ⟨⟨le, fi, sc, ⟨ho, ha⟩, hok⟩, hq⟩ := hw_
        have hpc := pCmd_all hT q
        have hx0 := hx0.kept (hq.2 _ (by omega))
        have hP : DiscAt G b fl1 σ1 H4 := hP.kept (fun q g1 g2 => hq.2 q (by omega))
        have hFl : FlAt G fb fl1 H4 := hFl.kept (fun q g1 g2 => hq.2 q (by omega))
        have hH : HistR G hh fl1 o hs H4 := hH.kept (fun q g1 g2 => hq.2 q (by omega))
        have hSl : DiscAt G (hh + 2 + 29 * ((o + hs.length) % 5)) fl1 σ H4 := hSl.kept (fun q g1 g2 => hq.2 q (by omega))
        have hsz : fb ≤ H4.size := by have h9 := hq.1; omega
        have hR : FrR x (x + 179) s.heap H4 := hR.trans (hq.R.wide (by omega) (by omega))
        refine r_bif_eq (tgt := 89) E dX5_run_51 (by decide)  (fun c51 => ?_) (fun c51 => ?_)
        · refine lv_aload_n E.1 E.2.1 dX5_run_89 rfl (lv_at hl 2 rfl) ?_
          refine lv_iload_n E.1 E.2.1 dX5_run_90 rfl (lv_at hl 1 rfl) ?_
          refine kVWE (As := [.int (iI (v))]) E cw_X5_38 (c_X5_recorded G l x b hh a o fl1 hs σ (v) (by omega) (by omega) (by omega)) hx0 ⟨_, _, rfl⟩ ⟨hx0, hH, hSl⟩ hL hl.1 rfl rfl (Nat.le_of_ble_eq_true rfl) ⟨Nat.le_of_ble_eq_true rfl, Nat.le_of_ble_eq_true rfl⟩ ⟨by show t + 0 ≤ 80; omega, by show (3 * t) + 0 ≤ 240; omega⟩ dX5_run_91 (fun H5 locs hL hw_ => ?_)
          obtain ⟨hH, hq⟩ := hw_
          have hx0 := hx0.kept (hq.2 _ (by omega))
          have hP : DiscAt G b fl1 σ1 H5 := hP.kept (fun q g1 g2 => hq.2 q (by omega))
          have ho := ho.kept (hq.2 _ (by omega))
          have ha := ha.kept (hq.2 _ (by omega))
          have hFl : FlAt G fb fl1 H5 := hFl.kept (fun q g1 g2 => hq.2 q (by omega))
          have hsz : fb ≤ H5.size := by have h9 := hq.1; omega
          have hR : FrR x (x + 179) s.heap H5 := hR.trans (hq.R.wide (by omega) (by omega))
          refine W.widen (k := 80) (n := 240) (by show t ≤ 80; omega) (by show (3 * t) ≤ 240; omega) ?_
          refine e_iret (rm := ({ frames := 6, cells := 80, slots := 240, locals := 138 } : Room)) (v := iI (v)) E hL dX5_run_94 ?_
          have hnn : (pCmd tx len q).2 = none := Option.not_isSome_iff_eq_none.mp (by rw [c51]; decide)
          have hql : q = len := hfq.resolve_left (fun h => by obtain ⟨⟨z, hz⟩, _⟩ := pFlt_ok h; rw [hnn] at hz; cases hz)
          have hsp : spRun σ hs tx len = ((t : Int), σ1, recd hs σ) := by unfold spRun; rw [if_pos hok0, hpr, pRun_end (by omega)]
          rw [hsp]
          subst hv
          have hha : hsA σ hs (t : Int) = recd hs σ := by unfold hsA; rw [if_neg (by omega)]
          rw [hha] at hH
          subst hbe; subst hhe; subst hae
          exact ⟨rfl, ⟨_, hE1, hx0, hP, hH, ⟨_, _, _, _, ho, ha⟩, hFl⟩, hR⟩
        · obtain ⟨⟨c_, x_, y_⟩, hcm⟩ := Option.isSome_iff_exists.mp c51
          have hpc2 := hpc.2.2 c_ x_ y_ hcm
          rw [hcm] at hok
          have hfn := (pFlt_ok (hfq.resolve_right (by omega))).2
          refine lv_aload_n E.1 E.2.1 dX5_run_54 rfl (lv_at hl 2 rfl) ?_
          refine kVWE (As := []) E cw_X5_85 (c_X5_executeCommand G l x b hh a fb fl1 σ1 tx len (pCmd tx len q).1 le fi sc hI1 c_ x_ y_ hok hpc2.2.2 (by omega) (by omega) (by omega) (by omega) (by omega)) hx0 ⟨_, _, rfl⟩ ⟨hx0, hP, hFl, ⟨ho, ha⟩, hsz⟩ hL hl.1 rfl rfl (Nat.le_of_ble_eq_true rfl) ⟨Nat.le_of_ble_eq_true rfl, Nat.le_of_ble_eq_true rfl⟩ ⟨by show t + 1 ≤ 80; omega, by show (3 * t) + 3 ≤ 240; omega⟩ dX5_run_55 (fun H5 locs hL hw_ => ?_)
          obtain ⟨fl', hE, hFl1, hP1, hq⟩ := hw_
          refine W.cs (cells' := t + 1) (slots' := 3 * (t + 1)) (by show t + 1 = _; omega) (by show 3 * t + 3 = _; omega) ?_
          have hx0 := hx0.kept (hq.2 _ (by omega) (by omega))
          have ho := ho.kept (hq.2 _ (by omega) (by omega))
          have ha := ha.kept (hq.2 _ (by omega) (by omega))
          have hH : HistR G hh fl1 o hs H5 := hH.kept (fun q g1 g2 => hq.2 q (by omega) (by omega))
          have hSl : DiscAt G (hh + 2 + 29 * ((o + hs.length) % 5)) fl1 σ H5 := hSl.kept (fun q g1 g2 => hq.2 q (by omega) (by omega))
          have hsz : fb ≤ H5.size := by have h9 := hq.1; omega
          have hR : FrR x (x + 179) s.heap H5 := hR.trans (hq.wide (by omega) (by omega))
          have hP := hP1
          have hFl := hFl1
          have hH := hH.ext hE
          have hSl := hSl.ext hE
          have hbd := spCmd_b hI1 (c_, x_, y_)
          refine kSRE (As := [.int (iI ((spCmd σ1 (c_, x_, y_)).1))]) E cw_X5_88 (c_X5_isError G l ((spCmd σ1 (c_, x_, y_)).1) (by unfold okI; omega)) trivial hL hl.1 rfl rfl (Nat.le_of_ble_eq_true rfl) ⟨Nat.le_of_ble_eq_true rfl, Nat.le_of_ble_eq_true rfl⟩ ⟨rfl, rfl⟩ ⟨by show (t + 1) ≤ 80; omega, by show (3 * (t + 1)) ≤ 240; omega⟩ dX5_run_58 (fun locs hL => ?_)
          refine r_bif_eq (tgt := 70) E dX5_run_61 (by decide)  (fun c61 => ?_) (fun c61 => ?_)
          · have c61 := of_decide_eq_false c61
            refine r_inc (lv' := [(1, .int (iI (v + 1))), (2, .int (iI (u))), (0, .ref (x))]) E dX5_run_70 hl (k := 1) rfl (by decide) rfl (fun ls hl => ?_)
            refine lv_aload_n E.1 E.2.1 dX5_run_73 rfl (lv_at hl 2 rfl) ?_
            refine m_get E hx0 fw_X5_26 rfl dX5_run_74 ?_
            refine r_bipush E dX5_run_77 (by decide) ?_
            refine kVWE (As := [.int (iI (59))]) E cw_X5_92 (c_X0_readSign G l a tx len (pCmd tx len q).1 le fi sc hT (59) (by unfold okI; omega) (by omega) (by omega)) ho ⟨_, _, rfl⟩ ⟨ho, ha⟩ hL hl.1 rfl rfl (Nat.le_of_ble_eq_true rfl) ⟨Nat.le_of_ble_eq_true rfl, Nat.le_of_ble_eq_true rfl⟩ ⟨by show (t + 1) + 0 ≤ 80; omega, by show (3 * (t + 1)) + 0 ≤ 240; omega⟩ dX5_run_79 (fun H6 locs hL hw_ => ?_)
            have hb_ := hr_b hT (pCmd tx len q).1
            by_cases hz_ : hr tx len (pCmd tx len q).1 = 59
            · rw [if_pos hz_] at hw_
              rw [decide_eq_true hz_]
              obtain ⟨⟨ho, ha⟩, hq⟩ := hw_
              have hx0 := hx0.kept (hq.2 _ (by omega))
              have hP : DiscAt G b fl' (spCmd σ1 (c_, x_, y_)).2 H6 := hP.kept (fun q g1 g2 => hq.2 q (by omega))
              have hFl : FlAt G fb fl' H6 := hFl.kept (fun q g1 g2 => hq.2 q (by omega))
              have hH : HistR G hh fl' o hs H6 := hH.kept (fun q g1 g2 => hq.2 q (by omega))
              have hSl : DiscAt G (hh + 2 + 29 * ((o + hs.length) % 5)) fl' σ H6 := hSl.kept (fun q g1 g2 => hq.2 q (by omega))
              have hsz : fb ≤ H6.size := by have h9 := hq.1; omega
              have hR : FrR x (x + 179) s.heap H6 := hR.trans (hq.R.wide (by omega) (by omega))
              refine lv_pop E.1 E.2.1 dX5_run_82 rfl ?_
              refine r_inc (lv' := [(2, .int (iI (u + 1))), (1, .int (iI (v + 1))), (0, .ref (x))]) E dX5_run_83 hl (k := 1) rfl (by decide) rfl (fun ls hl => ?_)
              refine lv_goto (tgt := 38) E.1 E.2.1 dX5_run_86 (by decide) ?_
              refine ihin38 _ ?_ (t + 1) ((pCmd tx len q).1 + 1) ((spCmd σ1 (c_, x_, y_)).2) (fl') le fi sc H6 (u + 1) (v + 1) ls locs ?_ ?_ ?_ ?_ ?_ ?_ ?_ ?_ ?_ ?_ ?_ ?_ ?_ ?_ ?_ ?_ rfl (lv_sub hl [0, 1, 2] rfl) hL
              · omega
              · omega
              · omega
              · omega
              · omega
              · exact hI1.cmd _
              · exact Or.inl (hfn.resolve_left (by omega)).2
              · rw [hpr, pRun_go hpc2.2.1 hcm (by omega) hpc.1]
              · exact hE1.trans hE
              · exact hx0
              · exact hP
              · exact hH
              · exact hSl
              · exact TxR.mk2 ho ha rfl (by omega) rfl rfl rfl
              · exact hFl
              · exact hsz
              · exact hR
            · rw [if_neg hz_] at hw_
              rw [decide_eq_false hz_]
              obtain ⟨⟨ho, ha⟩, hq⟩ := hw_
              have hx0 := hx0.kept (hq.2 _ (by omega))
              have hP : DiscAt G b fl' (spCmd σ1 (c_, x_, y_)).2 H6 := hP.kept (fun q g1 g2 => hq.2 q (by omega))
              have hFl : FlAt G fb fl' H6 := hFl.kept (fun q g1 g2 => hq.2 q (by omega))
              have hH : HistR G hh fl' o hs H6 := hH.kept (fun q g1 g2 => hq.2 q (by omega))
              have hSl : DiscAt G (hh + 2 + 29 * ((o + hs.length) % 5)) fl' σ H6 := hSl.kept (fun q g1 g2 => hq.2 q (by omega))
              have hsz : fb ≤ H6.size := by have h9 := hq.1; omega
              have hR : FrR x (x + 179) s.heap H6 := hR.trans (hq.R.wide (by omega) (by omega))
              refine lv_pop E.1 E.2.1 dX5_run_82 rfl ?_
              refine r_inc (lv' := [(2, .int (iI (u + 1))), (1, .int (iI (v + 1))), (0, .ref (x))]) E dX5_run_83 hl (k := 1) rfl (by decide) rfl (fun ls hl => ?_)
              refine lv_goto (tgt := 38) E.1 E.2.1 dX5_run_86 (by decide) ?_
              refine ihin38 _ ?_ (t + 1) ((pCmd tx len q).1) ((spCmd σ1 (c_, x_, y_)).2) (fl') le fi sc H6 (u + 1) (v + 1) ls locs ?_ ?_ ?_ ?_ ?_ ?_ ?_ ?_ ?_ ?_ ?_ ?_ ?_ ?_ ?_ ?_ rfl (lv_sub hl [0, 1, 2] rfl) hL
              · omega
              · omega
              · omega
              · omega
              · omega
              · exact hI1.cmd _
              · exact Or.inr (by omega)
              · rw [hpr, pRun_go hpc2.2.1 hcm (by omega) hpc.1, pRun_end (by omega), pRun_end (by omega)]
              · exact hE1.trans hE
              · exact hx0
              · exact hP
              · exact hH
              · exact hSl
              · exact TxR.mk2 ho ha rfl (by omega) rfl rfl rfl
              · exact hFl
              · exact hsz
              · exact hR
          · have c61 := of_decide_eq_true c61
            refine lv_aload_n E.1 E.2.1 dX5_run_64 rfl (lv_at hl 2 rfl) ?_
            refine lv_iload_n E.1 E.2.1 dX5_run_65 rfl (lv_at hl 1 rfl) ?_
            refine kVWE (As := [.int (iI (v))]) E cw_X5_38 (c_X5_recorded G l x b hh a o fl' hs σ (v) (by omega) (by omega) (by omega)) hx0 ⟨_, _, rfl⟩ ⟨hx0, hH, hSl⟩ hL hl.1 rfl rfl (Nat.le_of_ble_eq_true rfl) ⟨Nat.le_of_ble_eq_true rfl, Nat.le_of_ble_eq_true rfl⟩ ⟨by show (t + 1) + 0 ≤ 80; omega, by show (3 * (t + 1)) + 0 ≤ 240; omega⟩ dX5_run_66 (fun H6 locs hL hw_ => ?_)
            obtain ⟨hH, hq⟩ := hw_
            have hx0 := hx0.kept (hq.2 _ (by omega))
            have hP : DiscAt G b fl' (spCmd σ1 (c_, x_, y_)).2 H6 := hP.kept (fun q g1 g2 => hq.2 q (by omega))
            have ho := ho.kept (hq.2 _ (by omega))
            have ha := ha.kept (hq.2 _ (by omega))
            have hFl : FlAt G fb fl' H6 := hFl.kept (fun q g1 g2 => hq.2 q (by omega))
            have hsz : fb ≤ H6.size := by have h9 := hq.1; omega
            have hR : FrR x (x + 179) s.heap H6 := hR.trans (hq.R.wide (by omega) (by omega))
            refine W.widen (k := 80) (n := 240) (by show (t + 1) ≤ 80; omega) (by show (3 * (t + 1)) ≤ 240; omega) ?_
            refine e_iret (rm := ({ frames := 6, cells := 80, slots := 240, locals := 138 } : Room)) (v := iI (v)) E hL dX5_run_69 ?_
            have hce : (spCmd σ1 (c_, x_, y_)).2 = σ1 := hbd.2.2 (by omega)
            have hsp : spRun σ hs tx len = ((t : Int), σ1, recd hs σ) := by unfold spRun; rw [if_pos hok0, hpr, pRun_no hpc2.2.1 hcm (by omega)]
            rw [hce] at hP
            rw [hsp]
            subst hv
            have hha : hsA σ hs (t : Int) = recd hs σ := by unfold hsA; rw [if_neg (by omega)]
            rw [hha] at hH
            subst hbe; subst hhe; subst hae
            exact ⟨rfl, ⟨_, (hE1.trans hE), hx0, hP, hH, ⟨_, _, _, _, ho, ha⟩, hFl⟩, hR⟩
    refine LP38 _ 0 0 σ fl le fi sc H3 0 0 ls locs ?_ ?_ ?_ ?_ ?_ ?_ ?_ ?_ ?_ ?_ ?_ ?_ ?_ ?_ ?_ ?_ rfl (lv_sub hl [0, 1, 2] rfl) hL
    · omega
    · rfl
    · rfl
    · omega
    · exact hI
    · exact Or.inl hok0
    · rfl
    · exact Ext.rf
    · exact hx0
    · exact hP
    · exact hH
    · exact hSl
    · exact TxR.mk2 ho ha rfl (by omega) rfl rfl rfl
    · exact hFl
    · exact hsz
    · exact hR
  · refine r_bipush E dX5_run_12 (by decide) ?_
    refine W.widen (k := 80) (n := 240) (Nat.le_of_ble_eq_true rfl) (Nat.le_of_ble_eq_true rfl) ?_
    refine e_iret (rm := ({ frames := 6, cells := 80, slots := 240, locals := 138 } : Room)) (v := iI ((-3))) E hL dX5_run_14 ?_
    have hsp : spRun σ hs tx len = (-3, σ, hs) := by unfold spRun; rw [if_neg (by omega)]
    rw [hsp]
    subst hbe; subst hhe; subst hae
    exact ⟨rfl, ⟨_, Ext.rf, hx0, hP, ⟨o, hH⟩, ⟨_, _, _, _, ho, ha⟩, hFl⟩, hR⟩

set_option maxHeartbeats 4000000 in
set_option maxRecDepth 100000 in
theorem c_X5_init (G : GG) (l : Launch) (x fb : Nat) (hfb : fb = x + 179) (hgx : G.2.2 ≤ x) : Ct G l yX5_init cX5_init 1 none ({ frames := 4, cells := 178, slots := 3724, locals := 86 } : Room) [.ref (x)] (fun H => Ob G x 5 [.null, .null, .null] H ∧ H.size = x + 1) (WV (fun H H1 => XAt G x fb (fun _ => none) sig0 [] (fun _ => 0) 0 H1 ∧ H1.size = x + 179 ∧ ∀ q, q < x → H1[q]? = H[q]?)) := by
  refine Ct.of (by decide +kernel) (Nat.le_of_ble_eq_true rfl) ?_
  intro p e s m args below meth c ls E hnm hP hl
  obtain ⟨ho, hsz⟩ := hP
  have hfr : ∀ q, q < x → s.heap[q]? = s.heap[q]? := fun _ _ => rfl
  have hl : lv_has ls 1 [(0, .ref (x))] := hl
  have hL : Lk G [] := Lk.nil
  generalize ([] : List Loc) = locs at hL ⊢
  refine lv_aload_n E.1 E.2.1 dX5_init_0 rfl (lv_at hl 0 rfl) ?_
  refine m_objinit E oi_X5 hl.1 (Nat.le_of_ble_eq_true rfl) (Nat.le_of_ble_eq_true rfl) dX5_init_1 ?_
  refine lv_aload_n E.1 E.2.1 dX5_init_4 rfl (lv_at hl 0 rfl) ?_
  refine m_new E nw_X5_9 (Nat.le_of_ble_eq_true rfl) (Nat.le_of_ble_eq_true rfl) dX5_init_5 (fun H1 hn2 hPu_ => ?_)
  rw [hsz] at hn2
  rw [hsz]
  have ho := ho.kept (hPu_.2 _ (by omega))
  have hfr : ∀ q, q < x → H1[q]? = s.heap[q]? := fun q h9 => (hPu_.2 q (by omega)).trans (hfr q h9)
  have hsz : H1.size = x + 2 := by rw [hPu_.1]; omega
  refine lv_dup E.1 E.2.1 dX5_init_8 rfl ?_
  refine kIWV (As := []) E cw_X5_11 (c_X1_init G l (x + 1) (fun _ => none) (by omega)) ⟨hn2, by omega⟩ hL hl.1 rfl rfl (Nat.le_of_ble_eq_true rfl) ⟨Nat.le_of_ble_eq_true rfl, Nat.le_of_ble_eq_true rfl⟩ ⟨Nat.le_of_ble_eq_true rfl, Nat.le_of_ble_eq_true rfl⟩ dX5_init_9 (fun H3 locs hL hw_ => ?_)
  obtain ⟨hD, hz, hq⟩ := hw_
  have ho := ho.kept (hq _ (by omega))
  have hfr : ∀ q, q < x → H3[q]? = s.heap[q]? := fun q h9 => (hq q (by omega)).trans (hfr q h9)
  have hsz : H3.size = x + 30 := by omega
  refine m_putF E hnm ho fw_X5_12 fp_X5_0 rfl rfl (Nat.le_of_ble_eq_true rfl) hL (by omega) ⟨_, _, rfl⟩ dX5_init_12 (fun H4 locs hL hO_ hF_ => ?_)
  have hsz : H4.size = x + 30 := hF_.1.trans hsz
  have hfr : ∀ q, q < x → H4[q]? = s.heap[q]? := fun q h9 => (hF_.2 q (by omega)).trans (hfr q h9)
  have hD : DiscAt G (x + 1) (fun _ => none) sig0 H4 := hD.kept (fun q g1 g2 => hF_.2 q (by omega))
  have ho : Ob G (x) 5 [.ref (x + 1), .null, .null] H4 := hO_
  clear hO_
  refine lv_aload_n E.1 E.2.1 dX5_init_15 rfl (lv_at hl 0 rfl) ?_
  refine m_new E nw_X5_16 (Nat.le_of_ble_eq_true rfl) (Nat.le_of_ble_eq_true rfl) dX5_init_16 (fun H5 hn6 hPu_ => ?_)
  rw [hsz] at hn6
  rw [hsz]
  have ho := ho.kept (hPu_.2 _ (by omega))
  have hfr : ∀ q, q < x → H5[q]? = s.heap[q]? := fun q h9 => (hPu_.2 q (by omega)).trans (hfr q h9)
  have hD : DiscAt G (x + 1) (fun _ => none) sig0 H5 := hD.kept (fun q g1 g2 => hPu_.2 q (by omega))
  have hsz : H5.size = x + 31 := by rw [hPu_.1]; omega
  refine lv_dup E.1 E.2.1 dX5_init_19 rfl ?_
  refine kIWV (As := []) E cw_X5_18 (c_X2_init G l (x + 30) (fun _ => none) (by omega)) ⟨hn6, by omega⟩ hL hl.1 rfl rfl (Nat.le_of_ble_eq_true rfl) ⟨Nat.le_of_ble_eq_true rfl, Nat.le_of_ble_eq_true rfl⟩ ⟨Nat.le_of_ble_eq_true rfl, Nat.le_of_ble_eq_true rfl⟩ dX5_init_20 (fun H7 locs hL hw_ => ?_)
  obtain ⟨hHi, hz, hq⟩ := hw_
  have ho := ho.kept (hq _ (by omega))
  have hD : DiscAt G (x + 1) (fun _ => none) sig0 H7 := hD.kept (fun q g1 g2 => hq q (by omega))
  have hfr : ∀ q, q < x → H7[q]? = s.heap[q]? := fun q h9 => (hq q (by omega)).trans (hfr q h9)
  have hsz : H7.size = x + 177 := by omega
  refine m_putF E hnm ho fw_X5_19 fp_X5_1 rfl rfl (Nat.le_of_ble_eq_true rfl) hL (by omega) ⟨_, _, rfl⟩ dX5_init_23 (fun H8 locs hL hO_ hF_ => ?_)
  have hsz : H8.size = x + 177 := hF_.1.trans hsz
  have hfr : ∀ q, q < x → H8[q]? = s.heap[q]? := fun q h9 => (hF_.2 q (by omega)).trans (hfr q h9)
  have hD : DiscAt G (x + 1) (fun _ => none) sig0 H8 := hD.kept (fun q g1 g2 => hF_.2 q (by omega))
  have hHi : HistR G (x + 30) (fun _ => none) 0 [] H8 := hHi.kept (fun q g1 g2 => hF_.2 q (by omega))
  have ho : Ob G (x) 5 [.ref (x + 1), .ref (x + 30), .null] H8 := hO_
  clear hO_
  refine lv_aload_n E.1 E.2.1 dX5_init_26 rfl (lv_at hl 0 rfl) ?_
  refine m_new E nw_X5_23 (Nat.le_of_ble_eq_true rfl) (Nat.le_of_ble_eq_true rfl) dX5_init_27 (fun H9 hn10 hPu_ => ?_)
  rw [hsz] at hn10
  rw [hsz]
  have ho := ho.kept (hPu_.2 _ (by omega))
  have hfr : ∀ q, q < x → H9[q]? = s.heap[q]? := fun q h9 => (hPu_.2 q (by omega)).trans (hfr q h9)
  have hD : DiscAt G (x + 1) (fun _ => none) sig0 H9 := hD.kept (fun q g1 g2 => hPu_.2 q (by omega))
  have hHi : HistR G (x + 30) (fun _ => none) 0 [] H9 := hHi.kept (fun q g1 g2 => hPu_.2 q (by omega))
  have hsz : H9.size = x + 178 := by rw [hPu_.1]; omega
  refine lv_dup E.1 E.2.1 dX5_init_30 rfl ?_
  refine kINWV (As := []) E cw_X5_25 (c_X0_init G l (x + 177) (by omega)) ⟨hn10, by omega⟩ hL hl.1 rfl rfl (Nat.le_of_ble_eq_true rfl) ⟨Nat.le_of_ble_eq_true rfl, Nat.le_of_ble_eq_true rfl⟩ ⟨Nat.le_of_ble_eq_true rfl, Nat.le_of_ble_eq_true rfl⟩ dX5_init_31 (fun H11 locs hL hw_ => ?_)
  obtain ⟨hTx, hz, hq⟩ := hw_
  have ho := ho.kept (hq _ (by omega))
  have hD : DiscAt G (x + 1) (fun _ => none) sig0 H11 := hD.kept (fun q g1 g2 => hq q (by omega))
  have hHi : HistR G (x + 30) (fun _ => none) 0 [] H11 := hHi.kept (fun q g1 g2 => hq q (by omega))
  have hfr : ∀ q, q < x → H11[q]? = s.heap[q]? := fun q h9 => (hq q (by omega)).trans (hfr q h9)
  have hsz : H11.size = x + 179 := by omega
  refine m_putF E hnm ho fw_X5_26 fp_X5_2 rfl rfl (Nat.le_of_ble_eq_true rfl) hL (by omega) ⟨_, _, rfl⟩ dX5_init_34 (fun H12 locs hL hO_ hF_ => ?_)
  have hsz : H12.size = x + 179 := hF_.1.trans hsz
  have hfr : ∀ q, q < x → H12[q]? = s.heap[q]? := fun q h9 => (hF_.2 q (by omega)).trans (hfr q h9)
  have hD : DiscAt G (x + 1) (fun _ => none) sig0 H12 := hD.kept (fun q g1 g2 => hF_.2 q (by omega))
  have hHi : HistR G (x + 30) (fun _ => none) 0 [] H12 := hHi.kept (fun q g1 g2 => hF_.2 q (by omega))
  have hTx : TxR G (x + 177) (fun _ => 0) 0 0 0 0 0 H12 := hTx.kept (hF_.2 _ (by omega)) (hF_.2 _ (by omega))
  have ho : Ob G (x) 5 [.ref (x + 1), .ref (x + 30), .ref (x + 177)] H12 := hO_
  clear hO_
  refine e_vret (rm := ({ frames := 4, cells := 178, slots := 3724, locals := 86 } : Room)) E hL dX5_init_37 ⟨rfl, ?_⟩
  subst hfb
  exact ⟨⟨ho, hD, ⟨0, hHi⟩, ⟨0, 0, 0, 0, hTx⟩, ⟨by omega, fun q f h => by cases h⟩⟩, by omega, hfr⟩
