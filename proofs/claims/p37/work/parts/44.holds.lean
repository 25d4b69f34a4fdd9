/-! a call that answers a float -/
section MKF
variable {p : Program} {l : Launch} {e : Env} {R : Room} {s : State} {m : MethodId} {args : Array Value} {below : List Frame} {meth : Method} {c : Code} {H : Heap} {locs : List Loc} {cells slots : Nat} {Q : State → Prop}
variable {G : GG} {cc : ByteArray} {n : Nat} {ret : Option FieldType} {own : String} {pc : Nat} {ls : Array Slot} {st rest : List Value}
theorem kVRF (E : En G p s m args meth c cc n ret own) {y : MethodName} {b : ByteArray} {mL k idx : Nat} {ret' : Option FieldType} {a ci : Nat} {fs : List Value} {rm' : Room} {As : List Value} {Pre : Heap → Prop} {x : UInt32} (hC : CWV own idx y b mL ret' k) (hM : Ct G l y b mL ret' rm' (.ref a :: As) Pre (RF x)) (hO : Ob G a ci fs H) (hc : ∃ T N, vwCl[ci]? = some (y.cls, T, N)) (hp : Pre H) (hL : Lk G locs) (hls : ls.size = n) (hst : st = As.reverse ++ .ref a :: rest) (hk : As.length = k) (hW : (rest.map fun v => v.category).sum ≤ 8) (hR : rm'.frames + 1 ≤ R.frames ∧ 8 + (mL + 11) + rm'.locals ≤ R.locals) (hz : rm'.cells = 0 ∧ rm'.slots = 0) (hf : cells ≤ R.cells ∧ slots ≤ R.slots) (hdg : decode cc pc = .ok (.invokevirtual idx, 3))
    (kk : ∀ (locs1 : List Loc), Lk G locs1 → W p l e R s m args below meth c H locs1 cells slots Q (F0 m (pc + 3) ls (.float x :: rest))) : W p l e R s m args below meth c H locs cells slots Q (F0 m pc ls st) :=
  m_callV E hC hM hO hc hp hL hls hst hk hW hR (by rw [hz.1, hz.2]; exact hf) hdg (fun v H1 locs1 hL1 hv => by
    obtain ⟨rfl, rfl⟩ := hv
    rw [hz.1, hz.2]
    exact kk locs1 hL1)
end MKF
theorem oI_b {o : Option Nat} {N : Nat} (h : ∀ n, o = some n → n < N) : -6 ≤ oI o ∧ oI o < (N : Int) + 1 := by
  cases o with
  | none => show -6 ≤ (-6 : Int) ∧ (-6 : Int) < _; omega
  | some n => have := h n rfl; show -6 ≤ (n : Int) ∧ (n : Int) < _; omega
theorem ld_or (σ : St) (n : Nat) : (se σ n 0 = 1 ∧ ldN σ n = se σ n 3 + se σ n 4) ∨ (¬ se σ n 0 = 1 ∧ ldN σ n = se σ n 3) := by
  unfold ldN
  by_cases h : se σ n 0 = 1
  · exact Or.inl ⟨h, by rw [if_pos h]⟩
  · exact Or.inr ⟨h, by rw [if_neg h]; rfl⟩

set_option maxHeartbeats 4000000 in
set_option maxRecDepth 100000 in
theorem c_L_holds (G : GG) (l : Launch) (x fb : Nat) (fl : Nat → Option Fil) (σ : St) (hs : List St) (tx : Nat → Int) (len : Nat) (hS : VS σ) (hT : TxOk tx len) (hfx : x + 179 ≤ fb) (hgx : G.2.2 ≤ x) : Ct G l yL_holds cL_holds 15 (some .boolean) ({ frames := 6, cells := 0, slots := 0, locals := 139 } : Room) [.ref (x)] (fun H => XAt G x fb fl σ hs tx len H) (RE (iI 1)) := by
  refine Ct.of (by decide +kernel) (Nat.le_of_ble_eq_true rfl) ?_
  intro p e s m args below meth c ls E hnm hP hl
  have hI := hS.1
  have i1 := hI.mn12
  have i2 := hI.nx240
  have i3 := hI.s0b
  have i4 := hI.s1b
  have hl : lv_has ls 15 [(0, .ref (x))] := hl
  have hL : Lk G [] := Lk.nil
  generalize ([] : List Loc) = locs at hL ⊢
  refine r_const E dL_holds_0 ?_
  refine lv_istore_n (lv' := [(1, .int (iI (0))), (0, .ref (x))]) E.1 E.2.1 dL_holds_1 rfl hl (by decide) rfl (fun ls hl => ?_)
  refine r_const E dL_holds_2 ?_
  refine lv_istore_n (lv' := [(2, .int (iI (0))), (1, .int (iI (0))), (0, .ref (x))]) E.1 E.2.1 dL_holds_3 rfl hl (by decide) rfl (fun ls hl => ?_)
  refine r_bipush E dL_holds_4 (by decide) ?_
  refine lv_istore_n (lv' := [(3, .int (iI ((-6)))), (2, .int (iI (0))), (1, .int (iI (0))), (0, .ref (x))]) E.1 E.2.1 dL_holds_6 rfl hl (by decide) rfl (fun ls hl => ?_)
  refine lv_aload_n E.1 E.2.1 dL_holds_7 rfl (lv_at hl 3 rfl) ?_
  refine kVRE (As := []) E cw_L_13 (c_X5_next G l x fb fl σ hs tx len hI hT hfx hgx  ) hP.1 ⟨_, _, rfl⟩ hP hL hl.1 rfl rfl (Nat.le_of_ble_eq_true rfl) ⟨Nat.le_of_ble_eq_true rfl, Nat.le_of_ble_eq_true rfl⟩ ⟨rfl, rfl⟩ ⟨Nat.le_of_ble_eq_true rfl, Nat.le_of_ble_eq_true rfl⟩ dL_holds_8 (fun locs hL => ?_)
  refine r_if_lt (tgt := 88) E dL_holds_11 (by decide) (by omega) (fun c11 => absurd c11 (by omega)) (fun c11 => ?_)
  refine lv_aload_n E.1 E.2.1 dL_holds_14 rfl (lv_at hl 3 rfl) ?_
  refine kVRE (As := []) E cw_L_13 (c_X5_next G l x fb fl σ hs tx len hI hT hfx hgx  ) hP.1 ⟨_, _, rfl⟩ hP hL hl.1 rfl rfl (Nat.le_of_ble_eq_true rfl) ⟨Nat.le_of_ble_eq_true rfl, Nat.le_of_ble_eq_true rfl⟩ ⟨rfl, rfl⟩ ⟨Nat.le_of_ble_eq_true rfl, Nat.le_of_ble_eq_true rfl⟩ dL_holds_15 (fun locs hL => ?_)
  refine r_sipush E dL_holds_18 (by decide) ?_
  refine r_icmp_gt (tgt := 88) E dL_holds_21 (by decide) (by omega) (by omega) (fun c21 => absurd c21 (by omega)) (fun c21 => ?_)
  refine lv_aload_n E.1 E.2.1 dL_holds_24 rfl (lv_at hl 3 rfl) ?_
  refine kVRE (As := []) E cw_L_26 (c_X5_sessions G l x fb fl σ hs tx len hI hT hfx hgx  ) hP.1 ⟨_, _, rfl⟩ hP hL hl.1 rfl rfl (Nat.le_of_ble_eq_true rfl) ⟨Nat.le_of_ble_eq_true rfl, Nat.le_of_ble_eq_true rfl⟩ ⟨rfl, rfl⟩ ⟨Nat.le_of_ble_eq_true rfl, Nat.le_of_ble_eq_true rfl⟩ dL_holds_25 (fun locs hL => ?_)
  refine r_bipush E dL_holds_28 (by decide) ?_
  refine r_icmp_gt (tgt := 88) E dL_holds_30 (by decide) (by omega) (by omega) (fun c30 => absurd c30 (by omega)) (fun c30 => ?_)
  refine lv_aload_n E.1 E.2.1 dL_holds_33 rfl (lv_at hl 3 rfl) ?_
  refine r_const E dL_holds_34 ?_
  refine kVRE (As := [.int (iI (0))]) E cw_L_19 (c_X5_setting G l x fb fl σ hs tx len hI hT hfx hgx (0) (by unfold okI; omega)) hP.1 ⟨_, _, rfl⟩ hP hL hl.1 rfl rfl (Nat.le_of_ble_eq_true rfl) ⟨Nat.le_of_ble_eq_true rfl, Nat.le_of_ble_eq_true rfl⟩ ⟨rfl, rfl⟩ ⟨Nat.le_of_ble_eq_true rfl, Nat.le_of_ble_eq_true rfl⟩ dL_holds_35 (fun locs hL => ?_)
  rw [spSet_0 σ]
  refine r_const E dL_holds_38 ?_
  refine r_icmp_lt (tgt := 88) E dL_holds_39 (by decide) (by omega) (by omega) (fun c39 => absurd c39 (by omega)) (fun c39 => ?_)
  refine lv_aload_n E.1 E.2.1 dL_holds_42 rfl (lv_at hl 3 rfl) ?_
  refine r_const E dL_holds_43 ?_
  refine kVRE (As := [.int (iI (0))]) E cw_L_19 (c_X5_setting G l x fb fl σ hs tx len hI hT hfx hgx (0) (by unfold okI; omega)) hP.1 ⟨_, _, rfl⟩ hP hL hl.1 rfl rfl (Nat.le_of_ble_eq_true rfl) ⟨Nat.le_of_ble_eq_true rfl, Nat.le_of_ble_eq_true rfl⟩ ⟨rfl, rfl⟩ ⟨Nat.le_of_ble_eq_true rfl, Nat.le_of_ble_eq_true rfl⟩ dL_holds_44 (fun locs hL => ?_)
  rw [spSet_0 σ]
  refine r_bipush E dL_holds_47 (by decide) ?_
  refine r_icmp_gt (tgt := 88) E dL_holds_49 (by decide) (by omega) (by omega) (fun c49 => absurd c49 (by omega)) (fun c49 => ?_)
  refine lv_aload_n E.1 E.2.1 dL_holds_52 rfl (lv_at hl 3 rfl) ?_
  refine r_const E dL_holds_53 ?_
  refine kVRE (As := [.int (iI (1))]) E cw_L_19 (c_X5_setting G l x fb fl σ hs tx len hI hT hfx hgx (1) (by unfold okI; omega)) hP.1 ⟨_, _, rfl⟩ hP hL hl.1 rfl rfl (Nat.le_of_ble_eq_true rfl) ⟨Nat.le_of_ble_eq_true rfl, Nat.le_of_ble_eq_true rfl⟩ ⟨rfl, rfl⟩ ⟨Nat.le_of_ble_eq_true rfl, Nat.le_of_ble_eq_true rfl⟩ dL_holds_54 (fun locs hL => ?_)
  rw [spSet_1 σ]
  refine r_const E dL_holds_57 ?_
  refine r_icmp_lt (tgt := 88) E dL_holds_58 (by decide) (by omega) (by omega) (fun c58 => absurd c58 (by omega)) (fun c58 => ?_)
  refine lv_aload_n E.1 E.2.1 dL_holds_61 rfl (lv_at hl 3 rfl) ?_
  refine r_const E dL_holds_62 ?_
  refine kVRE (As := [.int (iI (1))]) E cw_L_19 (c_X5_setting G l x fb fl σ hs tx len hI hT hfx hgx (1) (by unfold okI; omega)) hP.1 ⟨_, _, rfl⟩ hP hL hl.1 rfl rfl (Nat.le_of_ble_eq_true rfl) ⟨Nat.le_of_ble_eq_true rfl, Nat.le_of_ble_eq_true rfl⟩ ⟨rfl, rfl⟩ ⟨Nat.le_of_ble_eq_true rfl, Nat.le_of_ble_eq_true rfl⟩ dL_holds_63 (fun locs hL => ?_)
  rw [spSet_1 σ]
  refine r_bipush E dL_holds_66 (by decide) ?_
  refine r_icmp_gt (tgt := 88) E dL_holds_68 (by decide) (by omega) (by omega) (fun c68 => absurd c68 (by omega)) (fun c68 => ?_)
  refine lv_aload_n E.1 E.2.1 dL_holds_71 rfl (lv_at hl 3 rfl) ?_
  refine lv_aload_n E.1 E.2.1 dL_holds_72 rfl (lv_at hl 3 rfl) ?_
  refine kVRE (As := []) E cw_L_26 (c_X5_sessions G l x fb fl σ hs tx len hI hT hfx hgx  ) hP.1 ⟨_, _, rfl⟩ hP hL hl.1 rfl rfl (Nat.le_of_ble_eq_true rfl) ⟨Nat.le_of_ble_eq_true rfl, Nat.le_of_ble_eq_true rfl⟩ ⟨rfl, rfl⟩ ⟨Nat.le_of_ble_eq_true rfl, Nat.le_of_ble_eq_true rfl⟩ dL_holds_73 (fun locs hL => ?_)
  refine r_const E dL_holds_76 ?_
  refine kVRE (As := [.int (iI ((mn σ : Int))), .int (iI (0))]) E cw_L_29 (c_X5_session G l x fb fl σ hs tx len hI hT hfx hgx ((mn σ : Int)) (0) (by unfold okI; omega) (by unfold okI; omega)) hP.1 ⟨_, _, rfl⟩ hP hL hl.1 rfl rfl (Nat.le_of_ble_eq_true rfl) ⟨Nat.le_of_ble_eq_true rfl, Nat.le_of_ble_eq_true rfl⟩ ⟨rfl, rfl⟩ ⟨Nat.le_of_ble_eq_true rfl, Nat.le_of_ble_eq_true rfl⟩ dL_holds_77 (fun locs hL => ?_)
  rw [spSes_out (Nat.le_refl _) 0]
  refine r_const E dL_holds_80 ?_
  refine r_icmp_ne (tgt := 88) E dL_holds_81 (by decide) (by omega) (by omega) (fun c81 => absurd c81 (by omega)) (fun c81 => ?_)
  refine r_const E dL_holds_84 ?_
  refine lv_goto (tgt := 89) E.1 E.2.1 dL_holds_85 (by decide) ?_
  refine lv_istore (lv' := [(4, .int (iI (1))), (3, .int (iI ((-6)))), (2, .int (iI (0))), (1, .int (iI (0))), (0, .ref (x))]) E.1 E.2.1 dL_holds_89 hl (by decide) rfl (fun ls hl => ?_)
  refine r_const E dL_holds_91 ?_
  refine lv_istore (lv' := [(5, .int (iI (0))), (4, .int (iI (1))), (3, .int (iI ((-6)))), (2, .int (iI (0))), (1, .int (iI (0))), (0, .ref (x))]) E.1 E.2.1 dL_holds_92 hl (by decide) rfl (fun ls hl => ?_)
  have LP94 : ∀ (kin94 : Nat) (n : Nat) (u a1 a2 a3 : Int) (ls : Array Slot) (locs : List Loc) (hn : n ≤ mn σ) (hu : u = (n : Int)) (h1 : a1 = (posN σ n : Int)) (h2 : a2 = (wrN σ n : Int)) (h3 : a3 = oI (lastB (readB σ (dm σ)) n)) (hkin94 : mn σ - n = kin94) (hl : lv_has ls 15 [(5, .int (iI (u))), (1, .int (iI (a1))), (2, .int (iI (a2))), (3, .int (iI (a3))), (4, .int (iI (1))), (0, .ref (x))]) (hL : Lk G locs), W p l e ({ frames := 6, cells := 0, slots := 0, locals := 139 } : Room) s m args below meth c s.heap locs 0 0 (QQ G below args s ({ frames := 6, cells := 0, slots := 0, locals := 139 } : Room) (RE (iI 1))) (F0 m 94 ls []) := by
    intro kin94
    induction kin94 using Nat.strongRecOn with
    | ind kin94 ihin94 =>
      intro n u a1 a2 a3 ls locs hn hu h1 h2 h3 hkin94 hl hL
      refine lv_iload E.1 E.2.1 dL_holds_94 (lv_at hl 0 rfl) ?_
      refine lv_aload_n E.1 E.2.1 dL_holds_96 rfl (lv_at hl 5 rfl) ?_
      refine kVRE (As := []) E cw_L_26 (c_X5_sessions G l x fb fl σ hs tx len hI hT hfx hgx  ) hP.1 ⟨_, _, rfl⟩ hP hL hl.1 rfl rfl (Nat.le_of_ble_eq_true rfl) ⟨Nat.le_of_ble_eq_true rfl, Nat.le_of_ble_eq_true rfl⟩ ⟨rfl, rfl⟩ ⟨Nat.le_of_ble_eq_true rfl, Nat.le_of_ble_eq_true rfl⟩ dL_holds_97 (fun locs hL => ?_)
      refine r_icmp_ge (tgt := 567) E dL_holds_100 (by decide) (by omega) (by omega) (fun c100 => ?_) (fun c100 => ?_)
      · have hnm : n = mn σ := by omega
        have h1e : a1 = (nx σ : Int) := by rw [h1, hnm, posN_end]
        have h2e : a2 = (wrN σ (mn σ) : Int) := by rw [h2, hnm]
        have h3e : a3 = oI (validD σ (dm σ)) := by rw [h3, hnm]; rfl
        have hw3 := wr_all hS
        have hvb := oI_b (o := validD σ (dm σ)) (N := 12) (fun n h => Nat.lt_of_lt_of_le (validD_lt h) i1)
        clear h1 h2 h3
        refine r_const E dL_holds_567 ?_
        refine lv_istore (lv' := [(5, .int (iI (0))), (1, .int (iI (a1))), (2, .int (iI (a2))), (3, .int (iI (a3))), (4, .int (iI (1))), (0, .ref (x))]) E.1 E.2.1 dL_holds_568 hl (by decide) rfl (fun ls hl => ?_)
        refine r_const E dL_holds_570 ?_
        refine lv_istore (lv' := [(6, .int (iI (0))), (5, .int (iI (0))), (1, .int (iI (a1))), (2, .int (iI (a2))), (3, .int (iI (a3))), (4, .int (iI (1))), (0, .ref (x))]) E.1 E.2.1 dL_holds_571 hl (by decide) rfl (fun ls hl => ?_)
        refine r_const E dL_holds_573 ?_
        refine lv_istore (lv' := [(7, .int (iI (0))), (6, .int (iI (0))), (5, .int (iI (0))), (1, .int (iI (a1))), (2, .int (iI (a2))), (3, .int (iI (a3))), (4, .int (iI (1))), (0, .ref (x))]) E.1 E.2.1 dL_holds_574 hl (by decide) rfl (fun ls hl => ?_)
        have LP576 : ∀ (kin576 : Nat) (k : Nat) (u3 b5 b6 b2 : Int) (ls : Array Slot) (locs : List Loc) (hk : k ≤ 20) (hu3 : u3 = (k : Int)) (h5 : b5 = (sumF (fun j => sizeO (foundF σ j)) k : Int)) (h6 : b6 = (cntB (fun j => intactO (dm σ) (foundF σ j)) k : Int)) (h7 : b2 = (wrN σ (mn σ) : Int) - (sumF (vr σ) k : Int)) (hkin576 : 20 - k = kin576) (hl : lv_has ls 15 [(7, .int (iI (u3))), (5, .int (iI (b5))), (6, .int (iI (b6))), (2, .int (iI (b2))), (4, .int (iI (1))), (1, .int (iI (a1))), (3, .int (iI (a3))), (0, .ref (x))]) (hL : Lk G locs), W p l e ({ frames := 6, cells := 0, slots := 0, locals := 139 } : Room) s m args below meth c s.heap locs 0 0 (QQ G below args s ({ frames := 6, cells := 0, slots := 0, locals := 139 } : Room) (RE (iI 1))) (F0 m 576 ls []) := by
          intro kin576
          induction kin576 using Nat.strongRecOn with
          | ind kin576 ihin576 =>
            intro k u3 b5 b6 b2 ls locs hk hu3 h5 h6 h7 hkin576 hl hL
            refine lv_iload E.1 E.2.1 dL_holds_576 (lv_at hl 0 rfl) ?_
            refine r_bipush E dL_holds_578 (by decide) ?_
            refine r_icmp_ge (tgt := 741) E dL_holds_580 (by decide) (by omega) (by omega) (fun c580 => ?_) (fun c580 => ?_)
            · have hk20 : k = 20 := by omega
              have h5e : b5 = (foundSec σ : Int) := by rw [h5, hk20, fs_sum]
              have h6e : b6 = (cntIntact σ (dm σ) : Int) := by rw [h6, hk20, in_cnt]
              have h7e : b2 = 0 := by rw [h7, hk20, vr_all hS]; omega
              have h8e := foundSec_le hI
              have h9e := cntIntact_le σ (dm σ)
              clear h5 h6 h7
              refine lv_iload E.1 E.2.1 dL_holds_741 (lv_at hl 4 rfl) ?_
              refine r_if_eq (tgt := 812) E dL_holds_743 (by decide) (by omega) (fun c743 => absurd c743 (by omega)) (fun c743 => ?_)
              refine lv_iload_n E.1 E.2.1 dL_holds_746 rfl (lv_at hl 5 rfl) ?_
              refine lv_aload_n E.1 E.2.1 dL_holds_747 rfl (lv_at hl 7 rfl) ?_
              refine kVRE (As := []) E cw_L_13 (c_X5_next G l x fb fl σ hs tx len hI hT hfx hgx  ) hP.1 ⟨_, _, rfl⟩ hP hL hl.1 rfl rfl (Nat.le_of_ble_eq_true rfl) ⟨Nat.le_of_ble_eq_true rfl, Nat.le_of_ble_eq_true rfl⟩ ⟨rfl, rfl⟩ ⟨Nat.le_of_ble_eq_true rfl, Nat.le_of_ble_eq_true rfl⟩ dL_holds_748 (fun locs hL => ?_)
              refine r_icmp_ne (tgt := 812) E dL_holds_751 (by decide) (by omega) (by omega) (fun c751 => absurd c751 (by omega)) (fun c751 => ?_)
              refine lv_iload_n E.1 E.2.1 dL_holds_754 rfl (lv_at hl 6 rfl) ?_
              refine lv_aload_n E.1 E.2.1 dL_holds_755 rfl (lv_at hl 7 rfl) ?_
              refine kVRE (As := []) E cw_L_55 (c_X5_valid G l x fb fl σ hs tx len hI hT hfx hgx  ) hP.1 ⟨_, _, rfl⟩ hP hL hl.1 rfl rfl (Nat.le_of_ble_eq_true rfl) ⟨Nat.le_of_ble_eq_true rfl, Nat.le_of_ble_eq_true rfl⟩ ⟨rfl, rfl⟩ ⟨Nat.le_of_ble_eq_true rfl, Nat.le_of_ble_eq_true rfl⟩ dL_holds_756 (fun locs hL => ?_)
              rw [show spValid σ = oI (validD σ (dm σ)) from rfl]
              refine r_icmp_ne (tgt := 812) E dL_holds_759 (by decide) (by omega) (by omega) (fun c759 => absurd c759 (by omega)) (fun c759 => ?_)
              refine lv_iload_n E.1 E.2.1 dL_holds_762 rfl (lv_at hl 3 rfl) ?_
              refine r_if_ne (tgt := 812) E dL_holds_763 (by decide) (by omega) (fun c763 => absurd c763 (by omega)) (fun c763 => ?_)
              refine lv_iload E.1 E.2.1 dL_holds_766 (lv_at hl 2 rfl) ?_
              refine lv_aload_n E.1 E.2.1 dL_holds_768 rfl (lv_at hl 7 rfl) ?_
              refine kVRE (As := []) E cw_L_58 (c_X5_intactFiles G l x fb fl σ hs tx len hI hT hfx hgx  ) hP.1 ⟨_, _, rfl⟩ hP hL hl.1 rfl rfl (Nat.le_of_ble_eq_true rfl) ⟨Nat.le_of_ble_eq_true rfl, Nat.le_of_ble_eq_true rfl⟩ ⟨rfl, rfl⟩ ⟨Nat.le_of_ble_eq_true rfl, Nat.le_of_ble_eq_true rfl⟩ dL_holds_769 (fun locs hL => ?_)
              rw [show spIntactFiles σ = (cntIntact σ (dm σ) : Int) from rfl]
              refine r_icmp_ne (tgt := 812) E dL_holds_772 (by decide) (by omega) (by omega) (fun c772 => absurd c772 (by omega)) (fun c772 => ?_)
              refine lv_aload_n E.1 E.2.1 dL_holds_775 rfl (lv_at hl 7 rfl) ?_
              refine kVRE (As := []) E cw_L_61 (c_X5_lost G l x fb fl σ hs tx len hI hT hfx hgx  ) hP.1 ⟨_, _, rfl⟩ hP hL hl.1 rfl rfl (Nat.le_of_ble_eq_true rfl) ⟨Nat.le_of_ble_eq_true rfl, Nat.le_of_ble_eq_true rfl⟩ ⟨rfl, rfl⟩ ⟨Nat.le_of_ble_eq_true rfl, Nat.le_of_ble_eq_true rfl⟩ dL_holds_776 (fun locs hL => ?_)
              rw [show spLost σ = (nx σ : Int) - (foundSec σ : Int) from rfl]
              refine lv_iload_n E.1 E.2.1 dL_holds_779 rfl (lv_at hl 5 rfl) ?_
              refine lv_iload E.1 E.2.1 dL_holds_780 (lv_at hl 1 rfl) ?_
              refine r_sub E dL_holds_782 ?_
              refine r_icmp_ne (tgt := 812) E dL_holds_783 (by decide) (by omega) (by omega) (fun c783 => absurd c783 (by omega)) (fun c783 => ?_)
              refine lv_aload_n E.1 E.2.1 dL_holds_786 rfl (lv_at hl 7 rfl) ?_
              refine kVRF (As := []) E cw_L_64 (c_X5_usedWell G l x fb fl σ hs tx len hI hT hfx hgx) hP.1 ⟨_, _, rfl⟩ hP hL hl.1 rfl rfl (Nat.le_of_ble_eq_true rfl) ⟨Nat.le_of_ble_eq_true rfl, Nat.le_of_ble_eq_true rfl⟩ ⟨rfl, rfl⟩ ⟨Nat.le_of_ble_eq_true rfl, Nat.le_of_ble_eq_true rfl⟩ dL_holds_787 (fun locs hL => ?_)
              refine lv_iload_n E.1 E.2.1 dL_holds_790 rfl (lv_at hl 5 rfl) ?_
              refine r_if_ne (tgt := 798) E dL_holds_791 (by decide) (by omega) (fun c791 => ?_) (fun c791 => ?_)
              · refine lv_iload E.1 E.2.1 dL_holds_798 (lv_at hl 1 rfl) ?_
                refine lv_i2f E.1 E.2.1 dL_holds_800 ?_
                refine lv_iload_n E.1 E.2.1 dL_holds_801 rfl (lv_at hl 5 rfl) ?_
                refine lv_i2f E.1 E.2.1 dL_holds_802 ?_
                rw [h5e, h1e]
                refine lv_fdiv E.1 E.2.1 dL_holds_803 (wlD_n (wlD_all (foundSec_le hI) (by omega) hI.nx240)).1 ?_
                have hsw : spWell σ = FP.fdiv (FP.i2f (iI (foundSec σ : Int))) (FP.i2f (iI (nx σ : Int))) := by unfold spWell; rw [if_neg (by omega)]; rfl
                have hsn := (wlD_n (spWell_n hI)).2
                rw [← hsw]
                refine lv_fcmp E.1 E.2.1 dL_holds_804 ?_
                rw [hsn, show Op.cmpValue (some .eq) .l = iI 0 from rfl]
                refine r_if_ne (tgt := 812) E dL_holds_805 (by decide) (by omega) (fun c805 => absurd c805 (by omega)) (fun c805 => ?_)
                refine r_const E dL_holds_808 ?_
                refine lv_goto (tgt := 813) E.1 E.2.1 dL_holds_809 (by decide) ?_
                refine e_zret (rm := ({ frames := 6, cells := 0, slots := 0, locals := 139 } : Room)) (v := iI (1)) E hL rfl dL_holds_813 ?_
                exact ⟨rfl, rfl⟩
              · refine lv_fconst1 E.1 E.2.1 dL_holds_794 ?_
                refine lv_goto (tgt := 804) E.1 E.2.1 dL_holds_795 (by decide) ?_
                have hsw : spWell σ = FP.fconst1 := by unfold spWell; rw [if_pos (by omega)]
                have hsn := (wlD_n (spWell_n hI)).2
                rw [← hsw]
                refine lv_fcmp E.1 E.2.1 dL_holds_804 ?_
                rw [hsn, show Op.cmpValue (some .eq) .l = iI 0 from rfl]
                refine r_if_ne (tgt := 812) E dL_holds_805 (by decide) (by omega) (fun c805 => absurd c805 (by omega)) (fun c805 => ?_)
                refine r_const E dL_holds_808 ?_
                refine lv_goto (tgt := 813) E.1 E.2.1 dL_holds_809 (by decide) ?_
                refine e_zret (rm := ({ frames := 6, cells := 0, slots := 0, locals := 139 } : Room)) (v := iI (1)) E hL rfl dL_holds_813 ?_
                exact ⟨rfl, rfl⟩
            · refine lv_iload E.1 E.2.1 dL_holds_583 (lv_at hl 4 rfl) ?_
              refine r_if_eq (tgt := 741) E dL_holds_585 (by decide) (by omega) (fun c585 => absurd c585 (by omega)) (fun c585 => ?_)
              subst hu3
              have hk20 : k < 20 := by omega
              have hv2 := vr_row hS hk20
              rcases hvd : validD σ (dm σ) with _ | v
              · have h3f : a3 = -6 := by rw [h3e, hvd]; rfl
                have hfd : foundF σ k = none := found_n hvd
                refine lv_iload_n E.1 E.2.1 dL_holds_588 rfl (lv_at hl 6 rfl) ?_
                refine r_bipush E dL_holds_589 (by decide) ?_
                refine r_icmp_ne (tgt := 599) E dL_holds_591 (by decide) (by omega) (by omega) (fun c591 => absurd c591 (by omega)) (fun c591 => ?_)
                refine r_bipush E dL_holds_594 (by decide) ?_
                refine lv_goto (tgt := 607) E.1 E.2.1 dL_holds_596 (by decide) ?_
                refine lv_istore (lv' := [(8, .int (iI ((-6)))), (7, .int (iI ((k : Int)))), (5, .int (iI (b5))), (6, .int (iI (b6))), (2, .int (iI (b2))), (4, .int (iI (1))), (1, .int (iI (a1))), (3, .int (iI (a3))), (0, .ref (x))]) E.1 E.2.1 dL_holds_607 hl (by decide) rfl (fun ls hl => ?_)
                refine lv_iload E.1 E.2.1 dL_holds_609 (lv_at hl 0 rfl) ?_
                refine r_bipush E dL_holds_611 (by decide) ?_
                refine r_icmp_ne (tgt := 620) E dL_holds_613 (by decide) (by omega) (by omega) (fun c613 => absurd c613 (by omega)) (fun c613 => ?_)
                refine r_const E dL_holds_616 ?_
                refine lv_goto (tgt := 628) E.1 E.2.1 dL_holds_617 (by decide) ?_
                refine lv_istore (lv' := [(9, .int (iI (0))), (8, .int (iI ((-6)))), (7, .int (iI ((k : Int)))), (5, .int (iI (b5))), (6, .int (iI (b6))), (2, .int (iI (b2))), (4, .int (iI (1))), (1, .int (iI (a1))), (3, .int (iI (a3))), (0, .ref (x))]) E.1 E.2.1 dL_holds_628 hl (by decide) rfl (fun ls hl => ?_)
                refine lv_iload E.1 E.2.1 dL_holds_630 (lv_at hl 1 rfl) ?_
                refine r_bipush E dL_holds_632 (by decide) ?_
                refine r_icmp_eq (tgt := 652) E dL_holds_634 (by decide) (by omega) (by omega) (fun c634 => ?_) (fun c634 => absurd c634 (by omega))
                refine r_const E dL_holds_652 ?_
                refine lv_istore (lv' := [(10, .int (iI (0))), (9, .int (iI (0))), (8, .int (iI ((-6)))), (7, .int (iI ((k : Int)))), (5, .int (iI (b5))), (6, .int (iI (b6))), (2, .int (iI (b2))), (4, .int (iI (1))), (1, .int (iI (a1))), (3, .int (iI (a3))), (0, .ref (x))]) E.1 E.2.1 dL_holds_653 hl (by decide) rfl (fun ls hl => ?_)
                refine lv_iload E.1 E.2.1 dL_holds_655 (lv_at hl 4 rfl) ?_
                refine lv_iload E.1 E.2.1 dL_holds_657 (lv_at hl 1 rfl) ?_
                refine r_add E dL_holds_659 ?_
                refine lv_istore (lv' := [(5, .int (iI (b5 + 0))), (10, .int (iI (0))), (9, .int (iI (0))), (8, .int (iI ((-6)))), (7, .int (iI ((k : Int)))), (6, .int (iI (b6))), (2, .int (iI (b2))), (4, .int (iI (1))), (1, .int (iI (a1))), (3, .int (iI (a3))), (0, .ref (x))]) E.1 E.2.1 dL_holds_660 hl (by decide) rfl (fun ls hl => ?_)
                refine lv_iload E.1 E.2.1 dL_holds_662 (lv_at hl 5 rfl) ?_
                refine lv_iload E.1 E.2.1 dL_holds_664 (lv_at hl 1 rfl) ?_
                refine r_if_eq (tgt := 673) E dL_holds_666 (by decide) (by omega) (fun c666 => ?_) (fun c666 => absurd c666 (by omega))
                refine r_const E dL_holds_673 ?_
                refine r_add E dL_holds_674 ?_
                refine lv_istore (lv' := [(6, .int (iI (b6 + 0))), (5, .int (iI (b5 + 0))), (10, .int (iI (0))), (9, .int (iI (0))), (8, .int (iI ((-6)))), (7, .int (iI ((k : Int)))), (2, .int (iI (b2))), (4, .int (iI (1))), (1, .int (iI (a1))), (3, .int (iI (a3))), (0, .ref (x))]) E.1 E.2.1 dL_holds_675 hl (by decide) rfl (fun ls hl => ?_)
                refine lv_iload_n E.1 E.2.1 dL_holds_677 rfl (lv_at hl 6 rfl) ?_
                refine lv_aload_n E.1 E.2.1 dL_holds_678 rfl (lv_at hl 10 rfl) ?_
                refine lv_iload E.1 E.2.1 dL_holds_679 (lv_at hl 5 rfl) ?_
                refine kVRE (As := [.int (iI ((k : Int)))]) E cw_L_37 (c_X5_versions G l x fb fl σ hs tx len hI hT hfx hgx ((k : Int)) (by unfold okI; omega)) hP.1 ⟨_, _, rfl⟩ hP hL hl.1 rfl rfl (Nat.le_of_ble_eq_true rfl) ⟨Nat.le_of_ble_eq_true rfl, Nat.le_of_ble_eq_true rfl⟩ ⟨rfl, rfl⟩ ⟨Nat.le_of_ble_eq_true rfl, Nat.le_of_ble_eq_true rfl⟩ dL_holds_681 (fun locs hL => ?_)
                rw [spVer_v hk20]
                refine r_sub E dL_holds_684 ?_
                refine lv_istore_n (lv' := [(2, .int (iI (b2 - (vr σ k : Int)))), (6, .int (iI (b6 + 0))), (5, .int (iI (b5 + 0))), (10, .int (iI (0))), (9, .int (iI (0))), (8, .int (iI ((-6)))), (7, .int (iI ((k : Int)))), (4, .int (iI (1))), (1, .int (iI (a1))), (3, .int (iI (a3))), (0, .ref (x))]) E.1 E.2.1 dL_holds_685 rfl hl (by decide) rfl (fun ls hl => ?_)
                refine lv_aload_n E.1 E.2.1 dL_holds_686 rfl (lv_at hl 10 rfl) ?_
                refine lv_iload E.1 E.2.1 dL_holds_687 (lv_at hl 6 rfl) ?_
                refine kVRE (As := [.int (iI ((k : Int)))]) E cw_L_49 (c_X5_find G l x fb fl σ hs tx len hI hT hfx hgx ((k : Int)) (by unfold okI; omega)) hP.1 ⟨_, _, rfl⟩ hP hL hl.1 rfl rfl (Nat.le_of_ble_eq_true rfl) ⟨Nat.le_of_ble_eq_true rfl, Nat.le_of_ble_eq_true rfl⟩ ⟨rfl, rfl⟩ ⟨Nat.le_of_ble_eq_true rfl, Nat.le_of_ble_eq_true rfl⟩ dL_holds_689 (fun locs hL => ?_)
                rw [spFind_n hk20 hfd]
                refine lv_iload E.1 E.2.1 dL_holds_692 (lv_at hl 5 rfl) ?_
                refine r_icmp_ne (tgt := 732) E dL_holds_694 (by decide) (by omega) (by omega) (fun c694 => absurd c694 (by omega)) (fun c694 => ?_)
                refine lv_aload_n E.1 E.2.1 dL_holds_697 rfl (lv_at hl 10 rfl) ?_
                refine lv_iload E.1 E.2.1 dL_holds_698 (lv_at hl 6 rfl) ?_
                refine kVRE (As := [.int (iI ((k : Int)))]) E cw_L_52 (c_X5_intact G l x fb fl σ hs tx len hI hT hfx hgx ((k : Int)) (by unfold okI; omega)) hP.1 ⟨_, _, rfl⟩ hP hL hl.1 rfl rfl (Nat.le_of_ble_eq_true rfl) ⟨Nat.le_of_ble_eq_true rfl, Nat.le_of_ble_eq_true rfl⟩ ⟨rfl, rfl⟩ ⟨Nat.le_of_ble_eq_true rfl, Nat.le_of_ble_eq_true rfl⟩ dL_holds_700 (fun locs hL => ?_)
                rw [spIntact_n hk20 hfd]
                refine lv_iload E.1 E.2.1 dL_holds_703 (lv_at hl 5 rfl) ?_
                refine r_bipush E dL_holds_705 (by decide) ?_
                refine r_icmp_ne (tgt := 715) E dL_holds_707 (by decide) (by omega) (by omega) (fun c707 => absurd c707 (by omega)) (fun c707 => ?_)
                refine r_bipush E dL_holds_710 (by decide) ?_
                refine lv_goto (tgt := 725) E.1 E.2.1 dL_holds_712 (by decide) ?_
                refine r_icmp_ne (tgt := 732) E dL_holds_725 (by decide) (by omega) (by omega) (fun c725 => absurd c725 (by omega)) (fun c725 => ?_)
                refine r_const E dL_holds_728 ?_
                refine lv_goto (tgt := 733) E.1 E.2.1 dL_holds_729 (by decide) ?_
                refine lv_istore (lv' := [(4, .int (iI (1))), (2, .int (iI (b2 - (vr σ k : Int)))), (6, .int (iI (b6 + 0))), (5, .int (iI (b5 + 0))), (10, .int (iI (0))), (9, .int (iI (0))), (8, .int (iI ((-6)))), (7, .int (iI ((k : Int)))), (1, .int (iI (a1))), (3, .int (iI (a3))), (0, .ref (x))]) E.1 E.2.1 dL_holds_733 hl (by decide) rfl (fun ls hl => ?_)
                refine r_inc (lv' := [(7, .int (iI ((k : Int) + 1))), (4, .int (iI (1))), (2, .int (iI (b2 - (vr σ k : Int)))), (6, .int (iI (b6 + 0))), (5, .int (iI (b5 + 0))), (10, .int (iI (0))), (9, .int (iI (0))), (8, .int (iI ((-6)))), (1, .int (iI (a1))), (3, .int (iI (a3))), (0, .ref (x))]) E dL_holds_735 hl (k := 7) rfl (by decide) rfl (fun ls hl => ?_)
                refine lv_goto (tgt := 576) E.1 E.2.1 dL_holds_738 (by decide) ?_
                refine ihin576 _ ?_ (k + 1) ((k : Int) + 1) (b5 + 0) (b6 + 0) (b2 - (vr σ k : Int)) ls locs ?_ ?_ ?_ ?_ ?_ rfl (lv_sub hl [0, 4, 3, 2, 1, 8, 9, 10] rfl) hL
                · omega
                · omega
                · omega
                · have h9 : sumF (fun j => sizeO (foundF σ j)) (k + 1) = sumF (fun j => sizeO (foundF σ j)) k + sizeO (foundF σ k) := rfl
                  rw [h9, hfd]
                  rw [show sizeO none = 0 from rfl]
                  omega
                · have h9 : cntB (fun j => intactO (dm σ) (foundF σ j)) (k + 1) = cntB (fun j => intactO (dm σ) (foundF σ j)) k + (if intactO (dm σ) (foundF σ k) then 1 else 0) := rfl
                  rw [h9, hfd, show intactO (dm σ) none = false from rfl, if_neg (by decide)]
                  omega
                · rw [show sumF (vr σ) (k + 1) = sumF (vr σ) k + vr σ k from rfl]
                  omega
              · have h3f : a3 = (v : Int) := by rw [h3e, hvd]; rfl
                have hvm := validD_lt hvd
                rcases hen : en σ v k with _ | f
                · have hfd : foundF σ k = none := (found_v hvd).trans hen
                  refine lv_iload_n E.1 E.2.1 dL_holds_588 rfl (lv_at hl 6 rfl) ?_
                  refine r_bipush E dL_holds_589 (by decide) ?_
                  refine r_icmp_ne (tgt := 599) E dL_holds_591 (by decide) (by omega) (by omega) (fun c591 => ?_) (fun c591 => absurd c591 (by omega))
                  refine lv_aload_n E.1 E.2.1 dL_holds_599 rfl (lv_at hl 7 rfl) ?_
                  refine lv_iload_n E.1 E.2.1 dL_holds_600 rfl (lv_at hl 6 rfl) ?_
                  rw [show ((a3 : Int)) = (v : Int) by omega]
                  refine lv_iload E.1 E.2.1 dL_holds_601 (lv_at hl 0 rfl) ?_
                  refine r_const E dL_holds_603 ?_
                  refine kVRE (As := [.int (iI ((v : Int))), .int (iI ((k : Int))), .int (iI (0))]) E cw_L_33 (c_X5_entry G l x fb fl σ hs tx len hI hT hfx hgx ((v : Int)) ((k : Int)) (0) (by unfold okI; omega) (by unfold okI; omega) (by unfold okI; omega)) hP.1 ⟨_, _, rfl⟩ hP hL hl.1 rfl rfl (Nat.le_of_ble_eq_true rfl) ⟨Nat.le_of_ble_eq_true rfl, Nat.le_of_ble_eq_true rfl⟩ ⟨rfl, rfl⟩ ⟨Nat.le_of_ble_eq_true rfl, Nat.le_of_ble_eq_true rfl⟩ dL_holds_604 (fun locs hL => ?_)
                  rw [spEntN hvm hk20 hen (w := 0) (by decide)]
                  refine lv_istore (lv' := [(8, .int (iI ((-6)))), (7, .int (iI ((k : Int)))), (5, .int (iI (b5))), (6, .int (iI (b6))), (2, .int (iI (b2))), (4, .int (iI (1))), (1, .int (iI (a1))), (3, .int (iI (a3))), (0, .ref (x))]) E.1 E.2.1 dL_holds_607 hl (by decide) rfl (fun ls hl => ?_)
                  refine lv_iload E.1 E.2.1 dL_holds_609 (lv_at hl 0 rfl) ?_
                  refine r_bipush E dL_holds_611 (by decide) ?_
                  refine r_icmp_ne (tgt := 620) E dL_holds_613 (by decide) (by omega) (by omega) (fun c613 => absurd c613 (by omega)) (fun c613 => ?_)
                  refine r_const E dL_holds_616 ?_
                  refine lv_goto (tgt := 628) E.1 E.2.1 dL_holds_617 (by decide) ?_
                  refine lv_istore (lv' := [(9, .int (iI (0))), (8, .int (iI ((-6)))), (7, .int (iI ((k : Int)))), (5, .int (iI (b5))), (6, .int (iI (b6))), (2, .int (iI (b2))), (4, .int (iI (1))), (1, .int (iI (a1))), (3, .int (iI (a3))), (0, .ref (x))]) E.1 E.2.1 dL_holds_628 hl (by decide) rfl (fun ls hl => ?_)
                  refine lv_iload E.1 E.2.1 dL_holds_630 (lv_at hl 1 rfl) ?_
                  refine r_bipush E dL_holds_632 (by decide) ?_
                  refine r_icmp_eq (tgt := 652) E dL_holds_634 (by decide) (by omega) (by omega) (fun c634 => ?_) (fun c634 => absurd c634 (by omega))
                  refine r_const E dL_holds_652 ?_
                  refine lv_istore (lv' := [(10, .int (iI (0))), (9, .int (iI (0))), (8, .int (iI ((-6)))), (7, .int (iI ((k : Int)))), (5, .int (iI (b5))), (6, .int (iI (b6))), (2, .int (iI (b2))), (4, .int (iI (1))), (1, .int (iI (a1))), (3, .int (iI (a3))), (0, .ref (x))]) E.1 E.2.1 dL_holds_653 hl (by decide) rfl (fun ls hl => ?_)
                  refine lv_iload E.1 E.2.1 dL_holds_655 (lv_at hl 4 rfl) ?_
                  refine lv_iload E.1 E.2.1 dL_holds_657 (lv_at hl 1 rfl) ?_
                  refine r_add E dL_holds_659 ?_
                  refine lv_istore (lv' := [(5, .int (iI (b5 + 0))), (10, .int (iI (0))), (9, .int (iI (0))), (8, .int (iI ((-6)))), (7, .int (iI ((k : Int)))), (6, .int (iI (b6))), (2, .int (iI (b2))), (4, .int (iI (1))), (1, .int (iI (a1))), (3, .int (iI (a3))), (0, .ref (x))]) E.1 E.2.1 dL_holds_660 hl (by decide) rfl (fun ls hl => ?_)
                  refine lv_iload E.1 E.2.1 dL_holds_662 (lv_at hl 5 rfl) ?_
                  refine lv_iload E.1 E.2.1 dL_holds_664 (lv_at hl 1 rfl) ?_
                  refine r_if_eq (tgt := 673) E dL_holds_666 (by decide) (by omega) (fun c666 => ?_) (fun c666 => absurd c666 (by omega))
                  refine r_const E dL_holds_673 ?_
                  refine r_add E dL_holds_674 ?_
                  refine lv_istore (lv' := [(6, .int (iI (b6 + 0))), (5, .int (iI (b5 + 0))), (10, .int (iI (0))), (9, .int (iI (0))), (8, .int (iI ((-6)))), (7, .int (iI ((k : Int)))), (2, .int (iI (b2))), (4, .int (iI (1))), (1, .int (iI (a1))), (3, .int (iI (a3))), (0, .ref (x))]) E.1 E.2.1 dL_holds_675 hl (by decide) rfl (fun ls hl => ?_)
                  refine lv_iload_n E.1 E.2.1 dL_holds_677 rfl (lv_at hl 6 rfl) ?_
                  refine lv_aload_n E.1 E.2.1 dL_holds_678 rfl (lv_at hl 10 rfl) ?_
                  refine lv_iload E.1 E.2.1 dL_holds_679 (lv_at hl 5 rfl) ?_
                  refine kVRE (As := [.int (iI ((k : Int)))]) E cw_L_37 (c_X5_versions G l x fb fl σ hs tx len hI hT hfx hgx ((k : Int)) (by unfold okI; omega)) hP.1 ⟨_, _, rfl⟩ hP hL hl.1 rfl rfl (Nat.le_of_ble_eq_true rfl) ⟨Nat.le_of_ble_eq_true rfl, Nat.le_of_ble_eq_true rfl⟩ ⟨rfl, rfl⟩ ⟨Nat.le_of_ble_eq_true rfl, Nat.le_of_ble_eq_true rfl⟩ dL_holds_681 (fun locs hL => ?_)
                  rw [spVer_v hk20]
                  refine r_sub E dL_holds_684 ?_
                  refine lv_istore_n (lv' := [(2, .int (iI (b2 - (vr σ k : Int)))), (6, .int (iI (b6 + 0))), (5, .int (iI (b5 + 0))), (10, .int (iI (0))), (9, .int (iI (0))), (8, .int (iI ((-6)))), (7, .int (iI ((k : Int)))), (4, .int (iI (1))), (1, .int (iI (a1))), (3, .int (iI (a3))), (0, .ref (x))]) E.1 E.2.1 dL_holds_685 rfl hl (by decide) rfl (fun ls hl => ?_)
                  refine lv_aload_n E.1 E.2.1 dL_holds_686 rfl (lv_at hl 10 rfl) ?_
                  refine lv_iload E.1 E.2.1 dL_holds_687 (lv_at hl 6 rfl) ?_
                  refine kVRE (As := [.int (iI ((k : Int)))]) E cw_L_49 (c_X5_find G l x fb fl σ hs tx len hI hT hfx hgx ((k : Int)) (by unfold okI; omega)) hP.1 ⟨_, _, rfl⟩ hP hL hl.1 rfl rfl (Nat.le_of_ble_eq_true rfl) ⟨Nat.le_of_ble_eq_true rfl, Nat.le_of_ble_eq_true rfl⟩ ⟨rfl, rfl⟩ ⟨Nat.le_of_ble_eq_true rfl, Nat.le_of_ble_eq_true rfl⟩ dL_holds_689 (fun locs hL => ?_)
                  rw [spFind_n hk20 hfd]
                  refine lv_iload E.1 E.2.1 dL_holds_692 (lv_at hl 5 rfl) ?_
                  refine r_icmp_ne (tgt := 732) E dL_holds_694 (by decide) (by omega) (by omega) (fun c694 => absurd c694 (by omega)) (fun c694 => ?_)
                  refine lv_aload_n E.1 E.2.1 dL_holds_697 rfl (lv_at hl 10 rfl) ?_
                  refine lv_iload E.1 E.2.1 dL_holds_698 (lv_at hl 6 rfl) ?_
                  refine kVRE (As := [.int (iI ((k : Int)))]) E cw_L_52 (c_X5_intact G l x fb fl σ hs tx len hI hT hfx hgx ((k : Int)) (by unfold okI; omega)) hP.1 ⟨_, _, rfl⟩ hP hL hl.1 rfl rfl (Nat.le_of_ble_eq_true rfl) ⟨Nat.le_of_ble_eq_true rfl, Nat.le_of_ble_eq_true rfl⟩ ⟨rfl, rfl⟩ ⟨Nat.le_of_ble_eq_true rfl, Nat.le_of_ble_eq_true rfl⟩ dL_holds_700 (fun locs hL => ?_)
                  rw [spIntact_n hk20 hfd]
                  refine lv_iload E.1 E.2.1 dL_holds_703 (lv_at hl 5 rfl) ?_
                  refine r_bipush E dL_holds_705 (by decide) ?_
                  refine r_icmp_ne (tgt := 715) E dL_holds_707 (by decide) (by omega) (by omega) (fun c707 => absurd c707 (by omega)) (fun c707 => ?_)
                  refine r_bipush E dL_holds_710 (by decide) ?_
                  refine lv_goto (tgt := 725) E.1 E.2.1 dL_holds_712 (by decide) ?_
                  refine r_icmp_ne (tgt := 732) E dL_holds_725 (by decide) (by omega) (by omega) (fun c725 => absurd c725 (by omega)) (fun c725 => ?_)
                  refine r_const E dL_holds_728 ?_
                  refine lv_goto (tgt := 733) E.1 E.2.1 dL_holds_729 (by decide) ?_
                  refine lv_istore (lv' := [(4, .int (iI (1))), (2, .int (iI (b2 - (vr σ k : Int)))), (6, .int (iI (b6 + 0))), (5, .int (iI (b5 + 0))), (10, .int (iI (0))), (9, .int (iI (0))), (8, .int (iI ((-6)))), (7, .int (iI ((k : Int)))), (1, .int (iI (a1))), (3, .int (iI (a3))), (0, .ref (x))]) E.1 E.2.1 dL_holds_733 hl (by decide) rfl (fun ls hl => ?_)
                  refine r_inc (lv' := [(7, .int (iI ((k : Int) + 1))), (4, .int (iI (1))), (2, .int (iI (b2 - (vr σ k : Int)))), (6, .int (iI (b6 + 0))), (5, .int (iI (b5 + 0))), (10, .int (iI (0))), (9, .int (iI (0))), (8, .int (iI ((-6)))), (1, .int (iI (a1))), (3, .int (iI (a3))), (0, .ref (x))]) E dL_holds_735 hl (k := 7) rfl (by decide) rfl (fun ls hl => ?_)
                  refine lv_goto (tgt := 576) E.1 E.2.1 dL_holds_738 (by decide) ?_
                  refine ihin576 _ ?_ (k + 1) ((k : Int) + 1) (b5 + 0) (b6 + 0) (b2 - (vr σ k : Int)) ls locs ?_ ?_ ?_ ?_ ?_ rfl (lv_sub hl [0, 4, 3, 2, 1, 8, 9, 10] rfl) hL
                  · omega
                  · omega
                  · omega
                  · have h9 : sumF (fun j => sizeO (foundF σ j)) (k + 1) = sumF (fun j => sizeO (foundF σ j)) k + sizeO (foundF σ k) := rfl
                    rw [h9, hfd]
                    rw [show sizeO none = 0 from rfl]
                    omega
                  · have h9 : cntB (fun j => intactO (dm σ) (foundF σ j)) (k + 1) = cntB (fun j => intactO (dm σ) (foundF σ j)) k + (if intactO (dm σ) (foundF σ k) then 1 else 0) := rfl
                    rw [h9, hfd, show intactO (dm σ) none = false from rfl, if_neg (by decide)]
                    omega
                  · rw [show sumF (vr σ) (k + 1) = sumF (vr σ) k + vr σ k from rfl]
                    omega
                · have hfd : foundF σ k = some f := (found_v hvd).trans hen
                  have hb2 := hI.ent2 hvm hk20 hen
                  refine lv_iload_n E.1 E.2.1 dL_holds_588 rfl (lv_at hl 6 rfl) ?_
                  refine r_bipush E dL_holds_589 (by decide) ?_
                  refine r_icmp_ne (tgt := 599) E dL_holds_591 (by decide) (by omega) (by omega) (fun c591 => ?_) (fun c591 => absurd c591 (by omega))
                  refine lv_aload_n E.1 E.2.1 dL_holds_599 rfl (lv_at hl 7 rfl) ?_
                  refine lv_iload_n E.1 E.2.1 dL_holds_600 rfl (lv_at hl 6 rfl) ?_
                  rw [show ((a3 : Int)) = (v : Int) by omega]
                  refine lv_iload E.1 E.2.1 dL_holds_601 (lv_at hl 0 rfl) ?_
                  refine r_const E dL_holds_603 ?_
                  refine kVRE (As := [.int (iI ((v : Int))), .int (iI ((k : Int))), .int (iI (0))]) E cw_L_33 (c_X5_entry G l x fb fl σ hs tx len hI hT hfx hgx ((v : Int)) ((k : Int)) (0) (by unfold okI; omega) (by unfold okI; omega) (by unfold okI; omega)) hP.1 ⟨_, _, rfl⟩ hP hL hl.1 rfl rfl (Nat.le_of_ble_eq_true rfl) ⟨Nat.le_of_ble_eq_true rfl, Nat.le_of_ble_eq_true rfl⟩ ⟨rfl, rfl⟩ ⟨Nat.le_of_ble_eq_true rfl, Nat.le_of_ble_eq_true rfl⟩ dL_holds_604 (fun locs hL => ?_)
                  rw [spEnt0 hvm hk20 hen]
                  refine lv_istore (lv' := [(8, .int (iI ((f.1 : Int)))), (7, .int (iI ((k : Int)))), (5, .int (iI (b5))), (6, .int (iI (b6))), (2, .int (iI (b2))), (4, .int (iI (1))), (1, .int (iI (a1))), (3, .int (iI (a3))), (0, .ref (x))]) E.1 E.2.1 dL_holds_607 hl (by decide) rfl (fun ls hl => ?_)
                  refine lv_iload E.1 E.2.1 dL_holds_609 (lv_at hl 0 rfl) ?_
                  refine r_bipush E dL_holds_611 (by decide) ?_
                  refine r_icmp_ne (tgt := 620) E dL_holds_613 (by decide) (by omega) (by omega) (fun c613 => ?_) (fun c613 => absurd c613 (by omega))
                  refine lv_aload_n E.1 E.2.1 dL_holds_620 rfl (lv_at hl 8 rfl) ?_
                  refine lv_iload_n E.1 E.2.1 dL_holds_621 rfl (lv_at hl 7 rfl) ?_
                  rw [show ((a3 : Int)) = (v : Int) by omega]
                  refine lv_iload E.1 E.2.1 dL_holds_622 (lv_at hl 1 rfl) ?_
                  refine r_const E dL_holds_624 ?_
                  refine kVRE (As := [.int (iI ((v : Int))), .int (iI ((k : Int))), .int (iI (1))]) E cw_L_33 (c_X5_entry G l x fb fl σ hs tx len hI hT hfx hgx ((v : Int)) ((k : Int)) (1) (by unfold okI; omega) (by unfold okI; omega) (by unfold okI; omega)) hP.1 ⟨_, _, rfl⟩ hP hL hl.1 rfl rfl (Nat.le_of_ble_eq_true rfl) ⟨Nat.le_of_ble_eq_true rfl, Nat.le_of_ble_eq_true rfl⟩ ⟨rfl, rfl⟩ ⟨Nat.le_of_ble_eq_true rfl, Nat.le_of_ble_eq_true rfl⟩ dL_holds_625 (fun locs hL => ?_)
                  rw [spEnt1 hvm hk20 hen]
                  refine lv_istore (lv' := [(9, .int (iI ((f.2.1 : Int)))), (8, .int (iI ((f.1 : Int)))), (7, .int (iI ((k : Int)))), (5, .int (iI (b5))), (6, .int (iI (b6))), (2, .int (iI (b2))), (4, .int (iI (1))), (1, .int (iI (a1))), (3, .int (iI (a3))), (0, .ref (x))]) E.1 E.2.1 dL_holds_628 hl (by decide) rfl (fun ls hl => ?_)
                  refine lv_iload E.1 E.2.1 dL_holds_630 (lv_at hl 1 rfl) ?_
                  refine r_bipush E dL_holds_632 (by decide) ?_
                  refine r_icmp_eq (tgt := 652) E dL_holds_634 (by decide) (by omega) (by omega) (fun c634 => absurd c634 (by omega)) (fun c634 => ?_)
                  refine lv_aload_n E.1 E.2.1 dL_holds_637 rfl (lv_at hl 9 rfl) ?_
                  refine lv_iload E.1 E.2.1 dL_holds_638 (lv_at hl 1 rfl) ?_
                  refine lv_iload E.1 E.2.1 dL_holds_640 (lv_at hl 0 rfl) ?_
                  refine kSRE (As := [.ref (x), .int (iI ((f.1 : Int))), .int (iI ((f.2.1 : Int)))]) E cw_L_42 (c_L_whole G l x fb fl σ hs tx len hI hT hfx hgx (f.1) (f.2.1) (by omega)) hP hL hl.1 rfl rfl (Nat.le_of_ble_eq_true rfl) ⟨Nat.le_of_ble_eq_true rfl, Nat.le_of_ble_eq_true rfl⟩ ⟨rfl, rfl⟩ ⟨Nat.le_of_ble_eq_true rfl, Nat.le_of_ble_eq_true rfl⟩ dL_holds_642 (fun locs hL => ?_)
                  refine r_bif_eq (tgt := 652) E dL_holds_645 (by decide)  (fun c645 => ?_) (fun c645 => ?_)
                  · refine r_const E dL_holds_652 ?_
                    refine lv_istore (lv' := [(10, .int (iI (0))), (9, .int (iI ((f.2.1 : Int)))), (8, .int (iI ((f.1 : Int)))), (7, .int (iI ((k : Int)))), (5, .int (iI (b5))), (6, .int (iI (b6))), (2, .int (iI (b2))), (4, .int (iI (1))), (1, .int (iI (a1))), (3, .int (iI (a3))), (0, .ref (x))]) E.1 E.2.1 dL_holds_653 hl (by decide) rfl (fun ls hl => ?_)
                    refine lv_iload E.1 E.2.1 dL_holds_655 (lv_at hl 4 rfl) ?_
                    refine lv_iload E.1 E.2.1 dL_holds_657 (lv_at hl 1 rfl) ?_
                    refine r_add E dL_holds_659 ?_
                    refine lv_istore (lv' := [(5, .int (iI (b5 + (f.2.1 : Int)))), (10, .int (iI (0))), (9, .int (iI ((f.2.1 : Int)))), (8, .int (iI ((f.1 : Int)))), (7, .int (iI ((k : Int)))), (6, .int (iI (b6))), (2, .int (iI (b2))), (4, .int (iI (1))), (1, .int (iI (a1))), (3, .int (iI (a3))), (0, .ref (x))]) E.1 E.2.1 dL_holds_660 hl (by decide) rfl (fun ls hl => ?_)
                    refine lv_iload E.1 E.2.1 dL_holds_662 (lv_at hl 5 rfl) ?_
                    refine lv_iload E.1 E.2.1 dL_holds_664 (lv_at hl 1 rfl) ?_
                    refine r_if_eq (tgt := 673) E dL_holds_666 (by decide) (by omega) (fun c666 => ?_) (fun c666 => absurd c666 (by omega))
                    refine r_const E dL_holds_673 ?_
                    refine r_add E dL_holds_674 ?_
                    refine lv_istore (lv' := [(6, .int (iI (b6 + 0))), (5, .int (iI (b5 + (f.2.1 : Int)))), (10, .int (iI (0))), (9, .int (iI ((f.2.1 : Int)))), (8, .int (iI ((f.1 : Int)))), (7, .int (iI ((k : Int)))), (2, .int (iI (b2))), (4, .int (iI (1))), (1, .int (iI (a1))), (3, .int (iI (a3))), (0, .ref (x))]) E.1 E.2.1 dL_holds_675 hl (by decide) rfl (fun ls hl => ?_)
                    refine lv_iload_n E.1 E.2.1 dL_holds_677 rfl (lv_at hl 6 rfl) ?_
                    refine lv_aload_n E.1 E.2.1 dL_holds_678 rfl (lv_at hl 10 rfl) ?_
                    refine lv_iload E.1 E.2.1 dL_holds_679 (lv_at hl 5 rfl) ?_
                    refine kVRE (As := [.int (iI ((k : Int)))]) E cw_L_37 (c_X5_versions G l x fb fl σ hs tx len hI hT hfx hgx ((k : Int)) (by unfold okI; omega)) hP.1 ⟨_, _, rfl⟩ hP hL hl.1 rfl rfl (Nat.le_of_ble_eq_true rfl) ⟨Nat.le_of_ble_eq_true rfl, Nat.le_of_ble_eq_true rfl⟩ ⟨rfl, rfl⟩ ⟨Nat.le_of_ble_eq_true rfl, Nat.le_of_ble_eq_true rfl⟩ dL_holds_681 (fun locs hL => ?_)
                    rw [spVer_v hk20]
                    refine r_sub E dL_holds_684 ?_
                    refine lv_istore_n (lv' := [(2, .int (iI (b2 - (vr σ k : Int)))), (6, .int (iI (b6 + 0))), (5, .int (iI (b5 + (f.2.1 : Int)))), (10, .int (iI (0))), (9, .int (iI ((f.2.1 : Int)))), (8, .int (iI ((f.1 : Int)))), (7, .int (iI ((k : Int)))), (4, .int (iI (1))), (1, .int (iI (a1))), (3, .int (iI (a3))), (0, .ref (x))]) E.1 E.2.1 dL_holds_685 rfl hl (by decide) rfl (fun ls hl => ?_)
                    refine lv_aload_n E.1 E.2.1 dL_holds_686 rfl (lv_at hl 10 rfl) ?_
                    refine lv_iload E.1 E.2.1 dL_holds_687 (lv_at hl 6 rfl) ?_
                    refine kVRE (As := [.int (iI ((k : Int)))]) E cw_L_49 (c_X5_find G l x fb fl σ hs tx len hI hT hfx hgx ((k : Int)) (by unfold okI; omega)) hP.1 ⟨_, _, rfl⟩ hP hL hl.1 rfl rfl (Nat.le_of_ble_eq_true rfl) ⟨Nat.le_of_ble_eq_true rfl, Nat.le_of_ble_eq_true rfl⟩ ⟨rfl, rfl⟩ ⟨Nat.le_of_ble_eq_true rfl, Nat.le_of_ble_eq_true rfl⟩ dL_holds_689 (fun locs hL => ?_)
                    rw [spFind_s hk20 hfd]
                    refine lv_iload E.1 E.2.1 dL_holds_692 (lv_at hl 5 rfl) ?_
                    refine r_icmp_ne (tgt := 732) E dL_holds_694 (by decide) (by omega) (by omega) (fun c694 => absurd c694 (by omega)) (fun c694 => ?_)
                    refine lv_aload_n E.1 E.2.1 dL_holds_697 rfl (lv_at hl 10 rfl) ?_
                    refine lv_iload E.1 E.2.1 dL_holds_698 (lv_at hl 6 rfl) ?_
                    refine kVRE (As := [.int (iI ((k : Int)))]) E cw_L_52 (c_X5_intact G l x fb fl σ hs tx len hI hT hfx hgx ((k : Int)) (by unfold okI; omega)) hP.1 ⟨_, _, rfl⟩ hP hL hl.1 rfl rfl (Nat.le_of_ble_eq_true rfl) ⟨Nat.le_of_ble_eq_true rfl, Nat.le_of_ble_eq_true rfl⟩ ⟨rfl, rfl⟩ ⟨Nat.le_of_ble_eq_true rfl, Nat.le_of_ble_eq_true rfl⟩ dL_holds_700 (fun locs hL => ?_)
                    rw [spIntact_s hk20 hfd, c645, if_neg (by decide)]
                    refine lv_iload E.1 E.2.1 dL_holds_703 (lv_at hl 5 rfl) ?_
                    refine r_bipush E dL_holds_705 (by decide) ?_
                    refine r_icmp_ne (tgt := 715) E dL_holds_707 (by decide) (by omega) (by omega) (fun c707 => ?_) (fun c707 => absurd c707 (by omega))
                    refine lv_iload E.1 E.2.1 dL_holds_715 (lv_at hl 3 rfl) ?_
                    refine r_if_eq (tgt := 724) E dL_holds_717 (by decide) (by omega) (fun c717 => ?_) (fun c717 => absurd c717 (by omega))
                    refine r_const E dL_holds_724 ?_
                    refine r_icmp_ne (tgt := 732) E dL_holds_725 (by decide) (by omega) (by omega) (fun c725 => absurd c725 (by omega)) (fun c725 => ?_)
                    refine r_const E dL_holds_728 ?_
                    refine lv_goto (tgt := 733) E.1 E.2.1 dL_holds_729 (by decide) ?_
                    refine lv_istore (lv' := [(4, .int (iI (1))), (2, .int (iI (b2 - (vr σ k : Int)))), (6, .int (iI (b6 + 0))), (5, .int (iI (b5 + (f.2.1 : Int)))), (10, .int (iI (0))), (9, .int (iI ((f.2.1 : Int)))), (8, .int (iI ((f.1 : Int)))), (7, .int (iI ((k : Int)))), (1, .int (iI (a1))), (3, .int (iI (a3))), (0, .ref (x))]) E.1 E.2.1 dL_holds_733 hl (by decide) rfl (fun ls hl => ?_)
                    refine r_inc (lv' := [(7, .int (iI ((k : Int) + 1))), (4, .int (iI (1))), (2, .int (iI (b2 - (vr σ k : Int)))), (6, .int (iI (b6 + 0))), (5, .int (iI (b5 + (f.2.1 : Int)))), (10, .int (iI (0))), (9, .int (iI ((f.2.1 : Int)))), (8, .int (iI ((f.1 : Int)))), (1, .int (iI (a1))), (3, .int (iI (a3))), (0, .ref (x))]) E dL_holds_735 hl (k := 7) rfl (by decide) rfl (fun ls hl => ?_)
                    refine lv_goto (tgt := 576) E.1 E.2.1 dL_holds_738 (by decide) ?_
                    refine ihin576 _ ?_ (k + 1) ((k : Int) + 1) (b5 + (f.2.1 : Int)) (b6 + 0) (b2 - (vr σ k : Int)) ls locs ?_ ?_ ?_ ?_ ?_ rfl (lv_sub hl [0, 4, 3, 2, 1, 8, 9, 10] rfl) hL
                    · omega
                    · omega
                    · omega
                    · have h9 : sumF (fun j => sizeO (foundF σ j)) (k + 1) = sumF (fun j => sizeO (foundF σ j)) k + sizeO (foundF σ k) := rfl
                      rw [h9, hfd]
                      rw [show sizeO (some f) = f.2.1 from rfl]
                      omega
                    · have h9 : cntB (fun j => intactO (dm σ) (foundF σ j)) (k + 1) = cntB (fun j => intactO (dm σ) (foundF σ j)) k + (if intactO (dm σ) (foundF σ k) then 1 else 0) := rfl
                      rw [h9, hfd, show intactO (dm σ) (some f) = wholeB (dm σ) f.1 f.2.1 from rfl, c645, if_neg (by decide)]
                      omega
                    · rw [show sumF (vr σ) (k + 1) = sumF (vr σ) k + vr σ k from rfl]
                      omega
                  · refine r_const E dL_holds_648 ?_
                    refine lv_goto (tgt := 653) E.1 E.2.1 dL_holds_649 (by decide) ?_
                    refine lv_istore (lv' := [(10, .int (iI (1))), (9, .int (iI ((f.2.1 : Int)))), (8, .int (iI ((f.1 : Int)))), (7, .int (iI ((k : Int)))), (5, .int (iI (b5))), (6, .int (iI (b6))), (2, .int (iI (b2))), (4, .int (iI (1))), (1, .int (iI (a1))), (3, .int (iI (a3))), (0, .ref (x))]) E.1 E.2.1 dL_holds_653 hl (by decide) rfl (fun ls hl => ?_)
                    refine lv_iload E.1 E.2.1 dL_holds_655 (lv_at hl 4 rfl) ?_
                    refine lv_iload E.1 E.2.1 dL_holds_657 (lv_at hl 1 rfl) ?_
                    refine r_add E dL_holds_659 ?_
                    refine lv_istore (lv' := [(5, .int (iI (b5 + (f.2.1 : Int)))), (10, .int (iI (1))), (9, .int (iI ((f.2.1 : Int)))), (8, .int (iI ((f.1 : Int)))), (7, .int (iI ((k : Int)))), (6, .int (iI (b6))), (2, .int (iI (b2))), (4, .int (iI (1))), (1, .int (iI (a1))), (3, .int (iI (a3))), (0, .ref (x))]) E.1 E.2.1 dL_holds_660 hl (by decide) rfl (fun ls hl => ?_)
                    refine lv_iload E.1 E.2.1 dL_holds_662 (lv_at hl 5 rfl) ?_
                    refine lv_iload E.1 E.2.1 dL_holds_664 (lv_at hl 1 rfl) ?_
                    refine r_if_eq (tgt := 673) E dL_holds_666 (by decide) (by omega) (fun c666 => absurd c666 (by omega)) (fun c666 => ?_)
                    refine r_const E dL_holds_669 ?_
                    refine lv_goto (tgt := 674) E.1 E.2.1 dL_holds_670 (by decide) ?_
                    refine r_add E dL_holds_674 ?_
                    refine lv_istore (lv' := [(6, .int (iI (b6 + 1))), (5, .int (iI (b5 + (f.2.1 : Int)))), (10, .int (iI (1))), (9, .int (iI ((f.2.1 : Int)))), (8, .int (iI ((f.1 : Int)))), (7, .int (iI ((k : Int)))), (2, .int (iI (b2))), (4, .int (iI (1))), (1, .int (iI (a1))), (3, .int (iI (a3))), (0, .ref (x))]) E.1 E.2.1 dL_holds_675 hl (by decide) rfl (fun ls hl => ?_)
                    refine lv_iload_n E.1 E.2.1 dL_holds_677 rfl (lv_at hl 6 rfl) ?_
                    refine lv_aload_n E.1 E.2.1 dL_holds_678 rfl (lv_at hl 10 rfl) ?_
                    refine lv_iload E.1 E.2.1 dL_holds_679 (lv_at hl 5 rfl) ?_
                    refine kVRE (As := [.int (iI ((k : Int)))]) E cw_L_37 (c_X5_versions G l x fb fl σ hs tx len hI hT hfx hgx ((k : Int)) (by unfold okI; omega)) hP.1 ⟨_, _, rfl⟩ hP hL hl.1 rfl rfl (Nat.le_of_ble_eq_true rfl) ⟨Nat.le_of_ble_eq_true rfl, Nat.le_of_ble_eq_true rfl⟩ ⟨rfl, rfl⟩ ⟨Nat.le_of_ble_eq_true rfl, Nat.le_of_ble_eq_true rfl⟩ dL_holds_681 (fun locs hL => ?_)
                    rw [spVer_v hk20]
                    refine r_sub E dL_holds_684 ?_
                    refine lv_istore_n (lv' := [(2, .int (iI (b2 - (vr σ k : Int)))), (6, .int (iI (b6 + 1))), (5, .int (iI (b5 + (f.2.1 : Int)))), (10, .int (iI (1))), (9, .int (iI ((f.2.1 : Int)))), (8, .int (iI ((f.1 : Int)))), (7, .int (iI ((k : Int)))), (4, .int (iI (1))), (1, .int (iI (a1))), (3, .int (iI (a3))), (0, .ref (x))]) E.1 E.2.1 dL_holds_685 rfl hl (by decide) rfl (fun ls hl => ?_)
                    refine lv_aload_n E.1 E.2.1 dL_holds_686 rfl (lv_at hl 10 rfl) ?_
                    refine lv_iload E.1 E.2.1 dL_holds_687 (lv_at hl 6 rfl) ?_
                    refine kVRE (As := [.int (iI ((k : Int)))]) E cw_L_49 (c_X5_find G l x fb fl σ hs tx len hI hT hfx hgx ((k : Int)) (by unfold okI; omega)) hP.1 ⟨_, _, rfl⟩ hP hL hl.1 rfl rfl (Nat.le_of_ble_eq_true rfl) ⟨Nat.le_of_ble_eq_true rfl, Nat.le_of_ble_eq_true rfl⟩ ⟨rfl, rfl⟩ ⟨Nat.le_of_ble_eq_true rfl, Nat.le_of_ble_eq_true rfl⟩ dL_holds_689 (fun locs hL => ?_)
                    rw [spFind_s hk20 hfd]
                    refine lv_iload E.1 E.2.1 dL_holds_692 (lv_at hl 5 rfl) ?_
                    refine r_icmp_ne (tgt := 732) E dL_holds_694 (by decide) (by omega) (by omega) (fun c694 => absurd c694 (by omega)) (fun c694 => ?_)
                    refine lv_aload_n E.1 E.2.1 dL_holds_697 rfl (lv_at hl 10 rfl) ?_
                    refine lv_iload E.1 E.2.1 dL_holds_698 (lv_at hl 6 rfl) ?_
                    refine kVRE (As := [.int (iI ((k : Int)))]) E cw_L_52 (c_X5_intact G l x fb fl σ hs tx len hI hT hfx hgx ((k : Int)) (by unfold okI; omega)) hP.1 ⟨_, _, rfl⟩ hP hL hl.1 rfl rfl (Nat.le_of_ble_eq_true rfl) ⟨Nat.le_of_ble_eq_true rfl, Nat.le_of_ble_eq_true rfl⟩ ⟨rfl, rfl⟩ ⟨Nat.le_of_ble_eq_true rfl, Nat.le_of_ble_eq_true rfl⟩ dL_holds_700 (fun locs hL => ?_)
                    rw [spIntact_s hk20 hfd, c645, if_pos rfl]
                    refine lv_iload E.1 E.2.1 dL_holds_703 (lv_at hl 5 rfl) ?_
                    refine r_bipush E dL_holds_705 (by decide) ?_
                    refine r_icmp_ne (tgt := 715) E dL_holds_707 (by decide) (by omega) (by omega) (fun c707 => ?_) (fun c707 => absurd c707 (by omega))
                    refine lv_iload E.1 E.2.1 dL_holds_715 (lv_at hl 3 rfl) ?_
                    refine r_if_eq (tgt := 724) E dL_holds_717 (by decide) (by omega) (fun c717 => absurd c717 (by omega)) (fun c717 => ?_)
                    refine r_const E dL_holds_720 ?_
                    refine lv_goto (tgt := 725) E.1 E.2.1 dL_holds_721 (by decide) ?_
                    refine r_icmp_ne (tgt := 732) E dL_holds_725 (by decide) (by omega) (by omega) (fun c725 => absurd c725 (by omega)) (fun c725 => ?_)
                    refine r_const E dL_holds_728 ?_
                    refine lv_goto (tgt := 733) E.1 E.2.1 dL_holds_729 (by decide) ?_
                    refine lv_istore (lv' := [(4, .int (iI (1))), (2, .int (iI (b2 - (vr σ k : Int)))), (6, .int (iI (b6 + 1))), (5, .int (iI (b5 + (f.2.1 : Int)))), (10, .int (iI (1))), (9, .int (iI ((f.2.1 : Int)))), (8, .int (iI ((f.1 : Int)))), (7, .int (iI ((k : Int)))), (1, .int (iI (a1))), (3, .int (iI (a3))), (0, .ref (x))]) E.1 E.2.1 dL_holds_733 hl (by decide) rfl (fun ls hl => ?_)
                    refine r_inc (lv' := [(7, .int (iI ((k : Int) + 1))), (4, .int (iI (1))), (2, .int (iI (b2 - (vr σ k : Int)))), (6, .int (iI (b6 + 1))), (5, .int (iI (b5 + (f.2.1 : Int)))), (10, .int (iI (1))), (9, .int (iI ((f.2.1 : Int)))), (8, .int (iI ((f.1 : Int)))), (1, .int (iI (a1))), (3, .int (iI (a3))), (0, .ref (x))]) E dL_holds_735 hl (k := 7) rfl (by decide) rfl (fun ls hl => ?_)
                    refine lv_goto (tgt := 576) E.1 E.2.1 dL_holds_738 (by decide) ?_
                    refine ihin576 _ ?_ (k + 1) ((k : Int) + 1) (b5 + (f.2.1 : Int)) (b6 + 1) (b2 - (vr σ k : Int)) ls locs ?_ ?_ ?_ ?_ ?_ rfl (lv_sub hl [0, 4, 3, 2, 1, 8, 9, 10] rfl) hL
                    · omega
                    · omega
                    · omega
                    · have h9 : sumF (fun j => sizeO (foundF σ j)) (k + 1) = sumF (fun j => sizeO (foundF σ j)) k + sizeO (foundF σ k) := rfl
                      rw [h9, hfd]
                      rw [show sizeO (some f) = f.2.1 from rfl]
                      omega
                    · have h9 : cntB (fun j => intactO (dm σ) (foundF σ j)) (k + 1) = cntB (fun j => intactO (dm σ) (foundF σ j)) k + (if intactO (dm σ) (foundF σ k) then 1 else 0) := rfl
                      rw [h9, hfd, show intactO (dm σ) (some f) = wholeB (dm σ) f.1 f.2.1 from rfl, c645, if_pos rfl]
                      omega
                    · rw [show sumF (vr σ) (k + 1) = sumF (vr σ) k + vr σ k from rfl]
                      omega
        refine LP576 _ 0 0 0 0 a2 ls locs ?_ ?_ ?_ ?_ ?_ rfl (lv_sub hl [0, 2, 1, 4, 6, 3, 5, 7] rfl) hL
        · omega
        · rfl
        · rfl
        · rfl
        · rw [h2e]; show _ = (wrN σ (mn σ) : Int) - ((0 : Nat) : Int); omega
      · subst hu
        have hnm : n < mn σ := by omega
        rw [posN_lt hnm] at h1
        subst h1
        have hrow := hI.row hnm
        have hr2 := hS.2.2.2 n hnm
        have hld := ld_or σ n
        have hw1 := wrN_le hS n (by omega)
        rw [posN_lt hnm] at hw1
        have hw2 := wr_row hS hnm
        refine lv_iload E.1 E.2.1 dL_holds_103 (lv_at hl 4 rfl) ?_
        refine r_if_eq (tgt := 567) E dL_holds_105 (by decide) (by omega) (fun c105 => absurd c105 (by omega)) (fun c105 => ?_)
        refine lv_aload_n E.1 E.2.1 dL_holds_108 rfl (lv_at hl 5 rfl) ?_
        refine lv_iload E.1 E.2.1 dL_holds_109 (lv_at hl 0 rfl) ?_
        refine r_const E dL_holds_111 ?_
        refine kVRE (As := [.int (iI ((n : Int))), .int (iI (0))]) E cw_L_29 (c_X5_session G l x fb fl σ hs tx len hI hT hfx hgx ((n : Int)) (0) (by unfold okI; omega) (by unfold okI; omega)) hP.1 ⟨_, _, rfl⟩ hP hL hl.1 rfl rfl (Nat.le_of_ble_eq_true rfl) ⟨Nat.le_of_ble_eq_true rfl, Nat.le_of_ble_eq_true rfl⟩ ⟨rfl, rfl⟩ ⟨Nat.le_of_ble_eq_true rfl, Nat.le_of_ble_eq_true rfl⟩ dL_holds_112 (fun locs hL => ?_)
        rw [spSes0 hnm]
        refine lv_istore (lv' := [(6, .int (iI ((se σ n 0 : Int)))), (5, .int (iI ((n : Int)))), (1, .int (iI ((se σ n 1 : Int)))), (2, .int (iI (a2))), (3, .int (iI (a3))), (4, .int (iI (1))), (0, .ref (x))]) E.1 E.2.1 dL_holds_115 hl (by decide) rfl (fun ls hl => ?_)
        refine lv_aload_n E.1 E.2.1 dL_holds_117 rfl (lv_at hl 6 rfl) ?_
        refine lv_iload E.1 E.2.1 dL_holds_118 (lv_at hl 1 rfl) ?_
        refine r_const E dL_holds_120 ?_
        refine kVRE (As := [.int (iI ((n : Int))), .int (iI (2))]) E cw_L_29 (c_X5_session G l x fb fl σ hs tx len hI hT hfx hgx ((n : Int)) (2) (by unfold okI; omega) (by unfold okI; omega)) hP.1 ⟨_, _, rfl⟩ hP hL hl.1 rfl rfl (Nat.le_of_ble_eq_true rfl) ⟨Nat.le_of_ble_eq_true rfl, Nat.le_of_ble_eq_true rfl⟩ ⟨rfl, rfl⟩ ⟨Nat.le_of_ble_eq_true rfl, Nat.le_of_ble_eq_true rfl⟩ dL_holds_121 (fun locs hL => ?_)
        rw [spSes2 hnm]
        refine lv_istore (lv' := [(7, .int (iI ((se σ n 2 : Int)))), (6, .int (iI ((se σ n 0 : Int)))), (5, .int (iI ((n : Int)))), (1, .int (iI ((se σ n 1 : Int)))), (2, .int (iI (a2))), (3, .int (iI (a3))), (4, .int (iI (1))), (0, .ref (x))]) E.1 E.2.1 dL_holds_124 hl (by decide) rfl (fun ls hl => ?_)
        refine r_const E dL_holds_126 ?_
        refine lv_istore (lv' := [(8, .int (iI (0))), (7, .int (iI ((se σ n 2 : Int)))), (6, .int (iI ((se σ n 0 : Int)))), (5, .int (iI ((n : Int)))), (1, .int (iI ((se σ n 1 : Int)))), (2, .int (iI (a2))), (3, .int (iI (a3))), (4, .int (iI (1))), (0, .ref (x))]) E.1 E.2.1 dL_holds_127 hl (by decide) rfl (fun ls hl => ?_)
        refine lv_aload_n E.1 E.2.1 dL_holds_129 rfl (lv_at hl 8 rfl) ?_
        refine lv_iload E.1 E.2.1 dL_holds_130 (lv_at hl 3 rfl) ?_
        refine r_const E dL_holds_132 ?_
        refine kVRE (As := [.int (iI ((n : Int))), .int (iI (3))]) E cw_L_29 (c_X5_session G l x fb fl σ hs tx len hI hT hfx hgx ((n : Int)) (3) (by unfold okI; omega) (by unfold okI; omega)) hP.1 ⟨_, _, rfl⟩ hP hL hl.1 rfl rfl (Nat.le_of_ble_eq_true rfl) ⟨Nat.le_of_ble_eq_true rfl, Nat.le_of_ble_eq_true rfl⟩ ⟨rfl, rfl⟩ ⟨Nat.le_of_ble_eq_true rfl, Nat.le_of_ble_eq_true rfl⟩ dL_holds_133 (fun locs hL => ?_)
        rw [spSes3 hnm]
        have J153_0 : ∀ (v153 : Int) (hv153 : (se σ n 0 = 1 ∧ v153 = (se σ n 4 : Int)) ∨ (¬ se σ n 0 = 1 ∧ v153 = 0)) (ls : Array Slot) (locs : List Loc) (hl : lv_has ls 15 [(8, .int (iI (0))), (7, .int (iI ((se σ n 2 : Int)))), (6, .int (iI ((se σ n 0 : Int)))), (5, .int (iI ((n : Int)))), (1, .int (iI ((se σ n 1 : Int)))), (2, .int (iI (a2))), (3, .int (iI (a3))), (4, .int (iI (1))), (0, .ref (x))]) (hL : Lk G locs), W p l e ({ frames := 6, cells := 0, slots := 0, locals := 139 } : Room) s m args below meth c s.heap locs 0 0 (QQ G below args s ({ frames := 6, cells := 0, slots := 0, locals := 139 } : Room) (RE (iI 1))) (F0 m 153 ls [.int (iI (v153)), .int (iI ((se σ n 3 : Int)))]) := by
          intro v153 hv153 ls locs hl hL
          refine r_add E dL_holds_153 ?_
          refine lv_istore (lv' := [(9, .int (iI ((se σ n 3 : Int) + v153))), (8, .int (iI (0))), (7, .int (iI ((se σ n 2 : Int)))), (6, .int (iI ((se σ n 0 : Int)))), (5, .int (iI ((n : Int)))), (1, .int (iI ((se σ n 1 : Int)))), (2, .int (iI (a2))), (3, .int (iI (a3))), (4, .int (iI (1))), (0, .ref (x))]) E.1 E.2.1 dL_holds_154 hl (by decide) rfl (fun ls hl => ?_)
          have J182_1 : ∀ (v182 : Int) (hv182 : (readB σ (dm σ) n = true ∧ v182 = 1) ∨ (readB σ (dm σ) n = false ∧ v182 = 0)) (ls : Array Slot) (locs : List Loc) (hl : lv_has ls 15 [(9, .int (iI ((se σ n 3 : Int) + v153))), (8, .int (iI (0))), (7, .int (iI ((se σ n 2 : Int)))), (6, .int (iI ((se σ n 0 : Int)))), (5, .int (iI ((n : Int)))), (1, .int (iI ((se σ n 1 : Int)))), (2, .int (iI (a2))), (3, .int (iI (a3))), (4, .int (iI (1))), (0, .ref (x))]) (hL : Lk G locs), W p l e ({ frames := 6, cells := 0, slots := 0, locals := 139 } : Room) s m args below meth c s.heap locs 0 0 (QQ G below args s ({ frames := 6, cells := 0, slots := 0, locals := 139 } : Room) (RE (iI 1))) (F0 m 182 ls [.int (iI (v182))]) := by
            intro v182 hv182 ls locs hl hL
            refine lv_istore (lv' := [(10, .int (iI (v182))), (9, .int (iI ((se σ n 3 : Int) + v153))), (8, .int (iI (0))), (7, .int (iI ((se σ n 2 : Int)))), (6, .int (iI ((se σ n 0 : Int)))), (5, .int (iI ((n : Int)))), (1, .int (iI ((se σ n 1 : Int)))), (2, .int (iI (a2))), (3, .int (iI (a3))), (4, .int (iI (1))), (0, .ref (x))]) E.1 E.2.1 dL_holds_182 hl (by decide) rfl (fun ls hl => ?_)
            have J195_2 : ∀ (v195 : Int) (hv195 : v195 = oI (lastB (readB σ (dm σ)) (n + 1))) (ls : Array Slot) (locs : List Loc) (hl : lv_has ls 15 [(10, .int (iI (v182))), (9, .int (iI ((se σ n 3 : Int) + v153))), (8, .int (iI (0))), (7, .int (iI ((se σ n 2 : Int)))), (6, .int (iI ((se σ n 0 : Int)))), (5, .int (iI ((n : Int)))), (1, .int (iI ((se σ n 1 : Int)))), (2, .int (iI (a2))), (3, .int (iI (a3))), (4, .int (iI (1))), (0, .ref (x))]) (hL : Lk G locs), W p l e ({ frames := 6, cells := 0, slots := 0, locals := 139 } : Room) s m args below meth c s.heap locs 0 0 (QQ G below args s ({ frames := 6, cells := 0, slots := 0, locals := 139 } : Room) (RE (iI 1))) (F0 m 195 ls [.int (iI (v195))]) := by
              intro v195 hv195 ls locs hl hL
              refine lv_istore_n (lv' := [(3, .int (iI (v195))), (10, .int (iI (v182))), (9, .int (iI ((se σ n 3 : Int) + v153))), (8, .int (iI (0))), (7, .int (iI ((se σ n 2 : Int)))), (6, .int (iI ((se σ n 0 : Int)))), (5, .int (iI ((n : Int)))), (1, .int (iI ((se σ n 1 : Int)))), (2, .int (iI (a2))), (4, .int (iI (1))), (0, .ref (x))]) E.1 E.2.1 dL_holds_195 rfl hl (by decide) rfl (fun ls hl => ?_)
              refine lv_iload_n E.1 E.2.1 dL_holds_196 rfl (lv_at hl 8 rfl) ?_
              refine lv_aload_n E.1 E.2.1 dL_holds_197 rfl (lv_at hl 10 rfl) ?_
              refine lv_iload E.1 E.2.1 dL_holds_198 (lv_at hl 6 rfl) ?_
              refine r_bipush E dL_holds_200 (by decide) ?_
              refine kVRE (As := [.int (iI ((n : Int))), .int (iI (7))]) E cw_L_29 (c_X5_session G l x fb fl σ hs tx len hI hT hfx hgx ((n : Int)) (7) (by unfold okI; omega) (by unfold okI; omega)) hP.1 ⟨_, _, rfl⟩ hP hL hl.1 rfl rfl (Nat.le_of_ble_eq_true rfl) ⟨Nat.le_of_ble_eq_true rfl, Nat.le_of_ble_eq_true rfl⟩ ⟨rfl, rfl⟩ ⟨Nat.le_of_ble_eq_true rfl, Nat.le_of_ble_eq_true rfl⟩ dL_holds_202 (fun locs hL => ?_)
              rw [spSes7 hnm]
              refine r_add E dL_holds_205 ?_
              refine lv_istore_n (lv' := [(2, .int (iI (a2 + (se σ n 5 : Int)))), (3, .int (iI (v195))), (10, .int (iI (v182))), (9, .int (iI ((se σ n 3 : Int) + v153))), (8, .int (iI (0))), (7, .int (iI ((se σ n 2 : Int)))), (6, .int (iI ((se σ n 0 : Int)))), (5, .int (iI ((n : Int)))), (1, .int (iI ((se σ n 1 : Int)))), (4, .int (iI (1))), (0, .ref (x))]) E.1 E.2.1 dL_holds_206 rfl hl (by decide) rfl (fun ls hl => ?_)
              refine r_const E dL_holds_207 ?_
              refine lv_istore (lv' := [(11, .int (iI (0))), (2, .int (iI (a2 + (se σ n 5 : Int)))), (3, .int (iI (v195))), (10, .int (iI (v182))), (9, .int (iI ((se σ n 3 : Int) + v153))), (8, .int (iI (0))), (7, .int (iI ((se σ n 2 : Int)))), (6, .int (iI ((se σ n 0 : Int)))), (5, .int (iI ((n : Int)))), (1, .int (iI ((se σ n 1 : Int)))), (4, .int (iI (1))), (0, .ref (x))]) E.1 E.2.1 dL_holds_208 hl (by decide) rfl (fun ls hl => ?_)
              have LP210 : ∀ (kin210 : Nat) (k : Nat) (u2 e8 : Int) (ls : Array Slot) (locs : List Loc) (hk : k ≤ 20) (hu2 : u2 = (k : Int)) (h8 : e8 = (cntB (fun j => (en σ n j).isSome) k : Int)) (hkin210 : 20 - k = kin210) (hl : lv_has ls 15 [(11, .int (iI (u2))), (8, .int (iI (e8))), (4, .int (iI (1))), (5, .int (iI ((n : Int)))), (6, .int (iI ((se σ n 0 : Int)))), (7, .int (iI ((se σ n 2 : Int)))), (9, .int (iI ((se σ n 3 : Int) + v153))), (10, .int (iI (v182))), (1, .int (iI ((se σ n 1 : Int)))), (2, .int (iI (a2 + (se σ n 5 : Int)))), (3, .int (iI (v195))), (0, .ref (x))]) (hL : Lk G locs), W p l e ({ frames := 6, cells := 0, slots := 0, locals := 139 } : Room) s m args below meth c s.heap locs 0 0 (QQ G below args s ({ frames := 6, cells := 0, slots := 0, locals := 139 } : Room) (RE (iI 1))) (F0 m 210 ls []) := by
                intro kin210
                induction kin210 using Nat.strongRecOn with
                | ind kin210 ihin210 =>
                  intro k u2 e8 ls locs hk hu2 h8 hkin210 hl hL
                  refine lv_iload E.1 E.2.1 dL_holds_210 (lv_at hl 0 rfl) ?_
                  refine r_bipush E dL_holds_212 (by decide) ?_
                  refine r_icmp_ge (tgt := 416) E dL_holds_214 (by decide) (by omega) (by omega) (fun c214 => ?_) (fun c214 => ?_)
                  · have h8b : e8 = (entriesN σ n : Int) := by rw [h8, show k = 20 by omega]; rfl
                    have h8c := entN_le σ n
                    refine lv_iload E.1 E.2.1 dL_holds_416 (lv_at hl 2 rfl) ?_
                    refine r_if_eq (tgt := 553) E dL_holds_418 (by decide) (by omega) (fun c418 => absurd c418 (by omega)) (fun c418 => ?_)
                    refine lv_iload E.1 E.2.1 dL_holds_421 (lv_at hl 4 rfl) ?_
                    refine r_if_lt (tgt := 553) E dL_holds_423 (by decide) (by omega) (fun c423 => absurd c423 (by omega)) (fun c423 => ?_)
                    refine lv_iload E.1 E.2.1 dL_holds_426 (lv_at hl 4 rfl) ?_
                    refine r_const E dL_holds_428 ?_
                    refine r_icmp_gt (tgt := 553) E dL_holds_429 (by decide) (by omega) (by omega) (fun c429 => absurd c429 (by omega)) (fun c429 => ?_)
                    have J448_3 : ∀ (ls : Array Slot) (locs : List Loc) (hl : lv_has ls 15 [(11, .int (iI (u2))), (8, .int (iI (e8))), (4, .int (iI (1))), (5, .int (iI ((n : Int)))), (6, .int (iI ((se σ n 0 : Int)))), (7, .int (iI ((se σ n 2 : Int)))), (9, .int (iI ((se σ n 3 : Int) + v153))), (10, .int (iI (v182))), (1, .int (iI ((se σ n 1 : Int)))), (2, .int (iI (a2 + (se σ n 5 : Int)))), (3, .int (iI (v195))), (0, .ref (x))]) (hL : Lk G locs), W p l e ({ frames := 6, cells := 0, slots := 0, locals := 139 } : Room) s m args below meth c s.heap locs 0 0 (QQ G below args s ({ frames := 6, cells := 0, slots := 0, locals := 139 } : Room) (RE (iI 1))) (F0 m 448 ls []) := by
                      intro ls locs hl hL
                      refine lv_aload_n E.1 E.2.1 dL_holds_448 rfl (lv_at hl 11 rfl) ?_
                      refine lv_iload E.1 E.2.1 dL_holds_449 (lv_at hl 3 rfl) ?_
                      refine r_const E dL_holds_451 ?_
                      refine kVRE (As := [.int (iI ((n : Int))), .int (iI (1))]) E cw_L_29 (c_X5_session G l x fb fl σ hs tx len hI hT hfx hgx ((n : Int)) (1) (by unfold okI; omega) (by unfold okI; omega)) hP.1 ⟨_, _, rfl⟩ hP hL hl.1 rfl rfl (Nat.le_of_ble_eq_true rfl) ⟨Nat.le_of_ble_eq_true rfl, Nat.le_of_ble_eq_true rfl⟩ ⟨rfl, rfl⟩ ⟨Nat.le_of_ble_eq_true rfl, Nat.le_of_ble_eq_true rfl⟩ dL_holds_452 (fun locs hL => ?_)
                      rw [spSes1 hnm]
                      refine lv_iload_n E.1 E.2.1 dL_holds_455 rfl (lv_at hl 8 rfl) ?_
                      refine r_icmp_ne (tgt := 553) E dL_holds_456 (by decide) (by omega) (by omega) (fun c456 => absurd c456 (by omega)) (fun c456 => ?_)
                      refine lv_iload E.1 E.2.1 dL_holds_459 (lv_at hl 5 rfl) ?_
                      refine lv_iload E.1 E.2.1 dL_holds_461 (lv_at hl 6 rfl) ?_
                      refine r_icmp_lt (tgt := 553) E dL_holds_463 (by decide) (by omega) (by omega) (fun c463 => absurd c463 (by omega)) (fun c463 => ?_)
                      have J487_4 : ∀ (ls : Array Slot) (locs : List Loc) (hl : lv_has ls 15 [(11, .int (iI (u2))), (8, .int (iI (e8))), (4, .int (iI (1))), (5, .int (iI ((n : Int)))), (6, .int (iI ((se σ n 0 : Int)))), (7, .int (iI ((se σ n 2 : Int)))), (9, .int (iI ((se σ n 3 : Int) + v153))), (10, .int (iI (v182))), (1, .int (iI ((se σ n 1 : Int)))), (2, .int (iI (a2 + (se σ n 5 : Int)))), (3, .int (iI (v195))), (0, .ref (x))]) (hL : Lk G locs), W p l e ({ frames := 6, cells := 0, slots := 0, locals := 139 } : Room) s m args below meth c s.heap locs 0 0 (QQ G below args s ({ frames := 6, cells := 0, slots := 0, locals := 139 } : Room) (RE (iI 1))) (F0 m 487 ls []) := by
                        intro ls locs hl hL
                        refine lv_aload_n E.1 E.2.1 dL_holds_487 rfl (lv_at hl 11 rfl) ?_
                        refine lv_iload E.1 E.2.1 dL_holds_488 (lv_at hl 3 rfl) ?_
                        refine r_const E dL_holds_490 ?_
                        refine kVRE (As := [.int (iI ((n : Int))), .int (iI (5))]) E cw_L_29 (c_X5_session G l x fb fl σ hs tx len hI hT hfx hgx ((n : Int)) (5) (by unfold okI; omega) (by unfold okI; omega)) hP.1 ⟨_, _, rfl⟩ hP hL hl.1 rfl rfl (Nat.le_of_ble_eq_true rfl) ⟨Nat.le_of_ble_eq_true rfl, Nat.le_of_ble_eq_true rfl⟩ ⟨rfl, rfl⟩ ⟨Nat.le_of_ble_eq_true rfl, Nat.le_of_ble_eq_true rfl⟩ dL_holds_491 (fun locs hL => ?_)
                        rw [spSes5 hnm]
                        refine lv_iload E.1 E.2.1 dL_holds_494 (lv_at hl 1 rfl) ?_
                        refine r_icmp_ne (tgt := 553) E dL_holds_496 (by decide) (by omega) (by omega) (fun c496 => absurd c496 (by omega)) (fun c496 => ?_)
                        have J530_5 : ∀ (ls : Array Slot) (locs : List Loc) (hl : lv_has ls 15 [(11, .int (iI (u2))), (8, .int (iI (e8))), (4, .int (iI (1))), (5, .int (iI ((n : Int)))), (6, .int (iI ((se σ n 0 : Int)))), (7, .int (iI ((se σ n 2 : Int)))), (9, .int (iI ((se σ n 3 : Int) + v153))), (10, .int (iI (v182))), (1, .int (iI ((se σ n 1 : Int)))), (2, .int (iI (a2 + (se σ n 5 : Int)))), (3, .int (iI (v195))), (0, .ref (x))]) (hL : Lk G locs), W p l e ({ frames := 6, cells := 0, slots := 0, locals := 139 } : Room) s m args below meth c s.heap locs 0 0 (QQ G below args s ({ frames := 6, cells := 0, slots := 0, locals := 139 } : Room) (RE (iI 1))) (F0 m 530 ls []) := by
                          intro ls locs hl hL
                          refine lv_iload E.1 E.2.1 dL_holds_530 (lv_at hl 5 rfl) ?_
                          refine lv_iload E.1 E.2.1 dL_holds_532 (lv_at hl 6 rfl) ?_
                          refine r_sub E dL_holds_534 ?_
                          refine r_bipush E dL_holds_535 (by decide) ?_
                          refine lv_aload_n E.1 E.2.1 dL_holds_537 rfl (lv_at hl 11 rfl) ?_
                          refine lv_iload E.1 E.2.1 dL_holds_538 (lv_at hl 3 rfl) ?_
                          refine r_bipush E dL_holds_540 (by decide) ?_
                          refine kVRE (As := [.int (iI ((n : Int))), .int (iI (7))]) E cw_L_29 (c_X5_session G l x fb fl σ hs tx len hI hT hfx hgx ((n : Int)) (7) (by unfold okI; omega) (by unfold okI; omega)) hP.1 ⟨_, _, rfl⟩ hP hL hl.1 rfl rfl (Nat.le_of_ble_eq_true rfl) ⟨Nat.le_of_ble_eq_true rfl, Nat.le_of_ble_eq_true rfl⟩ ⟨rfl, rfl⟩ ⟨Nat.le_of_ble_eq_true rfl, Nat.le_of_ble_eq_true rfl⟩ dL_holds_542 (fun locs hL => ?_)
                          rw [spSes7 hnm]
                          refine r_mul E dL_holds_545 ?_
                          refine r_icmp_gt (tgt := 553) E dL_holds_546 (by decide) (by omega) (by omega) (fun c546 => absurd c546 (by omega)) (fun c546 => ?_)
                          refine r_const E dL_holds_549 ?_
                          refine lv_goto (tgt := 554) E.1 E.2.1 dL_holds_550 (by decide) ?_
                          refine lv_istore (lv' := [(4, .int (iI (1))), (11, .int (iI (u2))), (8, .int (iI (e8))), (5, .int (iI ((n : Int)))), (6, .int (iI ((se σ n 0 : Int)))), (7, .int (iI ((se σ n 2 : Int)))), (9, .int (iI ((se σ n 3 : Int) + v153))), (10, .int (iI (v182))), (1, .int (iI ((se σ n 1 : Int)))), (2, .int (iI (a2 + (se σ n 5 : Int)))), (3, .int (iI (v195))), (0, .ref (x))]) E.1 E.2.1 dL_holds_554 hl (by decide) rfl (fun ls hl => ?_)
                          refine lv_iload_n E.1 E.2.1 dL_holds_556 rfl (lv_at hl 8 rfl) ?_
                          refine lv_iload E.1 E.2.1 dL_holds_557 (lv_at hl 5 rfl) ?_
                          refine r_add E dL_holds_559 ?_
                          refine lv_istore_n (lv' := [(1, .int (iI ((se σ n 1 : Int) + (se σ n 2 : Int)))), (4, .int (iI (1))), (11, .int (iI (u2))), (8, .int (iI (e8))), (5, .int (iI ((n : Int)))), (6, .int (iI ((se σ n 0 : Int)))), (7, .int (iI ((se σ n 2 : Int)))), (9, .int (iI ((se σ n 3 : Int) + v153))), (10, .int (iI (v182))), (2, .int (iI (a2 + (se σ n 5 : Int)))), (3, .int (iI (v195))), (0, .ref (x))]) E.1 E.2.1 dL_holds_560 rfl hl (by decide) rfl (fun ls hl => ?_)
                          refine r_inc (lv' := [(5, .int (iI ((n : Int) + 1))), (1, .int (iI ((se σ n 1 : Int) + (se σ n 2 : Int)))), (4, .int (iI (1))), (11, .int (iI (u2))), (8, .int (iI (e8))), (6, .int (iI ((se σ n 0 : Int)))), (7, .int (iI ((se σ n 2 : Int)))), (9, .int (iI ((se σ n 3 : Int) + v153))), (10, .int (iI (v182))), (2, .int (iI (a2 + (se σ n 5 : Int)))), (3, .int (iI (v195))), (0, .ref (x))]) E dL_holds_561 hl (k := 4) rfl (by decide) rfl (fun ls hl => ?_)
                          refine lv_goto (tgt := 94) E.1 E.2.1 dL_holds_564 (by decide) ?_
                          refine ihin94 _ ?_ (n + 1) ((n : Int) + 1) ((se σ n 1 : Int) + (se σ n 2 : Int)) (a2 + (se σ n 5 : Int)) v195 ls locs ?_ ?_ ?_ ?_ ?_ rfl (lv_sub hl [0, 1, 9, 10, 2, 11] rfl) hL
                          · omega
                          · omega
                          · omega
                          · rw [posN_succ hI hnm]; omega
                          · rw [wrN_succ]; omega
                          · exact hv195
                        refine lv_iload E.1 E.2.1 dL_holds_499 (lv_at hl 5 rfl) ?_
                        refine lv_iload E.1 E.2.1 dL_holds_501 (lv_at hl 6 rfl) ?_
                        refine r_icmp_le (tgt := 510) E dL_holds_503 (by decide) (by omega) (by omega) (fun c503 => ?_) (fun c503 => ?_)
                        · refine r_const E dL_holds_510 ?_
                          refine lv_aload_n E.1 E.2.1 dL_holds_511 rfl (lv_at hl 11 rfl) ?_
                          refine lv_iload E.1 E.2.1 dL_holds_512 (lv_at hl 3 rfl) ?_
                          refine r_bipush E dL_holds_514 (by decide) ?_
                          refine kVRE (As := [.int (iI ((n : Int))), .int (iI (7))]) E cw_L_29 (c_X5_session G l x fb fl σ hs tx len hI hT hfx hgx ((n : Int)) (7) (by unfold okI; omega) (by unfold okI; omega)) hP.1 ⟨_, _, rfl⟩ hP hL hl.1 rfl rfl (Nat.le_of_ble_eq_true rfl) ⟨Nat.le_of_ble_eq_true rfl, Nat.le_of_ble_eq_true rfl⟩ ⟨rfl, rfl⟩ ⟨Nat.le_of_ble_eq_true rfl, Nat.le_of_ble_eq_true rfl⟩ dL_holds_516 (fun locs hL => ?_)
                          rw [spSes7 hnm]
                          refine r_if_le (tgt := 526) E dL_holds_519 (by decide) (by omega) (fun c519 => ?_) (fun c519 => absurd c519 (by omega))
                          refine r_const E dL_holds_526 ?_
                          refine r_icmp_ne (tgt := 553) E dL_holds_527 (by decide) (by omega) (by omega) (fun c527 => absurd c527 (by omega)) (fun c527 => ?_)
                          exact J530_5 ls locs (lv_sub hl [0, 1, 2, 3, 4, 5, 6, 7, 8, 9, 10, 11] rfl) hL
                        · refine r_const E dL_holds_506 ?_
                          refine lv_goto (tgt := 511) E.1 E.2.1 dL_holds_507 (by decide) ?_
                          refine lv_aload_n E.1 E.2.1 dL_holds_511 rfl (lv_at hl 11 rfl) ?_
                          refine lv_iload E.1 E.2.1 dL_holds_512 (lv_at hl 3 rfl) ?_
                          refine r_bipush E dL_holds_514 (by decide) ?_
                          refine kVRE (As := [.int (iI ((n : Int))), .int (iI (7))]) E cw_L_29 (c_X5_session G l x fb fl σ hs tx len hI hT hfx hgx ((n : Int)) (7) (by unfold okI; omega) (by unfold okI; omega)) hP.1 ⟨_, _, rfl⟩ hP hL hl.1 rfl rfl (Nat.le_of_ble_eq_true rfl) ⟨Nat.le_of_ble_eq_true rfl, Nat.le_of_ble_eq_true rfl⟩ ⟨rfl, rfl⟩ ⟨Nat.le_of_ble_eq_true rfl, Nat.le_of_ble_eq_true rfl⟩ dL_holds_516 (fun locs hL => ?_)
                          rw [spSes7 hnm]
                          refine r_if_le (tgt := 526) E dL_holds_519 (by decide) (by omega) (fun c519 => absurd c519 (by omega)) (fun c519 => ?_)
                          refine r_const E dL_holds_522 ?_
                          refine lv_goto (tgt := 527) E.1 E.2.1 dL_holds_523 (by decide) ?_
                          refine r_icmp_ne (tgt := 553) E dL_holds_527 (by decide) (by omega) (by omega) (fun c527 => absurd c527 (by omega)) (fun c527 => ?_)
                          exact J530_5 ls locs (lv_sub hl [0, 1, 2, 3, 4, 5, 6, 7, 8, 9, 10, 11] rfl) hL
                      refine lv_aload_n E.1 E.2.1 dL_holds_466 rfl (lv_at hl 11 rfl) ?_
                      rcases hv182 with ⟨hr9, hv9⟩ | ⟨hr9, hv9⟩
                      · refine lv_iload E.1 E.2.1 dL_holds_467 (lv_at hl 3 rfl) ?_
                        refine r_bipush E dL_holds_469 (by decide) ?_
                        refine kVRE (As := [.int (iI ((n : Int))), .int (iI (6))]) E cw_L_29 (c_X5_session G l x fb fl σ hs tx len hI hT hfx hgx ((n : Int)) (6) (by unfold okI; omega) (by unfold okI; omega)) hP.1 ⟨_, _, rfl⟩ hP hL hl.1 rfl rfl (Nat.le_of_ble_eq_true rfl) ⟨Nat.le_of_ble_eq_true rfl, Nat.le_of_ble_eq_true rfl⟩ ⟨rfl, rfl⟩ ⟨Nat.le_of_ble_eq_true rfl, Nat.le_of_ble_eq_true rfl⟩ dL_holds_471 (fun locs hL => ?_)
                        rw [spSes6 hnm, hr9, if_pos rfl]
                        refine lv_iload E.1 E.2.1 dL_holds_474 (lv_at hl 7 rfl) ?_
                        refine r_if_eq (tgt := 483) E dL_holds_476 (by decide) (by omega) (fun c476 => absurd c476 (by omega)) (fun c476 => ?_)
                        refine r_const E dL_holds_479 ?_
                        refine lv_goto (tgt := 484) E.1 E.2.1 dL_holds_480 (by decide) ?_
                        refine r_icmp_ne (tgt := 553) E dL_holds_484 (by decide) (by omega) (by omega) (fun c484 => absurd c484 (by omega)) (fun c484 => ?_)
                        exact J487_4 ls locs (lv_sub hl [0, 1, 2, 3, 4, 5, 6, 7, 8, 9, 10, 11] rfl) hL
                      · refine lv_iload E.1 E.2.1 dL_holds_467 (lv_at hl 3 rfl) ?_
                        refine r_bipush E dL_holds_469 (by decide) ?_
                        refine kVRE (As := [.int (iI ((n : Int))), .int (iI (6))]) E cw_L_29 (c_X5_session G l x fb fl σ hs tx len hI hT hfx hgx ((n : Int)) (6) (by unfold okI; omega) (by unfold okI; omega)) hP.1 ⟨_, _, rfl⟩ hP hL hl.1 rfl rfl (Nat.le_of_ble_eq_true rfl) ⟨Nat.le_of_ble_eq_true rfl, Nat.le_of_ble_eq_true rfl⟩ ⟨rfl, rfl⟩ ⟨Nat.le_of_ble_eq_true rfl, Nat.le_of_ble_eq_true rfl⟩ dL_holds_471 (fun locs hL => ?_)
                        rw [spSes6 hnm, hr9, if_neg (by decide)]
                        refine lv_iload E.1 E.2.1 dL_holds_474 (lv_at hl 7 rfl) ?_
                        refine r_if_eq (tgt := 483) E dL_holds_476 (by decide) (by omega) (fun c476 => ?_) (fun c476 => absurd c476 (by omega))
                        refine r_const E dL_holds_483 ?_
                        refine r_icmp_ne (tgt := 553) E dL_holds_484 (by decide) (by omega) (by omega) (fun c484 => absurd c484 (by omega)) (fun c484 => ?_)
                        exact J487_4 ls locs (lv_sub hl [0, 1, 2, 3, 4, 5, 6, 7, 8, 9, 10, 11] rfl) hL
                    refine lv_iload E.1 E.2.1 dL_holds_432 (lv_at hl 4 rfl) ?_
                    refine r_if_gt (tgt := 448) E dL_holds_434 (by decide) (by omega) (fun c434 => ?_) (fun c434 => ?_)
                    · exact J448_3 ls locs (lv_sub hl [0, 1, 2, 3, 4, 5, 6, 7, 8, 9, 10, 11] rfl) hL
                    · refine lv_iload E.1 E.2.1 dL_holds_437 (lv_at hl 3 rfl) ?_
                      refine lv_aload_n E.1 E.2.1 dL_holds_439 rfl (lv_at hl 11 rfl) ?_
                      refine kVRE (As := []) E cw_L_26 (c_X5_sessions G l x fb fl σ hs tx len hI hT hfx hgx  ) hP.1 ⟨_, _, rfl⟩ hP hL hl.1 rfl rfl (Nat.le_of_ble_eq_true rfl) ⟨Nat.le_of_ble_eq_true rfl, Nat.le_of_ble_eq_true rfl⟩ ⟨rfl, rfl⟩ ⟨Nat.le_of_ble_eq_true rfl, Nat.le_of_ble_eq_true rfl⟩ dL_holds_440 (fun locs hL => ?_)
                      refine r_const E dL_holds_443 ?_
                      refine r_sub E dL_holds_444 ?_
                      refine r_icmp_ne (tgt := 553) E dL_holds_445 (by decide) (by omega) (by omega) (fun c445 => absurd c445 (by omega)) (fun c445 => ?_)
                      exact J448_3 ls locs (lv_sub hl [0, 1, 2, 3, 4, 5, 6, 7, 8, 9, 10, 11] rfl) hL
                  · refine lv_iload E.1 E.2.1 dL_holds_217 (lv_at hl 2 rfl) ?_
                    refine r_if_eq (tgt := 416) E dL_holds_219 (by decide) (by omega) (fun c219 => absurd c219 (by omega)) (fun c219 => ?_)
                    subst hu2
                    have hk20 : k < 20 := by omega
                    rcases hen : en σ n k with _ | f
                    · refine lv_aload_n E.1 E.2.1 dL_holds_222 rfl (lv_at hl 11 rfl) ?_
                      refine lv_iload E.1 E.2.1 dL_holds_223 (lv_at hl 3 rfl) ?_
                      refine lv_iload E.1 E.2.1 dL_holds_225 (lv_at hl 0 rfl) ?_
                      refine r_const E dL_holds_227 ?_
                      refine kVRE (As := [.int (iI ((n : Int))), .int (iI ((k : Int))), .int (iI (0))]) E cw_L_33 (c_X5_entry G l x fb fl σ hs tx len hI hT hfx hgx ((n : Int)) ((k : Int)) (0) (by unfold okI; omega) (by unfold okI; omega) (by unfold okI; omega)) hP.1 ⟨_, _, rfl⟩ hP hL hl.1 rfl rfl (Nat.le_of_ble_eq_true rfl) ⟨Nat.le_of_ble_eq_true rfl, Nat.le_of_ble_eq_true rfl⟩ ⟨rfl, rfl⟩ ⟨Nat.le_of_ble_eq_true rfl, Nat.le_of_ble_eq_true rfl⟩ dL_holds_228 (fun locs hL => ?_)
                      rw [spEntN hnm hk20 hen (w := 0) (by decide)]
                      refine lv_istore (lv' := [(12, .int (iI ((-6)))), (11, .int (iI ((k : Int)))), (8, .int (iI (e8))), (4, .int (iI (1))), (5, .int (iI ((n : Int)))), (6, .int (iI ((se σ n 0 : Int)))), (7, .int (iI ((se σ n 2 : Int)))), (9, .int (iI ((se σ n 3 : Int) + v153))), (10, .int (iI (v182))), (1, .int (iI ((se σ n 1 : Int)))), (2, .int (iI (a2 + (se σ n 5 : Int)))), (3, .int (iI (v195))), (0, .ref (x))]) E.1 E.2.1 dL_holds_231 hl (by decide) rfl (fun ls hl => ?_)
                      refine lv_aload_n E.1 E.2.1 dL_holds_233 rfl (lv_at hl 12 rfl) ?_
                      refine lv_iload E.1 E.2.1 dL_holds_234 (lv_at hl 4 rfl) ?_
                      refine lv_iload E.1 E.2.1 dL_holds_236 (lv_at hl 1 rfl) ?_
                      refine r_const E dL_holds_238 ?_
                      refine kVRE (As := [.int (iI ((n : Int))), .int (iI ((k : Int))), .int (iI (1))]) E cw_L_33 (c_X5_entry G l x fb fl σ hs tx len hI hT hfx hgx ((n : Int)) ((k : Int)) (1) (by unfold okI; omega) (by unfold okI; omega) (by unfold okI; omega)) hP.1 ⟨_, _, rfl⟩ hP hL hl.1 rfl rfl (Nat.le_of_ble_eq_true rfl) ⟨Nat.le_of_ble_eq_true rfl, Nat.le_of_ble_eq_true rfl⟩ ⟨rfl, rfl⟩ ⟨Nat.le_of_ble_eq_true rfl, Nat.le_of_ble_eq_true rfl⟩ dL_holds_239 (fun locs hL => ?_)
                      rw [spEntN hnm hk20 hen (w := 1) (by decide)]
                      refine lv_istore (lv' := [(13, .int (iI ((-6)))), (12, .int (iI ((-6)))), (11, .int (iI ((k : Int)))), (8, .int (iI (e8))), (4, .int (iI (1))), (5, .int (iI ((n : Int)))), (6, .int (iI ((se σ n 0 : Int)))), (7, .int (iI ((se σ n 2 : Int)))), (9, .int (iI ((se σ n 3 : Int) + v153))), (10, .int (iI (v182))), (1, .int (iI ((se σ n 1 : Int)))), (2, .int (iI (a2 + (se σ n 5 : Int)))), (3, .int (iI (v195))), (0, .ref (x))]) E.1 E.2.1 dL_holds_242 hl (by decide) rfl (fun ls hl => ?_)
                      refine lv_aload_n E.1 E.2.1 dL_holds_244 rfl (lv_at hl 13 rfl) ?_
                      refine lv_iload E.1 E.2.1 dL_holds_245 (lv_at hl 5 rfl) ?_
                      refine lv_iload E.1 E.2.1 dL_holds_247 (lv_at hl 2 rfl) ?_
                      refine r_const E dL_holds_249 ?_
                      refine kVRE (As := [.int (iI ((n : Int))), .int (iI ((k : Int))), .int (iI (2))]) E cw_L_33 (c_X5_entry G l x fb fl σ hs tx len hI hT hfx hgx ((n : Int)) ((k : Int)) (2) (by unfold okI; omega) (by unfold okI; omega) (by unfold okI; omega)) hP.1 ⟨_, _, rfl⟩ hP hL hl.1 rfl rfl (Nat.le_of_ble_eq_true rfl) ⟨Nat.le_of_ble_eq_true rfl, Nat.le_of_ble_eq_true rfl⟩ ⟨rfl, rfl⟩ ⟨Nat.le_of_ble_eq_true rfl, Nat.le_of_ble_eq_true rfl⟩ dL_holds_250 (fun locs hL => ?_)
                      rw [spEntN hnm hk20 hen (w := 2) (by decide)]
                      refine lv_istore (lv' := [(14, .int (iI ((-6)))), (13, .int (iI ((-6)))), (12, .int (iI ((-6)))), (11, .int (iI ((k : Int)))), (8, .int (iI (e8))), (4, .int (iI (1))), (5, .int (iI ((n : Int)))), (6, .int (iI ((se σ n 0 : Int)))), (7, .int (iI ((se σ n 2 : Int)))), (9, .int (iI ((se σ n 3 : Int) + v153))), (10, .int (iI (v182))), (1, .int (iI ((se σ n 1 : Int)))), (2, .int (iI (a2 + (se σ n 5 : Int)))), (3, .int (iI (v195))), (0, .ref (x))]) E.1 E.2.1 dL_holds_253 hl (by decide) rfl (fun ls hl => ?_)
                      refine lv_iload E.1 E.2.1 dL_holds_255 (lv_at hl 4 rfl) ?_
                      refine lv_iload E.1 E.2.1 dL_holds_257 (lv_at hl 2 rfl) ?_
                      refine r_bipush E dL_holds_259 (by decide) ?_
                      refine r_icmp_ne (tgt := 268) E dL_holds_261 (by decide) (by omega) (by omega) (fun c261 => absurd c261 (by omega)) (fun c261 => ?_)
                      refine r_const E dL_holds_264 ?_
                      refine lv_goto (tgt := 269) E.1 E.2.1 dL_holds_265 (by decide) ?_
                      refine r_add E dL_holds_269 ?_
                      refine lv_istore (lv' := [(8, .int (iI (e8 + 0))), (14, .int (iI ((-6)))), (13, .int (iI ((-6)))), (12, .int (iI ((-6)))), (11, .int (iI ((k : Int)))), (4, .int (iI (1))), (5, .int (iI ((n : Int)))), (6, .int (iI ((se σ n 0 : Int)))), (7, .int (iI ((se σ n 2 : Int)))), (9, .int (iI ((se σ n 3 : Int) + v153))), (10, .int (iI (v182))), (1, .int (iI ((se σ n 1 : Int)))), (2, .int (iI (a2 + (se σ n 5 : Int)))), (3, .int (iI (v195))), (0, .ref (x))]) E.1 E.2.1 dL_holds_270 hl (by decide) rfl (fun ls hl => ?_)
                      refine lv_iload E.1 E.2.1 dL_holds_272 (lv_at hl 3 rfl) ?_
                      refine r_bipush E dL_holds_274 (by decide) ?_
                      refine r_icmp_ne (tgt := 301) E dL_holds_276 (by decide) (by omega) (by omega) (fun c276 => absurd c276 (by omega)) (fun c276 => ?_)
                      refine lv_iload E.1 E.2.1 dL_holds_279 (lv_at hl 2 rfl) ?_
                      refine r_bipush E dL_holds_281 (by decide) ?_
                      refine r_icmp_ne (tgt := 297) E dL_holds_283 (by decide) (by omega) (by omega) (fun c283 => absurd c283 (by omega)) (fun c283 => ?_)
                      refine lv_iload E.1 E.2.1 dL_holds_286 (lv_at hl 1 rfl) ?_
                      refine r_bipush E dL_holds_288 (by decide) ?_
                      refine r_icmp_ne (tgt := 297) E dL_holds_290 (by decide) (by omega) (by omega) (fun c290 => absurd c290 (by omega)) (fun c290 => ?_)
                      refine r_const E dL_holds_293 ?_
                      refine lv_goto (tgt := 408) E.1 E.2.1 dL_holds_294 (by decide) ?_
                      refine lv_istore (lv' := [(4, .int (iI (1))), (8, .int (iI (e8 + 0))), (14, .int (iI ((-6)))), (13, .int (iI ((-6)))), (12, .int (iI ((-6)))), (11, .int (iI ((k : Int)))), (5, .int (iI ((n : Int)))), (6, .int (iI ((se σ n 0 : Int)))), (7, .int (iI ((se σ n 2 : Int)))), (9, .int (iI ((se σ n 3 : Int) + v153))), (10, .int (iI (v182))), (1, .int (iI ((se σ n 1 : Int)))), (2, .int (iI (a2 + (se σ n 5 : Int)))), (3, .int (iI (v195))), (0, .ref (x))]) E.1 E.2.1 dL_holds_408 hl (by decide) rfl (fun ls hl => ?_)
                      refine r_inc (lv' := [(11, .int (iI ((k : Int) + 1))), (4, .int (iI (1))), (8, .int (iI (e8 + 0))), (14, .int (iI ((-6)))), (13, .int (iI ((-6)))), (12, .int (iI ((-6)))), (5, .int (iI ((n : Int)))), (6, .int (iI ((se σ n 0 : Int)))), (7, .int (iI ((se σ n 2 : Int)))), (9, .int (iI ((se σ n 3 : Int) + v153))), (10, .int (iI (v182))), (1, .int (iI ((se σ n 1 : Int)))), (2, .int (iI (a2 + (se σ n 5 : Int)))), (3, .int (iI (v195))), (0, .ref (x))]) E dL_holds_410 hl (k := 5) rfl (by decide) rfl (fun ls hl => ?_)
                      refine lv_goto (tgt := 210) E.1 E.2.1 dL_holds_413 (by decide) ?_
                      refine ihin210 _ ?_ (k + 1) ((k : Int) + 1) (e8 + 0) ls locs ?_ ?_ ?_ rfl (lv_sub hl [0, 2, 1, 6, 7, 8, 9, 10, 11, 12, 13, 14] rfl) hL
                      · omega
                      · omega
                      · omega
                      · have h9 : cntB (fun j => (en σ n j).isSome) (k + 1) = cntB (fun j => (en σ n j).isSome) k + (if (en σ n k).isSome then 1 else 0) := rfl
                        rw [h9, hen, if_neg (by decide)]
                        omega
                    · have hb := hI.ent hnm hk20 hen
                      have hb2 := hI.ent2 hnm hk20 hen
                      have hb4 : f.1 + f.2.1 ≤ se σ f.2.2 1 + se σ f.2.2 2 := by have h9 := hb.2.2.2; split at h9 <;> omega
                      have hb3 := hb.2.2.1
                      have hb1 := hb.1
                      clear hb
                      have hby : f.2.2 < mn σ := hb2.2.2.2
                      have hrb := hI.row hby
                      have hv1 := hS.2.1 n k f hnm hk20 hen
                      have hv2 := vr_row hS hk20
                      refine lv_aload_n E.1 E.2.1 dL_holds_222 rfl (lv_at hl 11 rfl) ?_
                      refine lv_iload E.1 E.2.1 dL_holds_223 (lv_at hl 3 rfl) ?_
                      refine lv_iload E.1 E.2.1 dL_holds_225 (lv_at hl 0 rfl) ?_
                      refine r_const E dL_holds_227 ?_
                      refine kVRE (As := [.int (iI ((n : Int))), .int (iI ((k : Int))), .int (iI (0))]) E cw_L_33 (c_X5_entry G l x fb fl σ hs tx len hI hT hfx hgx ((n : Int)) ((k : Int)) (0) (by unfold okI; omega) (by unfold okI; omega) (by unfold okI; omega)) hP.1 ⟨_, _, rfl⟩ hP hL hl.1 rfl rfl (Nat.le_of_ble_eq_true rfl) ⟨Nat.le_of_ble_eq_true rfl, Nat.le_of_ble_eq_true rfl⟩ ⟨rfl, rfl⟩ ⟨Nat.le_of_ble_eq_true rfl, Nat.le_of_ble_eq_true rfl⟩ dL_holds_228 (fun locs hL => ?_)
                      rw [spEnt0 hnm hk20 hen]
                      refine lv_istore (lv' := [(12, .int (iI ((f.1 : Int)))), (11, .int (iI ((k : Int)))), (8, .int (iI (e8))), (4, .int (iI (1))), (5, .int (iI ((n : Int)))), (6, .int (iI ((se σ n 0 : Int)))), (7, .int (iI ((se σ n 2 : Int)))), (9, .int (iI ((se σ n 3 : Int) + v153))), (10, .int (iI (v182))), (1, .int (iI ((se σ n 1 : Int)))), (2, .int (iI (a2 + (se σ n 5 : Int)))), (3, .int (iI (v195))), (0, .ref (x))]) E.1 E.2.1 dL_holds_231 hl (by decide) rfl (fun ls hl => ?_)
                      refine lv_aload_n E.1 E.2.1 dL_holds_233 rfl (lv_at hl 12 rfl) ?_
                      refine lv_iload E.1 E.2.1 dL_holds_234 (lv_at hl 4 rfl) ?_
                      refine lv_iload E.1 E.2.1 dL_holds_236 (lv_at hl 1 rfl) ?_
                      refine r_const E dL_holds_238 ?_
                      refine kVRE (As := [.int (iI ((n : Int))), .int (iI ((k : Int))), .int (iI (1))]) E cw_L_33 (c_X5_entry G l x fb fl σ hs tx len hI hT hfx hgx ((n : Int)) ((k : Int)) (1) (by unfold okI; omega) (by unfold okI; omega) (by unfold okI; omega)) hP.1 ⟨_, _, rfl⟩ hP hL hl.1 rfl rfl (Nat.le_of_ble_eq_true rfl) ⟨Nat.le_of_ble_eq_true rfl, Nat.le_of_ble_eq_true rfl⟩ ⟨rfl, rfl⟩ ⟨Nat.le_of_ble_eq_true rfl, Nat.le_of_ble_eq_true rfl⟩ dL_holds_239 (fun locs hL => ?_)
                      rw [spEnt1 hnm hk20 hen]
                      refine lv_istore (lv' := [(13, .int (iI ((f.2.1 : Int)))), (12, .int (iI ((f.1 : Int)))), (11, .int (iI ((k : Int)))), (8, .int (iI (e8))), (4, .int (iI (1))), (5, .int (iI ((n : Int)))), (6, .int (iI ((se σ n 0 : Int)))), (7, .int (iI ((se σ n 2 : Int)))), (9, .int (iI ((se σ n 3 : Int) + v153))), (10, .int (iI (v182))), (1, .int (iI ((se σ n 1 : Int)))), (2, .int (iI (a2 + (se σ n 5 : Int)))), (3, .int (iI (v195))), (0, .ref (x))]) E.1 E.2.1 dL_holds_242 hl (by decide) rfl (fun ls hl => ?_)
                      refine lv_aload_n E.1 E.2.1 dL_holds_244 rfl (lv_at hl 13 rfl) ?_
                      refine lv_iload E.1 E.2.1 dL_holds_245 (lv_at hl 5 rfl) ?_
                      refine lv_iload E.1 E.2.1 dL_holds_247 (lv_at hl 2 rfl) ?_
                      refine r_const E dL_holds_249 ?_
                      refine kVRE (As := [.int (iI ((n : Int))), .int (iI ((k : Int))), .int (iI (2))]) E cw_L_33 (c_X5_entry G l x fb fl σ hs tx len hI hT hfx hgx ((n : Int)) ((k : Int)) (2) (by unfold okI; omega) (by unfold okI; omega) (by unfold okI; omega)) hP.1 ⟨_, _, rfl⟩ hP hL hl.1 rfl rfl (Nat.le_of_ble_eq_true rfl) ⟨Nat.le_of_ble_eq_true rfl, Nat.le_of_ble_eq_true rfl⟩ ⟨rfl, rfl⟩ ⟨Nat.le_of_ble_eq_true rfl, Nat.le_of_ble_eq_true rfl⟩ dL_holds_250 (fun locs hL => ?_)
                      rw [spEnt2 hnm hk20 hen]
                      refine lv_istore (lv' := [(14, .int (iI ((f.2.2 : Int)))), (13, .int (iI ((f.2.1 : Int)))), (12, .int (iI ((f.1 : Int)))), (11, .int (iI ((k : Int)))), (8, .int (iI (e8))), (4, .int (iI (1))), (5, .int (iI ((n : Int)))), (6, .int (iI ((se σ n 0 : Int)))), (7, .int (iI ((se σ n 2 : Int)))), (9, .int (iI ((se σ n 3 : Int) + v153))), (10, .int (iI (v182))), (1, .int (iI ((se σ n 1 : Int)))), (2, .int (iI (a2 + (se σ n 5 : Int)))), (3, .int (iI (v195))), (0, .ref (x))]) E.1 E.2.1 dL_holds_253 hl (by decide) rfl (fun ls hl => ?_)
                      refine lv_iload E.1 E.2.1 dL_holds_255 (lv_at hl 4 rfl) ?_
                      refine lv_iload E.1 E.2.1 dL_holds_257 (lv_at hl 2 rfl) ?_
                      refine r_bipush E dL_holds_259 (by decide) ?_
                      refine r_icmp_ne (tgt := 268) E dL_holds_261 (by decide) (by omega) (by omega) (fun c261 => ?_) (fun c261 => absurd c261 (by omega))
                      refine r_const E dL_holds_268 ?_
                      refine r_add E dL_holds_269 ?_
                      refine lv_istore (lv' := [(8, .int (iI (e8 + 1))), (14, .int (iI ((f.2.2 : Int)))), (13, .int (iI ((f.2.1 : Int)))), (12, .int (iI ((f.1 : Int)))), (11, .int (iI ((k : Int)))), (4, .int (iI (1))), (5, .int (iI ((n : Int)))), (6, .int (iI ((se σ n 0 : Int)))), (7, .int (iI ((se σ n 2 : Int)))), (9, .int (iI ((se σ n 3 : Int) + v153))), (10, .int (iI (v182))), (1, .int (iI ((se σ n 1 : Int)))), (2, .int (iI (a2 + (se σ n 5 : Int)))), (3, .int (iI (v195))), (0, .ref (x))]) E.1 E.2.1 dL_holds_270 hl (by decide) rfl (fun ls hl => ?_)
                      refine lv_iload E.1 E.2.1 dL_holds_272 (lv_at hl 3 rfl) ?_
                      refine r_bipush E dL_holds_274 (by decide) ?_
                      refine r_icmp_ne (tgt := 301) E dL_holds_276 (by decide) (by omega) (by omega) (fun c276 => ?_) (fun c276 => absurd c276 (by omega))
                      refine lv_iload E.1 E.2.1 dL_holds_301 (lv_at hl 2 rfl) ?_
                      refine r_const E dL_holds_303 ?_
                      refine r_icmp_lt (tgt := 407) E dL_holds_304 (by decide) (by omega) (by omega) (fun c304 => absurd c304 (by omega)) (fun c304 => ?_)
                      refine lv_iload E.1 E.2.1 dL_holds_307 (lv_at hl 2 rfl) ?_
                      refine r_bipush E dL_holds_309 (by decide) ?_
                      refine r_icmp_gt (tgt := 407) E dL_holds_311 (by decide) (by omega) (by omega) (fun c311 => absurd c311 (by omega)) (fun c311 => ?_)
                      refine lv_iload E.1 E.2.1 dL_holds_314 (lv_at hl 1 rfl) ?_
                      refine r_if_lt (tgt := 407) E dL_holds_316 (by decide) (by omega) (fun c316 => absurd c316 (by omega)) (fun c316 => ?_)
                      refine lv_iload E.1 E.2.1 dL_holds_319 (lv_at hl 1 rfl) ?_
                      refine lv_iload E.1 E.2.1 dL_holds_321 (lv_at hl 6 rfl) ?_
                      refine r_icmp_gt (tgt := 407) E dL_holds_323 (by decide) (by omega) (by omega) (fun c323 => absurd c323 (by omega)) (fun c323 => ?_)
                      refine lv_iload E.1 E.2.1 dL_holds_326 (lv_at hl 3 rfl) ?_
                      refine lv_aload_n E.1 E.2.1 dL_holds_328 rfl (lv_at hl 14 rfl) ?_
                      refine lv_iload E.1 E.2.1 dL_holds_329 (lv_at hl 1 rfl) ?_
                      refine r_const E dL_holds_331 ?_
                      refine kVRE (As := [.int (iI ((f.2.2 : Int))), .int (iI (1))]) E cw_L_29 (c_X5_session G l x fb fl σ hs tx len hI hT hfx hgx ((f.2.2 : Int)) (1) (by unfold okI; omega) (by unfold okI; omega)) hP.1 ⟨_, _, rfl⟩ hP hL hl.1 rfl rfl (Nat.le_of_ble_eq_true rfl) ⟨Nat.le_of_ble_eq_true rfl, Nat.le_of_ble_eq_true rfl⟩ ⟨rfl, rfl⟩ ⟨Nat.le_of_ble_eq_true rfl, Nat.le_of_ble_eq_true rfl⟩ dL_holds_332 (fun locs hL => ?_)
                      rw [spSes1 hby]
                      refine lv_aload_n E.1 E.2.1 dL_holds_335 rfl (lv_at hl 14 rfl) ?_
                      refine lv_iload E.1 E.2.1 dL_holds_336 (lv_at hl 1 rfl) ?_
                      refine r_const E dL_holds_338 ?_
                      refine kVRE (As := [.int (iI ((f.2.2 : Int))), .int (iI (3))]) E cw_L_29 (c_X5_session G l x fb fl σ hs tx len hI hT hfx hgx ((f.2.2 : Int)) (3) (by unfold okI; omega) (by unfold okI; omega)) hP.1 ⟨_, _, rfl⟩ hP hL hl.1 rfl rfl (Nat.le_of_ble_eq_true rfl) ⟨Nat.le_of_ble_eq_true rfl, Nat.le_of_ble_eq_true rfl⟩ ⟨rfl, rfl⟩ ⟨Nat.le_of_ble_eq_true rfl, Nat.le_of_ble_eq_true rfl⟩ dL_holds_339 (fun locs hL => ?_)
                      rw [spSes3 hby]
                      refine r_add E dL_holds_342 ?_
                      refine r_icmp_lt (tgt := 407) E dL_holds_343 (by decide) (by omega) (by omega) (fun c343 => absurd c343 (by omega)) (fun c343 => ?_)
                      refine lv_iload E.1 E.2.1 dL_holds_346 (lv_at hl 3 rfl) ?_
                      refine lv_iload E.1 E.2.1 dL_holds_348 (lv_at hl 2 rfl) ?_
                      refine r_add E dL_holds_350 ?_
                      refine lv_aload_n E.1 E.2.1 dL_holds_351 rfl (lv_at hl 14 rfl) ?_
                      refine lv_iload E.1 E.2.1 dL_holds_352 (lv_at hl 1 rfl) ?_
                      refine r_const E dL_holds_354 ?_
                      refine kVRE (As := [.int (iI ((f.2.2 : Int))), .int (iI (1))]) E cw_L_29 (c_X5_session G l x fb fl σ hs tx len hI hT hfx hgx ((f.2.2 : Int)) (1) (by unfold okI; omega) (by unfold okI; omega)) hP.1 ⟨_, _, rfl⟩ hP hL hl.1 rfl rfl (Nat.le_of_ble_eq_true rfl) ⟨Nat.le_of_ble_eq_true rfl, Nat.le_of_ble_eq_true rfl⟩ ⟨rfl, rfl⟩ ⟨Nat.le_of_ble_eq_true rfl, Nat.le_of_ble_eq_true rfl⟩ dL_holds_355 (fun locs hL => ?_)
                      rw [spSes1 hby]
                      refine lv_aload_n E.1 E.2.1 dL_holds_358 rfl (lv_at hl 14 rfl) ?_
                      refine lv_iload E.1 E.2.1 dL_holds_359 (lv_at hl 1 rfl) ?_
                      refine r_const E dL_holds_361 ?_
                      refine kVRE (As := [.int (iI ((f.2.2 : Int))), .int (iI (2))]) E cw_L_29 (c_X5_session G l x fb fl σ hs tx len hI hT hfx hgx ((f.2.2 : Int)) (2) (by unfold okI; omega) (by unfold okI; omega)) hP.1 ⟨_, _, rfl⟩ hP hL hl.1 rfl rfl (Nat.le_of_ble_eq_true rfl) ⟨Nat.le_of_ble_eq_true rfl, Nat.le_of_ble_eq_true rfl⟩ ⟨rfl, rfl⟩ ⟨Nat.le_of_ble_eq_true rfl, Nat.le_of_ble_eq_true rfl⟩ dL_holds_362 (fun locs hL => ?_)
                      rw [spSes2 hby]
                      refine r_add E dL_holds_365 ?_
                      refine r_icmp_gt (tgt := 407) E dL_holds_366 (by decide) (by omega) (by omega) (fun c366 => absurd c366 (by omega)) (fun c366 => ?_)
                      refine lv_aload_n E.1 E.2.1 dL_holds_369 rfl (lv_at hl 14 rfl) ?_
                      refine lv_iload E.1 E.2.1 dL_holds_370 (lv_at hl 4 rfl) ?_
                      refine kVRE (As := [.int (iI ((k : Int)))]) E cw_L_37 (c_X5_versions G l x fb fl σ hs tx len hI hT hfx hgx ((k : Int)) (by unfold okI; omega)) hP.1 ⟨_, _, rfl⟩ hP hL hl.1 rfl rfl (Nat.le_of_ble_eq_true rfl) ⟨Nat.le_of_ble_eq_true rfl, Nat.le_of_ble_eq_true rfl⟩ ⟨rfl, rfl⟩ ⟨Nat.le_of_ble_eq_true rfl, Nat.le_of_ble_eq_true rfl⟩ dL_holds_372 (fun locs hL => ?_)
                      rw [spVer_v hk20]
                      refine r_if_le (tgt := 407) E dL_holds_375 (by decide) (by omega) (fun c375 => absurd c375 (by omega)) (fun c375 => ?_)
                      refine lv_aload_n E.1 E.2.1 dL_holds_378 rfl (lv_at hl 14 rfl) ?_
                      refine lv_iload E.1 E.2.1 dL_holds_379 (lv_at hl 3 rfl) ?_
                      refine kVRE (As := [.int (iI ((f.1 : Int)))]) E cw_L_46 (c_X5_use G l x fb fl σ hs tx len hI hT hfx hgx ((f.1 : Int)) (by unfold okI; omega)) hP.1 ⟨_, _, rfl⟩ hP hL hl.1 rfl rfl (Nat.le_of_ble_eq_true rfl) ⟨Nat.le_of_ble_eq_true rfl, Nat.le_of_ble_eq_true rfl⟩ ⟨rfl, rfl⟩ ⟨Nat.le_of_ble_eq_true rfl, Nat.le_of_ble_eq_true rfl⟩ dL_holds_381 (fun locs hL => ?_)
                      rw [use_file hI hnm hk20 hen (Nat.le_refl _) (by omega)]
                      refine r_const E dL_holds_384 ?_
                      refine r_icmp_ne (tgt := 407) E dL_holds_385 (by decide) (by omega) (by omega) (fun c385 => absurd c385 (by omega)) (fun c385 => ?_)
                      refine lv_aload_n E.1 E.2.1 dL_holds_388 rfl (lv_at hl 14 rfl) ?_
                      refine lv_iload E.1 E.2.1 dL_holds_389 (lv_at hl 3 rfl) ?_
                      refine lv_iload E.1 E.2.1 dL_holds_391 (lv_at hl 2 rfl) ?_
                      refine r_add E dL_holds_393 ?_
                      refine r_const E dL_holds_394 ?_
                      refine r_sub E dL_holds_395 ?_
                      rw [show ((((f.1 : Int) + (f.2.1 : Int)) - 1 : Int)) = ((f.1 + f.2.1 - 1 : Nat) : Int) by omega]
                      refine kVRE (As := [.int (iI (((f.1 + f.2.1 - 1 : Nat) : Int)))]) E cw_L_46 (c_X5_use G l x fb fl σ hs tx len hI hT hfx hgx (((f.1 + f.2.1 - 1 : Nat) : Int)) (by unfold okI; omega)) hP.1 ⟨_, _, rfl⟩ hP hL hl.1 rfl rfl (Nat.le_of_ble_eq_true rfl) ⟨Nat.le_of_ble_eq_true rfl, Nat.le_of_ble_eq_true rfl⟩ ⟨rfl, rfl⟩ ⟨Nat.le_of_ble_eq_true rfl, Nat.le_of_ble_eq_true rfl⟩ dL_holds_396 (fun locs hL => ?_)
                      rw [use_file hI hnm hk20 hen (by omega) (by omega)]
                      refine r_const E dL_holds_399 ?_
                      refine r_icmp_ne (tgt := 407) E dL_holds_400 (by decide) (by omega) (by omega) (fun c400 => absurd c400 (by omega)) (fun c400 => ?_)
                      refine r_const E dL_holds_403 ?_
                      refine lv_goto (tgt := 408) E.1 E.2.1 dL_holds_404 (by decide) ?_
                      refine lv_istore (lv' := [(4, .int (iI (1))), (8, .int (iI (e8 + 1))), (14, .int (iI ((f.2.2 : Int)))), (13, .int (iI ((f.2.1 : Int)))), (12, .int (iI ((f.1 : Int)))), (11, .int (iI ((k : Int)))), (5, .int (iI ((n : Int)))), (6, .int (iI ((se σ n 0 : Int)))), (7, .int (iI ((se σ n 2 : Int)))), (9, .int (iI ((se σ n 3 : Int) + v153))), (10, .int (iI (v182))), (1, .int (iI ((se σ n 1 : Int)))), (2, .int (iI (a2 + (se σ n 5 : Int)))), (3, .int (iI (v195))), (0, .ref (x))]) E.1 E.2.1 dL_holds_408 hl (by decide) rfl (fun ls hl => ?_)
                      refine r_inc (lv' := [(11, .int (iI ((k : Int) + 1))), (4, .int (iI (1))), (8, .int (iI (e8 + 1))), (14, .int (iI ((f.2.2 : Int)))), (13, .int (iI ((f.2.1 : Int)))), (12, .int (iI ((f.1 : Int)))), (5, .int (iI ((n : Int)))), (6, .int (iI ((se σ n 0 : Int)))), (7, .int (iI ((se σ n 2 : Int)))), (9, .int (iI ((se σ n 3 : Int) + v153))), (10, .int (iI (v182))), (1, .int (iI ((se σ n 1 : Int)))), (2, .int (iI (a2 + (se σ n 5 : Int)))), (3, .int (iI (v195))), (0, .ref (x))]) E dL_holds_410 hl (k := 5) rfl (by decide) rfl (fun ls hl => ?_)
                      refine lv_goto (tgt := 210) E.1 E.2.1 dL_holds_413 (by decide) ?_
                      refine ihin210 _ ?_ (k + 1) ((k : Int) + 1) (e8 + 1) ls locs ?_ ?_ ?_ rfl (lv_sub hl [0, 2, 1, 6, 7, 8, 9, 10, 11, 12, 13, 14] rfl) hL
                      · omega
                      · omega
                      · omega
                      · have h9 : cntB (fun j => (en σ n j).isSome) (k + 1) = cntB (fun j => (en σ n j).isSome) k + (if (en σ n k).isSome then 1 else 0) := rfl
                        rw [h9, hen]
                        show e8 + 1 = ((cntB (fun j => (en σ n j).isSome) k + 1 : Nat) : Int)
                        omega
              refine LP210 _ 0 0 0 ls locs ?_ ?_ ?_ rfl (lv_sub hl [0, 5, 10, 8, 7, 6, 4, 3, 9, 1, 2, 11] rfl) hL
              · omega
              · rfl
              · rfl
            refine lv_iload E.1 E.2.1 dL_holds_184 (lv_at hl 0 rfl) ?_
            refine r_if_eq (tgt := 194) E dL_holds_186 (by decide) (by omega) (fun c186 => ?_) (fun c186 => ?_)
            · refine lv_iload_n E.1 E.2.1 dL_holds_194 rfl (lv_at hl 8 rfl) ?_
              exact J195_2 _ (by rw [lastB, if_neg (by rcases hv182 with h9 | h9 <;> first | omega | (rw [h9.1]; decide))]; exact h3) ls locs (lv_sub hl [0, 1, 2, 3, 4, 5, 6, 7, 8, 9, 10] rfl) hL
            · refine lv_iload E.1 E.2.1 dL_holds_189 (lv_at hl 5 rfl) ?_
              refine lv_goto (tgt := 195) E.1 E.2.1 dL_holds_191 (by decide) ?_
              exact J195_2 _ (by rw [lastB, if_pos (by rcases hv182 with h9 | h9 <;> first | exact h9.1 | omega)]; rfl) ls locs (lv_sub hl [0, 1, 2, 3, 4, 5, 6, 7, 8, 9, 10] rfl) hL
          refine lv_iload E.1 E.2.1 dL_holds_156 (lv_at hl 3 rfl) ?_
          refine r_const E dL_holds_158 ?_
          refine r_icmp_ne (tgt := 181) E dL_holds_159 (by decide) (by omega) (by omega) (fun c159 => ?_) (fun c159 => ?_)
          · refine r_const E dL_holds_181 ?_
            exact J182_1 _ (Or.inr ⟨by unfold readB; rw [decide_eq_false (by omega)]; rfl, rfl⟩) ls locs (lv_sub hl [0, 1, 2, 3, 4, 5, 6, 7, 8, 9] rfl) hL
          · refine lv_aload_n E.1 E.2.1 dL_holds_162 rfl (lv_at hl 9 rfl) ?_
            refine lv_iload_n E.1 E.2.1 dL_holds_163 rfl (lv_at hl 5 rfl) ?_
            refine lv_aload_n E.1 E.2.1 dL_holds_164 rfl (lv_at hl 9 rfl) ?_
            refine lv_iload E.1 E.2.1 dL_holds_165 (lv_at hl 4 rfl) ?_
            refine r_const E dL_holds_167 ?_
            refine kVRE (As := [.int (iI ((n : Int))), .int (iI (3))]) E cw_L_29 (c_X5_session G l x fb fl σ hs tx len hI hT hfx hgx ((n : Int)) (3) (by unfold okI; omega) (by unfold okI; omega)) hP.1 ⟨_, _, rfl⟩ hP hL hl.1 rfl rfl (Nat.le_of_ble_eq_true rfl) ⟨Nat.le_of_ble_eq_true rfl, Nat.le_of_ble_eq_true rfl⟩ ⟨rfl, rfl⟩ ⟨Nat.le_of_ble_eq_true rfl, Nat.le_of_ble_eq_true rfl⟩ dL_holds_168 (fun locs hL => ?_)
            rw [spSes3 hnm]
            refine kSRE (As := [.ref (x), .int (iI ((se σ n 1 : Int))), .int (iI ((se σ n 3 : Int)))]) E cw_L_42 (c_L_whole G l x fb fl σ hs tx len hI hT hfx hgx (se σ n 1) (se σ n 3) (by omega)) hP hL hl.1 rfl rfl (Nat.le_of_ble_eq_true rfl) ⟨Nat.le_of_ble_eq_true rfl, Nat.le_of_ble_eq_true rfl⟩ ⟨rfl, rfl⟩ ⟨Nat.le_of_ble_eq_true rfl, Nat.le_of_ble_eq_true rfl⟩ dL_holds_171 (fun locs hL => ?_)
            refine r_bif_eq (tgt := 181) E dL_holds_174 (by decide)  (fun c174 => ?_) (fun c174 => ?_)
            · refine r_const E dL_holds_181 ?_
              exact J182_1 _ (Or.inr ⟨by unfold readB; rw [decide_eq_true (by omega), c174]; rfl, rfl⟩) ls locs (lv_sub hl [0, 1, 2, 3, 4, 5, 6, 7, 8, 9] rfl) hL
            · refine r_const E dL_holds_177 ?_
              refine lv_goto (tgt := 182) E.1 E.2.1 dL_holds_178 (by decide) ?_
              exact J182_1 _ (Or.inl ⟨by unfold readB; rw [decide_eq_true (by omega), c174]; rfl, rfl⟩) ls locs (lv_sub hl [0, 1, 2, 3, 4, 5, 6, 7, 8, 9] rfl) hL
        refine lv_iload E.1 E.2.1 dL_holds_136 (lv_at hl 2 rfl) ?_
        refine r_const E dL_holds_138 ?_
        refine r_icmp_ne (tgt := 152) E dL_holds_139 (by decide) (by omega) (by omega) (fun c139 => ?_) (fun c139 => ?_)
        · refine r_const E dL_holds_152 ?_
          exact J153_0 _ (by omega) ls locs (lv_sub hl [0, 1, 2, 3, 4, 5, 6, 7, 8] rfl) hL
        · refine lv_aload_n E.1 E.2.1 dL_holds_142 rfl (lv_at hl 8 rfl) ?_
          refine lv_iload E.1 E.2.1 dL_holds_143 (lv_at hl 3 rfl) ?_
          refine r_const E dL_holds_145 ?_
          refine kVRE (As := [.int (iI ((n : Int))), .int (iI (4))]) E cw_L_29 (c_X5_session G l x fb fl σ hs tx len hI hT hfx hgx ((n : Int)) (4) (by unfold okI; omega) (by unfold okI; omega)) hP.1 ⟨_, _, rfl⟩ hP hL hl.1 rfl rfl (Nat.le_of_ble_eq_true rfl) ⟨Nat.le_of_ble_eq_true rfl, Nat.le_of_ble_eq_true rfl⟩ ⟨rfl, rfl⟩ ⟨Nat.le_of_ble_eq_true rfl, Nat.le_of_ble_eq_true rfl⟩ dL_holds_146 (fun locs hL => ?_)
          rw [spSes4 hnm]
          refine lv_goto (tgt := 153) E.1 E.2.1 dL_holds_149 (by decide) ?_
          exact J153_0 _ (by omega) ls locs (lv_sub hl [0, 1, 2, 3, 4, 5, 6, 7, 8] rfl) hL
  refine LP94 _ 0 0 0 0 ((-6)) ls locs ?_ ?_ ?_ ?_ ?_ rfl (lv_sub hl [0, 4, 3, 2, 1, 5] rfl) hL
  · omega
  · rfl
  · rw [posN_0 hI]; rfl
  · rfl
  · rfl
