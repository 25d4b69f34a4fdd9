theorem wlY_all {y : Nat} (h : y < 240) : wlY y = true := by
  by_cases h1 : y < 100
  · exact List.all_eq_true.mp wl_1 y (List.mem_range.mpr h1)
  · by_cases h2 : y < 160
    · have h3 := List.all_eq_true.mp wl_2 (y - 100) (List.mem_range.mpr (by omega))
      rwa [show y - 100 + 100 = y by omega] at h3
    · by_cases h4 : y < 210
      · have h3 := List.all_eq_true.mp wl_3 (y - 160) (List.mem_range.mpr (by omega))
        rwa [show y - 160 + 160 = y by omega] at h3
      · have h3 := List.all_eq_true.mp wl_4 (y - 210) (List.mem_range.mpr (by omega))
        rwa [show y - 210 + 210 = y by omega] at h3
theorem wlD_all {x y : Nat} (h1 : x ≤ y) (h2 : 1 ≤ y) (h3 : y ≤ 240) : wlD (wlF x y) = true := by
  have h4 := wlY_all (y := y - 1) (by omega)
  have h5 := List.all_eq_true.mp h4 x (List.mem_range.mpr (by omega))
  rwa [show y - 1 + 1 = y by omega] at h5
theorem wlD_n {r : UInt32} (h : wlD r = true) : vf_n32 r ∧ FP.fcmp r r = some .eq := by
  unfold wlD at h
  rw [Bool.and_eq_true] at h
  have a1 : r &&& 0x7fffffff ≤ 0x7f800000 := of_decide_eq_true h.1
  exact ⟨a1, of_decide_eq_true h.2⟩
/-- how well the sectors are used -/
def spWell (σ : St) : UInt32 := if nx σ = 0 then FP.fconst1 else wlF (foundSec σ) (nx σ)
theorem wlD_1 : wlD FP.fconst1 = true := by decide +kernel
theorem spWell_n {σ : St} (hI : Inv σ) : wlD (spWell σ) = true := by
  unfold spWell
  by_cases h : nx σ = 0
  · rw [if_pos h]; exact wlD_1
  · rw [if_neg h]; exact wlD_all (foundSec_le hI) (by omega) hI.nx240
/-- an answer that is a float -/
def RF (r : UInt32) : Option Value → Heap → Heap → Prop := fun v H H1 => v = some (.float r) ∧ H1 = H
section MFR
variable {p : Program} {l : Launch} {e : Env} {R : Room} {s : State} {m : MethodId} {args : Array Value} {below : List Frame} {meth : Method} {c : Code} {H : Heap} {locs : List Loc} {G : GG} {cc : ByteArray} {n : Nat} {own : String} {pc : Nat} {ls : Array Slot} {rm : Room} {Post : Option Value → Heap → Heap → Prop}
theorem e_fret (E : En G p s m args meth c cc n (some .float) own) (hL : Lk G locs) {v : UInt32} (hdg : decode cc pc = .ok (.freturn, 1)) (hp : Post (some (.float v)) s.heap H) : W p l e R s m args below meth c H locs rm.cells rm.slots (QQ G below args s rm Post) (F0 m pc ls [.float v]) :=
  W.fret E.1 E.2.1 E.2.2.2.1 (fun t ht _ => ⟨_, rfl, by rw [ht]; exact hp⟩) hL hdg E.2.2.2.2.2.2.1
end MFR
set_option maxHeartbeats 4000000 in
set_option maxRecDepth 100000 in
theorem c_X5_usedWell (G : GG) (l : Launch) (x fb : Nat) (fl : Nat → Option Fil) (σ : St) (hs : List St) (tx : Nat → Int) (len : Nat) (hI : Inv σ) (hT : TxOk tx len) (hfx : x + 179 ≤ fb) (hgx : G.2.2 ≤ x) : Ct G l yX5_usedWell cX5_usedWell 1 (some .float) ({ frames := 5, cells := 0, slots := 0, locals := 118 } : Room) [.ref (x)] (fun H => XAt G x fb fl σ hs tx len H) (RF (spWell σ)) := by
  refine Ct.of (by decide +kernel) (Nat.le_of_ble_eq_true rfl) ?_
  intro p e s m args below meth c ls E hnm hP hl
  obtain ⟨hx0, hP, ⟨o, hH⟩, ⟨p1, le, fi, sc, ho, ha⟩, hFl⟩ := hP
  obtain ⟨b, hbe⟩ : ∃ b, b = x + 1 := ⟨_, rfl⟩
  obtain ⟨hh, hhe⟩ : ∃ q, q = x + 30 := ⟨_, rfl⟩
  obtain ⟨a, hae⟩ : ∃ q, q = x + 177 := ⟨_, rfl⟩
  rw [← hbe] at hx0 hP
  rw [← hhe] at hx0 hH
  rw [← hae] at hx0 ho ha
  have i1 := hI.mn12
  have i2 := hI.nx240
  have hl : lv_has ls 1 [(0, .ref (x))] := hl
  have hL : Lk G [] := Lk.nil
  generalize ([] : List Loc) = locs at hL ⊢
  refine lv_aload_n E.1 E.2.1 dX5_usedWell_0 rfl (lv_at hl 0 rfl) ?_
  refine m_get E hx0 fw_X5_12 rfl dX5_usedWell_1 ?_
  refine m_get E hP.1 fw_X5_155 rfl dX5_usedWell_4 ?_
  refine r_if_ne (tgt := 12) E dX5_usedWell_7 (by decide) (by omega) (fun c7 => ?_) (fun c7 => ?_)
  · refine lv_aload_n E.1 E.2.1 dX5_usedWell_12 rfl (lv_at hl 0 rfl) ?_
    refine m_get E hx0 fw_X5_12 rfl dX5_usedWell_13 ?_
    refine kVRE (As := []) E cw_X5_191 (c_X1_countFoundSectors G l b fb fl σ hI) hP.1 ⟨_, _, rfl⟩ ⟨hP, hFl⟩ hL hl.1 rfl rfl (Nat.le_of_ble_eq_true rfl) ⟨Nat.le_of_ble_eq_true rfl, Nat.le_of_ble_eq_true rfl⟩ ⟨rfl, rfl⟩ ⟨Nat.le_of_ble_eq_true rfl, Nat.le_of_ble_eq_true rfl⟩ dX5_usedWell_16 (fun locs hL => ?_)
    refine lv_i2f E.1 E.2.1 dX5_usedWell_19 ?_
    refine lv_aload_n E.1 E.2.1 dX5_usedWell_20 rfl (lv_at hl 0 rfl) ?_
    refine m_get E hx0 fw_X5_12 rfl dX5_usedWell_21 ?_
    refine m_get E hP.1 fw_X5_155 rfl dX5_usedWell_24 ?_
    refine lv_i2f E.1 E.2.1 dX5_usedWell_27 ?_
    refine lv_fdiv E.1 E.2.1 dX5_usedWell_28 (wlD_n (wlD_all (foundSec_le hI) (by omega) hI.nx240)).1 ?_
    refine e_fret (rm := ({ frames := 5, cells := 0, slots := 0, locals := 118 } : Room)) (v := FP.fdiv (FP.i2f (iI ((foundSec σ : Int)))) (FP.i2f (iI ((nx σ : Int))))) E hL dX5_usedWell_29 ⟨?_, rfl⟩
    rw [show spWell σ = FP.fdiv (FP.i2f (iI ((foundSec σ : Int)))) (FP.i2f (iI ((nx σ : Int)))) by unfold spWell; rw [if_neg (by omega)]; rfl]
  · refine lv_fconst1 E.1 E.2.1 dX5_usedWell_10 ?_
    refine e_fret (rm := ({ frames := 5, cells := 0, slots := 0, locals := 118 } : Room)) (v := FP.fconst1) E hL dX5_usedWell_11 ⟨?_, rfl⟩
    rw [show spWell σ = FP.fconst1 by unfold spWell; rw [if_pos (by omega)]]
