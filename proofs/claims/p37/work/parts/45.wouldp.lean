/-! what would be: what the law compares -/
theorem room_some {σ : St} {n : Nat} (h : opn σ = some n) : roomN σ = 240 - (nx σ + se σ n 4) := by unfold roomN; rw [h]
theorem room_full {σ : St} (h : opn σ = none) (hm : 12 ≤ mn σ) : roomN σ = 0 := by unfold roomN; rw [h]; exact if_pos hm
theorem room_new {σ : St} (h : opn σ = none) (hm : ¬ 12 ≤ mn σ) : roomN σ = 240 - (nx σ + s0 σ + s1 σ) := by unfold roomN; rw [h]; exact if_neg hm
theorem larg_v (σ : St) : (roomN σ < 40 ∧ spLargest σ = (roomN σ : Int)) ∨ (40 ≤ roomN σ ∧ spLargest σ = 40) := by
  unfold spLargest
  by_cases h : roomN σ < 40
  · exact Or.inl ⟨h, if_pos h⟩
  · exact Or.inr ⟨by omega, if_neg h⟩
theorem left_bad {σ : St} {z : Int} (h : z = 0 ∨ z = 41) : spFilesLeft σ z = -2 := by unfold spFilesLeft; rw [if_pos (by omega)]
theorem left_ok {σ : St} {z : Nat} (h : 1 ≤ z ∧ z ≤ 40) : spFilesLeft σ z = ((roomN σ / z : Nat) : Int) := by
  unfold spFilesLeft; rw [if_neg (by omega), Int.toNat_natCast]
theorem each_bad {σ : St} {z : Int} (h : z = 0 ∨ z = 41) : spFilesEach σ z = -2 := by unfold spFilesEach; rw [if_pos (by omega)]
theorem div_pos9 {a z : Nat} (h : 1 ≤ z) : 0 < a / z ↔ z ≤ a := by
  rcases Nat.lt_or_ge a z with h1 | h1
  · rw [Nat.div_eq_of_lt h1]; omega
  · have := Nat.div_pos h1 h
    omega
theorem each_ok {σ : St} (hI : Inv σ) {z : Nat} (h : 1 ≤ z ∧ z ≤ 40) : spFilesEach σ z = (eachN σ z : Int) ∧ eachN σ z ≤ 12 ∧ (0 < eachN σ z ↔ 0 < roomN σ / z) := by
  have hm := hI.mn12
  have hs := hI.s0b
  refine ⟨by unfold spFilesEach; rw [if_neg (by omega), Int.toNat_natCast], ?_⟩
  rw [div_pos9 h.1]
  cases ho : opn σ with
  | some n =>
    have h1 := opn_some ho
    rw [room_some ho]
    have e : eachN σ z = if 240 < nx σ + z + se σ n 4 then 0 else 1 + min (12 - mn σ) ((240 - (nx σ + z + se σ n 4)) / (z + s0 σ + s1 σ)) := by unfold eachN; rw [ho]
    rw [e]
    by_cases h2 : 240 < nx σ + z + se σ n 4
    · rw [if_pos h2]; omega
    · rw [if_neg h2]
      generalize (240 - (nx σ + z + se σ n 4)) / (z + s0 σ + s1 σ) = D
      have h3 := Nat.min_le_left (12 - mn σ) D
      clear e
      omega
  | none =>
    have e : eachN σ z = min (12 - mn σ) ((240 - nx σ) / (z + s0 σ + s1 σ)) := by unfold eachN; rw [ho]
    rw [e]
    have h3 := Nat.min_le_left (12 - mn σ) ((240 - nx σ) / (z + s0 σ + s1 σ))
    refine ⟨by omega, ?_⟩
    rw [Nat.lt_min, div_pos9 (by omega)]
    by_cases h4 : 12 ≤ mn σ
    · rw [room_full ho h4]; omega
    · rw [room_new ho h4]; omega
theorem readB_mono {σ : St} {h : Int} {n : Nat} (hr : readB σ (dmH σ h) n = true) : readB σ (dm σ) n = true := by
  unfold readB at hr ⊢
  rw [Bool.and_eq_true] at hr ⊢
  refine ⟨hr.1, wholeB_iff.mpr (fun k h1 h2 => ?_)⟩
  have h3 := wholeB_iff.mp hr.2 k h1 h2
  unfold dmH at h3
  cases hd : dm σ k with
  | false => rfl
  | true => rw [hd] at h3; cases h3
theorem vif_in (σ : St) {q : Nat} (h : q < 240) : spValidIf σ q = oI (validD σ (dmH σ q)) := by unfold spValidIf; rw [if_neg (by omega)]
theorem vif_out (σ : St) {q : Int} (h : q < 0 ∨ 239 < q) : spValidIf σ q = -1 := by unfold spValidIf; rw [if_pos (by omega)]
theorem vif_none {σ : St} {h : Int} (hv : validD σ (dm σ) = none) : validD σ (dmH σ h) = none := by
  refine lastB_none.mpr (fun k hk => ?_)
  have h1 := lastB_none.mp hv k hk
  cases hr : readB σ (dmH σ h) k with
  | false => rfl
  | true => rw [readB_mono hr] at h1; cases h1
theorem vif_lead {σ : St} {v q : Nat} (hv : validD σ (dm σ) = some v) (h1 : se σ v 1 ≤ q) (h2 : q < se σ v 1 + se σ v 3) : oI (validD σ (dmH σ q)) < (v : Int) := by
  obtain ⟨a1, a2, a3⟩ := lastB_some.mp hv
  cases hw : validD σ (dmH σ q) with
  | none => show (-6 : Int) < _; omega
  | some w =>
    obtain ⟨b1, b2, b3⟩ := lastB_some.mp hw
    show (w : Int) < v
    rcases Nat.lt_trichotomy w v with h3 | h3 | h3
    · omega
    · subst h3
      unfold readB at b2
      rw [Bool.and_eq_true, wholeB_f h1 h2 (dmH_h rfl)] at b2
      cases b2.2
    · have h4 := a3 w h3 b1
      rw [readB_mono b2] at h4
      cases h4
theorem vif_same {σ : St} {v q : Nat} (hv : validD σ (dm σ) = some v) (h1 : ¬ (se σ v 1 ≤ q ∧ q < se σ v 1 + se σ v 3)) : validD σ (dmH σ q) = some v := by
  obtain ⟨a1, a2, a3⟩ := lastB_some.mp hv
  refine lastB_some.mpr ⟨a1, ?_, fun k h2 h3 => ?_⟩
  · rw [← a2]
    unfold readB
    rw [wholeB_congr (d := dmH σ q) (d' := dm σ) (fun k h2 h3 => by
      cases hd : dm σ k with
      | true => exact dmH_d hd
      | false => exact dmH_n hd (by omega))]
  · have h4 := a3 k h2 h3
    cases hr : readB σ (dmH σ q) k with
    | false => rfl
    | true => rw [readB_mono hr] at h4; cases h4
theorem latest_out (σ : St) {z : Int} (h : z < 0 ∨ 19 < z) : spLatest σ z = -1 := by unfold spLatest; rw [if_pos (by omega)]
theorem latest_ok (σ : St) {k : Nat} (hk : k < 20) : spLatest σ k = -6 ∨ ∃ w v : Nat, ∃ f : Fil, spLatest σ k = (w : Int) ∧ validD σ (dm σ) = some v ∧ w ≤ v ∧ w < mn σ ∧ readB σ (dm σ) w = true ∧ en σ w k = some f := by
  unfold spLatest
  rw [if_neg (by omega), Int.toNat_natCast]
  cases hl : lastB (fun n => readB σ (dm σ) n && intactO (dm σ) (en σ n k)) (mn σ) with
  | none => exact Or.inl rfl
  | some w =>
    obtain ⟨b1, b2, b3⟩ := lastB_some.mp hl
    rw [Bool.and_eq_true] at b2
    cases hv : validD σ (dm σ) with
    | none =>
      have h4 := lastB_none.mp hv w b1
      rw [b2.1] at h4
      cases h4
    | some v =>
      obtain ⟨a1, a2, a3⟩ := lastB_some.mp hv
      cases he : en σ w k with
      | none => rw [he] at b2; cases b2.2
      | some f =>
        refine Or.inr ⟨w, v, f, rfl, rfl, ?_, b1, b2.1, he⟩
        rcases Nat.lt_or_ge v w with h5 | h5
        · have h6 := a3 w h5 b1
          rw [b2.1] at h6
          cases h6
        · exact h5
theorem mhF_lt {σ : St} (hI : Inv σ) {n : Nat} (hn : n < mn σ) : ∀ k, k ≤ 20 → mhF σ n k < 240
  | 0, _ => by
    have hr := hI.row hn
    have hx := hI.nx240
    exact mh_lt (by omega) (by omega)
  | k + 1, h => by
    have ih := mhF_lt hI hn k (by omega)
    rw [mhF]
    cases he : en σ n k with
    | none => exact ih
    | some g =>
      have hb := hI.ent2 hn (by omega) he
      exact mh_lt ih (by omega)
theorem worst_lt {σ : St} (hI : Inv σ) : worstH σ < 240 := by
  unfold worstH
  cases hv : validD σ (dm σ) with
  | none => exact Nat.le_of_ble_eq_true rfl
  | some n => exact mhF_lt hI (validD_lt hv) 20 (Nat.le_refl _)
