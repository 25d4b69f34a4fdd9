/-! look: one number out of the state -/
def i64 (z : Int) : Int64 := (iI z).toInt64
def lkD (σ : St) (h : Int64) : Nat → Int64
  | 0 => h
  | k + 1 => 31 * lkD σ h k + i64 (spDamaged σ k)
def lkS (σ : St) (n : Nat) (h : Int64) : Nat → Int64
  | 0 => h
  | k + 1 => 31 * lkS σ n h k + i64 (spSession σ n k)
def lkE (σ : St) (n : Nat) (h : Int64) : Nat → Int64
  | 0 => h
  | k + 1 => 31 * (31 * lkE σ n h k + i64 (spEntry σ n k 0)) + i64 (spEntry σ n k 1)
def lkN (σ : St) (h : Int64) : Nat → Int64
  | 0 => h
  | n + 1 => lkE σ n (lkS σ n (lkN σ h n) 8) 20
def lkV (σ : St) (h : Int64) : Nat → Int64
  | 0 => h
  | k + 1 => 31 * lkV σ h k + i64 (spVersions σ k)
def lk0 (σ : St) : Int64 := 31 * (31 * (31 * 431 + i64 (nx σ)) + i64 (spSetting σ 0)) + i64 (spSetting σ 1)
def lookV (σ : St) : Int64 := lkV σ (lkN σ (lkD σ (lk0 σ) 240) (mn σ)) 20
/-! what the reads answer, place by place -/
theorem spSet_0 (σ : St) : spSetting σ 0 = (s0 σ : Int) := by unfold spSetting; rw [if_pos rfl]
theorem spSet_1 (σ : St) : spSetting σ 1 = (s1 σ : Int) := by unfold spSetting; rw [if_neg (by decide), if_pos rfl]
theorem spSes_out {σ : St} {n : Nat} (h : mn σ ≤ n) (k : Int) : spSession σ n k = -1 := by unfold spSession; rw [if_pos (by omega)]
theorem spSes0 {σ : St} {n : Nat} (h : n < mn σ) : spSession σ n 0 = (se σ n 0 : Int) := by unfold spSession; rw [if_neg (by omega), if_pos (by decide), Int.toNat_natCast]; rfl
theorem spSes1 {σ : St} {n : Nat} (h : n < mn σ) : spSession σ n 1 = (se σ n 1 : Int) := by unfold spSession; rw [if_neg (by omega), if_pos (by decide), Int.toNat_natCast]; rfl
theorem spSes2 {σ : St} {n : Nat} (h : n < mn σ) : spSession σ n 2 = (se σ n 2 : Int) := by unfold spSession; rw [if_neg (by omega), if_pos (by decide), Int.toNat_natCast]; rfl
theorem spSes3 {σ : St} {n : Nat} (h : n < mn σ) : spSession σ n 3 = (se σ n 3 : Int) := by unfold spSession; rw [if_neg (by omega), if_pos (by decide), Int.toNat_natCast]; rfl
theorem spSes4 {σ : St} {n : Nat} (h : n < mn σ) : spSession σ n 4 = (se σ n 4 : Int) := by unfold spSession; rw [if_neg (by omega), if_pos (by decide), Int.toNat_natCast]; rfl
theorem spSes5 {σ : St} {n : Nat} (h : n < mn σ) : spSession σ n 5 = (entriesN σ n : Int) := by unfold spSession; rw [if_neg (by omega), if_neg (by decide), if_pos rfl, Int.toNat_natCast]
theorem spSes6 {σ : St} {n : Nat} (h : n < mn σ) : spSession σ n 6 = (if readB σ (dm σ) n then 1 else 0 : Int) := by unfold spSession; rw [if_neg (by omega), if_neg (by decide), if_neg (by decide), if_pos rfl, Int.toNat_natCast]
theorem spSes7 {σ : St} {n : Nat} (h : n < mn σ) : spSession σ n 7 = (se σ n 5 : Int) := by unfold spSession; rw [if_neg (by omega), if_neg (by decide), if_neg (by decide), if_neg (by decide), if_pos rfl, Int.toNat_natCast]
theorem spSes_b {σ : St} (hI : Inv σ) (h5 : ∀ n, n < mn σ → se σ n 5 ≤ 240) (y z : Int) : -2 ≤ spSession σ y z ∧ spSession σ y z ≤ 240 := by
  unfold spSession
  split
  · omega
  next h0 =>
  have hn : y.toNat < mn σ := by omega
  have hr := hI.row hn
  have h2 := hI.nx240
  split
  next h1 => rcases (show z = 0 ∨ z = 1 ∨ z = 2 ∨ z = 3 ∨ z = 4 by omega) with rfl | rfl | rfl | rfl | rfl <;> simp only [Int.reduceToNat] <;> omega
  split
  · have := cntB_le (fun k => (en σ y.toNat k).isSome) 20
    unfold entriesN
    omega
  split
  · split <;> omega
  split
  · have := h5 _ hn
    omega
  · omega
theorem spEntN {σ : St} {n k : Nat} (hn : n < mn σ) (hk : k < 20) (he : en σ n k = none) {w : Int} (hw : 0 ≤ w ∧ w ≤ 2) : spEntry σ n k w = -6 := by
  unfold spEntry; rw [if_neg (by omega), if_neg (by omega), Int.toNat_natCast, Int.toNat_natCast, he]
theorem spEnt0 {σ : St} {n k : Nat} {f : Fil} (hn : n < mn σ) (hk : k < 20) (he : en σ n k = some f) : spEntry σ n k 0 = (f.1 : Int) := by
  unfold spEntry; rw [if_neg (by omega), if_neg (by omega), Int.toNat_natCast, Int.toNat_natCast, he]; rfl
theorem spEnt1 {σ : St} {n k : Nat} {f : Fil} (hn : n < mn σ) (hk : k < 20) (he : en σ n k = some f) : spEntry σ n k 1 = (f.2.1 : Int) := by
  unfold spEntry; rw [if_neg (by omega), if_neg (by omega), Int.toNat_natCast, Int.toNat_natCast, he]; rfl
theorem spEnt2 {σ : St} {n k : Nat} {f : Fil} (hn : n < mn σ) (hk : k < 20) (he : en σ n k = some f) : spEntry σ n k 2 = (f.2.2 : Int) := by
  unfold spEntry; rw [if_neg (by omega), if_neg (by omega), Int.toNat_natCast, Int.toNat_natCast, he]; rfl
theorem spDam_v {σ : St} {k : Nat} (hk : k < 240) : spDamaged σ k = (if dm σ k then 1 else 0 : Int) := by
  unfold spDamaged; rw [if_neg (by omega), Int.toNat_natCast]
theorem spVer_v {σ : St} {k : Nat} (hk : k < 20) : spVersions σ k = (vr σ k : Int) := by
  unfold spVersions; rw [if_neg (by omega), Int.toNat_natCast]
theorem spFind_n {σ : St} {k : Nat} (hk : k < 20) (h : foundF σ k = none) : spFind σ k = -6 := by
  unfold spFind; rw [if_neg (by omega), Int.toNat_natCast, h]
theorem spFind_s {σ : St} {k : Nat} {f : Fil} (hk : k < 20) (h : foundF σ k = some f) : spFind σ k = (f.1 : Int) := by
  unfold spFind; rw [if_neg (by omega), Int.toNat_natCast, h]
theorem spIntact_n {σ : St} {k : Nat} (hk : k < 20) (h : foundF σ k = none) : spIntact σ k = -6 := by
  unfold spIntact; rw [if_neg (by omega), Int.toNat_natCast, h]
theorem spIntact_s {σ : St} {k : Nat} {f : Fil} (hk : k < 20) (h : foundF σ k = some f) : spIntact σ k = (if wholeB (dm σ) f.1 f.2.1 then 1 else 0 : Int) := by
  unfold spIntact; rw [if_neg (by omega), Int.toNat_natCast, h]
/-- a file's sectors are used for a file -/
theorem use_file {σ : St} (hI : Inv σ) {n k q : Nat} {f : Fil} (hn : n < mn σ) (hk : k < 20) (he : en σ n k = some f) (h1 : f.1 ≤ q) (h2 : q < f.1 + f.2.1) : spUse σ q = 3 := by
  obtain ⟨b1, b2, b3, b4⟩ := hI.ent hn hk he
  have b5 := hI.ent2 hn hk he
  unfold spUse
  rw [if_neg (by omega), Int.toNat_natCast]
  unfold useN
  rw [sesAt_of hI (n := f.2.2) (k := q) (by omega) (by omega) (by split at b4 <;> omega)]
  show (if q < se σ f.2.2 1 + se σ f.2.2 3 then (1 : Int) else if se σ f.2.2 0 = 1 ∧ se σ f.2.2 1 + se σ f.2.2 2 - se σ f.2.2 4 ≤ q then 2 else 3) = 3
  rw [if_neg (by omega), if_neg]
  rintro ⟨c1, c2⟩
  rw [if_pos c1] at b4
  omega
/-- a lead-in's sectors are used for a lead-in -/
theorem use_lead {σ : St} (hI : Inv σ) {n q : Nat} (hn : n < mn σ) (h1 : se σ n 1 ≤ q) (h2 : q < se σ n 1 + se σ n 3) : spUse σ q = 1 := by
  have hr := hI.row hn
  have hx := hI.nx240
  unfold spUse
  rw [if_neg (by omega), Int.toNat_natCast]
  unfold useN
  rw [sesAt_of hI (n := n) (k := q) hn h1 (by omega)]
  show (if q < se σ n 1 + se σ n 3 then (1 : Int) else if se σ n 0 = 1 ∧ se σ n 1 + se σ n 2 - se σ n 4 ≤ q then 2 else 3) = 1
  rw [if_pos h2]
theorem spUse_b (σ : St) (z : Int) : -1 ≤ spUse σ z ∧ spUse σ z ≤ 3 := by
  unfold spUse
  split
  · omega
  · unfold useN
    split
    · omega
    · split
      · omega
      · split <;> omega
/-! where a session begins -/
def posN (σ : St) (n : Nat) : Nat := if n < mn σ then se σ n 1 else nx σ
theorem posN_lt {σ : St} {n : Nat} (h : n < mn σ) : posN σ n = se σ n 1 := if_pos h
theorem posN_0 {σ : St} (hI : Inv σ) : posN σ 0 = 0 := by
  unfold posN
  split
  · next h => exact hI.first h
  · next h => exact hI.nx0 (by omega)
theorem posN_succ {σ : St} (hI : Inv σ) {n : Nat} (h : n < mn σ) : posN σ (n + 1) = se σ n 1 + se σ n 2 := by
  unfold posN
  split
  · next h1 => exact (hI.cont n h1).symm
  · next h1 => exact (hI.last n (by omega)).symm
theorem posN_end {σ : St} : posN σ (mn σ) = nx σ := if_neg (Nat.lt_irrefl _)
/-- how many files were written in the first sessions -/
def wrN (σ : St) (n : Nat) : Nat := sumF (fun j => se σ j 5) n
theorem wrN_0 (σ : St) : wrN σ 0 = 0 := rfl
theorem wrN_succ (σ : St) (n : Nat) : wrN σ (n + 1) = wrN σ n + se σ n 5 := rfl
theorem wrN_le {σ : St} (h : VS σ) : ∀ n, n ≤ mn σ → wrN σ n ≤ posN σ n
  | 0, _ => Nat.zero_le _
  | n + 1, hn => by
    have h1 := wrN_le h n (by omega)
    have h2 := (h.2.2.2 n (by omega)).1
    rw [wrN_succ, posN_succ h.1 (by omega)]
    rw [posN_lt (by omega)] at h1
    omega
theorem wr_all {σ : St} (h : VS σ) : wrN σ (mn σ) ≤ 240 := by
  have h1 := wrN_le h (mn σ) (Nat.le_refl _)
  have h2 := h.1.nx240
  rw [posN_end] at h1
  omega
theorem wr_row {σ : St} (h : VS σ) {n : Nat} (hn : n < mn σ) : se σ n 5 ≤ 240 := by
  have h1 := wr_all h
  have h2 := sumF_at (f := fun j => se σ j 5) hn
  have h3 : sumF (fun j => se σ j 5) (mn σ) = wrN σ (mn σ) := rfl
  have h4 : se σ n 5 ≤ sumF (fun j => se σ j 5) (mn σ) := h2
  omega
theorem vr_all {σ : St} (h : VS σ) : sumF (vr σ) 20 = wrN σ (mn σ) := h.2.2.1.symm
theorem vr_row {σ : St} (h : VS σ) {k : Nat} (hk : k < 20) : vr σ k ≤ 240 := by
  have h1 := wr_all h
  have h2 := sumF_at (f := vr σ) hk
  have h3 := vr_all h
  omega
theorem spVer_b {σ : St} (h : VS σ) (z : Int) : -1 ≤ spVersions σ z ∧ spVersions σ z ≤ 240 := by
  unfold spVersions
  split
  · omega
  · have := vr_row h (k := z.toNat) (by omega)
    omega
theorem spEnt_b {σ : St} (hI : Inv σ) (y z w : Int) : -6 ≤ spEntry σ y z w ∧ spEntry σ y z w ≤ 240 := by
  unfold spEntry
  split
  · omega
  next h0 =>
  split
  · omega
  split
  · omega
  · next f hf =>
    have hb := hI.ent2 (n := y.toNat) (k := z.toNat) (by omega) (by omega) hf
    have hm := hI.mn12
    split
    · omega
    split <;> omega
theorem spDam_b (σ : St) (z : Int) : -1 ≤ spDamaged σ z ∧ spDamaged σ z ≤ 1 := by
  unfold spDamaged
  split
  · omega
  · split <;> omega
theorem entN_le (σ : St) (n : Nat) : entriesN σ n ≤ 20 := cntB_le _ 20
/-! the sums at the end -/
theorem fs_sum {σ : St} : sumF (fun k => sizeO (foundF σ k)) 20 = foundSec σ := by
  unfold foundSec
  cases hv : validD σ (dm σ) with
  | none =>
    show _ = 0
    have : ∀ N, sumF (fun k => sizeO (foundF σ k)) N = 0 := by
      intro N
      induction N with
      | zero => rfl
      | succ N ih => rw [sumF, ih]; unfold foundF; rw [hv]; rfl
    exact this 20
  | some n => exact sumF_congr (fun k hk => by unfold foundF; rw [hv])
theorem in_cnt {σ : St} : cntB (fun k => intactO (dm σ) (foundF σ k)) 20 = cntIntact σ (dm σ) := by
  unfold cntIntact
  cases hv : validD σ (dm σ) with
  | none =>
    show _ = 0
    have : ∀ N, cntB (fun k => intactO (dm σ) (foundF σ k)) N = 0 := by
      intro N
      induction N with
      | zero => rfl
      | succ N ih => rw [cntB, ih]; unfold foundF; rw [hv]; rfl
    exact this 20
  | some n => exact cntB_congr (fun k hk => by unfold foundF; rw [hv])
theorem found_n {σ : St} {k : Nat} (hv : validD σ (dm σ) = none) : foundF σ k = none := by unfold foundF; rw [hv]
theorem found_v {σ : St} {v k : Nat} (hv : validD σ (dm σ) = some v) : foundF σ k = en σ v k := by unfold foundF; rw [hv]
theorem sz_le {σ : St} (hI : Inv σ) (k : Nat) (hk : k ≤ 20) : sumF (fun k => sizeO (foundF σ k)) k ≤ nx σ := by
  have h1 := sumF_mono (f := fun k => sizeO (foundF σ k)) (a := k) (b := 20) hk
  have h2 := foundSec_le hI
  rw [fs_sum] at h1
  omega
