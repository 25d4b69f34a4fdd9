/-! the whole object at x: 179 cells; files lie from fb on -/
def XAt (G : GG) (x fb : Nat) (fl : Nat → Option Fil) (σ : St) (hs : List St) (tx : Nat → Int) (len : Nat) (H : Heap) : Prop :=
  Ob G x 5 [.ref (x + 1), .ref (x + 30), .ref (x + 177)] H ∧ DiscAt G (x + 1) fl σ H ∧ (∃ o, HistR G (x + 30) fl o hs H) ∧ (∃ p le fi sc, TxR G (x + 177) tx len p le fi sc H) ∧ FlAt G fb fl H
theorem XAt.kept {G : GG} {x fb len : Nat} {fl : Nat → Option Fil} {σ : St} {hs : List St} {tx : Nat → Int} {H H1 : Heap} (h : XAt G x fb fl σ hs tx len H) (e : ∀ q, x ≤ q → q < x + 179 → H1[q]? = H[q]?) (e2 : ∀ q, fb ≤ q → q < H.size → H1[q]? = H[q]?) : XAt G x fb fl σ hs tx len H1 := by
  obtain ⟨h1, h2, ⟨o, h3⟩, ⟨p, le, fi, sc, h4⟩, h5⟩ := h
  exact ⟨h1.kept (e _ (by omega) (by omega)), h2.kept (fun q _ _ => e _ (by omega) (by omega)), ⟨o, h3.kept (fun q _ _ => e _ (by omega) (by omega))⟩, ⟨p, le, fi, sc, h4.kept (e _ (by omega) (by omega)) (e _ (by omega) (by omega))⟩, h5.kept e2⟩
theorem XAt.lt {G : GG} {x fb len : Nat} {fl : Nat → Option Fil} {σ : St} {hs : List St} {tx : Nat → Int} {H : Heap} (h : XAt G x fb fl σ hs tx len H) : x + 179 ≤ H.size := by
  obtain ⟨-, -, -, ⟨p, le, fi, sc, h4⟩, -⟩ := h
  have := h4.2.lt
  omega
/-- the history behind an action that answers r -/
def hsA (σ : St) (hs : List St) (r : Int) : List St := if r < 0 then hs else recd hs σ
theorem act_b {σ : St} {z : Int} (h1 : -5 ≤ z) (h2 : z ≤ 1000) : -5 ≤ ((z, σ) : Int × St).1 ∧ ((z, σ) : Int × St).1 ≤ 1000 ∧ (((z, σ) : Int × St).1 < 0 → ((z, σ) : Int × St).2 = σ) := ⟨h1, h2, fun _ => rfl⟩
theorem spBegin_b {σ : St} (hI : Inv σ) (x : Int) : -5 ≤ (spBegin σ x).1 ∧ (spBegin σ x).1 ≤ 1000 ∧ ((spBegin σ x).1 < 0 → (spBegin σ x).2 = σ) := by
  have := hI.mn12
  unfold spBegin
  split
  · exact act_b (by decide) (by decide)
  · split
    · exact act_b (by decide) (by decide)
    · split
      · exact act_b (by decide) (by decide)
      · refine ⟨?_, ?_, fun h => ?_⟩
        · show -5 ≤ ((mn σ : Nat) : Int); omega
        · show ((mn σ : Nat) : Int) ≤ 1000; omega
        · have h2 : ((mn σ : Nat) : Int) < 0 := h
          omega
theorem spWrite_b {σ : St} (hI : Inv σ) (x y : Int) : -5 ≤ (spWrite σ x y).1 ∧ (spWrite σ x y).1 ≤ 1000 ∧ ((spWrite σ x y).1 < 0 → (spWrite σ x y).2 = σ) := by
  have := hI.nx240
  unfold spWrite
  split
  · exact act_b (by decide) (by decide)
  · split
    · exact act_b (by decide) (by decide)
    · split
      · exact act_b (by decide) (by decide)
      · split
        · exact act_b (by decide) (by decide)
        · refine ⟨?_, ?_, fun h => ?_⟩
          · show -5 ≤ ((nx σ : Nat) : Int); omega
          · show ((nx σ : Nat) : Int) ≤ 1000; omega
          · have h2 : ((nx σ : Nat) : Int) < 0 := h
            omega
theorem spRemove_b {σ : St} (x : Int) : -5 ≤ (spRemove σ x).1 ∧ (spRemove σ x).1 ≤ 1000 ∧ ((spRemove σ x).1 < 0 → (spRemove σ x).2 = σ) := by
  unfold spRemove
  split
  · exact act_b (by decide) (by decide)
  · split
    · exact act_b (by decide) (by decide)
    · next n _ =>
      split
      · have h9 := cntB_le (fun k => (en (mkS (nx σ) (mn σ) (s0 σ) (s1 σ) (dm σ) (vr σ) (se σ) (va_up (en σ) n (va_up (en σ n) x.toNat none))) n k).isSome) 20
        refine ⟨?_, ?_, fun h => ?_⟩
        · show -5 ≤ ((entriesN _ n : Nat) : Int); omega
        · show ((entriesN _ n : Nat) : Int) ≤ 1000; unfold entriesN; omega
        · have h2 : ((entriesN _ n : Nat) : Int) < 0 := h
          omega
      · exact act_b (by decide) (by decide)
theorem spKeep_b {σ : St} (hI : Inv σ) (x y : Int) : -5 ≤ (spKeep σ x y).1 ∧ (spKeep σ x y).1 ≤ 1000 ∧ ((spKeep σ x y).1 < 0 → (spKeep σ x y).2 = σ) := by
  unfold spKeep
  split
  · exact act_b (by decide) (by decide)
  · next h0 =>
    split
    · exact act_b (by decide) (by decide)
    · split
      · split
        · exact act_b (by decide) (by decide)
        · next f hf =>
          have h9 := hI.ent2 (n := y.toNat) (k := x.toNat) (by omega) (by omega) hf
          refine ⟨?_, ?_, fun h => ?_⟩
          · show -5 ≤ ((f.1 : Nat) : Int); omega
          · show ((f.1 : Nat) : Int) ≤ 1000; omega
          · have h2 : ((f.1 : Nat) : Int) < 0 := h
            omega
      · exact act_b (by decide) (by decide)
theorem leadOut_b {σ : St} (hI : Inv σ) {n : Nat} (hn : n < mn σ) : -5 ≤ (leadOut σ n).1 ∧ (leadOut σ n).1 ≤ 1000 ∧ ((leadOut σ n).1 < 0 → (leadOut σ n).2 = σ) := by
  have h1 := hI.nx240
  have h2 := hI.row hn
  unfold leadOut
  refine ⟨?_, ?_, fun h => ?_⟩
  · show -5 ≤ ((nx σ : Nat) : Int) + ((se σ n 4 : Nat) : Int); omega
  · show ((nx σ : Nat) : Int) + ((se σ n 4 : Nat) : Int) ≤ 1000; omega
  · have h2 : ((nx σ : Nat) : Int) + ((se σ n 4 : Nat) : Int) < 0 := h
    omega
theorem spClose_b {σ : St} (hI : Inv σ) : -5 ≤ (spClose σ).1 ∧ (spClose σ).1 ≤ 1000 ∧ ((spClose σ).1 < 0 → (spClose σ).2 = σ) := by
  unfold spClose
  split
  · exact act_b (by decide) (by decide)
  · next n h => exact leadOut_b hI (by have := (opn_some h).1; omega)
theorem spEject_b {σ : St} : -5 ≤ (spEject σ).1 ∧ (spEject σ).1 ≤ 1000 ∧ ((spEject σ).1 < 0 → (spEject σ).2 = σ) := by
  unfold spEject
  split
  · exact act_b (by decide) (by decide)
  · exact ⟨show (-5 : Int) ≤ 1 by decide, show (1 : Int) ≤ 1000 by decide, fun h => absurd (show (1 : Int) < 0 from h) (by decide)⟩
theorem spRepair_b {σ : St} (hI : Inv σ) (x : Int) : -5 ≤ (spRepair σ x).1 ∧ (spRepair σ x).1 ≤ 1000 ∧ ((spRepair σ x).1 < 0 → (spRepair σ x).2 = σ) := by
  unfold spRepair
  split
  · exact act_b (by decide) (by decide)
  · next h0 =>
    split
    · exact leadOut_b hI (by omega)
    · exact act_b (by decide) (by decide)
theorem spDamage_b {σ : St} (x : Int) : -5 ≤ (spDamage σ x).1 ∧ (spDamage σ x).1 ≤ 1000 ∧ ((spDamage σ x).1 < 0 → (spDamage σ x).2 = σ) := by
  unfold spDamage
  split
  · exact act_b (by decide) (by decide)
  · have h9 := cntB_le (va_up (dm σ) x.toNat true) 240
    refine ⟨?_, ?_, fun h => ?_⟩
    · show -5 ≤ ((cntB (va_up (dm σ) x.toNat true) 240 : Nat) : Int); omega
    · show ((cntB (va_up (dm σ) x.toNat true) 240 : Nat) : Int) ≤ 1000; omega
    · have h2 : ((cntB (va_up (dm σ) x.toNat true) 240 : Nat) : Int) < 0 := h
      omega
theorem spSet_b {σ : St} (hI : Inv σ) (x y : Int) : -5 ≤ (spSet σ x y).1 ∧ (spSet σ x y).1 ≤ 1000 ∧ ((spSet σ x y).1 < 0 → (spSet σ x y).2 = σ) := by
  have h1 := hI.s0b
  have h2 := hI.s1b
  unfold spSet
  split
  · exact act_b (by decide) (by decide)
  · split
    · split
      · refine ⟨?_, ?_, fun h => ?_⟩
        · show -5 ≤ ((s0 σ : Nat) : Int); omega
        · show ((s0 σ : Nat) : Int) ≤ 1000; omega
        · have h2 : ((s0 σ : Nat) : Int) < 0 := h
          omega
      · exact act_b (by decide) (by decide)
    · split
      · refine ⟨?_, ?_, fun h => ?_⟩
        · show -5 ≤ ((s1 σ : Nat) : Int); omega
        · show ((s1 σ : Nat) : Int) ≤ 1000; omega
        · have h2 : ((s1 σ : Nat) : Int) < 0 := h
          omega
      · exact act_b (by decide) (by decide)
theorem spCmd_b {σ : St} (hI : Inv σ) (q : Int × Nat × Nat) : -5 ≤ (spCmd σ q).1 ∧ (spCmd σ q).1 ≤ 1000 ∧ ((spCmd σ q).1 < 0 → (spCmd σ q).2 = σ) := by
  unfold spCmd
  split
  · exact spBegin_b hI _
  split
  · exact spWrite_b hI _ _
  split
  · exact spRemove_b _
  split
  · exact spKeep_b hI _ _
  split
  · exact spClose_b hI
  split
  · exact spEject_b
  · exact spDamage_b _
theorem foundF_b {σ : St} (hI : Inv σ) {k : Nat} {f : Fil} (hk : k < 20) (h : foundF σ k = some f) : f.1 + f.2.1 ≤ nx σ ∧ f.1 + f.2.1 ≤ 240 ∧ (1 ≤ f.2.1 ∧ f.2.1 ≤ 40) ∧ f.2.2 < mn σ := by
  unfold foundF at h
  split at h
  · cases h
  · next n hv => exact hI.ent2 (validD_lt hv) hk h
