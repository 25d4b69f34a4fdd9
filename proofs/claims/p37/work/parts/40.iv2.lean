/-! what the property needs besides: who wrote what, and how much -/
def ldN (σ : St) (n : Nat) : Nat := se σ n 3 + (if se σ n 0 = 1 then se σ n 4 else 0)
def Iv2 (σ : St) : Prop :=
  (∀ n k f, n < mn σ → k < 20 → en σ n k = some f → 0 < vr σ k) ∧
  sumF (fun n => se σ n 5) (mn σ) = sumF (vr σ) 20 ∧
  ∀ n, n < mn σ → ldN σ n + se σ n 5 ≤ se σ n 2 ∧ se σ n 2 ≤ ldN σ n + 40 * se σ n 5
theorem sumF_up {f : Nat → Nat} {k v : Nat} : ∀ {N : Nat}, k < N → sumF (va_up f k (f k + v)) N = sumF f N + v
  | 0, h => absurd h (Nat.not_lt_zero _)
  | N + 1, h => by
    rw [sumF, sumF]
    by_cases e : k = N
    · subst e
      rw [up_s, sumF_congr (q := f) (fun j hj => up_n (by omega))]
      omega
    · rw [sumF_up (N := N) (by omega), up_n (by omega)]
      omega
theorem sumF_mono {f : Nat → Nat} {a : Nat} : ∀ {b : Nat}, a ≤ b → sumF f a ≤ sumF f b
  | 0, h => by rw [show a = 0 by omega]; exact Nat.le_refl _
  | b + 1, h => by
    by_cases e : a = b + 1
    · rw [e]; exact Nat.le_refl _
    · have := sumF_mono (f := f) (a := a) (b := b) (by omega)
      rw [sumF]
      omega
theorem sumF_at {f : Nat → Nat} {k N : Nat} (h : k < N) : f k ≤ sumF f N := by
  have h1 := sumF_mono (f := f) (a := k + 1) (b := N) (by omega)
  rw [sumF] at h1
  omega
theorem Iv2.tab {σ : St} (h : Iv2 σ) {E : Nat → Nat → Option Fil} (hE : ∀ n k f, n < mn σ → k < 20 → E n k = some f → ∃ n0, n0 < mn σ ∧ en σ n0 k = some f) : Iv2 (mkS (nx σ) (mn σ) (s0 σ) (s1 σ) (dm σ) (vr σ) (se σ) E) := by
  refine ⟨fun n k f hn hk hf => ?_, h.2.1, h.2.2⟩
  obtain ⟨n0, h1, h2⟩ := hE n k f hn hk hf
  exact h.1 n0 k f h1 hk h2
theorem Iv2.shut {σ : St} (h : Iv2 σ) {n x y : Nat} (hn : n + 1 = mn σ) (h1 : se σ n 0 ≠ 1) (hx : (x = 1 ∧ y = se σ n 4) ∨ (x = 2 ∧ y = 0)) : Iv2 (mkS (nx σ + y) (mn σ) (s0 σ) (s1 σ) (dm σ) (vr σ) (va_up (se σ) n (va_up (va_up (se σ n) 2 (se σ n 2 + y)) 0 x)) (en σ)) := by
  have R0 : va_up (va_up (se σ n) 2 (se σ n 2 + y)) 0 x 0 = x := up_s
  have R2 : va_up (va_up (se σ n) 2 (se σ n 2 + y)) 0 x 2 = se σ n 2 + y := rfl
  have R3 : va_up (va_up (se σ n) 2 (se σ n 2 + y)) 0 x 3 = se σ n 3 := rfl
  have R4 : va_up (va_up (se σ n) 2 (se σ n 2 + y)) 0 x 4 = se σ n 4 := rfl
  have R5 : va_up (va_up (se σ n) 2 (se σ n 2 + y)) 0 x 5 = se σ n 5 := rfl
  generalize va_up (va_up (se σ n) 2 (se σ n 2 + y)) 0 x = R at R0 R2 R3 R4 R5
  have q1 : ∀ j, j = n → va_up (se σ) n R j = R := fun j e => by rw [e]; exact up_s
  have q2 : ∀ j, j ≠ n → va_up (se σ) n R j = se σ j := fun j e => up_n e
  refine ⟨h.1, ?_, fun j hj => ?_⟩
  · show sumF (fun j => va_up (se σ) n R j 5) (mn σ) = sumF (vr σ) 20
    rw [← h.2.1]
    refine sumF_congr (fun j hj => ?_)
    by_cases e : j = n
    · show va_up (se σ) n R j 5 = se σ j 5
      rw [q1 j e, R5, e]
    · show va_up (se σ) n R j 5 = se σ j 5
      rw [q2 j e]
  · have hj2 : j < mn σ := hj
    have h9 := h.2.2 j hj2
    unfold ldN at h9
    show va_up (se σ) n R j 3 + (if va_up (se σ) n R j 0 = 1 then va_up (se σ) n R j 4 else 0) + va_up (se σ) n R j 5 ≤ va_up (se σ) n R j 2 ∧ va_up (se σ) n R j 2 ≤ va_up (se σ) n R j 3 + (if va_up (se σ) n R j 0 = 1 then va_up (se σ) n R j 4 else 0) + 40 * va_up (se σ) n R j 5
    by_cases e : j = n
    · rw [q1 j e, R0, R2, R3, R4, R5]
      subst e
      rw [if_neg h1] at h9
      rcases hx with ⟨ex, ey⟩ | ⟨ex, ey⟩
      · rw [if_pos ex]; omega
      · rw [if_neg (by omega)]; omega
    · rw [q2 j e]; exact h9
theorem Iv2.leadOut {σ : St} (h : Iv2 σ) {n : Nat} (hn : n + 1 = mn σ) (h1 : se σ n 0 ≠ 1) : Iv2 (leadOut σ n).2 := h.shut (x := 1) (y := se σ n 4) hn h1 (Or.inl ⟨rfl, rfl⟩)
theorem Iv2.close {σ : St} (h : Iv2 σ) : Iv2 (spClose σ).2 := by
  unfold spClose
  split
  · exact h
  · next n hn => exact h.leadOut (opn_some hn).1 (by rw [(opn_some hn).2]; decide)
theorem Iv2.eject {σ : St} (h : Iv2 σ) : Iv2 (spEject σ).2 := by
  unfold spEject
  split
  · exact h
  · next n hn =>
    have h2 := h.shut (x := 2) (y := 0) (opn_some hn).1 (by rw [(opn_some hn).2]; decide) (Or.inr ⟨rfl, rfl⟩)
    rw [va_up_same2] at h2
    exact h2
theorem Iv2.repair {σ : St} (h : Iv2 σ) (x : Int) : Iv2 (spRepair σ x).2 := by
  unfold spRepair
  split
  · exact h
  · next h0 =>
    split
    · next h1 => exact h.leadOut (by omega) (by omega)
    · exact h
theorem Iv2.damage {σ : St} (h : Iv2 σ) (x : Int) : Iv2 (spDamage σ x).2 := by
  unfold spDamage
  split
  · exact h
  · exact h
theorem Iv2.set {σ : St} (h : Iv2 σ) (x y : Int) : Iv2 (spSet σ x y).2 := by
  unfold spSet
  split
  · exact h
  · split
    · split
      · exact h
      · exact h
    · split
      · exact h
      · exact h
theorem Iv2.remove {σ : St} (h : Iv2 σ) (x : Int) : Iv2 (spRemove σ x).2 := by
  unfold spRemove
  split
  · exact h
  · split
    · exact h
    · next n hn =>
      split
      · refine h.tab (fun j k f hj hk hf => ⟨j, hj, ?_⟩)
        by_cases e : j = n
        · subst e
          rw [up_s] at hf
          by_cases e2 : k = x.toNat
          · subst e2; rw [up_s] at hf; cases hf
          · rw [up_n e2] at hf; exact hf
        · rw [up_n e] at hf; exact hf
      · exact h
theorem Iv2.keep {σ : St} (h : Iv2 σ) (x y : Int) : Iv2 (spKeep σ x y).2 := by
  unfold spKeep
  split
  · exact h
  · next h0 =>
    split
    · exact h
    · next n hn =>
      split
      · split
        · exact h
        · next g hg =>
          refine h.tab (fun j k f hj hk hf => ?_)
          by_cases e : j = n
          · subst e
            rw [up_s] at hf
            by_cases e2 : k = x.toNat
            · subst e2; rw [up_s] at hf; cases hf
              exact ⟨y.toNat, by omega, hg⟩
            · rw [up_n e2] at hf; exact ⟨j, hj, hf⟩
          · rw [up_n e] at hf; exact ⟨j, hj, hf⟩
      · exact h
theorem Iv2.write {σ : St} (h : Iv2 σ) (x y : Int) : Iv2 (spWrite σ x y).2 := by
  unfold spWrite
  split
  · exact h
  next h0 =>
  split
  · exact h
  next h1 =>
  split
  · exact h
  next n hn =>
  split
  · exact h
  next h2 =>
  obtain ⟨hn1, hn0⟩ := opn_some hn
  generalize hz : y.toNat = z at *
  generalize hw : x.toNat = w at *
  have hz1 : 1 ≤ z ∧ z ≤ 40 := by omega
  have hw1 : w < 20 := by omega
  have R0 : va_up (va_up (se σ n) 2 (se σ n 2 + z)) 5 (se σ n 5 + 1) 0 = se σ n 0 := rfl
  have R2 : va_up (va_up (se σ n) 2 (se σ n 2 + z)) 5 (se σ n 5 + 1) 2 = se σ n 2 + z := rfl
  have R3 : va_up (va_up (se σ n) 2 (se σ n 2 + z)) 5 (se σ n 5 + 1) 3 = se σ n 3 := rfl
  have R4 : va_up (va_up (se σ n) 2 (se σ n 2 + z)) 5 (se σ n 5 + 1) 4 = se σ n 4 := rfl
  have R5 : va_up (va_up (se σ n) 2 (se σ n 2 + z)) 5 (se σ n 5 + 1) 5 = se σ n 5 + 1 := rfl
  generalize va_up (va_up (se σ n) 2 (se σ n 2 + z)) 5 (se σ n 5 + 1) = R at R0 R2 R3 R4 R5 ⊢
  have q1 : ∀ j, j = n → va_up (se σ) n R j = R := fun j e => by rw [e]; exact up_s
  have q2 : ∀ j, j ≠ n → va_up (se σ) n R j = se σ j := fun j e => up_n e
  refine ⟨fun j k f hj hk hf => ?_, ?_, fun j hj => ?_⟩
  · have hj2 : j < mn σ := hj
    have hf2 : va_up (en σ) n (va_up (en σ n) w (some (nx σ, z, n))) j k = some f := hf
    show 0 < va_up (vr σ) w (vr σ w + 1) k
    by_cases ek : k = w
    · rw [ek, up_s]; omega
    · rw [up_n ek]
      by_cases e : j = n
      · rw [e, up_s, up_n ek] at hf2
        exact h.1 n k f (by omega) hk hf2
      · rw [up_n e] at hf2
        exact h.1 j k f hj2 hk hf2
  · show sumF (fun j => va_up (se σ) n R j 5) (mn σ) = sumF (va_up (vr σ) w (vr σ w + 1)) 20
    rw [sumF_up hw1, ← h.2.1]
    rw [← sumF_up (f := fun j => se σ j 5) (k := n) (v := 1) (N := mn σ) (by omega)]
    refine sumF_congr (fun j hj => ?_)
    by_cases e : j = n
    · subst e
      show va_up (se σ) j R j 5 = va_up (fun i => se σ i 5) j (se σ j 5 + 1) j
      rw [up_s, R5, up_s]
    · show va_up (se σ) n R j 5 = va_up (fun i => se σ i 5) n (se σ n 5 + 1) j
      rw [up_n e, up_n e]
  · have hj2 : j < mn σ := hj
    have h9 := h.2.2 j hj2
    unfold ldN at h9
    show va_up (se σ) n R j 3 + (if va_up (se σ) n R j 0 = 1 then va_up (se σ) n R j 4 else 0) + va_up (se σ) n R j 5 ≤ va_up (se σ) n R j 2 ∧ va_up (se σ) n R j 2 ≤ va_up (se σ) n R j 3 + (if va_up (se σ) n R j 0 = 1 then va_up (se σ) n R j 4 else 0) + 40 * va_up (se σ) n R j 5
    by_cases e : j = n
    · rw [q1 j e, R0, R2, R3, R4, R5]
      subst e
      rw [if_neg (by omega)] at h9 ⊢
      omega
    · rw [q2 j e]; exact h9
theorem Iv2.begin {σ : St} (h : Iv2 σ) (x : Int) : Iv2 (spBegin σ x).2 := by
  unfold spBegin
  split
  · exact h
  next h0 =>
  split
  · exact h
  next h1 =>
  split
  · exact h
  next h2 =>
  generalize hR : (fun w => if w = 1 then nx σ else if w = 2 then s0 σ else if w = 3 then s0 σ else if w = 4 then s1 σ else 0) = R
  have R0 : R 0 = 0 := by rw [← hR]; rfl
  have R2 : R 2 = s0 σ := by rw [← hR]; rfl
  have R3 : R 3 = s0 σ := by rw [← hR]; rfl
  have R4 : R 4 = s1 σ := by rw [← hR]; rfl
  have R5 : R 5 = 0 := by rw [← hR]; rfl
  have q1 : ∀ j, j = mn σ → va_up (se σ) (mn σ) R j = R := fun j e => by rw [e]; exact up_s
  have q2 : ∀ j, j ≠ mn σ → va_up (se σ) (mn σ) R j = se σ j := fun j e => up_n e
  refine ⟨fun j k f hj hk hf => ?_, ?_, fun j hj => ?_⟩
  · have hj2 : j < mn σ + 1 := hj
    have hf9 : va_up (en σ) (mn σ) (fun k => if x = 1 then foundF σ k else none) j k = some f := hf
    by_cases e : j = mn σ
    · rw [e, up_s] at hf9
      have hf2 : (if x = 1 then foundF σ k else none) = some f := hf9
      by_cases hx : x = 1
      · rw [if_pos hx] at hf2
        unfold foundF at hf2
        cases hv : validD σ (dm σ) with
        | none => rw [hv] at hf2; cases hf2
        | some v => rw [hv] at hf2; exact h.1 v k f (validD_lt hv) hk hf2
      · rw [if_neg hx] at hf2; cases hf2
    · rw [up_n e] at hf9
      exact h.1 j k f (by omega) hk hf9
  · show sumF (fun j => va_up (se σ) (mn σ) R j 5) (mn σ + 1) = sumF (vr σ) 20
    rw [sumF, ← h.2.1]
    show sumF (fun j => va_up (se σ) (mn σ) R j 5) (mn σ) + va_up (se σ) (mn σ) R (mn σ) 5 = _
    rw [q1 _ rfl, R5]
    refine sumF_congr (fun j hj => ?_)
    show va_up (se σ) (mn σ) R j 5 = se σ j 5
    rw [q2 j (by omega)]
  · have hj2 : j < mn σ + 1 := hj
    show va_up (se σ) (mn σ) R j 3 + (if va_up (se σ) (mn σ) R j 0 = 1 then va_up (se σ) (mn σ) R j 4 else 0) + va_up (se σ) (mn σ) R j 5 ≤ va_up (se σ) (mn σ) R j 2 ∧ va_up (se σ) (mn σ) R j 2 ≤ va_up (se σ) (mn σ) R j 3 + (if va_up (se σ) (mn σ) R j 0 = 1 then va_up (se σ) (mn σ) R j 4 else 0) + 40 * va_up (se σ) (mn σ) R j 5
    by_cases e : j = mn σ
    · rw [q1 j e, R0, R2, R3, R4, R5, if_neg (by decide)]
      omega
    · rw [q2 j e]
      exact h.2.2 j (by omega)
theorem Iv2.cmd {σ : St} (h : Iv2 σ) (q : Int × Nat × Nat) : Iv2 (spCmd σ q).2 := by
  unfold spCmd
  split
  · exact h.begin _
  split
  · exact h.write _ _
  split
  · exact h.remove _
  split
  · exact h.keep _ _
  split
  · exact h.close
  split
  · exact h.eject
  · exact h.damage _
theorem Iv2.sig0 : Iv2 sig0 := ⟨fun n k f hn => absurd hn (Nat.not_lt_zero n), rfl, fun n hn => absurd hn (Nat.not_lt_zero n)⟩
/-- a state that a run reaches -/
def VS (σ : St) : Prop := Inv σ ∧ Iv2 σ
theorem VS.begin {σ : St} (h : VS σ) (x : Int) : VS (spBegin σ x).2 := ⟨h.1.begin x, h.2.begin x⟩
theorem VS.write {σ : St} (h : VS σ) (x y : Int) : VS (spWrite σ x y).2 := ⟨h.1.write x y, h.2.write x y⟩
theorem VS.remove {σ : St} (h : VS σ) (x : Int) : VS (spRemove σ x).2 := ⟨h.1.remove x, h.2.remove x⟩
theorem VS.keep {σ : St} (h : VS σ) (x y : Int) : VS (spKeep σ x y).2 := ⟨h.1.keep x y, h.2.keep x y⟩
theorem VS.close {σ : St} (h : VS σ) : VS (spClose σ).2 := ⟨h.1.close, h.2.close⟩
theorem VS.eject {σ : St} (h : VS σ) : VS (spEject σ).2 := ⟨h.1.eject, h.2.eject⟩
theorem VS.repair {σ : St} (h : VS σ) (x : Int) : VS (spRepair σ x).2 := ⟨h.1.repair x, h.2.repair x⟩
theorem VS.damage {σ : St} (h : VS σ) (x : Int) : VS (spDamage σ x).2 := ⟨h.1.damage x, h.2.damage x⟩
theorem VS.set {σ : St} (h : VS σ) (x y : Int) : VS (spSet σ x y).2 := ⟨h.1.set x y, h.2.set x y⟩
theorem VS.cmd {σ : St} (h : VS σ) (q : Int × Nat × Nat) : VS (spCmd σ q).2 := ⟨h.1.cmd q, h.2.cmd q⟩
theorem VS.sig0 : VS sig0 := ⟨Inv.sig0, Iv2.sig0⟩
theorem VS.prun {tx : Nat → Int} {len : Nat} : ∀ (n p k : Nat) (σ : St), len - p = n → VS σ → VS (pRun tx len σ p k).2 := by
  intro n
  induction n using Nat.strongRecOn with
  | ind n ih =>
    intro p k σ hn h
    rw [pRun]
    by_cases hp : p < len
    · rw [dif_pos hp]
      cases hc : (pCmd tx len p).2 with
      | none => exact h
      | some q =>
        simp only []
        by_cases h2 : (spCmd σ q).1 < 0
        · rw [if_pos h2]; exact h
        · rw [if_neg h2]
          by_cases h3 : p ≤ (pCmd tx len p).1
          · rw [dif_pos h3]
            exact ih (len - ((pCmd tx len p).1 + 1)) (by omega) _ _ _ rfl (h.cmd q)
          · rw [dif_neg h3]; exact h
    · rw [dif_neg hp]; exact h
def VH (hs : List St) : Prop := (∀ τ ∈ hs, VS τ) ∧ hs.length ≤ 4
theorem VH.inv {hs : List St} (h : VH hs) : ∀ τ ∈ hs, Inv τ := fun τ hτ => (h.1 τ hτ).1
theorem VH.nil : VH [] := ⟨fun τ h => absurd h List.not_mem_nil, Nat.zero_le _⟩
theorem recd_len {σ : St} {hs : List St} (h : hs.length ≤ 4) : (recd hs σ).length ≤ 4 ∧ 1 ≤ (recd hs σ).length := by
  unfold recd
  rw [List.length_append]
  by_cases e : hs.length = 4
  · rw [if_pos e, List.length_tail]
    show hs.length - 1 + 1 ≤ 4 ∧ 1 ≤ hs.length - 1 + 1
    omega
  · rw [if_neg e]
    show hs.length + 1 ≤ 4 ∧ 1 ≤ hs.length + 1
    omega
theorem VH.rec1 {σ : St} {hs : List St} (hI : VS σ) (h : VH hs) : VH (recd hs σ) := by
  refine ⟨fun τ hτ => ?_, (recd_len h.2).1⟩
  unfold recd at hτ
  rcases List.mem_append.mp hτ with h1 | h1
  · split at h1
    · exact h.1 τ (List.mem_of_mem_tail h1)
    · exact h.1 τ h1
  · rw [List.mem_singleton.mp h1]; exact hI
theorem VH.hs1 {σ : St} {hs : List St} {r : Int} (hI : VS σ) (h : VH hs) : VH (hsA σ hs r) := by
  by_cases e : r < 0
  · have e2 : hsA σ hs r = hs := if_pos e
    rw [e2]; exact h
  · have e2 : hsA σ hs r = recd hs σ := if_neg e
    rw [e2]; exact VH.rec1 hI h
theorem VH.drop {hs : List St} (h : VH hs) : VH hs.dropLast := ⟨fun τ hτ => h.1 τ (List.dropLast_subset hs hτ), by rw [List.length_dropLast]; have := h.2; omega⟩
theorem recd_ne {σ : St} {hs : List St} : recd hs σ ≠ [] := by
  unfold recd
  exact List.append_ne_nil_of_right_ne_nil _ (List.cons_ne_nil _ _)
theorem recd_last {σ : St} {hs : List St} : (recd hs σ).getLast? = some σ := by
  unfold recd
  exact List.getLast?_concat
/-- what undo answers and leaves behind an action that was recorded -/
theorem undo_recd {σ τ : St} {hs : List St} (h : hs.length ≤ 4) : 0 ≤ (spUndo τ (recd hs σ)).1 ∧ (spUndo τ (recd hs σ)).1 ≤ 3 ∧ (spUndo τ (recd hs σ)).2.1 = σ ∧ (spUndo τ (recd hs σ)).2.2 = (recd hs σ).dropLast := by
  unfold spUndo
  rw [if_neg recd_ne]
  have h1 := recd_len (σ := σ) h
  refine ⟨?_, ?_, ?_, rfl⟩
  · show 0 ≤ ((recd hs σ).length : Int) - 1
    omega
  · show ((recd hs σ).length : Int) - 1 ≤ 3
    omega
  · show (recd hs σ).getLast?.getD τ = σ
    rw [recd_last]
    rfl
theorem undo_vs {σ : St} {hs : List St} (hI : VS σ) (h : VH hs) : VS (spUndo σ hs).2.1 ∧ VH (spUndo σ hs).2.2 ∧ ((spUndo σ hs).1 = -6 ∨ (0 ≤ (spUndo σ hs).1 ∧ (spUndo σ hs).1 < 4)) := by
  unfold spUndo
  by_cases hn : hs = []
  · rw [if_pos hn]; exact ⟨hI, h, Or.inl rfl⟩
  · rw [if_neg hn]
    have h2 := h.2
    have h3 : 0 < hs.length := List.length_pos_iff.mpr hn
    refine ⟨?_, h.drop, Or.inr ⟨?_, ?_⟩⟩
    · show VS (hs.getLast?.getD σ)
      rw [List.getLast?_eq_some_getLast hn]
      exact h.1 _ (List.getLast_mem hn)
    · show 0 ≤ (hs.length : Int) - 1
      omega
    · show (hs.length : Int) - 1 < 4
      omega
theorem run_vs {σ : St} {hs : List St} {tx : Nat → Int} {len : Nat} (hI : VS σ) (h : VH hs) : VS (spRun σ hs tx len).2.1 ∧ VH (spRun σ hs tx len).2.2 := by
  unfold spRun
  split
  · exact ⟨VS.prun _ 0 0 σ rfl hI, VH.rec1 hI h⟩
  · exact ⟨hI, h⟩
