/-! what the law's loop keeps -/
theorem Inv.prun {tx : Nat → Int} {len : Nat} : ∀ (n p k : Nat) (σ : St), len - p = n → Inv σ → Inv (pRun tx len σ p k).2 := by
  intro n
  induction n using Nat.strongRecOn with
  | ind n ih =>
    intro p k σ hn h
    rw [pRun]
    by_cases hp : p < len
    · rw [dif_pos hp]
      cases hc : (pCmd tx len p).2 with
      | none => exact h
      | some q =>
        simp only []
        by_cases h2 : (spCmd σ q).1 < 0
        · rw [if_pos h2]; exact h
        · rw [if_neg h2]
          by_cases h3 : p ≤ (pCmd tx len p).1
          · rw [dif_pos h3]
            exact ih (len - ((pCmd tx len p).1 + 1)) (by omega) _ _ _ rfl (h.cmd q)
          · rw [dif_neg h3]; exact h
    · rw [dif_neg hp]; exact h
theorem recd_inv {σ : St} {hs : List St} (hI : Inv σ) (h : ∀ τ ∈ hs, Inv τ) : ∀ τ ∈ recd hs σ, Inv τ := by
  intro τ hτ
  unfold recd at hτ
  rcases List.mem_append.mp hτ with h1 | h1
  · split at h1
    · exact h τ (List.mem_of_mem_tail h1)
    · exact h τ h1
  · rw [List.mem_singleton.mp h1]; exact hI
theorem hsA_inv {σ : St} {hs : List St} {r : Int} (hI : Inv σ) (h : ∀ τ ∈ hs, Inv τ) : ∀ τ ∈ hsA σ hs r, Inv τ := by
  unfold hsA
  split
  · exact h
  · exact recd_inv hI h
theorem undo_inv {σ : St} {hs : List St} (hI : Inv σ) (h : ∀ τ ∈ hs, Inv τ) : Inv (spUndo σ hs).2.1 ∧ ∀ τ ∈ (spUndo σ hs).2.2, Inv τ := by
  unfold spUndo
  by_cases hn : hs = []
  · rw [if_pos hn]; exact ⟨hI, h⟩
  · rw [if_neg hn]
    refine ⟨?_, fun τ hτ => h τ (List.dropLast_subset hs hτ)⟩
    show Inv (hs.getLast?.getD σ)
    rw [List.getLast?_eq_some_getLast hn]
    exact h _ (List.getLast_mem hn)
theorem run_inv {σ : St} {hs : List St} {tx : Nat → Int} {len : Nat} (hI : Inv σ) (h : ∀ τ ∈ hs, Inv τ) : Inv (spRun σ hs tx len).2.1 ∧ ∀ τ ∈ (spRun σ hs tx len).2.2, Inv τ := by
  unfold spRun
  split
  · exact ⟨Inv.prun _ 0 0 σ rfl hI, recd_inv hI h⟩
  · exact ⟨hI, h⟩
theorem TxOk.zero {tx : Nat → Int} : TxOk tx 0 := ⟨Nat.zero_le _, fun k hk => absurd hk (Nat.not_lt_zero k)⟩
theorem TxOk.app {tx : Nat → Int} {len : Nat} (h : TxOk tx len) (y : Int) : TxOk (spAppend tx len y).2.1 (spAppend tx len y).2.2 := by
  unfold spAppend
  by_cases h1 : ¬ (32 ≤ y ∧ y ≤ 126)
  · rw [if_pos h1]; exact h
  · rw [if_neg h1]
    by_cases h2 : len < 80
    · rw [if_pos h2]
      refine ⟨by show len + 1 ≤ 80; omega, fun k hk => ?_⟩
      show 32 ≤ va_up tx len y k ∧ va_up tx len y k ≤ 126
      have hk2 : k < len + 1 := hk
      by_cases hkl : k = len
      · subst hkl
        simp only [va_up, if_pos]
        omega
      · have h3 := h.2 k (by omega)
        simp only [va_up, if_neg hkl]
        exact h3
    · rw [if_neg h2]; exact h
