/-! the sectors of the files that can be found are not more than those that are written -/
theorem cntB_iv (a c : Nat) : ∀ M, cntB (fun k => decide (a ≤ k ∧ k < a + c)) M = min M (a + c) - min M a
  | 0 => by simp [cntB]
  | M + 1 => by
    rw [cntB, cntB_iv a c M]
    by_cases h : a ≤ M ∧ M < a + c
    · rw [if_pos (decide_eq_true h)]; omega
    · rw [if_neg (by rw [decide_eq_true_eq]; exact h)]; omega
theorem cntB_or {p q : Nat → Bool} : ∀ {M : Nat}, (∀ k, k < M → p k = true → q k = false) → cntB (fun k => p k || q k) M = cntB p M + cntB q M
  | 0, _ => rfl
  | M + 1, h => by
    have ih := cntB_or (p := p) (q := q) (M := M) (fun k hk => h k (by omega))
    have h1 := h M (by omega)
    rw [cntB, cntB, cntB, ih]
    cases hp : p M with
    | true =>
      rw [h1 hp]
      show cntB p M + cntB q M + 1 = cntB p M + 1 + (cntB q M + 0)
      omega
    | false =>
      cases hq : q M with
      | true =>
        show cntB p M + cntB q M + 1 = cntB p M + 0 + (cntB q M + 1)
        omega
      | false =>
        show cntB p M + cntB q M + 0 = cntB p M + 0 + (cntB q M + 0)
        omega
def ivB (o : Option Fil) (k : Nat) : Bool := match o with
  | none => false
  | some f => decide (f.1 ≤ k ∧ k < f.1 + f.2.1)
def covB (en1 : Nat → Option Fil) : Nat → Nat → Bool
  | 0 => fun _ => false
  | j + 1 => fun k => covB en1 j k || ivB (en1 j) k
theorem covB_true {en1 : Nat → Option Fil} : ∀ {N k : Nat}, covB en1 N k = true → ∃ j f, j < N ∧ en1 j = some f ∧ f.1 ≤ k ∧ k < f.1 + f.2.1
  | 0, k, h => by cases h
  | N + 1, k, h => by
    rcases (Bool.or_eq_true _ _).mp h with h1 | h1
    · obtain ⟨j, f, a1, a2, a3⟩ := covB_true h1
      exact ⟨j, f, by omega, a2, a3⟩
    · cases hf : en1 N with
      | none => rw [hf] at h1; cases h1
      | some f => rw [hf] at h1; exact ⟨N, f, by omega, hf, of_decide_eq_true h1⟩
theorem cntB_false : ∀ M, cntB (fun _ => false) M = 0
  | 0 => rfl
  | M + 1 => by rw [cntB, cntB_false M]; rfl
theorem sum_cov {σ : St} (hI : Inv σ) {n : Nat} (hn : n < mn σ) : ∀ N, N ≤ 20 → sumF (fun k => sizeO (en σ n k)) N = cntB (covB (en σ n) N) (nx σ)
  | 0, _ => (cntB_false _).symm
  | N + 1, h => by
    have ih := sum_cov hI hn N (by omega)
    have e : cntB (covB (en σ n) (N + 1)) (nx σ) = cntB (covB (en σ n) N) (nx σ) + cntB (ivB (en σ n N)) (nx σ) := cntB_or (fun k hk h1 => by
      obtain ⟨j, f, a1, a2, a3, a4⟩ := covB_true h1
      cases hf : en σ n N with
      | none => rfl
      | some g =>
        have hd := hI.2.2.2.2.2.2.2.2.2.2 n n j N f g hn hn (by omega) (by omega) (by omega) a2 hf
        exact decide_eq_false (by omega))
    rw [e, sumF, ih]
    cases hf : en σ n N with
    | none =>
      rw [show cntB (ivB none) (nx σ) = 0 from cntB_false _]
      rfl
    | some g =>
      have hb := hI.ent2 hn (by omega) hf
      rw [show cntB (ivB (some g)) (nx σ) = min (nx σ) (g.1 + g.2.1) - min (nx σ) g.1 from cntB_iv g.1 g.2.1 (nx σ)]
      show cntB (covB (en σ n) N) (nx σ) + g.2.1 = _
      omega
theorem foundSec_le {σ : St} (hI : Inv σ) : foundSec σ ≤ nx σ := by
  unfold foundSec
  cases hv : validD σ (dm σ) with
  | none => exact Nat.zero_le _
  | some n =>
    show sumF _ 20 ≤ nx σ
    rw [sum_cov hI (validD_lt hv) 20 (Nat.le_refl _)]
    exact cntB_le _ _
