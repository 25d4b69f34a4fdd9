def spAppend (tx : Nat → Int) (len : Nat) (y : Int) : Int × (Nat → Int) × Nat := if ¬ (32 ≤ y ∧ y ≤ 126) then (-2, tx, len) else if len < 80 then ((len : Int) + 1, va_up tx len y, len + 1) else (-4, tx, len)
def spUndo (σ : St) (hs : List St) : Int × St × List St := if hs = [] then (-6, σ, hs) else ((hs.length : Int) - 1, hs.getLast?.getD σ, hs.dropLast)
def spRun (σ : St) (hs : List St) (tx : Nat → Int) (len : Nat) : Int × St × List St := if pFlt tx len 0 = -6 then (((pRun tx len σ 0 0).1 : Int), (pRun tx len σ 0 0).2, recd hs σ) else (-3, σ, hs)
/-- the object behind an action -/
def XP (G : GG) (x fb : Nat) (fl : Nat → Option Fil) (σ : St) (hs : List St) (tx : Nat → Int) (len : Nat) : Heap → Heap → Prop := fun H H1 => (∃ fl', Ext fl fl' ∧ XAt G x fb fl' σ hs tx len H1) ∧ FrR x (x + 179) H H1
theorem FrR.size {lo hi n : Nat} {H H1 : Heap} (h : FrR lo hi H H1) (h2 : n ≤ H.size) : n ≤ H1.size := Nat.le_trans h2 h.1
theorem pRun_end {tx : Nat → Int} {len p k : Nat} {σ : St} (h : len ≤ p) : pRun tx len σ p k = (k, σ) := by
  rw [pRun, dif_neg (by omega)]
theorem pRun_no {tx : Nat → Int} {len p k : Nat} {σ : St} {q : Int × Nat × Nat} (h : p < len) (h2 : (pCmd tx len p).2 = some q) (h3 : (spCmd σ q).1 < 0) : pRun tx len σ p k = (k, σ) := by
  rw [pRun, dif_pos h, h2]
  simp only []
  rw [if_pos h3]
theorem pRun_go {tx : Nat → Int} {len p k : Nat} {σ : St} {q : Int × Nat × Nat} (h : p < len) (h2 : (pCmd tx len p).2 = some q) (h3 : ¬ (spCmd σ q).1 < 0) (h4 : p ≤ (pCmd tx len p).1) : pRun tx len σ p k = pRun tx len (spCmd σ q).2 ((pCmd tx len p).1 + 1) (k + 1) := by
  rw [pRun, dif_pos h, h2]
  simp only []
  rw [if_neg h3, dif_pos h4]
/-- a text without a fault from p on: a command stands there, and behind it the end or another -/
theorem pFlt_ok {tx : Nat → Int} {len p : Nat} (h : pFlt tx len p = -6) : (∃ q, (pCmd tx len p).2 = some q) ∧ (len ≤ (pCmd tx len p).1 ∨ (hr tx len (pCmd tx len p).1 = 59 ∧ pFlt tx len ((pCmd tx len p).1 + 1) = -6)) := by
  rw [pFlt] at h
  by_cases h1 : (pCmd tx len p).2 = none
  · rw [if_pos h1] at h
    omega
  · rw [if_neg h1] at h
    refine ⟨Option.ne_none_iff_exists'.mp h1, ?_⟩
    by_cases h2 : len ≤ (pCmd tx len p).1
    · exact Or.inl h2
    · rw [if_neg h2] at h
      by_cases h3 : hr tx len (pCmd tx len p).1 = 59 ∧ p ≤ (pCmd tx len p).1 ∧ (pCmd tx len p).1 < len
      · rw [dif_pos h3] at h
        exact Or.inr ⟨h3.1, h⟩
      · rw [dif_neg h3] at h
        omega
