/-! texts: their semicolons, and where a text without a fault ends -/
def scn (tx : Nat → Int) (n : Nat) : Nat := cntB (fun k => decide (tx k = 59)) n
theorem scn_succ (tx : Nat → Int) (n : Nat) : scn tx (n + 1) = scn tx n + (if tx n = 59 then 1 else 0) := by
  unfold scn
  rw [cntB]
  by_cases h : tx n = 59
  · rw [if_pos (decide_eq_true h), if_pos h]
  · rw [if_neg (by rw [decide_eq_false h]; decide), if_neg h]
theorem scn_up {tx : Nat → Int} {len : Nat} {y : Int} : scn (va_up tx len y) len = scn tx len := cntB_congr (fun k hk => by rw [up_n (by omega)])
theorem scn_mono {tx : Nat → Int} {a : Nat} : ∀ {b : Nat}, a ≤ b → scn tx a ≤ scn tx b
  | 0, h => by rw [show a = 0 by omega]; exact Nat.le_refl _
  | b + 1, h => by
    by_cases e : a = b + 1
    · rw [e]; exact Nat.le_refl _
    · have := scn_mono (tx := tx) (a := a) (b := b) (by omega)
      rw [scn_succ]
      omega
theorem ap_ok {tx : Nat → Int} {len : Nat} {y : Int} (h : 32 ≤ y ∧ y ≤ 126) (hl : len < 80) : spAppend tx len y = ((len : Int) + 1, va_up tx len y, len + 1) := by unfold spAppend; rw [if_neg (by omega), if_pos hl]
theorem ap_scn {tx : Nat → Int} {len : Nat} {y : Int} (h : y ≠ 59) : scn (va_up tx len y) (len + 1) = scn tx len := by rw [scn_succ, scn_up, up_s, if_neg h]; rfl
theorem ap_scn9 {tx : Nat → Int} {len : Nat} : scn (va_up tx len 59) (len + 1) = scn tx len + 1 := by rw [scn_succ, scn_up, up_s, if_pos rfl]
theorem ap_tx {tx : Nat → Int} {len : Nat} {y : Int} (hT : TxOk tx len) (h : 32 ≤ y ∧ y ≤ 126) (hl : len < 80) : TxOk (va_up tx len y) (len + 1) := by
  have h1 := hT.app y
  rw [ap_ok h hl] at h1
  exact h1
theorem pLoop_last (tx : Nat → Int) (len most : Nat) : ∀ n v p, most - v = n → 1 ≤ p → (48 ≤ hr tx len (p - 1) ∧ hr tx len (p - 1) ≤ 57) → 48 ≤ hr tx len ((pLoop tx len most v p).2 - 1) ∧ hr tx len ((pLoop tx len most v p).2 - 1) ≤ 57 := by
  intro n
  induction n using Nat.strongRecOn with
  | ind n ih =>
    intro v p hn hp hd
    by_cases h : 0 < v ∧ (48 ≤ hr tx len p ∧ hr tx len p ≤ 57) ∧ 10 * v + (hr tx len p - 48).toNat ≤ most
    · rw [pLoop, dif_pos h]
      exact ih (most - (10 * v + (hr tx len p - 48).toNat)) (by omega) (10 * v + (hr tx len p - 48).toNat) (p + 1) rfl (by omega) h.2.1
    · rw [pLoop_no h]
      exact hd
theorem pNum_last {tx : Nat → Int} {len p least most v : Nat} (h : (pNum tx len p least most).2 = some v) : 48 ≤ hr tx len ((pNum tx len p least most).1 - 1) ∧ hr tx len ((pNum tx len p least most).1 - 1) ≤ 57 := by
  by_cases h1 : (48 ≤ hr tx len p ∧ hr tx len p ≤ 57) ∧ least ≤ (hr tx len p - 48).toNat ∧ (hr tx len p - 48).toNat ≤ most
  · rw [pNum, if_pos h1]
    exact pLoop_last tx len most _ (hr tx len p - 48).toNat (p + 1) rfl (by omega) h1.1
  · rw [pNum_none h1] at h
    cases h
theorem pCmd_last {tx : Nat → Int} {len p : Nat} {q : Int × Nat × Nat} (h : (pCmd tx len p).2 = some q) : 48 ≤ hr tx len ((pCmd tx len p).1 - 1) ∧ ¬ hr tx len ((pCmd tx len p).1 - 1) = 59 := by
  by_cases h1 : hr tx len p = 99 ∨ hr tx len p = 101
  · rw [pCmd_ce h1]
    show 48 ≤ hr tx len p ∧ ¬ hr tx len p = 59
    omega
  have one : ∀ (cc : Int) (mo : Nat), pCmd tx len p = ((pNum tx len (p + 1) 0 mo).1, (pNum tx len (p + 1) 0 mo).2.map (fun a => (cc, a, 0))) → 48 ≤ hr tx len ((pCmd tx len p).1 - 1) ∧ ¬ hr tx len ((pCmd tx len p).1 - 1) = 59 := by
    intro cc mo e
    rw [e] at h ⊢
    cases hv : (pNum tx len (p + 1) 0 mo).2 with
    | none => rw [hv] at h; cases h
    | some v =>
      have h9 := pNum_last hv
      show 48 ≤ hr tx len ((pNum tx len (p + 1) 0 mo).1 - 1) ∧ ¬ hr tx len ((pNum tx len (p + 1) 0 mo).1 - 1) = 59
      omega
  have two : ∀ (cc sg : Int) (lo mo : Nat), ((pNum tx len (p + 1) 0 19).2 = none → pCmd tx len p = ((pNum tx len (p + 1) 0 19).1, none)) → (∀ a, (pNum tx len (p + 1) 0 19).2 = some a → pCmd tx len p = pSec tx len cc sg lo mo (pNum tx len (p + 1) 0 19).1 a) → 48 ≤ hr tx len ((pCmd tx len p).1 - 1) ∧ ¬ hr tx len ((pCmd tx len p).1 - 1) = 59 := by
    intro cc sg lo mo e0 e1
    cases hv : (pNum tx len (p + 1) 0 19).2 with
    | none => rw [e0 hv] at h; cases h
    | some a =>
      rw [e1 a hv] at h ⊢
      by_cases hs : hr tx len (pNum tx len (p + 1) 0 19).1 = sg
      · rw [pSec_yes hs] at h ⊢
        generalize (pNum tx len (p + 1) 0 19).1 = q9 at *
        cases hw : (pNum tx len (q9 + 1) lo mo).2 with
        | none => rw [hw] at h; cases h
        | some v =>
          have h9 := pNum_last hw
          show 48 ≤ hr tx len ((pNum tx len (q9 + 1) lo mo).1 - 1) ∧ ¬ hr tx len ((pNum tx len (q9 + 1) lo mo).1 - 1) = 59
          omega
      · rw [pSec_no hs] at h
        cases h
  by_cases h2 : hr tx len p = 98
  · exact one 98 1 (pCmd_b h2)
  by_cases h3 : hr tx len p = 114
  · exact one 114 19 (pCmd_r h3)
  by_cases h4 : hr tx len p = 100
  · exact one 100 239 (pCmd_d h4)
  by_cases h5 : hr tx len p = 119
  · exact two 119 61 1 40 (pCmd_w0 h5) (fun a => pCmd_w1 h5)
  by_cases h6 : hr tx len p = 107
  · exact two 107 46 0 11 (pCmd_k0 h6) (fun a => pCmd_k1 h6)
  rw [pCmd_no (by omega)] at h
  cases h
theorem flt_end {tx : Nat → Int} {len : Nat} (hT : TxOk tx len) : ∀ n p, len - p = n → pFlt tx len p = -6 → 0 < len ∧ ¬ tx (len - 1) = 59 := by
  intro n
  induction n using Nat.strongRecOn with
  | ind n ih =>
    intro p hn hf
    obtain ⟨⟨⟨c, a, b⟩, hq⟩, h1⟩ := pFlt_ok hf
    obtain ⟨a1, a2, a3⟩ := pCmd_all hT p
    obtain ⟨b1, b2, -⟩ := a3 c a b hq
    have hl := pCmd_last hq
    have h5 := a2 (by omega)
    rcases h1 with h2 | ⟨h2, h3⟩
    · have h4 : (pCmd tx len p).1 = len := by omega
      rw [h4] at hl
      have h6 : hr tx len (len - 1) = tx (len - 1) := by unfold hr; rw [if_pos (by omega)]
      rw [h6] at hl
      exact ⟨by omega, hl.2⟩
    · exact ih (len - ((pCmd tx len p).1 + 1)) (by omega) _ rfl h3
theorem run_cnt {tx : Nat → Int} {len : Nat} (hT : TxOk tx len) : ∀ n p k σ, len - p = n → pFlt tx len p = -6 → (pRun tx len σ p k).1 + scn tx p ≤ k + 1 + scn tx len := by
  intro n
  induction n using Nat.strongRecOn with
  | ind n ih =>
    intro p k σ hn hf
    obtain ⟨⟨⟨c, a, b⟩, hq⟩, h1⟩ := pFlt_ok hf
    obtain ⟨a1, a2, a3⟩ := pCmd_all hT p
    obtain ⟨b1, b2, -⟩ := a3 c a b hq
    have hm := scn_mono (tx := tx) (a := p) (b := len) (by omega)
    by_cases he : (spCmd σ (c, a, b)).1 < 0
    · rw [pRun_no b2 hq he]
      show k + scn tx p ≤ _
      omega
    · rw [pRun_go b2 hq he a1]
      rcases h1 with h2 | ⟨h2, h3⟩
      · rw [pRun_end (by omega)]
        show k + 1 + scn tx p ≤ _
        omega
      · have h4 := ih (len - ((pCmd tx len p).1 + 1)) (by omega) ((pCmd tx len p).1 + 1) (k + 1) (spCmd σ (c, a, b)).2 rfl h3
        have h5 : (pCmd tx len p).1 < len := by
          rcases hr_b hT (pCmd tx len p).1 with h6 | h6
          · omega
          · exact h6.2.2
        have h7 : tx (pCmd tx len p).1 = 59 := by
          unfold hr at h2
          rw [if_pos h5] at h2
          exact h2
        rw [scn_succ, if_pos h7] at h4
        have h8 := scn_mono (tx := tx) (a := p) (b := (pCmd tx len p).1) a1
        omega
theorem flt_b {tx : Nat → Int} {len : Nat} (hT : TxOk tx len) : ∀ n p, len - p = n → p ≤ len → pFlt tx len p = -6 ∨ (0 ≤ pFlt tx len p ∧ pFlt tx len p ≤ len) := by
  intro n
  induction n using Nat.strongRecOn with
  | ind n ih =>
    intro p hn hp
    obtain ⟨a1, a2, a3⟩ := pCmd_all hT p
    have h5 := a2 hp
    rw [pFlt]
    by_cases h1 : (pCmd tx len p).2 = none
    · rw [if_pos h1]; omega
    · rw [if_neg h1]
      by_cases h2 : len ≤ (pCmd tx len p).1
      · rw [if_pos h2]; omega
      · rw [if_neg h2]
        by_cases h3 : hr tx len (pCmd tx len p).1 = 59 ∧ p ≤ (pCmd tx len p).1 ∧ (pCmd tx len p).1 < len
        · rw [dif_pos h3]
          exact ih (len - ((pCmd tx len p).1 + 1)) (by omega) _ rfl (by omega)
        · rw [dif_neg h3]; omega
/-- a text of n commands, perhaps with a semicolon behind it -/
def TQ (n : Int) (tx : Nat → Int) (len : Nat) : Prop := (len = 0 ∧ n = 0) ∨ (0 < len ∧ tx (len - 1) = 59) ∨ (0 < len ∧ (scn tx len : Int) + 1 ≤ n)
theorem TQ.pos {n : Int} {tx : Nat → Int} {len : Nat} (h : TQ n tx len) : 0 < len ∨ n = 0 := by
  rcases h with h | h | h
  · exact Or.inr h.2
  · exact Or.inl h.1
  · exact Or.inl h.1
theorem told_le {n : Int} {tx : Nat → Int} {len : Nat} (hT : TxOk tx len) (h : TQ n tx len) (hf : pFlt tx len 0 = -6) (σ : St) : ((pRun tx len σ 0 0).1 : Int) ≤ n := by
  obtain ⟨e1, e2⟩ := flt_end hT _ 0 rfl hf
  have h1 := run_cnt hT _ 0 0 σ rfl hf
  have h2 : scn tx 0 = 0 := rfl
  rcases h with h | h | h
  · omega
  · exact absurd h.2 e2
  · omega
