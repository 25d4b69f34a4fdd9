/-! every action keeps what holds of the states -/
theorem Inv.build {τ : St} (h1 : mn τ ≤ 12) (h2 : nx τ ≤ 240) (h3 : 2 ≤ s0 τ ∧ s0 τ ≤ 9) (h4 : 1 ≤ s1 τ ∧ s1 τ ≤ 9) (h5 : mn τ = 0 → nx τ = 0) (h6 : 0 < mn τ → se τ 0 1 = 0) (h7 : ∀ n, n + 1 < mn τ → se τ n 1 + se τ n 2 = se τ (n + 1) 1) (h8 : ∀ n, n + 1 = mn τ → se τ n 1 + se τ n 2 = nx τ)
    (h9 : ∀ n, n < mn τ → se τ n 0 ≤ 2 ∧ (se τ n 0 = 0 → n + 1 = mn τ) ∧ (2 ≤ se τ n 3 ∧ se τ n 3 ≤ 9) ∧ (1 ≤ se τ n 4 ∧ se τ n 4 ≤ 9) ∧ se τ n 3 ≤ se τ n 2 ∧ (se τ n 0 = 1 → se τ n 3 + se τ n 4 ≤ se τ n 2) ∧ (n + 1 = mn τ → se τ n 0 ≠ 1 → se τ n 1 + se τ n 2 + se τ n 4 ≤ 240) ∧ se τ n 1 + se τ n 2 ≤ nx τ)
    (h10 : ∀ n k f, n < mn τ → k < 20 → en τ n k = some f → f.2.2 ≤ n ∧ (1 ≤ f.2.1 ∧ f.2.1 ≤ 40) ∧ se τ f.2.2 1 + se τ f.2.2 3 ≤ f.1 ∧ f.1 + f.2.1 + (if se τ f.2.2 0 = 1 then se τ f.2.2 4 else 0) ≤ se τ f.2.2 1 + se τ f.2.2 2)
    (h11 : ∀ n n' k k' f f', n < mn τ → n' < mn τ → k < 20 → k' < 20 → k ≠ k' → en τ n k = some f → en τ n' k' = some f' → f.1 + f.2.1 ≤ f'.1 ∨ f'.1 + f'.2.1 ≤ f.1) : Inv τ := ⟨h1, h2, h3, h4, h5, h6, h7, h8, h9, h10, h11⟩
theorem Inv.pair {σ : St} (h : Inv σ) {n n' k k' : Nat} {f f' : Fil} (a1 : n < mn σ) (a2 : n' < mn σ) (a3 : k < 20) (a4 : k' < 20) (a5 : k ≠ k') (a6 : en σ n k = some f) (a7 : en σ n' k' = some f') : f.1 + f.2.1 ≤ f'.1 ∨ f'.1 + f'.2.1 ≤ f.1 := h.2.2.2.2.2.2.2.2.2.2 n n' k k' f f' a1 a2 a3 a4 a5 a6 a7
/-- the rows stay as they are, the entries come from entries for the same name -/
theorem Inv.tab {σ : St} (h : Inv σ) {E : Nat → Nat → Option Fil} (hE : ∀ n k f, n < mn σ → k < 20 → E n k = some f → ∃ n0, n0 ≤ n ∧ en σ n0 k = some f) : Inv (mkS (nx σ) (mn σ) (s0 σ) (s1 σ) (dm σ) (vr σ) (se σ) E) := by
  refine Inv.build h.mn12 h.nx240 h.s0b h.s1b h.nx0 h.first h.cont h.last (fun n hn => h.row hn) (fun n k f hn hk hf => ?_) (fun n n' k k' f f' hn hn' hk hk' hkk hf hf' => ?_)
  · obtain ⟨n0, h1, h2⟩ := hE n k f hn hk hf
    have hn2 : n < mn σ := hn
    obtain ⟨b1, b2, b3, b4⟩ := h.ent (by omega) hk h2
    exact ⟨by omega, b2, b3, b4⟩
  · obtain ⟨n0, h1, h2⟩ := hE n k f hn hk hf
    obtain ⟨n1, h3, h4⟩ := hE n' k' f' hn' hk' hf'
    have hn2 : n < mn σ := hn
    have hn3 : n' < mn σ := hn'
    exact h.pair (by omega) (by omega) hk hk' hkk h2 h4
/-- the last session n, not closed so far, gets another status, and perhaps its lead-out -/
theorem Inv.shut {σ : St} (h : Inv σ) {n x y : Nat} (hn : n + 1 = mn σ) (h1 : se σ n 0 ≠ 1) (hx : (x = 1 ∧ y = se σ n 4) ∨ (x = 2 ∧ y = 0)) : Inv (mkS (nx σ + y) (mn σ) (s0 σ) (s1 σ) (dm σ) (vr σ) (va_up (se σ) n (va_up (va_up (se σ n) 2 (se σ n 2 + y)) 0 x)) (en σ)) := by
  have hrow := h.row (n := n) (by omega)
  have hlast := h.last n hn
  have R0 : va_up (va_up (se σ n) 2 (se σ n 2 + y)) 0 x 0 = x := up_s
  have R1 : va_up (va_up (se σ n) 2 (se σ n 2 + y)) 0 x 1 = se σ n 1 := rfl
  have R2 : va_up (va_up (se σ n) 2 (se σ n 2 + y)) 0 x 2 = se σ n 2 + y := rfl
  have R3 : va_up (va_up (se σ n) 2 (se σ n 2 + y)) 0 x 3 = se σ n 3 := rfl
  have R4 : va_up (va_up (se σ n) 2 (se σ n 2 + y)) 0 x 4 = se σ n 4 := rfl
  generalize va_up (va_up (se σ n) 2 (se σ n 2 + y)) 0 x = R at R0 R1 R2 R3 R4
  have hnx : nx σ + y ≤ 240 := by have := hrow.2.2.2.2.2.2.1 hn h1; omega
  have q1 : ∀ j, j = n → va_up (se σ) n R j = R := fun j e => by rw [e]; exact up_s
  have q2 : ∀ j, j ≠ n → va_up (se σ) n R j = se σ j := fun j e => up_n e
  refine Inv.build h.mn12 hnx h.s0b h.s1b (fun e => ?_) (fun e => ?_) (fun j hj => ?_) (fun j hj => ?_) (fun j hj => ?_) (fun j k f hj hk hf => ?_) (fun j j' k k' f f' hj hj' hk hk' hkk hf hf' => h.pair hj hj' hk hk' hkk hf hf')
  · have e2 : mn σ = 0 := e
    omega
  · show va_up (se σ) n R 0 1 = 0
    by_cases e0 : 0 = n
    · rw [q1 0 e0, R1, ← e0]; exact h.first e
    · rw [q2 0 e0]; exact h.first e
  · have hj2 : j + 1 < mn σ := hj
    show va_up (se σ) n R j 1 + va_up (se σ) n R j 2 = va_up (se σ) n R (j + 1) 1
    rw [q2 j (by omega)]
    by_cases e0 : j + 1 = n
    · rw [q1 _ e0, R1, ← e0]; exact h.cont j hj2
    · rw [q2 _ e0]; exact h.cont j hj2
  · have hj2 : j + 1 = mn σ := hj
    show va_up (se σ) n R j 1 + va_up (se σ) n R j 2 = nx σ + y
    rw [q1 j (by omega), R1, R2]
    omega
  · have hj2 : j < mn σ := hj
    show va_up (se σ) n R j 0 ≤ 2 ∧ (va_up (se σ) n R j 0 = 0 → j + 1 = mn σ) ∧ (2 ≤ va_up (se σ) n R j 3 ∧ va_up (se σ) n R j 3 ≤ 9) ∧ (1 ≤ va_up (se σ) n R j 4 ∧ va_up (se σ) n R j 4 ≤ 9) ∧ va_up (se σ) n R j 3 ≤ va_up (se σ) n R j 2 ∧ (va_up (se σ) n R j 0 = 1 → va_up (se σ) n R j 3 + va_up (se σ) n R j 4 ≤ va_up (se σ) n R j 2) ∧ (j + 1 = mn σ → va_up (se σ) n R j 0 ≠ 1 → va_up (se σ) n R j 1 + va_up (se σ) n R j 2 + va_up (se σ) n R j 4 ≤ 240) ∧ va_up (se σ) n R j 1 + va_up (se σ) n R j 2 ≤ nx σ + y
    by_cases e0 : j = n
    · rw [q1 j e0, R0, R1, R2, R3, R4]
      have := hrow.2.2.2.2.2.2.1 hn h1
      omega
    · rw [q2 j e0]
      have := h.row hj2
      omega
  · have hj2 : j < mn σ := hj
    have hf2 : en σ j k = some f := hf
    obtain ⟨b1, b2, b3, b4⟩ := h.ent hj2 hk hf2
    refine ⟨b1, b2, ?_⟩
    show va_up (se σ) n R f.2.2 1 + va_up (se σ) n R f.2.2 3 ≤ f.1 ∧ f.1 + f.2.1 + (if va_up (se σ) n R f.2.2 0 = 1 then va_up (se σ) n R f.2.2 4 else 0) ≤ va_up (se σ) n R f.2.2 1 + va_up (se σ) n R f.2.2 2
    by_cases e0 : f.2.2 = n
    · rw [q1 _ e0, R0, R1, R2, R3, R4]
      rw [e0] at b3 b4
      rw [if_neg h1] at b4
      refine ⟨b3, ?_⟩
      rcases hx with ⟨ex, ey⟩ | ⟨ex, ey⟩
      · rw [if_pos ex]; omega
      · rw [if_neg (by omega)]; omega
    · rw [q2 _ e0]
      exact ⟨b3, b4⟩
theorem Inv.leadOut {σ : St} (h : Inv σ) {n : Nat} (hn : n + 1 = mn σ) (h1 : se σ n 0 ≠ 1) : Inv (leadOut σ n).2 := h.shut (x := 1) (y := se σ n 4) hn h1 (Or.inl ⟨rfl, rfl⟩)
theorem Inv.close {σ : St} (h : Inv σ) : Inv (spClose σ).2 := by
  unfold spClose
  split
  · exact h
  · next n hn => exact h.leadOut (opn_some hn).1 (by rw [(opn_some hn).2]; decide)
theorem va_up_same2 (f : Nat → Nat) (k : Nat) : va_up f k (f k + 0) = f := up_same rfl
theorem Inv.eject {σ : St} (h : Inv σ) : Inv (spEject σ).2 := by
  unfold spEject
  split
  · exact h
  · next n hn =>
    have h2 := h.shut (x := 2) (y := 0) (opn_some hn).1 (by rw [(opn_some hn).2]; decide) (Or.inr ⟨rfl, rfl⟩)
    rw [va_up_same2] at h2
    exact h2
theorem Inv.repair {σ : St} (h : Inv σ) (x : Int) : Inv (spRepair σ x).2 := by
  unfold spRepair
  split
  · exact h
  · next h0 =>
    split
    · next h1 => exact h.leadOut (by omega) (by omega)
    · exact h
theorem Inv.damage {σ : St} (h : Inv σ) (x : Int) : Inv (spDamage σ x).2 := by
  unfold spDamage
  split
  · exact h
  · exact h
theorem Inv.set {σ : St} (h : Inv σ) (x y : Int) : Inv (spSet σ x y).2 := by
  unfold spSet
  split
  · exact h
  · split
    · split
      · exact ⟨h.1, h.2.1, (show 2 ≤ y.toNat ∧ y.toNat ≤ 9 by omega), h.2.2.2⟩
      · exact h
    · split
      · exact ⟨h.1, h.2.1, h.2.2.1, (show 1 ≤ y.toNat ∧ y.toNat ≤ 9 by omega), h.2.2.2.2⟩
      · exact h
theorem Inv.remove {σ : St} (h : Inv σ) (x : Int) : Inv (spRemove σ x).2 := by
  unfold spRemove
  split
  · exact h
  · split
    · exact h
    · next n hn =>
      split
      · refine h.tab (fun j k f hj hk hf => ⟨j, Nat.le_refl _, ?_⟩)
        by_cases e : j = n
        · subst e
          rw [up_s] at hf
          by_cases e2 : k = x.toNat
          · subst e2; rw [up_s] at hf; cases hf
          · rw [up_n e2] at hf; exact hf
        · rw [up_n e] at hf; exact hf
      · exact h
theorem Inv.keep {σ : St} (h : Inv σ) (x y : Int) : Inv (spKeep σ x y).2 := by
  unfold spKeep
  split
  · exact h
  · next h0 =>
    split
    · exact h
    · next n hn =>
      split
      · split
        · exact h
        · next g hg =>
          refine h.tab (fun j k f hj hk hf => ?_)
          by_cases e : j = n
          · subst e
            rw [up_s] at hf
            by_cases e2 : k = x.toNat
            · subst e2; rw [up_s] at hf; cases hf
              exact ⟨y.toNat, by have := (opn_some hn).1; omega, hg⟩
            · rw [up_n e2] at hf; exact ⟨j, Nat.le_refl _, hf⟩
          · rw [up_n e] at hf; exact ⟨j, Nat.le_refl _, hf⟩
      · exact h
theorem Inv.write {σ : St} (h : Inv σ) (x y : Int) : Inv (spWrite σ x y).2 := by
  unfold spWrite
  split
  · exact h
  next h0 =>
  split
  · exact h
  next h1 =>
  split
  · exact h
  next n hn =>
  split
  · exact h
  next h2 =>
  obtain ⟨hn1, hn0⟩ := opn_some hn
  have hrow := h.row (n := n) (by omega)
  have hlast := h.last n hn1
  generalize hz : y.toNat = z at *
  generalize hw : x.toNat = w at *
  have hz1 : 1 ≤ z ∧ z ≤ 40 := by omega
  have R0 : va_up (va_up (se σ n) 2 (se σ n 2 + z)) 5 (se σ n 5 + 1) 0 = se σ n 0 := rfl
  have R1 : va_up (va_up (se σ n) 2 (se σ n 2 + z)) 5 (se σ n 5 + 1) 1 = se σ n 1 := rfl
  have R2 : va_up (va_up (se σ n) 2 (se σ n 2 + z)) 5 (se σ n 5 + 1) 2 = se σ n 2 + z := rfl
  have R3 : va_up (va_up (se σ n) 2 (se σ n 2 + z)) 5 (se σ n 5 + 1) 3 = se σ n 3 := rfl
  have R4 : va_up (va_up (se σ n) 2 (se σ n 2 + z)) 5 (se σ n 5 + 1) 4 = se σ n 4 := rfl
  generalize va_up (va_up (se σ n) 2 (se σ n 2 + z)) 5 (se σ n 5 + 1) = R at R0 R1 R2 R3 R4 ⊢
  have q1 : ∀ j, j = n → va_up (se σ) n R j = R := fun j e => by rw [e]; exact up_s
  have q2 : ∀ j, j ≠ n → va_up (se σ) n R j = se σ j := fun j e => up_n e
  have ent : ∀ j k f, va_up (en σ) n (va_up (en σ n) w (some (nx σ, z, n))) j k = some f → (j = n ∧ k = w ∧ f = (nx σ, z, n)) ∨ en σ j k = some f := by
    intro j k f hf
    by_cases e : j = n
    · subst e
      rw [up_s] at hf
      by_cases e2 : k = w
      · subst e2; rw [up_s] at hf; cases hf; exact Or.inl ⟨rfl, rfl, rfl⟩
      · rw [up_n e2] at hf; exact Or.inr hf
    · rw [up_n e] at hf; exact Or.inr hf
  refine Inv.build h.mn12 (show nx σ + z ≤ 240 by omega) h.s0b h.s1b (fun e => ?_) (fun e => ?_) (fun j hj => ?_) (fun j hj => ?_) (fun j hj => ?_) (fun j k f hj hk hf => ?_) (fun j j' k k' f f' hj hj' hk hk' hkk hf hf' => ?_)
  · have e2 : mn σ = 0 := e
    omega
  · show va_up (se σ) n R 0 1 = 0
    by_cases e0 : 0 = n
    · rw [q1 0 e0, R1, ← e0]; exact h.first e
    · rw [q2 0 e0]; exact h.first e
  · have hj2 : j + 1 < mn σ := hj
    show va_up (se σ) n R j 1 + va_up (se σ) n R j 2 = va_up (se σ) n R (j + 1) 1
    rw [q2 j (by omega)]
    by_cases e0 : j + 1 = n
    · rw [q1 _ e0, R1, ← e0]; exact h.cont j hj2
    · rw [q2 _ e0]; exact h.cont j hj2
  · have hj2 : j + 1 = mn σ := hj
    show va_up (se σ) n R j 1 + va_up (se σ) n R j 2 = nx σ + z
    rw [q1 j (by omega), R1, R2]
    omega
  · have hj2 : j < mn σ := hj
    show va_up (se σ) n R j 0 ≤ 2 ∧ (va_up (se σ) n R j 0 = 0 → j + 1 = mn σ) ∧ (2 ≤ va_up (se σ) n R j 3 ∧ va_up (se σ) n R j 3 ≤ 9) ∧ (1 ≤ va_up (se σ) n R j 4 ∧ va_up (se σ) n R j 4 ≤ 9) ∧ va_up (se σ) n R j 3 ≤ va_up (se σ) n R j 2 ∧ (va_up (se σ) n R j 0 = 1 → va_up (se σ) n R j 3 + va_up (se σ) n R j 4 ≤ va_up (se σ) n R j 2) ∧ (j + 1 = mn σ → va_up (se σ) n R j 0 ≠ 1 → va_up (se σ) n R j 1 + va_up (se σ) n R j 2 + va_up (se σ) n R j 4 ≤ 240) ∧ va_up (se σ) n R j 1 + va_up (se σ) n R j 2 ≤ nx σ + z
    by_cases e0 : j = n
    · rw [q1 j e0, R0, R1, R2, R3, R4]
      omega
    · rw [q2 j e0]
      have := h.row hj2
      omega
  · have hj2 : j < mn σ := hj
    show f.2.2 ≤ j ∧ (1 ≤ f.2.1 ∧ f.2.1 ≤ 40) ∧ va_up (se σ) n R f.2.2 1 + va_up (se σ) n R f.2.2 3 ≤ f.1 ∧ f.1 + f.2.1 + (if va_up (se σ) n R f.2.2 0 = 1 then va_up (se σ) n R f.2.2 4 else 0) ≤ va_up (se σ) n R f.2.2 1 + va_up (se σ) n R f.2.2 2
    rcases ent j k f hf with ⟨e1, e2, e3⟩ | hf2
    · subst e3
      show n ≤ j ∧ (1 ≤ z ∧ z ≤ 40) ∧ va_up (se σ) n R n 1 + va_up (se σ) n R n 3 ≤ nx σ ∧ nx σ + z + (if va_up (se σ) n R n 0 = 1 then va_up (se σ) n R n 4 else 0) ≤ va_up (se σ) n R n 1 + va_up (se σ) n R n 2
      rw [q1 n rfl, R0, R1, R2, R3, R4, if_neg (by omega)]
      omega
    · obtain ⟨b1, b2, b3, b4⟩ := h.ent hj2 hk hf2
      refine ⟨b1, b2, ?_⟩
      by_cases e0 : f.2.2 = n
      · rw [q1 _ e0, R0, R1, R2, R3, R4, if_neg (by omega)]
        rw [e0] at b3 b4
        rw [if_neg (by omega)] at b4
        omega
      · rw [q2 _ e0]
        exact ⟨b3, b4⟩
  · rcases ent j k f hf with ⟨e1, e2, e3⟩ | hf2
    · rcases ent j' k' f' hf' with ⟨e4, e5, e6⟩ | hf3
      · omega
      · have := (h.ent2 hj' hk' hf3).1
        subst e3
        exact Or.inr this
    · rcases ent j' k' f' hf' with ⟨e4, e5, e6⟩ | hf3
      · have := (h.ent2 hj hk hf2).1
        subst e6
        exact Or.inl this
      · exact h.pair hj hj' hk hk' hkk hf2 hf3
theorem Inv.begin {σ : St} (h : Inv σ) (x : Int) : Inv (spBegin σ x).2 := by
  unfold spBegin
  split
  · exact h
  next h0 =>
  split
  · exact h
  next h1 =>
  split
  · exact h
  next h2 =>
  have hop : opn σ = none := by
    cases ho : opn σ with
    | none => rfl
    | some n => rw [ho] at h1; exact absurd rfl h1
  have hno : ∀ n, n < mn σ → se σ n 0 ≠ 0 := fun n hn e => by
    have h4 := (h.row hn).2.1 e
    rw [opn_of h4 e] at hop
    cases hop
  have i3 := h.s0b
  have i4 := h.s1b
  generalize hR : (fun w => if w = 1 then nx σ else if w = 2 then s0 σ else if w = 3 then s0 σ else if w = 4 then s1 σ else 0) = R
  have R0 : R 0 = 0 := by rw [← hR]; rfl
  have R1 : R 1 = nx σ := by rw [← hR]; rfl
  have R2 : R 2 = s0 σ := by rw [← hR]; rfl
  have R3 : R 3 = s0 σ := by rw [← hR]; rfl
  have R4 : R 4 = s1 σ := by rw [← hR]; rfl
  have q1 : ∀ j, j = mn σ → va_up (se σ) (mn σ) R j = R := fun j e => by rw [e]; exact up_s
  have q2 : ∀ j, j ≠ mn σ → va_up (se σ) (mn σ) R j = se σ j := fun j e => up_n e
  have ent : ∀ j k f, j < mn σ + 1 → va_up (en σ) (mn σ) (fun k => if x = 1 then foundF σ k else none) j k = some f → ∃ n0, n0 ≤ j ∧ n0 < mn σ ∧ en σ n0 k = some f := by
    intro j k f hj hf
    by_cases e : j = mn σ
    · rw [e, up_s] at hf
      have hf2 : (if x = 1 then foundF σ k else none) = some f := hf
      by_cases hx : x = 1
      · rw [if_pos hx] at hf2
        unfold foundF at hf2
        cases hv : validD σ (dm σ) with
        | none => rw [hv] at hf2; cases hf2
        | some v => rw [hv] at hf2; have := validD_lt hv; exact ⟨v, by omega, this, hf2⟩
      · rw [if_neg hx] at hf2; cases hf2
    · rw [up_n e] at hf
      exact ⟨j, Nat.le_refl _, by omega, hf⟩
  refine Inv.build (show mn σ + 1 ≤ 12 by omega) (show nx σ + s0 σ ≤ 240 by omega) i3 i4 (fun e => ?_) (fun e => ?_) (fun j hj => ?_) (fun j hj => ?_) (fun j hj => ?_) (fun j k f hj hk hf => ?_) (fun j j' k k' f f' hj hj' hk hk' hkk hf hf' => ?_)
  · exact absurd e (Nat.succ_ne_zero _)
  · show va_up (se σ) (mn σ) R 0 1 = 0
    by_cases e0 : 0 = mn σ
    · rw [q1 0 e0, R1]; exact h.nx0 e0.symm
    · rw [q2 0 e0]; exact h.first (by omega)
  · have hj2 : j + 1 < mn σ + 1 := hj
    show va_up (se σ) (mn σ) R j 1 + va_up (se σ) (mn σ) R j 2 = va_up (se σ) (mn σ) R (j + 1) 1
    rw [q2 j (by omega)]
    by_cases e0 : j + 1 = mn σ
    · rw [q1 _ e0, R1]; exact h.last j e0
    · rw [q2 _ e0]; exact h.cont j (by omega)
  · have hj2 : j + 1 = mn σ + 1 := hj
    show va_up (se σ) (mn σ) R j 1 + va_up (se σ) (mn σ) R j 2 = nx σ + s0 σ
    rw [q1 j (by omega), R1, R2]
  · have hj2 : j < mn σ + 1 := hj
    show va_up (se σ) (mn σ) R j 0 ≤ 2 ∧ (va_up (se σ) (mn σ) R j 0 = 0 → j + 1 = mn σ + 1) ∧ (2 ≤ va_up (se σ) (mn σ) R j 3 ∧ va_up (se σ) (mn σ) R j 3 ≤ 9) ∧ (1 ≤ va_up (se σ) (mn σ) R j 4 ∧ va_up (se σ) (mn σ) R j 4 ≤ 9) ∧ va_up (se σ) (mn σ) R j 3 ≤ va_up (se σ) (mn σ) R j 2 ∧ (va_up (se σ) (mn σ) R j 0 = 1 → va_up (se σ) (mn σ) R j 3 + va_up (se σ) (mn σ) R j 4 ≤ va_up (se σ) (mn σ) R j 2) ∧ (j + 1 = mn σ + 1 → va_up (se σ) (mn σ) R j 0 ≠ 1 → va_up (se σ) (mn σ) R j 1 + va_up (se σ) (mn σ) R j 2 + va_up (se σ) (mn σ) R j 4 ≤ 240) ∧ va_up (se σ) (mn σ) R j 1 + va_up (se σ) (mn σ) R j 2 ≤ nx σ + s0 σ
    by_cases e0 : j = mn σ
    · rw [q1 j e0, R0, R1, R2, R3, R4]
      omega
    · rw [q2 j e0]
      have h5 := h.row (n := j) (by omega)
      have h6 := hno j (by omega)
      omega
  · have hj2 : j < mn σ + 1 := hj
    obtain ⟨n0, a1, a2, a3⟩ := ent j k f hj2 hf
    obtain ⟨b1, b2, b3, b4⟩ := h.ent a2 hk a3
    show f.2.2 ≤ j ∧ (1 ≤ f.2.1 ∧ f.2.1 ≤ 40) ∧ va_up (se σ) (mn σ) R f.2.2 1 + va_up (se σ) (mn σ) R f.2.2 3 ≤ f.1 ∧ f.1 + f.2.1 + (if va_up (se σ) (mn σ) R f.2.2 0 = 1 then va_up (se σ) (mn σ) R f.2.2 4 else 0) ≤ va_up (se σ) (mn σ) R f.2.2 1 + va_up (se σ) (mn σ) R f.2.2 2
    rw [q2 f.2.2 (by omega)]
    exact ⟨by omega, b2, b3, b4⟩
  · obtain ⟨n0, a1, a2, a3⟩ := ent j k f hj hf
    obtain ⟨n1, c1, c2, c3⟩ := ent j' k' f' hj' hf'
    exact h.pair a2 c2 hk hk' hkk a3 c3
theorem Inv.cmd {σ : St} (h : Inv σ) (q : Int × Nat × Nat) : Inv (spCmd σ q).2 := by
  unfold spCmd
  split
  · exact h.begin _
  split
  · exact h.write _ _
  split
  · exact h.remove _
  split
  · exact h.keep _ _
  split
  · exact h.close
  split
  · exact h.eject
  · exact h.damage _
theorem Inv.sig0 : Inv sig0 := by
  refine Inv.build (show 0 ≤ 12 by decide) (show 0 ≤ 240 by decide) (show 2 ≤ 4 ∧ 4 ≤ 9 by decide) (show 1 ≤ 3 ∧ 3 ≤ 9 by decide) (fun _ => rfl) (fun h => absurd h (Nat.lt_irrefl 0)) (fun n h => absurd h (Nat.not_lt_zero _)) (fun n h => absurd h (Nat.succ_ne_zero n)) (fun n h => absurd h (Nat.not_lt_zero n)) (fun n k f h => absurd h (Nat.not_lt_zero n)) (fun n n' k k' f f' h => absurd h (Nat.not_lt_zero n))
