/-! the most harmful sector: the class's own way, and the way over all sectors -/
theorem dmH_ne {σ : St} {k j : Nat} (h : ¬ j = k) : dmH σ (k : Int) j = dm σ j := by
  have h2 : ¬ ((j : Int) = (k : Int)) := by omega
  simp [dmH, h2]
theorem wholeB_dm {σ : St} {k a c : Nat} (h : wholeB (dmH σ (k : Int)) a c = true) : wholeB (dm σ) a c = true := by
  rw [wholeB_iff] at h ⊢
  intro j h1 h2
  have h3 := h j h1 h2
  unfold dmH at h3
  exact (Bool.or_eq_false_iff.mp h3).1
theorem wholeB_off {σ : St} {k a c : Nat} (h : ¬ (a ≤ k ∧ k < a + c)) : wholeB (dmH σ (k : Int)) a c = wholeB (dm σ) a c := wholeB_congr (fun j h1 h2 => dmH_ne (by omega))
theorem wholeB_on {σ : St} {k a c : Nat} (h1 : a ≤ k) (h2 : k < a + c) : wholeB (dmH σ (k : Int)) a c = false := wholeB_f h1 h2 (dmH_h rfl)
theorem readB_dm {σ : St} {k j : Nat} (h : readB σ (dmH σ (k : Int)) j = true) : readB σ (dm σ) j = true := by
  unfold readB at h ⊢
  rw [Bool.and_eq_true] at h ⊢
  exact ⟨h.1, wholeB_dm h.2⟩
theorem valid_off {σ : St} {n k : Nat} (hv : validD σ (dm σ) = some n) (h : ¬ (se σ n 1 ≤ k ∧ k < se σ n 1 + se σ n 3)) : validD σ (dmH σ (k : Int)) = some n := by
  have h1 := lastB_some.mp hv
  refine lastB_some.mpr ⟨h1.1, ?_, fun j h2 h3 => ?_⟩
  · have h4 := h1.2.1
    unfold readB at h4 ⊢
    rw [wholeB_off h]
    exact h4
  · have h4 := h1.2.2 j h2 h3
    cases hr : readB σ (dmH σ (k : Int)) j with
    | false => rfl
    | true => rw [readB_dm hr] at h4; cases h4
theorem F_off {σ : St} {n k : Nat} (hv : validD σ (dm σ) = some n) (h : ¬ (se σ n 1 ≤ k ∧ k < se σ n 1 + se σ n 3)) : hurtCnt σ k = cntB (fun j => intactO (dmH σ (k : Int)) (en σ n j)) 20 := by
  simp only [hurtCnt, cntIntact, valid_off hv h]
theorem F_lead {σ : St} (hI : Inv σ) {n k k' : Nat} (hv : validD σ (dm σ) = some n) (h : se σ n 1 ≤ k ∧ k < se σ n 1 + se σ n 3) (h' : se σ n 1 ≤ k' ∧ k' < se σ n 1 + se σ n 3) : hurtCnt σ k = hurtCnt σ k' := by
  have hn := validD_lt hv
  have hrow := hI.row hn
  have e : validD σ (dmH σ (k : Int)) = validD σ (dmH σ (k' : Int)) := lastB_congr (fun j hj => by
    by_cases hjn : j = n
    · subst hjn
      unfold readB
      rw [wholeB_on h.1 h.2, wholeB_on h'.1 h'.2]
    · have hrj := hI.row hj
      have hd : se σ j 1 + se σ j 2 ≤ se σ n 1 ∨ se σ n 1 + se σ n 2 ≤ se σ j 1 := by
        rcases Nat.lt_or_gt_of_ne hjn with q | q
        · exact Or.inl (hI.apart q hn)
        · exact Or.inr (hI.apart q hj)
      unfold readB
      rw [wholeB_off (by omega), wholeB_off (by omega)])
  unfold hurtCnt cntIntact
  rw [e]
  cases he : validD σ (dmH σ (k' : Int)) with
  | none => rfl
  | some q =>
    have hq := lastB_some.mp he
    have hqn : q < n := by
      rcases Nat.lt_trichotomy q n with h9 | h9 | h9
      · exact h9
      · exfalso
        have h8 := hq.2.1
        rw [h9] at h8
        unfold readB at h8
        rw [wholeB_on h'.1 h'.2, Bool.and_false] at h8
        cases h8
      · exfalso
        have h8 := (lastB_some.mp hv).2.2 q h9 hq.1
        rw [readB_dm hq.2.1] at h8
        cases h8
    refine cntB_congr (fun j hj => ?_)
    cases hf : en σ q j with
    | none => rfl
    | some f =>
      have h1 := hI.ent hq.1 hj hf
      have h2 := hI.apart (n := f.2.2) (n' := n) (by omega) hn
      have h3 : f.1 + f.2.1 ≤ se σ f.2.2 1 + se σ f.2.2 2 := by
        have h4 := h1.2.2.2
        split at h4 <;> omega
      show wholeB _ f.1 f.2.1 = wholeB _ f.1 f.2.1
      rw [wholeB_off (by omega), wholeB_off (by omega)]
theorem cntB_mono {p q : Nat → Bool} : ∀ {N : Nat}, (∀ k, k < N → p k = true → q k = true) → cntB p N ≤ cntB q N
  | 0, _ => Nat.le_refl _
  | N + 1, h => by
    have ih := cntB_mono (N := N) (fun k hk => h k (by omega))
    have h1 := h N (by omega)
    rw [cntB, cntB]
    cases hp : p N with
    | false =>
      show cntB p N + 0 ≤ cntB q N + _
      omega
    | true => rw [h1 hp]; omega
/-- a file of the valid session lies outside that session's lead-in -/
theorem file_out {σ : St} (hI : Inv σ) {n j : Nat} {f : Fil} (hn : n < mn σ) (hj : j < 20) (hf : en σ n j = some f) : ∀ k, f.1 ≤ k → k < f.1 + f.2.1 → ¬ (se σ n 1 ≤ k ∧ k < se σ n 1 + se σ n 3) := by
  intro k h1 h2 h3
  have h4 := hI.ent hn hj hf
  have h5 : f.1 + f.2.1 ≤ se σ f.2.2 1 + se σ f.2.2 2 := by
    have h6 := h4.2.2.2
    split at h6 <;> omega
  by_cases he : f.2.2 = n
  · have h7 := h4.2.2.1
    rw [he] at h7
    omega
  · have h8 := hI.apart (n := f.2.2) (n' := n) (by omega) hn
    omega
theorem cover {σ : St} (hI : Inv σ) {n : Nat} (hv : validD σ (dm σ) = some n) (k : Nat) : ∃ x, x ≤ k ∧ hurtCnt σ x ≤ hurtCnt σ k ∧ (x = 0 ∨ x = se σ n 1 ∨ ∃ j f, j < 20 ∧ en σ n j = some f ∧ x = f.1) := by
  have hn := validD_lt hv
  have hrow := hI.row hn
  by_cases hl : se σ n 1 ≤ k ∧ k < se σ n 1 + se σ n 3
  · exact ⟨se σ n 1, hl.1, Nat.le_of_eq (F_lead hI hv (by omega) hl), Or.inr (Or.inl rfl)⟩
  · by_cases hfe : ∃ j f, j < 20 ∧ en σ n j = some f ∧ f.1 ≤ k ∧ k < f.1 + f.2.1
    · obtain ⟨j, f, hj, hf, h1, h2⟩ := hfe
      refine ⟨f.1, h1, ?_, Or.inr (Or.inr ⟨j, f, hj, hf, rfl⟩)⟩
      have hb := hI.ent2 hn hj hf
      rw [F_off hv hl, F_off hv (file_out hI hn hj hf f.1 (Nat.le_refl _) (by omega))]
      refine Nat.le_of_eq (cntB_congr (fun i hi => ?_))
      cases hg : en σ n i with
      | none => rfl
      | some f2 =>
        show wholeB _ f2.1 f2.2.1 = wholeB _ f2.1 f2.2.1
        by_cases hij : i = j
        · rw [hij, hf] at hg
          cases hg
          rw [wholeB_on (Nat.le_refl _) (by omega), wholeB_on h1 h2]
        · have hd := hI.2.2.2.2.2.2.2.2.2.2 n n i j f2 f hn hn hi hj hij hg hf
          rw [wholeB_off (by omega), wholeB_off (by omega)]
    · refine ⟨0, Nat.zero_le _, ?_, Or.inl rfl⟩
      rw [F_off hv hl]
      have hbase : cntB (fun j => intactO (dmH σ (k : Int)) (en σ n j)) 20 = cntB (fun j => intactO (dm σ) (en σ n j)) 20 := cntB_congr (fun i hi => by
        cases hg : en σ n i with
        | none => rfl
        | some f2 =>
          show wholeB _ f2.1 f2.2.1 = wholeB _ f2.1 f2.2.1
          rw [wholeB_off (fun h9 => hfe ⟨i, f2, hi, hg, h9.1, h9.2⟩)])
      rw [hbase]
      by_cases h0 : se σ n 1 ≤ 0 ∧ 0 < se σ n 1 + se σ n 3
      · have hn0 : n = 0 := by
          rcases Nat.eq_zero_or_pos n with h9 | h9
          · exact h9
          · exfalso
            have h8 := hI.apart h9 hn
            have h7 := hI.row (n := 0) (by omega)
            omega
        have hz : validD σ (dmH σ ((0 : Nat) : Int)) = none := lastB_none.mpr (fun j hj => by
          cases hr : readB σ (dmH σ ((0 : Nat) : Int)) j with
          | false => rfl
          | true =>
            exfalso
            by_cases hj0 : j = n
            · rw [hj0] at hr
              unfold readB at hr
              rw [wholeB_on h0.1 h0.2, Bool.and_false] at hr
              cases hr
            · have h8 := (lastB_some.mp hv).2.2 j (by omega) hj
              rw [readB_dm hr] at h8
              cases h8)
        have hz2 : hurtCnt σ 0 = 0 := by simp only [hurtCnt, cntIntact, hz]
        omega
      · rw [F_off hv h0]
        refine cntB_mono (fun i hi h9 => ?_)
        cases hg : en σ n i with
        | none => rw [hg] at h9; cases h9
        | some f2 => rw [hg] at h9; exact wholeB_dm h9
def bet (f : Nat → Nat) (x y : Nat) : Prop := f x < f y ∨ (f x = f y ∧ x ≤ y)
theorem mh_bet (f : Nat → Nat) (x y : Nat) : (mh f x y = x ∨ mh f x y = y) ∧ bet f (mh f x y) x ∧ bet f (mh f x y) y := by
  unfold mh bet
  by_cases h1 : f x = f y
  · rw [if_pos h1]
    rcases Nat.le_total x y with h2 | h2
    · rw [Nat.min_eq_left h2]; exact ⟨Or.inl rfl, Or.inr ⟨rfl, Nat.le_refl _⟩, Or.inr ⟨h1, h2⟩⟩
    · rw [Nat.min_eq_right h2]; exact ⟨Or.inr rfl, Or.inr ⟨h1.symm, h2⟩, Or.inr ⟨rfl, Nat.le_refl _⟩⟩
  · rw [if_neg h1]
    by_cases h2 : f x < f y
    · rw [if_pos h2]; exact ⟨Or.inl rfl, Or.inr ⟨rfl, Nat.le_refl _⟩, Or.inl h2⟩
    · rw [if_neg h2]; exact ⟨Or.inr rfl, Or.inl (by omega), Or.inr ⟨rfl, Nat.le_refl _⟩⟩
theorem bet_tr {f : Nat → Nat} {x y z : Nat} (h1 : bet f x y) (h2 : bet f y z) : bet f x z := by
  unfold bet at *
  omega
theorem mhF_min {σ : St} {n : Nat} : ∀ N, (mhF σ n N = 0 ∨ mhF σ n N = se σ n 1 ∨ ∃ j f, j < N ∧ en σ n j = some f ∧ mhF σ n N = f.1) ∧ bet (hurtCnt σ) (mhF σ n N) 0 ∧ bet (hurtCnt σ) (mhF σ n N) (se σ n 1) ∧ ∀ j f, j < N → en σ n j = some f → bet (hurtCnt σ) (mhF σ n N) f.1
  | 0 => by
    have h := mh_bet (hurtCnt σ) 0 (se σ n 1)
    exact ⟨h.1.elim Or.inl (fun q => Or.inr (Or.inl q)), h.2.1, h.2.2, fun j f hj => absurd hj (Nat.not_lt_zero j)⟩
  | N + 1 => by
    have ih := @mhF_min σ n N
    rw [mhF]
    cases hf : en σ n N with
    | none =>
      refine ⟨?_, ih.2.1, ih.2.2.1, fun j f hj he => ?_⟩
      · rcases ih.1 with h | h | ⟨j, f, h1, h2, h3⟩
        · exact Or.inl h
        · exact Or.inr (Or.inl h)
        · exact Or.inr (Or.inr ⟨j, f, by omega, h2, h3⟩)
      · by_cases hjN : j = N
        · rw [hjN, hf] at he; cases he
        · exact ih.2.2.2 j f (by omega) he
    | some g =>
      have h := mh_bet (hurtCnt σ) (mhF σ n N) g.1
      refine ⟨?_, bet_tr h.2.1 ih.2.1, bet_tr h.2.1 ih.2.2.1, fun j f hj he => ?_⟩
      · rcases h.1 with h9 | h9
        · rcases ih.1 with h8 | h8 | ⟨j, f, h1, h2, h3⟩
          · exact Or.inl (h9.trans h8)
          · exact Or.inr (Or.inl (h9.trans h8))
          · exact Or.inr (Or.inr ⟨j, f, by omega, h2, h9.trans h3⟩)
        · exact Or.inr (Or.inr ⟨N, g, by omega, hf, h9⟩)
      · by_cases hjN : j = N
        · rw [hjN, hf] at he; cases he; exact h.2.2
        · exact bet_tr h.2.1 (ih.2.2.2 j f (by omega) he)
theorem worstA_min {f : Nat → Nat} (hf : ∀ k, f k ≤ 20) : ∀ N, (worstA f (N + 1)).2 = f (worstA f (N + 1)).1 ∧ (worstA f (N + 1)).1 < N + 1 ∧ ∀ k, k < N + 1 → bet f (worstA f (N + 1)).1 k
  | 0 => by
    have h0 := hf 0
    have e : worstA f (0 + 1) = (0, f 0) := by
      rw [worstA_1 (c := f 0) rfl, if_pos (show f 0 < (worstA f 0).2 by show f 0 < 21; omega)]
    rw [e]
    exact ⟨rfl, Nat.zero_lt_one, fun k hk => by rw [show k = 0 by omega]; exact Or.inr ⟨rfl, Nat.le_refl _⟩⟩
  | N + 1 => by
    have ih := worstA_min hf N
    rw [worstA_1 (f := f) (k := N + 1) (c := f (N + 1)) rfl]
    by_cases h : f (N + 1) < (worstA f (N + 1)).2
    · rw [if_pos h]
      refine ⟨rfl, Nat.lt_succ_self _, fun k hk => ?_⟩
      show bet f (N + 1) k
      by_cases hk2 : k = N + 1
      · rw [hk2]; exact Or.inr ⟨rfl, Nat.le_refl _⟩
      · have h2 := ih.2.2 k (by omega)
        rw [ih.1] at h
        unfold bet at *
        omega
    · rw [if_neg h]
      refine ⟨ih.1, by omega, fun k hk => ?_⟩
      by_cases hk2 : k = N + 1
      · rw [hk2]
        rw [ih.1] at h
        have h3 := ih.2.1
        unfold bet
        omega
      · exact ih.2.2 k (by omega)
theorem worst_eq {σ : St} (hI : Inv σ) : worstN σ = worstH σ := by
  have hle : ∀ k, hurtCnt σ k ≤ 20 := fun k => cntIntact_le σ _
  have ha : (worstA (hurtCnt σ) 240).2 = hurtCnt σ (worstA (hurtCnt σ) 240).1 ∧ (worstA (hurtCnt σ) 240).1 < 240 ∧ ∀ k, k < 240 → bet (hurtCnt σ) (worstA (hurtCnt σ) 240).1 k := worstA_min hle 239
  have hw : worstN σ = (worstA (hurtCnt σ) 240).1 := rfl
  unfold worstH
  cases hv : validD σ (dm σ) with
  | none =>
    have hz : ∀ k, hurtCnt σ k = 0 := fun k => by
      have h1 : validD σ (dmH σ (k : Int)) = none := lastB_none.mpr (fun j hj => by
        cases hr : readB σ (dmH σ (k : Int)) j with
        | false => rfl
        | true =>
          have h2 := lastB_none.mp hv j hj
          rw [readB_dm hr] at h2
          cases h2)
      simp only [hurtCnt, cntIntact, h1]
    have h3 := ha.2.2 0 (by omega)
    unfold bet at h3
    rw [hz, hz] at h3
    show worstN σ = 0
    rw [hw]
    omega
  | some n =>
    show worstN σ = mhF σ n 20
    have hn := validD_lt hv
    have hrow := hI.row hn
    have hnx := hI.nx240
    have hb := @mhF_min σ n 20
    obtain ⟨x, hx1, hx2, hx3⟩ := cover hI hv (worstA (hurtCnt σ) 240).1
    have hbx : bet (hurtCnt σ) (mhF σ n 20) x := by
      rcases hx3 with h | h | ⟨j, f, h1, h2, h3⟩
      · rw [h]; exact hb.2.1
      · rw [h]; exact hb.2.2.1
      · rw [h3]; exact hb.2.2.2 j f h1 h2
    have hb240 : mhF σ n 20 < 240 := by
      rcases hb.1 with h | h | ⟨j, f, h1, h2, h3⟩
      · omega
      · omega
      · have h4 := hI.ent2 hn h1 h2
        omega
    have hab := ha.2.2 (mhF σ n 20) hb240
    rw [hw]
    unfold bet at hab hbx
    omega
