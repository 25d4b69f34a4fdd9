/-! what an action leaves behind -/
def AC (σ : St) (hs : List St) (τ : St) (hs' : List St) : Prop := (τ = σ ∧ hs' = hs) ∨ hs' = recd hs σ
theorem ac_of {σ : St} {hs : List St} {r : Int × St} (hb : r.1 < 0 → r.2 = σ) : AC σ hs r.2 (hsA σ hs r.1) := by
  by_cases h : r.1 < 0
  · exact Or.inl ⟨hb h, if_pos h⟩
  · exact Or.inr (if_neg h)
theorem cnt_up {p q : Nat → Bool} {k : Nat} (h : ∀ j, j ≠ k → q j = p j) : ∀ {N : Nat}, k < N → cntB q N + (if p k then 1 else 0) = cntB p N + (if q k then 1 else 0)
  | 0, hk => absurd hk (Nat.not_lt_zero _)
  | N + 1, hk => by
    rw [cntB, cntB]
    by_cases e : k = N
    · subst e
      rw [cntB_congr (p := q) (q := p) (fun j hj => h j (by omega))]
      omega
    · have ih := cnt_up h (N := N) (by omega)
      rw [h N (by omega)]
      omega
theorem ent_put {T : Nat → Option Fil} {k : Nat} (f : Fil) (hk : k < 20) : cntB (fun j => (va_up T k (some f) j).isSome) 20 + (if (T k).isSome then 1 else 0) = cntB (fun j => (T j).isSome) 20 + 1 := by
  have h := cnt_up (p := fun j => (T j).isSome) (q := fun j => (va_up T k (some f) j).isSome) (k := k) (fun j hj => by show (va_up T k (some f) j).isSome = (T j).isSome; rw [up_n hj]) hk
  have e : (va_up T k (some f) k).isSome = true := by rw [up_s]; rfl
  rw [e, if_pos rfl] at h
  exact h
theorem ent_del {T : Nat → Option Fil} {k : Nat} {f : Fil} (hf : T k = some f) (hk : k < 20) : cntB (fun j => (va_up T k none j).isSome) 20 + 1 = cntB (fun j => (T j).isSome) 20 := by
  have h := cnt_up (p := fun j => (T j).isSome) (q := fun j => (va_up T k none j).isSome) (k := k) (fun j hj => by show (va_up T k none j).isSome = (T j).isSome; rw [up_n hj]) hk
  have e : (va_up T k none k).isSome = false := by rw [up_s]; rfl
  have e2 : (T k).isSome = true := by rw [hf]; rfl
  rw [e, e2, if_pos rfl, if_neg (by decide)] at h
  exact h
/-! write -/
theorem wr_e1 {σ : St} {x y : Int} (h : 20 ≤ x) : spWrite σ x y = (-1, σ) := by unfold spWrite; rw [if_pos (by omega)]
theorem wr_e2 {σ : St} {x y : Int} (h : 0 ≤ x ∧ x < 20) (h2 : y = 0 ∨ y = 41) : spWrite σ x y = (-2, σ) := by unfold spWrite; rw [if_neg (by omega), if_pos (by omega)]
theorem wr_e3 {σ : St} {x y : Int} (h : 0 ≤ x ∧ x < 20) (h2 : 1 ≤ y ∧ y ≤ 40) (ho : opn σ = none) : spWrite σ x y = (-5, σ) := by unfold spWrite; rw [if_neg (by omega), if_neg (by omega), ho]
theorem wr_e4 {σ : St} {x y : Int} {n : Nat} (h : 0 ≤ x ∧ x < 20) (h2 : 1 ≤ y ∧ y ≤ 40) (ho : opn σ = some n) (h3 : 240 < (nx σ : Int) + y + se σ n 4) : spWrite σ x y = (-4, σ) := by
  unfold spWrite
  rw [if_neg (by omega), if_neg (by omega), ho]
  show (if 240 < nx σ + y.toNat + se σ n 4 then _ else _) = _
  rw [if_pos (by omega)]
theorem wr_ok {σ : St} {k z n : Nat} (hk : k < 20) (hz : 1 ≤ z ∧ z ≤ 40) (ho : opn σ = some n) (h3 : nx σ + z + se σ n 4 ≤ 240) : (spWrite σ k z).1 = (nx σ : Int) ∧ nx (spWrite σ k z).2 = nx σ + z ∧ mn (spWrite σ k z).2 = mn σ ∧ vr (spWrite σ k z).2 k = vr σ k + 1 ∧ en (spWrite σ k z).2 n k = some (nx σ, z, n) ∧ entriesN (spWrite σ k z).2 n + (if (en σ n k).isSome then 1 else 0) = entriesN σ n + 1 := by
  have e : spWrite σ k z = ((nx σ : Int), mkS (nx σ + z) (mn σ) (s0 σ) (s1 σ) (dm σ) (va_up (vr σ) k (vr σ k + 1)) (va_up (se σ) n (va_up (va_up (se σ n) 2 (se σ n 2 + z)) 5 (se σ n 5 + 1))) (va_up (en σ) n (va_up (en σ n) k (some (nx σ, z, n))))) := by
    unfold spWrite
    rw [if_neg (by omega), if_neg (by omega), ho, Int.toNat_natCast, Int.toNat_natCast]
    show (if 240 < nx σ + z + se σ n 4 then _ else _) = _
    rw [if_neg (by omega)]
  rw [e]
  refine ⟨rfl, rfl, rfl, up_s, ?_, ?_⟩
  · show va_up (en σ) n (va_up (en σ n) k (some (nx σ, z, n))) n k = _
    rw [up_s, up_s]
  · show cntB (fun j => (va_up (en σ) n (va_up (en σ n) k (some (nx σ, z, n))) n j).isSome) 20 + _ = _
    rw [up_s]
    exact ent_put _ hk
/-! remove -/
theorem rm_e1 {σ : St} {x : Int} (h : 20 ≤ x) : spRemove σ x = (-1, σ) := by unfold spRemove; rw [if_pos (by omega)]
theorem rm_e2 {σ : St} {x : Int} (h : 0 ≤ x ∧ x < 20) (ho : opn σ = none) : spRemove σ x = (-5, σ) := by unfold spRemove; rw [if_neg (by omega), ho]
theorem rm_e3 {σ : St} {k n : Nat} (h : k < 20) (ho : opn σ = some n) (he : en σ n k = none) : spRemove σ k = (-5, σ) := by
  unfold spRemove
  rw [if_neg (by omega), ho, Int.toNat_natCast]
  show (if (en σ n k).isSome then _ else _) = _
  rw [he, if_neg (by decide)]
theorem rm_ok {σ : St} {k n : Nat} {f : Fil} (h : k < 20) (ho : opn σ = some n) (he : en σ n k = some f) : (spRemove σ k).1 = (entriesN σ n : Int) - 1 ∧ nx (spRemove σ k).2 = nx σ ∧ mn (spRemove σ k).2 = mn σ ∧ en (spRemove σ k).2 n k = none := by
  have e : spRemove σ k = ((entriesN (mkS (nx σ) (mn σ) (s0 σ) (s1 σ) (dm σ) (vr σ) (se σ) (va_up (en σ) n (va_up (en σ n) k none))) n : Int), mkS (nx σ) (mn σ) (s0 σ) (s1 σ) (dm σ) (vr σ) (se σ) (va_up (en σ) n (va_up (en σ n) k none))) := by
    unfold spRemove
    rw [if_neg (by omega), ho, Int.toNat_natCast]
    show (if (en σ n k).isSome then _ else _) = _
    rw [he]
    exact if_pos rfl
  rw [e]
  refine ⟨?_, rfl, rfl, ?_⟩
  · have h1 := ent_del he h
    have h2 : entriesN (mkS (nx σ) (mn σ) (s0 σ) (s1 σ) (dm σ) (vr σ) (se σ) (va_up (en σ) n (va_up (en σ n) k none))) n = cntB (fun j => (va_up (en σ n) k none j).isSome) 20 := by
      show cntB (fun j => (va_up (en σ) n (va_up (en σ n) k none) n j).isSome) 20 = _
      rw [up_s]
    have h3 : entriesN σ n = cntB (fun j => (en σ n j).isSome) 20 := rfl
    show ((entriesN (mkS (nx σ) (mn σ) (s0 σ) (s1 σ) (dm σ) (vr σ) (se σ) (va_up (en σ) n (va_up (en σ n) k none))) n : Nat) : Int) = _
    omega
  · show va_up (en σ) n (va_up (en σ n) k none) n k = none
    rw [up_s, up_s]
/-! keep -/
theorem kp_e1 {σ : St} {x y : Int} (h : 20 ≤ x ∨ (mn σ : Int) ≤ y) : spKeep σ x y = (-1, σ) := by unfold spKeep; rw [if_pos (by omega)]
theorem kp_e2 {σ : St} {x y : Int} (h : 0 ≤ x ∧ x < 20) (h2 : 0 ≤ y ∧ y < mn σ) (ho : opn σ = none) : spKeep σ x y = (-5, σ) := by unfold spKeep; rw [if_neg (by omega), ho]
theorem kp_e3 {σ : St} {k m n : Nat} (h : k < 20) (h2 : m < mn σ) (ho : opn σ = some n) (hr : readB σ (dm σ) m = false) : spKeep σ k m = (-5, σ) := by
  unfold spKeep
  rw [if_neg (by omega), ho, Int.toNat_natCast]
  show (if readB σ (dm σ) m then _ else _) = _
  rw [hr, if_neg (by decide)]
theorem kp_e4 {σ : St} {k m n : Nat} (h : k < 20) (h2 : m < mn σ) (ho : opn σ = some n) (he : en σ m k = none) : spKeep σ k m = (-5, σ) := by
  cases hr : readB σ (dm σ) m with
  | false => exact kp_e3 h h2 ho hr
  | true =>
    unfold spKeep
    rw [if_neg (by omega), ho, Int.toNat_natCast]
    show (if readB σ (dm σ) m then _ else _) = _
    rw [hr, if_pos rfl, Int.toNat_natCast, he]
theorem kp_ok {σ : St} {k m n : Nat} {f : Fil} (h : k < 20) (h2 : m < mn σ) (ho : opn σ = some n) (hr : readB σ (dm σ) m = true) (he : en σ m k = some f) : (spKeep σ k m).1 = (f.1 : Int) ∧ mn (spKeep σ k m).2 = mn σ ∧ en (spKeep σ k m).2 n k = some f ∧ en (spKeep σ k m).2 m k = some f ∧ entriesN (spKeep σ k m).2 n + (if (en σ n k).isSome then 1 else 0) = entriesN σ n + 1 := by
  have e : spKeep σ k m = ((f.1 : Int), mkS (nx σ) (mn σ) (s0 σ) (s1 σ) (dm σ) (vr σ) (se σ) (va_up (en σ) n (va_up (en σ n) k (some f)))) := by
    unfold spKeep
    rw [if_neg (by omega), ho, Int.toNat_natCast]
    show (if readB σ (dm σ) m then _ else _) = _
    rw [hr, if_pos rfl, Int.toNat_natCast, he]
  have hne : m ≠ n := by
    intro e2
    subst e2
    unfold readB at hr
    rw [Bool.and_eq_true] at hr
    have h3 := of_decide_eq_true hr.1
    have h4 := (opn_some ho).2
    omega
  rw [e]
  refine ⟨rfl, rfl, ?_, ?_, ?_⟩
  · show va_up (en σ) n (va_up (en σ n) k (some f)) n k = _
    rw [up_s, up_s]
  · show va_up (en σ) n (va_up (en σ n) k (some f)) m k = _
    rw [up_n hne]
    exact he
  · show cntB (fun j => (va_up (en σ) n (va_up (en σ n) k (some f)) n j).isSome) 20 + _ = _
    rw [up_s]
    exact ent_put _ h
/-! the valid session behind an action -/
theorem valid_congr {σ τ : St} {d d' : Nat → Bool} (hm : mn τ = mn σ) (h : ∀ k, k < mn σ → readB τ d' k = readB σ d k) : validD τ d' = validD σ d := by
  unfold validD
  rw [hm]
  exact lastB_congr h
theorem valid_last {τ : St} {n : Nat} (hn : n + 1 = mn τ) : (spValid τ = (n : Int)) ↔ readB τ (dm τ) n = true := by
  unfold spValid validD
  rw [← hn, lastB]
  cases hr : readB τ (dm τ) n with
  | true => rw [if_pos rfl]; exact ⟨fun _ => rfl, fun _ => rfl⟩
  | false =>
    rw [if_neg (by decide)]
    refine ⟨fun h => ?_, fun h => (by cases h)⟩
    cases hl : lastB (readB τ (dm τ)) n with
    | none =>
      rw [hl] at h
      have h2 : (-6 : Int) = (n : Int) := h
      omega
    | some v =>
      rw [hl] at h
      have h2 : ((v : Nat) : Int) = (n : Int) := h
      have h3 := (lastB_some.mp hl).1
      omega
/-! begin -/
theorem bg_e1 {σ : St} {x : Int} (h : x = 2) : spBegin σ x = (-2, σ) := by unfold spBegin; rw [if_pos (by omega)]
theorem bg_e2 {σ : St} {x : Int} {n : Nat} (h : 0 ≤ x ∧ x ≤ 1) (ho : opn σ = some n) : spBegin σ x = (-5, σ) := by unfold spBegin; rw [if_neg (by omega), ho]; exact if_pos rfl
theorem bg_e3 {σ : St} {x : Int} (h : 0 ≤ x ∧ x ≤ 1) (ho : opn σ = none) (h2 : 12 ≤ mn σ ∨ 240 < nx σ + s0 σ + s1 σ) : spBegin σ x = (-4, σ) := by unfold spBegin; rw [if_neg (by omega), ho, if_neg (by decide), if_pos h2]
theorem bg_ok {σ : St} {x : Int} (h : 0 ≤ x ∧ x ≤ 1) (ho : opn σ = none) (h2 : ¬ (12 ≤ mn σ ∨ 240 < nx σ + s0 σ + s1 σ)) :
    (spBegin σ x).1 = (mn σ : Int) ∧ mn (spBegin σ x).2 = mn σ + 1 ∧ (s0 (spBegin σ x).2 = s0 σ ∧ s1 (spBegin σ x).2 = s1 σ) ∧ (se (spBegin σ x).2 (mn σ) 0 = 0 ∧ se (spBegin σ x).2 (mn σ) 1 = nx σ ∧ se (spBegin σ x).2 (mn σ) 2 = s0 σ ∧ se (spBegin σ x).2 (mn σ) 3 = s0 σ ∧ se (spBegin σ x).2 (mn σ) 4 = s1 σ ∧ se (spBegin σ x).2 (mn σ) 5 = 0) ∧
    (x = 0 → entriesN (spBegin σ x).2 (mn σ) = 0) ∧ (validD σ (dm σ) = none → entriesN (spBegin σ x).2 (mn σ) = 0) ∧ (∀ v, x = 1 → validD σ (dm σ) = some v → entriesN (spBegin σ x).2 (mn σ) = entriesN σ v) ∧ spValid (spBegin σ x).2 = spValid σ := by
  generalize hR : (fun w => if w = 1 then nx σ else if w = 2 then s0 σ else if w = 3 then s0 σ else if w = 4 then s1 σ else 0) = R
  have e : spBegin σ x = ((mn σ : Int), mkS (nx σ + s0 σ) (mn σ + 1) (s0 σ) (s1 σ) (dm σ) (vr σ) (va_up (se σ) (mn σ) R) (va_up (en σ) (mn σ) (fun k => if x = 1 then foundF σ k else none))) := by
    unfold spBegin
    rw [if_neg (by omega), ho, if_neg (by decide), if_neg h2, hR]
  have q1 : ∀ j, se (spBegin σ x).2 (mn σ) j = R j := fun j => by
    rw [e]
    show va_up (se σ) (mn σ) R (mn σ) j = R j
    rw [up_s]
  have q2 : entriesN (spBegin σ x).2 (mn σ) = cntB (fun k => (if x = 1 then foundF σ k else none).isSome) 20 := by
    rw [e]
    show cntB (fun k => (va_up (en σ) (mn σ) (fun k => if x = 1 then foundF σ k else none) (mn σ) k).isSome) 20 = _
    rw [up_s]
  have z0 : ∀ p : Nat → Bool, (∀ k, k < 20 → p k = false) → cntB p 20 = 0 := fun p hp => by
    rw [cntB_congr (q := fun _ => false) hp, cntB_false]
  refine ⟨by rw [e], by rw [e]; rfl, ⟨by rw [e]; rfl, by rw [e]; rfl⟩, ⟨by rw [q1, ← hR]; rfl, by rw [q1, ← hR]; rfl, by rw [q1, ← hR]; rfl, by rw [q1, ← hR]; rfl, by rw [q1, ← hR]; rfl, by rw [q1, ← hR]; rfl⟩, fun hx => ?_, fun hv => ?_, fun v hx hv => ?_, ?_⟩
  · rw [q2]
    exact z0 _ (fun k _ => by rw [if_neg (by omega)]; rfl)
  · rw [q2]
    refine z0 _ (fun k _ => ?_)
    by_cases hx : x = 1
    · rw [if_pos hx, found_n hv]; rfl
    · rw [if_neg hx]; rfl
  · rw [q2]
    exact cntB_congr (fun k _ => by rw [if_pos hx, found_v hv])
  · rw [e]
    show oI (lastB (readB (mkS (nx σ + s0 σ) (mn σ + 1) (s0 σ) (s1 σ) (dm σ) (vr σ) (va_up (se σ) (mn σ) R) (va_up (en σ) (mn σ) (fun k => if x = 1 then foundF σ k else none))) (dm σ)) (mn σ + 1)) = oI (lastB (readB σ (dm σ)) (mn σ))
    have r0 : readB (mkS (nx σ + s0 σ) (mn σ + 1) (s0 σ) (s1 σ) (dm σ) (vr σ) (va_up (se σ) (mn σ) R) (va_up (en σ) (mn σ) (fun k => if x = 1 then foundF σ k else none))) (dm σ) (mn σ) = false := by
      show (decide (va_up (se σ) (mn σ) R (mn σ) 0 = 1) && _) = false
      rw [up_s, ← hR]
      rfl
    rw [lastB, r0, if_neg (by decide)]
    refine congrArg oI (lastB_congr (fun k hk => ?_))
    show (decide (va_up (se σ) (mn σ) R k 0 = 1) && wholeB (dm σ) (va_up (se σ) (mn σ) R k 1) (va_up (se σ) (mn σ) R k 3)) = readB σ (dm σ) k
    rw [up_n (by omega)]
    rfl
/-! close, eject, repair -/
theorem cl_e {σ : St} (ho : opn σ = none) : spClose σ = (-5, σ) := by unfold spClose; rw [ho]
theorem lo_ok {σ : St} {n : Nat} (_hn : n + 1 = mn σ) : (leadOut σ n).1 = (nx σ : Int) + se σ n 4 ∧ mn (leadOut σ n).2 = mn σ ∧ nx (leadOut σ n).2 = nx σ + se σ n 4 ∧ se (leadOut σ n).2 n 0 = 1 ∧ (∀ d, readB (leadOut σ n).2 d n = wholeB d (se σ n 1) (se σ n 3)) ∧ dm (leadOut σ n).2 = dm σ := by
  have q : ∀ j, se (leadOut σ n).2 n j = va_up (va_up (se σ n) 2 (se σ n 2 + se σ n 4)) 0 1 j := fun j => by
    show va_up (se σ) n (va_up (va_up (se σ n) 2 (se σ n 2 + se σ n 4)) 0 1) n j = _
    rw [up_s]
  refine ⟨rfl, rfl, rfl, ?_, fun d => ?_, rfl⟩
  · rw [q]; rfl
  · unfold readB
    rw [q, q, q]
    rfl
theorem cl_ok {σ : St} {n : Nat} (ho : opn σ = some n) : spClose σ = leadOut σ n := by unfold spClose; rw [ho]
theorem ej_e {σ : St} (ho : opn σ = none) : spEject σ = (0, σ) := by unfold spEject; rw [ho]
theorem ej_ok {σ : St} {n : Nat} (ho : opn σ = some n) : (spEject σ).1 = 1 ∧ mn (spEject σ).2 = mn σ ∧ nx (spEject σ).2 = nx σ ∧ se (spEject σ).2 n 0 = 2 ∧ spValid (spEject σ).2 = spValid σ := by
  have e : spEject σ = (1, mkS (nx σ) (mn σ) (s0 σ) (s1 σ) (dm σ) (vr σ) (va_up (se σ) n (va_up (se σ n) 0 2)) (en σ)) := by unfold spEject; rw [ho]
  have hn0 := (opn_some ho).2
  rw [e]
  refine ⟨rfl, rfl, rfl, ?_, ?_⟩
  · show va_up (se σ) n (va_up (se σ n) 0 2) n 0 = 2
    rw [up_s, up_s]
  · refine congrArg oI (valid_congr (σ := σ) rfl (fun k hk => ?_))
    show (decide (va_up (se σ) n (va_up (se σ n) 0 2) k 0 = 1) && wholeB (dm σ) (va_up (se σ) n (va_up (se σ n) 0 2) k 1) (va_up (se σ) n (va_up (se σ n) 0 2) k 3)) = readB σ (dm σ) k
    by_cases ek : k = n
    · subst ek
      rw [up_s, up_s]
      unfold readB
      rw [hn0]
      rfl
    · rw [up_n ek]
      rfl
theorem rp_e1 {σ : St} {x : Int} (h : (mn σ : Int) ≤ x) : spRepair σ x = (-1, σ) := by unfold spRepair; rw [if_pos (by omega)]
theorem rp_e2 {σ : St} {n : Nat} (h : n < mn σ) (h2 : ¬ (n + 1 = mn σ ∧ se σ n 0 = 2 ∧ wholeB (dm σ) (se σ n 1) (se σ n 3) = true)) : spRepair σ n = (-5, σ) := by
  unfold spRepair
  rw [if_neg (by omega), Int.toNat_natCast, if_neg]
  rintro ⟨a, b, c⟩
  exact h2 ⟨by omega, a, c⟩
theorem rp_ok {σ : St} {n : Nat} (h1 : n + 1 = mn σ) (h2 : se σ n 0 = 2) (h3 : wholeB (dm σ) (se σ n 1) (se σ n 3) = true) : spRepair σ n = leadOut σ n := by
  unfold spRepair
  rw [if_neg (by omega), Int.toNat_natCast, if_pos ⟨h2, by omega, h3⟩]
/-! damage -/
theorem dg_e {σ : St} {x : Int} (h : 240 ≤ x) : spDamage σ x = (-1, σ) := by unfold spDamage; rw [if_pos (by omega)]
theorem cnt_one {p : Nat → Bool} {k : Nat} : ∀ {N : Nat}, k < N → p k = true → 1 ≤ cntB p N
  | 0, h, _ => absurd h (Nat.not_lt_zero _)
  | N + 1, h, hp => by
    rw [cntB]
    by_cases e : k = N
    · subst e; rw [hp, if_pos rfl]; omega
    · have := cnt_one (p := p) (k := k) (N := N) (by omega) hp
      omega
theorem cnt_drop {p q : Nat → Bool} : ∀ {N : Nat}, (∀ j, j < N → q j = true → p j = true) → (∀ i j, i < N → j < N → p i = true → q i = false → p j = true → q j = false → i = j) → cntB q N ≤ cntB p N ∧ cntB p N ≤ cntB q N + 1
  | 0, _, _ => ⟨Nat.le_refl _, Nat.le_succ _⟩
  | N + 1, h1, h2 => by
    have ih := cnt_drop (p := p) (q := q) (N := N) (fun j hj => h1 j (by omega)) (fun i j hi hj => h2 i j (by omega) (by omega))
    rw [cntB, cntB]
    cases hp : p N with
    | false =>
      cases hq : q N with
      | true => rw [h1 N (by omega) hq] at hp; cases hp
      | false => rw [if_neg (by decide)]; omega
    | true =>
      cases hq : q N with
      | true => rw [if_pos rfl]; omega
      | false =>
        have e : cntB p N = cntB q N := cntB_congr (fun j hj => by
          cases hpj : p j with
          | false =>
            cases hqj : q j with
            | false => rfl
            | true => rw [h1 j (by omega) hqj] at hpj; cases hpj
          | true =>
            cases hqj : q j with
            | true => rfl
            | false =>
              have := h2 j N (by omega) (by omega) hpj hqj hp hq
              omega)
        rw [if_pos rfl, if_neg (by decide)]
        omega
theorem dmH_up (σ : St) (q : Nat) : dmH σ q = va_up (dm σ) q true := by
  funext k
  by_cases e : k = q
  · subst e
    rw [up_s]
    exact dmH_h rfl
  · rw [up_n e]
    cases hd : dm σ k with
    | true => exact dmH_d hd
    | false => exact dmH_n hd (by omega)
theorem dg_ok {σ : St} (hI : Inv σ) {q : Nat} (hq : q < 240) : (1 ≤ (spDamage σ q).1 ∧ (spDamage σ q).1 ≤ 240) ∧ spDamaged (spDamage σ q).2 q = 1 ∧ spValid (spDamage σ q).2 = spValidIf σ q ∧ (spValidIf σ q = spValid σ → spIntactFiles (spDamage σ q).2 ≤ spIntactFiles σ ∧ spIntactFiles σ - 1 ≤ spIntactFiles (spDamage σ q).2) := by
  have e : spDamage σ q = ((cntB (va_up (dm σ) q true) 240 : Int), mkS (nx σ) (mn σ) (s0 σ) (s1 σ) (va_up (dm σ) q true) (vr σ) (se σ) (en σ)) := by
    unfold spDamage
    rw [if_neg (by omega), Int.toNat_natCast]
  have hV : ∀ d, validD (spDamage σ q).2 d = validD σ d := fun d => by rw [e]; rfl
  have hD : dm (spDamage σ q).2 = dmH σ q := by rw [e, dmH_up]; rfl
  have hC : ∀ d, cntIntact (spDamage σ q).2 d = cntIntact σ d := fun d => by rw [e]; rfl
  refine ⟨?_, ?_, ?_, fun hv => ?_⟩
  · rw [e]
    have h1 := cnt_one (p := va_up (dm σ) q true) hq up_s
    have h2 := cntB_le (va_up (dm σ) q true) 240
    show 1 ≤ ((cntB (va_up (dm σ) q true) 240 : Nat) : Int) ∧ ((cntB (va_up (dm σ) q true) 240 : Nat) : Int) ≤ 240
    omega
  · rw [spDam_v hq, hD, dmH_h rfl]
    rfl
  · show oI (validD (spDamage σ q).2 (dm (spDamage σ q).2)) = _
    rw [hV, hD, vif_in σ hq]
  · rw [vif_in σ hq] at hv
    show ((cntIntact (spDamage σ q).2 (dm (spDamage σ q).2) : Nat) : Int) ≤ (cntIntact σ (dm σ) : Nat) ∧ ((cntIntact σ (dm σ) : Nat) : Int) - 1 ≤ (cntIntact (spDamage σ q).2 (dm (spDamage σ q).2) : Nat)
    rw [hC, hD]
    have hv2 : oI (validD σ (dmH σ q)) = oI (validD σ (dm σ)) := hv
    have key : cntIntact σ (dmH σ q) ≤ cntIntact σ (dm σ) ∧ cntIntact σ (dm σ) ≤ cntIntact σ (dmH σ q) + 1 := by
      cases h1 : validD σ (dm σ) with
      | none =>
        have h2 := vif_none (h := (q : Int)) h1
        unfold cntIntact
        rw [h1, h2]
        exact ⟨Nat.le_refl _, Nat.le_succ _⟩
      | some v =>
        have h2 : validD σ (dmH σ q) = some v := by
          rw [h1] at hv2
          cases h3 : validD σ (dmH σ q) with
          | none =>
            rw [h3] at hv2
            have h4 : (-6 : Int) = (v : Int) := hv2
            omega
          | some u =>
            rw [h3] at hv2
            have h4 : ((u : Nat) : Int) = (v : Int) := hv2
            rw [show u = v by omega]
        have hvm := validD_lt h1
        unfold cntIntact
        rw [h1, h2]
        refine cnt_drop (p := fun k => intactO (dm σ) (en σ v k)) (q := fun k => intactO (dmH σ q) (en σ v k)) (fun j hj hj2 => ?_) (fun i j hi hj a1 a2 b1 b2 => ?_)
        · have hj3 : intactO (dmH σ q) (en σ v j) = true := hj2
          show intactO (dm σ) (en σ v j) = true
          cases he : en σ v j with
          | none => rw [he] at hj3; cases hj3
          | some f =>
            rw [he] at hj3
            have hj4 : wholeB (dmH σ q) f.1 f.2.1 = true := hj3
            show wholeB (dm σ) f.1 f.2.1 = true
            refine wholeB_iff.mpr (fun k k1 k2 => ?_)
            have h3 := wholeB_iff.mp hj4 k k1 k2
            cases hd : dm σ k with
            | false => rfl
            | true => rw [dmH_d hd] at h3; cases h3
        · have hit : ∀ k, intactO (dm σ) (en σ v k) = true → intactO (dmH σ q) (en σ v k) = false → ∃ f, en σ v k = some f ∧ f.1 ≤ q ∧ q < f.1 + f.2.1 := by
            intro k c1 c2
            cases he : en σ v k with
            | none => rw [he] at c1; cases c1
            | some f =>
              rw [he] at c1 c2
              have c3 : wholeB (dm σ) f.1 f.2.1 = true := c1
              have c4 : wholeB (dmH σ q) f.1 f.2.1 = false := c2
              refine ⟨f, rfl, ?_⟩
              by_cases hin : f.1 ≤ q ∧ q < f.1 + f.2.1
              · exact hin
              · rw [wholeB_congr (d' := dm σ) (fun j j1 j2 => by
                  cases hd : dm σ j with
                  | true => exact dmH_d hd
                  | false => exact dmH_n hd (by omega)), c3] at c4
                cases c4
          obtain ⟨f, f1, f2, f3⟩ := hit i a1 a2
          obtain ⟨g, g1, g2, g3⟩ := hit j b1 b2
          by_cases eij : i = j
          · exact eij
          · have := hI.pair hvm hvm hi hj eij f1 g1
            omega
    omega
/-! set -/
theorem st_e1 {σ : St} {y : Int} : spSet σ 2 y = (-1, σ) := by unfold spSet; rw [if_pos (by omega)]
theorem st_0b {σ : St} {y : Int} (h : y < 2 ∨ 9 < y) : spSet σ 0 y = (-2, σ) := by unfold spSet; rw [if_neg (by omega), if_pos rfl, if_neg (by omega)]
theorem st_1b {σ : St} {y : Int} (h : y < 1 ∨ 9 < y) : spSet σ 1 y = (-2, σ) := by unfold spSet; rw [if_neg (by omega), if_neg (by decide), if_neg (by omega)]
theorem st_0 {σ : St} {y : Int} (h : 2 ≤ y ∧ y ≤ 9) : (spSet σ 0 y).1 = (s0 σ : Int) ∧ ((s0 (spSet σ 0 y).2 : Nat) : Int) = y := by
  have e : spSet σ 0 y = ((s0 σ : Int), mkS (nx σ) (mn σ) y.toNat (s1 σ) (dm σ) (vr σ) (se σ) (en σ)) := by unfold spSet; rw [if_neg (by omega), if_pos rfl, if_pos h]
  rw [e]
  exact ⟨rfl, by show ((y.toNat : Nat) : Int) = y; omega⟩
theorem st_1 {σ : St} {y : Int} (h : 1 ≤ y ∧ y ≤ 9) : (spSet σ 1 y).1 = (s1 σ : Int) ∧ ((s1 (spSet σ 1 y).2 : Nat) : Int) = y := by
  have e : spSet σ 1 y = ((s1 σ : Int), mkS (nx σ) (mn σ) (s0 σ) y.toNat (dm σ) (vr σ) (se σ) (en σ)) := by unfold spSet; rw [if_neg (by omega), if_neg (by decide), if_pos h]
  rw [e]
  exact ⟨rfl, by show ((y.toNat : Nat) : Int) = y; omega⟩
