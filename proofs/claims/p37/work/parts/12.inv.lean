/-! what holds of every state that a run of calls reaches -/
def Inv (σ : St) : Prop :=
  mn σ ≤ 12 ∧ nx σ ≤ 240 ∧ (2 ≤ s0 σ ∧ s0 σ ≤ 9) ∧ (1 ≤ s1 σ ∧ s1 σ ≤ 9) ∧ (mn σ = 0 → nx σ = 0) ∧ (0 < mn σ → se σ 0 1 = 0) ∧
  (∀ n, n + 1 < mn σ → se σ n 1 + se σ n 2 = se σ (n + 1) 1) ∧ (∀ n, n + 1 = mn σ → se σ n 1 + se σ n 2 = nx σ) ∧
  (∀ n, n < mn σ → se σ n 0 ≤ 2 ∧ (se σ n 0 = 0 → n + 1 = mn σ) ∧ (2 ≤ se σ n 3 ∧ se σ n 3 ≤ 9) ∧ (1 ≤ se σ n 4 ∧ se σ n 4 ≤ 9) ∧ se σ n 3 ≤ se σ n 2 ∧ (se σ n 0 = 1 → se σ n 3 + se σ n 4 ≤ se σ n 2) ∧ (n + 1 = mn σ → se σ n 0 ≠ 1 → se σ n 1 + se σ n 2 + se σ n 4 ≤ 240) ∧ se σ n 1 + se σ n 2 ≤ nx σ) ∧
  (∀ n k f, n < mn σ → k < 20 → en σ n k = some f → f.2.2 ≤ n ∧ (1 ≤ f.2.1 ∧ f.2.1 ≤ 40) ∧ se σ f.2.2 1 + se σ f.2.2 3 ≤ f.1 ∧ f.1 + f.2.1 + (if se σ f.2.2 0 = 1 then se σ f.2.2 4 else 0) ≤ se σ f.2.2 1 + se σ f.2.2 2) ∧
  (∀ n n' k k' f f', n < mn σ → n' < mn σ → k < 20 → k' < 20 → k ≠ k' → en σ n k = some f → en σ n' k' = some f' → f.1 + f.2.1 ≤ f'.1 ∨ f'.1 + f'.2.1 ≤ f.1)
theorem Inv.mn12 {σ : St} (h : Inv σ) : mn σ ≤ 12 := h.1
theorem Inv.nx240 {σ : St} (h : Inv σ) : nx σ ≤ 240 := h.2.1
theorem Inv.s0b {σ : St} (h : Inv σ) : 2 ≤ s0 σ ∧ s0 σ ≤ 9 := h.2.2.1
theorem Inv.s1b {σ : St} (h : Inv σ) : 1 ≤ s1 σ ∧ s1 σ ≤ 9 := h.2.2.2.1
theorem Inv.nx0 {σ : St} (h : Inv σ) : mn σ = 0 → nx σ = 0 := h.2.2.2.2.1
theorem Inv.first {σ : St} (h : Inv σ) : 0 < mn σ → se σ 0 1 = 0 := h.2.2.2.2.2.1
theorem Inv.cont {σ : St} (h : Inv σ) : ∀ n, n + 1 < mn σ → se σ n 1 + se σ n 2 = se σ (n + 1) 1 := h.2.2.2.2.2.2.1
theorem Inv.last {σ : St} (h : Inv σ) : ∀ n, n + 1 = mn σ → se σ n 1 + se σ n 2 = nx σ := h.2.2.2.2.2.2.2.1
theorem Inv.row {σ : St} (h : Inv σ) {n : Nat} (hn : n < mn σ) : se σ n 0 ≤ 2 ∧ (se σ n 0 = 0 → n + 1 = mn σ) ∧ (2 ≤ se σ n 3 ∧ se σ n 3 ≤ 9) ∧ (1 ≤ se σ n 4 ∧ se σ n 4 ≤ 9) ∧ se σ n 3 ≤ se σ n 2 ∧ (se σ n 0 = 1 → se σ n 3 + se σ n 4 ≤ se σ n 2) ∧ (n + 1 = mn σ → se σ n 0 ≠ 1 → se σ n 1 + se σ n 2 + se σ n 4 ≤ 240) ∧ se σ n 1 + se σ n 2 ≤ nx σ := h.2.2.2.2.2.2.2.2.1 n hn
theorem Inv.ent {σ : St} (h : Inv σ) {n k : Nat} {f : Fil} (hn : n < mn σ) (hk : k < 20) (hf : en σ n k = some f) : f.2.2 ≤ n ∧ (1 ≤ f.2.1 ∧ f.2.1 ≤ 40) ∧ se σ f.2.2 1 + se σ f.2.2 3 ≤ f.1 ∧ f.1 + f.2.1 + (if se σ f.2.2 0 = 1 then se σ f.2.2 4 else 0) ≤ se σ f.2.2 1 + se σ f.2.2 2 := h.2.2.2.2.2.2.2.2.2.1 n k f hn hk hf
theorem Inv.ent2 {σ : St} (h : Inv σ) {n k : Nat} {f : Fil} (hn : n < mn σ) (hk : k < 20) (hf : en σ n k = some f) : f.1 + f.2.1 ≤ nx σ ∧ f.1 + f.2.1 ≤ 240 ∧ (1 ≤ f.2.1 ∧ f.2.1 ≤ 40) ∧ f.2.2 < mn σ := by
  obtain ⟨h1, h2, h3, h4⟩ := h.ent hn hk hf
  have h5 := (h.row (Nat.lt_of_le_of_lt h1 hn)).2.2.2.2.2.2.2
  have h6 := h.nx240
  refine ⟨by split at h4 <;> omega, by split at h4 <;> omega, h2, by omega⟩
theorem Inv.rowb {σ : St} (h : Inv σ) {n : Nat} (hn : n < mn σ) : ∀ k, k < 5 → se σ n k < 100000 := by
  have h1 := h.row hn
  have h2 := h.nx240
  intro k hk
  rcases (show k = 0 ∨ k = 1 ∨ k = 2 ∨ k = 3 ∨ k = 4 by omega) with rfl | rfl | rfl | rfl | rfl <;> omega
theorem Inv.mono {σ : St} (h : Inv σ) : ∀ d n, n + d + 1 < mn σ → se σ n 1 + se σ n 2 ≤ se σ (n + d + 1) 1 := by
  intro d
  induction d with
  | zero => intro n hn; exact Nat.le_of_eq (h.cont n hn)
  | succ d ih =>
    intro n hn
    have h1 := ih n (by omega)
    have h2 := h.cont (n + d + 1) (by omega)
    have h3 : n + (d + 1) + 1 = n + d + 1 + 1 := by omega
    rw [h3, ← h2]
    omega
theorem Inv.apart {σ : St} (h : Inv σ) {n n' : Nat} (hn : n < n') (hn' : n' < mn σ) : se σ n 1 + se σ n 2 ≤ se σ n' 1 := by
  have := h.mono (n' - n - 1) n (by omega)
  rwa [show n + (n' - n - 1) + 1 = n' by omega] at this
theorem wholeB_iff {d : Nat → Bool} {a : Nat} : ∀ {c : Nat}, wholeB d a c = true ↔ ∀ k, a ≤ k → k < a + c → d k = false
  | 0 => by simp [wholeB]; omega
  | c + 1 => by
    have ih := @wholeB_iff d a c
    rw [wholeB, Bool.and_eq_true, ih]
    constructor
    · rintro ⟨h1, h2⟩ k hk hk2
      by_cases he : k = a + c
      · subst he; simpa using h2
      · exact h1 k hk (by omega)
    · intro h1
      refine ⟨fun k hk hk2 => h1 k hk (by omega), ?_⟩
      have := h1 (a + c) (by omega) (by omega)
      simp [this]
theorem wholeB_f {d : Nat → Bool} {a c k : Nat} (h1 : a ≤ k) (h2 : k < a + c) (hd : d k = true) : wholeB d a c = false := by
  cases hw : wholeB d a c with
  | false => rfl
  | true => have := wholeB_iff.mp hw k h1 h2; rw [hd] at this; cases this
theorem wholeB_congr {d d' : Nat → Bool} {a c : Nat} (h : ∀ k, a ≤ k → k < a + c → d k = d' k) : wholeB d a c = wholeB d' a c := by
  cases hw : wholeB d' a c with
  | true => rw [wholeB_iff]; intro k h1 h2; rw [h k h1 h2]; exact wholeB_iff.mp hw k h1 h2
  | false =>
    cases hw2 : wholeB d a c with
    | false => rfl
    | true =>
      have : wholeB d' a c = true := by rw [wholeB_iff]; intro k h1 h2; rw [← h k h1 h2]; exact wholeB_iff.mp hw2 k h1 h2
      rw [this] at hw; cases hw
theorem lastB_some {p : Nat → Bool} : ∀ {N n : Nat}, lastB p N = some n ↔ (n < N ∧ p n = true ∧ ∀ k, n < k → k < N → p k = false)
  | 0, n => by simp [lastB]
  | N + 1, n => by
    have ih := @lastB_some p N n
    rw [lastB]
    by_cases h : p N = true
    · rw [if_pos h]
      constructor
      · intro he; cases he; exact ⟨by omega, h, fun k h1 h2 => by omega⟩
      · rintro ⟨h1, h2, h3⟩
        by_cases he : n = N
        · rw [he]
        · have := h3 N (by omega) (by omega); rw [h] at this; cases this
    · rw [if_neg h, ih]
      constructor
      · rintro ⟨h1, h2, h3⟩
        refine ⟨by omega, h2, fun k h4 h5 => ?_⟩
        by_cases he : k = N
        · rw [he]; simpa using h
        · exact h3 k h4 (by omega)
      · rintro ⟨h1, h2, h3⟩
        refine ⟨?_, h2, fun k h4 h5 => h3 k h4 (by omega)⟩
        by_cases he : n = N
        · rw [he] at h2; exact absurd h2 h
        · omega
theorem lastB_none {p : Nat → Bool} : ∀ {N : Nat}, lastB p N = none ↔ ∀ k, k < N → p k = false
  | 0 => by simp [lastB]
  | N + 1 => by
    have ih := @lastB_none p N
    rw [lastB]
    by_cases h : p N = true
    · rw [if_pos h]
      constructor
      · intro he; cases he
      · intro h1; have := h1 N (by omega); rw [h] at this; cases this
    · rw [if_neg h, ih]
      constructor
      · intro h1 k hk
        by_cases he : k = N
        · rw [he]; simpa using h
        · exact h1 k (by omega)
      · intro h1 k hk; exact h1 k (by omega)
theorem lastB_congr {p q : Nat → Bool} : ∀ {N : Nat}, (∀ k, k < N → p k = q k) → lastB p N = lastB q N
  | 0, _ => rfl
  | N + 1, h => by rw [lastB, lastB, h N (by omega), lastB_congr (fun k hk => h k (by omega))]
theorem cntB_congr {p q : Nat → Bool} : ∀ {N : Nat}, (∀ k, k < N → p k = q k) → cntB p N = cntB q N
  | 0, _ => rfl
  | N + 1, h => by rw [cntB, cntB, h N (by omega), cntB_congr (fun k hk => h k (by omega))]
theorem cntB_le (p : Nat → Bool) : ∀ N, cntB p N ≤ N
  | 0 => Nat.le_refl _
  | N + 1 => by have := cntB_le p N; rw [cntB]; split <;> omega
theorem sumF_congr {p q : Nat → Nat} : ∀ {N : Nat}, (∀ k, k < N → p k = q k) → sumF p N = sumF q N
  | 0, _ => rfl
  | N + 1, h => by rw [sumF, sumF, h N (by omega), sumF_congr (fun k hk => h k (by omega))]
theorem validD_lt {σ : St} {d : Nat → Bool} {n : Nat} (h : validD σ d = some n) : n < mn σ := (lastB_some.mp h).1
theorem dmH_m1 {σ : St} {h : Int} (hh : h < 0) : dmH σ h = dm σ := by
  funext k
  have : ¬ ((k : Int) = h) := by omega
  simp [dmH, this]
theorem opn_some {σ : St} {n : Nat} (h : opn σ = some n) : n + 1 = mn σ ∧ se σ n 0 = 0 := by
  unfold opn at h
  split at h
  · next hc => cases h; exact ⟨by omega, hc.2⟩
  · cases h
theorem opn_none {σ : St} (h : opn σ = none) : mn σ = 0 ∨ (0 < mn σ ∧ ¬ se σ (mn σ - 1) 0 = 0) := by
  unfold opn at h
  split at h
  · cases h
  · next hc => omega
theorem opn_of {σ : St} {n : Nat} (h1 : n + 1 = mn σ) (h2 : se σ n 0 = 0) : opn σ = some n := by
  unfold opn
  rw [if_pos ⟨by omega, by rw [show mn σ - 1 = n by omega]; exact h2⟩, show mn σ - 1 = n by omega]
theorem opn_no {σ : St} {n : Nat} (h1 : n + 1 = mn σ) (h2 : ¬ se σ n 0 = 0) : opn σ = none := by
  unfold opn
  rw [if_neg]
  rintro ⟨h3, h4⟩
  rw [show mn σ - 1 = n by omega] at h4
  exact h2 h4
theorem opn_0 {σ : St} (h : mn σ = 0) : opn σ = none := by
  unfold opn
  rw [if_neg]
  omega
theorem sesAt_of {σ : St} (h : Inv σ) {n k : Nat} (hn : n < mn σ) (h1 : se σ n 1 ≤ k) (h2 : k < se σ n 1 + se σ n 2) : sesAt σ k = some n := by
  refine lastB_some.mpr ⟨hn, decide_eq_true ⟨h1, h2⟩, fun j hj hj2 => decide_eq_false ?_⟩
  have := h.apart hj hj2
  omega
theorem sesAt_no {σ : St} {k : Nat} (h : ∀ n, n < mn σ → ¬ (se σ n 1 ≤ k ∧ k < se σ n 1 + se σ n 2)) : sesAt σ k = none := lastB_none.mpr (fun j hj => decide_eq_false (h j hj))
/-- an answer that is a reference, of which something is told -/
def QX (P : Option Nat → Prop) : Option Value → Heap → Heap → Prop := fun v H H1 => ∃ r, v = some (va_rf r) ∧ H1 = H ∧ P r
section MCX
variable {p : Program} {l : Launch} {e : Env} {R : Room} {s : State} {m : MethodId} {args : Array Value} {below : List Frame} {meth : Method} {c : Code} {H : Heap} {locs : List Loc} {cells slots : Nat} {Q : State → Prop}
variable {G : GG} {cc : ByteArray} {n : Nat} {ret : Option FieldType} {own : String} {pc : Nat} {ls : Array Slot} {st rest : List Value}
theorem kVQX (E : En G p s m args meth c cc n ret own) {y : MethodName} {b : ByteArray} {mL k idx : Nat} {ret' : Option FieldType} {a ci : Nat} {fs : List Value} {rm' : Room} {As : List Value} {Pre : Heap → Prop} {Pq : Option Nat → Prop} (hC : CWV own idx y b mL ret' k) (hM : Ct G l y b mL ret' rm' (.ref a :: As) Pre (QX Pq)) (hO : Ob G a ci fs H) (hc : ∃ T N, vwCl[ci]? = some (y.cls, T, N)) (hp : Pre H) (hL : Lk G locs) (hls : ls.size = n) (hst : st = As.reverse ++ .ref a :: rest) (hk : As.length = k) (hW : (rest.map fun v => v.category).sum ≤ 8) (hR : rm'.frames + 1 ≤ R.frames ∧ 8 + (mL + 11) + rm'.locals ≤ R.locals) (hz : rm'.cells = 0 ∧ rm'.slots = 0) (hf : cells ≤ R.cells ∧ slots ≤ R.slots) (hdg : decode cc pc = .ok (.invokevirtual idx, 3))
    (kk : ∀ (r : Option Nat) (locs1 : List Loc), Lk G locs1 → Pq r → W p l e R s m args below meth c H locs1 cells slots Q (F0 m (pc + 3) ls (va_rf r :: rest))) : W p l e R s m args below meth c H locs cells slots Q (F0 m pc ls st) :=
  m_callV E hC hM hO hc hp hL hls hst hk hW hR (by rw [hz.1, hz.2]; exact hf) hdg (fun v H1 locs1 hL1 hv => by
    obtain ⟨r, rfl, rfl, hr⟩ := hv
    rw [hz.1, hz.2]
    exact kk r locs1 hL1 hr)
end MCX
theorem dmH_h {σ : St} {h : Int} {k : Nat} (e : (k : Int) = h) : dmH σ h k = true := by simp [dmH, e]
theorem dmH_d {σ : St} {h : Int} {k : Nat} (e : dm σ k = true) : dmH σ h k = true := by simp [dmH, e]
theorem dmH_n {σ : St} {h : Int} {k : Nat} (e : dm σ k = false) (e2 : ¬ (k : Int) = h) : dmH σ h k = false := by simp [dmH, e, e2]
/-- the class's own way to the most harmful sector -/
def mh (f : Nat → Nat) (x y : Nat) : Nat := if f x = f y then min x y else if f x < f y then x else y
def hurtCnt (σ : St) (k : Nat) : Nat := cntIntact σ (dmH σ k)
def mhF (σ : St) (n : Nat) : Nat → Nat
  | 0 => mh (hurtCnt σ) 0 (se σ n 1)
  | k + 1 => match en σ n k with
    | none => mhF σ n k
    | some g => mh (hurtCnt σ) (mhF σ n k) g.1
def worstH (σ : St) : Nat := match validD σ (dm σ) with
  | none => 0
  | some n => mhF σ n 20
theorem mh_lt {f : Nat → Nat} {x y N : Nat} (hx : x < N) (hy : y < N) : mh f x y < N := by
  unfold mh
  split
  · omega
  · split <;> omega
theorem cntIntact_le (σ : St) (d : Nat → Bool) : cntIntact σ d ≤ 20 := by
  unfold cntIntact
  split
  · omega
  · exact cntB_le _ _
theorem roomN_le (σ : St) : roomN σ ≤ 240 := by
  unfold roomN
  split
  · omega
  · split <;> omega
