/-! a disc put together again behind writes -/
def FrD (b n : Nat) (H H1 : Heap) : Prop := H1.size = H.size ∧ ∀ q, q ≠ b → q ≠ b + 2 → q ≠ b + 3 → q ≠ b + 4 → q ≠ b + 5 + 2 * n → q ≠ b + 5 + 2 * n + 1 → H1[q]? = H[q]?
theorem FrD.rf {b n : Nat} {H : Heap} : FrD b n H H := ⟨rfl, fun _ _ _ _ _ _ _ => rfl⟩
theorem FrD.one {b n a : Nat} {H H1 H2 : Heap} (h : FrD b n H H1) (h2 : Fr1 a H1 H2) (ha : a = b ∨ a = b + 2 ∨ a = b + 3 ∨ a = b + 4 ∨ a = b + 5 + 2 * n ∨ a = b + 5 + 2 * n + 1) : FrD b n H H2 :=
  ⟨h2.1.trans h.1, fun q a1 a2 a3 a4 a5 a6 => (h2.2 q (by omega)).trans (h.2 q a1 a2 a3 a4 a5 a6)⟩
theorem FrD.ses {b n lo hi : Nat} {H H1 H2 : Heap} (h : FrD b n H H1) (h2 : FrS lo hi H1 H2) (h3 : b + 5 + 2 * n ≤ lo) (h4 : hi ≤ b + 5 + 2 * n + 2) : FrD b n H H2 :=
  ⟨h2.1.trans h.1, fun q a1 a2 a3 a4 a5 a6 => (h2.2 q (by omega)).trans (h.2 q a1 a2 a3 a4 a5 a6)⟩
theorem FrD.S {b n : Nat} {H H1 : Heap} (h : FrD b n H H1) (hn : n < 12) : FrS b (b + 29) H H1 := ⟨h.1, fun q hq => h.2 q (by omega) (by omega) (by omega) (by omega) (by omega) (by omega)⟩
def FrE (b : Nat) (H H1 : Heap) : Prop := H1.size = H.size ∧ ∀ q, q ≠ b → q ≠ b + 2 → q ≠ b + 3 → q ≠ b + 4 → H1[q]? = H[q]?
theorem FrE.rf {b : Nat} {H : Heap} : FrE b H H := ⟨rfl, fun _ _ _ _ _ => rfl⟩
theorem FrE.one {b a : Nat} {H H1 H2 : Heap} (h : FrE b H H1) (h2 : Fr1 a H1 H2) (ha : a = b ∨ a = b + 2 ∨ a = b + 3 ∨ a = b + 4) : FrE b H H2 :=
  ⟨h2.1.trans h.1, fun q a1 a2 a3 a4 => (h2.2 q (by omega)).trans (h.2 q a1 a2 a3 a4)⟩
theorem FrE.S {b : Nat} {H H1 : Heap} (h : FrE b H H1) : FrS b (b + 29) H H1 := ⟨h.1, fun q hq => h.2 q (by omega) (by omega) (by omega) (by omega)⟩
theorem SesL.mk2 {G : GG} {a : Nat} {fl : Nat → Option Fil} {t : Nat → Option Nat} {tab : Nat → Option Fil} {row : Nat → Nat} {H : Heap} {x0 x1 x2 x3 x4 x5 : Int32} (ho : Ob G a 3 [.ref (a + 1), .int x0, .int x1, .int x2, .int x3, .int x4, .int x5] H) (hr : Ra G (a + 1) 4 20 t H) (ht : TabOk fl t tab) (e0 : x0 = iI (row 0)) (e1 : x1 = iI (row 1)) (e2 : x2 = iI ((row 1 : Int) + (row 2 : Int))) (e3 : x3 = iI (row 3)) (e4 : x4 = iI (row 4)) (e5 : x5 = iI (row 5)) : SesL G a fl row tab H := by
  subst e0; subst e1; subst e2; subst e3; subst e4; subst e5
  exact ⟨t, ho, hr, ht⟩
theorem DiscAt.re {G : GG} {b n : Nat} {fl : Nat → Option Fil} {σ τ : St} {H H1 : Heap} {x y z : Int32} (h : DiscAt G b fl σ H) (ho : Ob G b 1 [.ref (b + 1), .ref (b + 2), .ref (b + 3), .ref (b + 4), .int x, .int y, .int z] H1) (ex : x = iI (mn τ)) (ey : y = iI (nx τ)) (ez : z = iI (cntB (dm τ) 240))
    (h3 : Ia G (b + 2) 1 240 (fun k => b2i (dm τ k)) H1) (h4 : Ia G (b + 3) 0 20 (fun k => iI (vr τ k)) H1) (h5 : Ia G (b + 4) 0 2 (fun k => if k = 0 then iI (s0 τ) else iI (s1 τ)) H1) (hn : n < 12) (hs : SesL G (b + 5 + 2 * n) fl (se τ n) (en τ n) H1) (hf : FrD b n H H1)
    (hk : ∀ k, k ≠ n → k < mn τ → k < mn σ ∧ se τ k = se σ k ∧ en τ k = en σ k) : DiscAt G b fl τ H1 := by
  subst ex; subst ey; subst ez
  obtain ⟨g1, g2, g3, g4, g5, g6, g7⟩ := h
  refine ⟨ho, g2.kept (hf.2 _ (by omega) (by omega) (by omega) (by omega) (by omega) (by omega)), h3, h4, h5, fun k hk2 => ?_, fun k hk2 hk3 => ?_⟩
  · by_cases e : k = n
    · subst e; exact hs.dead
    · exact (g6 k hk2).kept (hf.2 _ (by omega) (by omega) (by omega) (by omega) (by omega) (by omega)) (hf.2 _ (by omega) (by omega) (by omega) (by omega) (by omega) (by omega))
  · by_cases e : k = n
    · subst e; exact hs
    · obtain ⟨a1, a2, a3⟩ := hk k e hk2
      rw [a2, a3]
      exact (g7 k a1 hk3).kept (hf.2 _ (by omega) (by omega) (by omega) (by omega) (by omega) (by omega)) (hf.2 _ (by omega) (by omega) (by omega) (by omega) (by omega) (by omega))
theorem DiscAt.re0 {G : GG} {b : Nat} {fl : Nat → Option Fil} {σ τ : St} {H H1 : Heap} {x y z : Int32} (h : DiscAt G b fl σ H) (ho : Ob G b 1 [.ref (b + 1), .ref (b + 2), .ref (b + 3), .ref (b + 4), .int x, .int y, .int z] H1) (ex : x = iI (mn τ)) (ey : y = iI (nx τ)) (ez : z = iI (cntB (dm τ) 240))
    (h3 : Ia G (b + 2) 1 240 (fun k => b2i (dm τ k)) H1) (h4 : Ia G (b + 3) 0 20 (fun k => iI (vr τ k)) H1) (h5 : Ia G (b + 4) 0 2 (fun k => if k = 0 then iI (s0 τ) else iI (s1 τ)) H1) (hf : FrE b H H1)
    (hm : mn τ = mn σ) (hse : se τ = se σ) (hen : en τ = en σ) : DiscAt G b fl τ H1 := by
  subst ex; subst ey; subst ez
  obtain ⟨g1, g2, g3, g4, g5, g6, g7⟩ := h
  refine ⟨ho, g2.kept (hf.2 _ (by omega) (by omega) (by omega) (by omega)), h3, h4, h5, fun k hk2 => ?_, fun k hk2 hk3 => ?_⟩
  · exact (g6 k hk2).kept (hf.2 _ (by omega) (by omega) (by omega) (by omega)) (hf.2 _ (by omega) (by omega) (by omega) (by omega))
  · rw [hse, hen]
    rw [hm] at hk2
    exact (g7 k hk2 hk3).kept (hf.2 _ (by omega) (by omega) (by omega) (by omega)) (hf.2 _ (by omega) (by omega) (by omega) (by omega))
/-- an action's end on a disc -/
def WD (G : GG) (b : Nat) (fl : Nat → Option Fil) (sp : Int × St) : Option Value → Heap → Heap → Prop := WE (iI sp.1) (fun H H1 => DiscAt G b fl sp.2 H1 ∧ FrS b (b + 29) H H1)
theorem WD_i {G : GG} {b : Nat} {fl : Nat → Option Fil} {sp : Int × St} {z w : Int} {τ : St} {H H1 : Heap} (h : sp = (w, τ)) (hz : z = w) (hd : DiscAt G b fl τ H1) (hf : FrS b (b + 29) H H1) : WD G b fl sp (some (.int (iI z))) H H1 := by
  subst h; subst hz; exact ⟨rfl, hd, hf⟩
theorem TabOk.up {fl : Nat → Option Fil} {t : Nat → Option Nat} {e : Nat → Option Fil} {k : Nat} {q : Option Nat} {o : Option Fil} (h : TabOk fl t e) (h1 : q.bind fl = o) (h2 : ∀ a, q = some a → ∃ f, fl a = some f) : TabOk fl (va_up t k q) (va_up e k o) := by
  intro j hj
  by_cases hjk : j = k
  · subst hjk; rw [up_s, up_s]; exact ⟨h1, h2⟩
  · rw [up_n hjk, up_n hjk]; exact h j hj
theorem up_same {α : Type} {f : Nat → α} {k : Nat} {v : α} (h : f k = v) : va_up f k v = f := by
  funext j
  by_cases hj : j = k
  · subst hj; rw [up_s, h]
  · rw [up_n hj]
theorem cntB_up {p : Nat → Bool} {k : Nat} (h : p k = false) : ∀ {N : Nat}, k < N → cntB (va_up p k true) N = cntB p N + 1
  | 0, hk => absurd hk (Nat.not_lt_zero k)
  | N + 1, hk => by
    rw [cntB, cntB]
    by_cases he : k = N
    · subst he
      rw [up_s, h, cntB_congr (p := va_up p k true) (q := p) (N := k) (fun j hj => up_n (by omega))]
      rfl
    · rw [cntB_up h (N := N) (by omega), up_n (Ne.symm he)]
      omega
theorem TabOk.some {fl : Nat → Option Fil} {t : Nat → Option Nat} {e : Nat → Option Fil} (h : TabOk fl t e) {k : Nat} (hk : k < 20) : (t k).isSome = (e k).isSome := by
  obtain ⟨h1, h2⟩ := h k hk
  cases ht : t k with
  | none => rw [ht] at h1; rw [← h1]; rfl
  | some a =>
    obtain ⟨f, hf⟩ := h2 a ht
    rw [ht] at h1
    rw [← h1]
    show true = (fl a).isSome
    rw [hf]; rfl
theorem upd_b {d : Nat → Bool} {k : Nat} {b : Bool} (j : Nat) : upd (fun k => b2i (d k)) k (b2i b) j = b2i (va_up d k b j) := by
  by_cases hj : j = k
  · subst hj; simp [upd, va_up]
  · simp [upd, va_up, hj]
theorem upd_i {d : Nat → Nat} {k v : Nat} (j : Nat) : upd (fun k => iI (d k)) k (iI v) j = iI ((va_up d k v j : Nat) : Int) := by
  by_cases hj : j = k
  · subst hj; simp [upd, va_up]
  · simp [upd, va_up, hj]
theorem upd_i2 {d : Nat → Nat} {k : Nat} (j : Nat) : upd (fun k => iI (d k)) k (iI ((d k : Int) + 1)) j = iI ((va_up d k (d k + 1) j : Nat) : Int) := upd_i j
/-- the end of an action that may make one file -/
def WDF (G : GG) (b fb : Nat) (fl : Nat → Option Fil) (sp : Int × St) : Option Value → Heap → Heap → Prop := WE (iI sp.1) (fun H H1 => ∃ fl', Ext fl fl' ∧ FlAt G fb fl' H1 ∧ DiscAt G b fl' sp.2 H1 ∧ FrR b (b + 29) H H1)
theorem WDF_i {G : GG} {b fb : Nat} {fl : Nat → Option Fil} {sp : Int × St} {z w : Int} {τ : St} {H : Heap} (h : sp = (w, τ)) (hz : z = w) (hd : DiscAt G b fl τ H) (hf : FlAt G fb fl H) : WDF G b fb fl sp (some (.int (iI z))) H H := by
  subst h; subst hz; exact ⟨rfl, fl, Ext.rf, hf, hd, FrR.rf⟩
theorem WDF_w {G : GG} {b fb : Nat} {fl fl' : Nat → Option Fil} {sp : Int × St} {z w : Int} {τ : St} {H H1 H2 : Heap} (h : sp = (w, τ)) (hz : z = w) (hE : Ext fl fl') (hd : DiscAt G b fl' τ H2) (hf : FlAt G fb fl' H2) (hS : FrS b (b + 29) H1 H2) (hP : Pu H H1) : WDF G b fb fl sp (some (.int (iI z))) H H2 := by
  subst h; subst hz; exact ⟨rfl, fl', hE, hf, hd, (FrR.pu hP).trans hS.R⟩
/-- a disc that is being copied: its own cell is told of τ, its first K sessions too -/
def CopyAt (G : GG) (b : Nat) (fl : Nat → Option Fil) (τ : St) (K : Nat) (dA vA sA : Nat → Int32) (H : Heap) : Prop :=
  Ob G b 1 [.ref (b + 1), .ref (b + 2), .ref (b + 3), .ref (b + 4), .int (iI (mn τ)), .int (iI (nx τ)), .int (iI (cntB (dm τ) 240))] H ∧
  Ra G (b + 1) 3 12 (fun k => some (b + 5 + 2 * k)) H ∧ Ia G (b + 2) 1 240 dA H ∧ Ia G (b + 3) 0 20 vA H ∧ Ia G (b + 4) 0 2 sA H ∧
  (∀ n, n < 12 → SesD G (b + 5 + 2 * n) H) ∧ ∀ n, n < K → n < 12 → SesL G (b + 5 + 2 * n) fl (se τ n) (en τ n) H
theorem CopyAt.pd {G : GG} {b K : Nat} {fl : Nat → Option Fil} {τ : St} {dA vA sA dB : Nat → Int32} {H H1 : Heap} (h : CopyAt G b fl τ K dA vA sA H) (hi : Ia G (b + 2) 1 240 dB H1) (hf : Fr1 (b + 2) H H1) : CopyAt G b fl τ K dB vA sA H1 := by
  obtain ⟨h1, h2, h3, h4, h5, h6, h7⟩ := h
  exact ⟨h1.kept (hf.2 _ (by omega)), h2.kept (hf.2 _ (by omega)), hi, h4.kept (hf.2 _ (by omega)), h5.kept (hf.2 _ (by omega)), fun n hn => (h6 n hn).kept (hf.2 _ (by omega)) (hf.2 _ (by omega)), fun n hn hn2 => (h7 n hn hn2).kept (hf.2 _ (by omega)) (hf.2 _ (by omega))⟩
theorem CopyAt.pv {G : GG} {b K : Nat} {fl : Nat → Option Fil} {τ : St} {dA vA sA vB : Nat → Int32} {H H1 : Heap} (h : CopyAt G b fl τ K dA vA sA H) (hi : Ia G (b + 3) 0 20 vB H1) (hf : Fr1 (b + 3) H H1) : CopyAt G b fl τ K dA vB sA H1 := by
  obtain ⟨h1, h2, h3, h4, h5, h6, h7⟩ := h
  exact ⟨h1.kept (hf.2 _ (by omega)), h2.kept (hf.2 _ (by omega)), h3.kept (hf.2 _ (by omega)), hi, h5.kept (hf.2 _ (by omega)), fun n hn => (h6 n hn).kept (hf.2 _ (by omega)) (hf.2 _ (by omega)), fun n hn hn2 => (h7 n hn hn2).kept (hf.2 _ (by omega)) (hf.2 _ (by omega))⟩
theorem CopyAt.ps {G : GG} {b K : Nat} {fl : Nat → Option Fil} {τ : St} {dA vA sA sB : Nat → Int32} {H H1 : Heap} (h : CopyAt G b fl τ K dA vA sA H) (hi : Ia G (b + 4) 0 2 sB H1) (hf : Fr1 (b + 4) H H1) : CopyAt G b fl τ K dA vA sB H1 := by
  obtain ⟨h1, h2, h3, h4, h5, h6, h7⟩ := h
  exact ⟨h1.kept (hf.2 _ (by omega)), h2.kept (hf.2 _ (by omega)), h3.kept (hf.2 _ (by omega)), h4.kept (hf.2 _ (by omega)), hi, fun n hn => (h6 n hn).kept (hf.2 _ (by omega)) (hf.2 _ (by omega)), fun n hn hn2 => (h7 n hn hn2).kept (hf.2 _ (by omega)) (hf.2 _ (by omega))⟩
theorem CopyAt.pn {G : GG} {b K : Nat} {fl : Nat → Option Fil} {τ : St} {dA vA sA : Nat → Int32} {H H1 : Heap} (h : CopyAt G b fl τ K dA vA sA H) (hK : K < 12) (hs : SesL G (b + 5 + 2 * K) fl (se τ K) (en τ K) H1) (hf : FrS (b + 5 + 2 * K) (b + 5 + 2 * K + 2) H H1) : CopyAt G b fl τ (K + 1) dA vA sA H1 := by
  obtain ⟨h1, h2, h3, h4, h5, h6, h7⟩ := h
  refine ⟨h1.kept (hf.2 _ (by omega)), h2.kept (hf.2 _ (by omega)), h3.kept (hf.2 _ (by omega)), h4.kept (hf.2 _ (by omega)), h5.kept (hf.2 _ (by omega)), fun n hn => ?_, fun n hn hn2 => ?_⟩
  · by_cases e : n = K
    · subst e; exact hs.dead
    · exact (h6 n hn).kept (hf.2 _ (by omega)) (hf.2 _ (by omega))
  · by_cases e : n = K
    · subst e; exact hs
    · exact (h7 n (by omega) hn2).kept (hf.2 _ (by omega)) (hf.2 _ (by omega))
theorem CopyAt.done {G : GG} {b K : Nat} {fl : Nat → Option Fil} {τ : St} {dA vA sA : Nat → Int32} {H : Heap} (h : CopyAt G b fl τ K dA vA sA H) (hK : mn τ ≤ K ∨ 12 ≤ K) (e1 : ∀ j, j < 240 → dA j = b2i (dm τ j)) (e2 : ∀ j, j < 20 → vA j = iI (vr τ j)) (e3 : ∀ j, j < 2 → sA j = if j = 0 then iI (s0 τ) else iI (s1 τ)) : DiscAt G b fl τ H := by
  obtain ⟨h1, h2, h3, h4, h5, h6, h7⟩ := h
  exact ⟨h1, h2, h3.to e1, h4.to e2, h5.to e3, h6, fun n hn hn2 => h7 n (by omega) hn2⟩
theorem upd_if {f g : Nat → Int32} {k : Nat} (j : Nat) : upd (fun j => if j < k then f j else g j) k (f k) j = if j < k + 1 then f j else g j := by
  by_cases h1 : j = k
  · subst h1; simp [upd]
  · have h2 : j < k + 1 ↔ j < k := by omega
    simp [upd, h1, h2]
