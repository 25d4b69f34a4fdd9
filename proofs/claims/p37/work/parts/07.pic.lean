/-! what the heap holds for a state -/
def TabOk (fl : Nat → Option Fil) (t : Nat → Option Nat) (e : Nat → Option Fil) : Prop := ∀ k, k < 20 → (t k).bind fl = e k ∧ ∀ a, t k = some a → ∃ f, fl a = some f
def FlAt (G : GG) (fb : Nat) (fl : Nat → Option Fil) (H : Heap) : Prop := G.2.2 ≤ fb ∧ ∀ a f, fl a = some f → fb ≤ a ∧ Ob G a 4 [.int (iI f.1), .int (iI f.2.1), .int (iI f.2.2)] H
def Ext (fl fl' : Nat → Option Fil) : Prop := ∀ a f, fl a = some f → fl' a = some f
theorem Ext.rf {fl : Nat → Option Fil} : Ext fl fl := fun _ _ h => h
theorem Ext.trans {f1 f2 f3 : Nat → Option Fil} (h1 : Ext f1 f2) (h2 : Ext f2 f3) : Ext f1 f3 := fun a f h => h2 a f (h1 a f h)
/-- a session of any contents at a, its table behind it -/
def SesD (G : GG) (a : Nat) (H : Heap) : Prop := ∃ (w : Nat → Int32) (t : Nat → Option Nat), Ob G a 3 [.ref (a + 1), .int (w 0), .int (w 1), .int (w 2), .int (w 3), .int (w 4), .int (w 5)] H ∧ Ra G (a + 1) 4 20 t H
/-- a session that holds a row and a table -/
def SesL (G : GG) (a : Nat) (fl : Nat → Option Fil) (row : Nat → Nat) (tab : Nat → Option Fil) (H : Heap) : Prop := ∃ (t : Nat → Option Nat), Ob G a 3 [.ref (a + 1), .int (iI (row 0)), .int (iI (row 1)), .int (iI ((row 1 : Int) + (row 2 : Int))), .int (iI (row 3)), .int (iI (row 4)), .int (iI (row 5))] H ∧ Ra G (a + 1) 4 20 t H ∧ TabOk fl t tab
theorem SesL.dead {G : GG} {a : Nat} {fl : Nat → Option Fil} {row : Nat → Nat} {tab : Nat → Option Fil} {H : Heap} (h : SesL G a fl row tab H) : SesD G a H := by
  obtain ⟨t, h1, h2, -⟩ := h
  exact ⟨fun k => if k = 0 then iI (row 0) else if k = 1 then iI (row 1) else if k = 2 then iI ((row 1 : Int) + (row 2 : Int)) else if k = 3 then iI (row 3) else if k = 4 then iI (row 4) else iI (row 5), t, h1, h2⟩
theorem TabOk.ext {fl fl' : Nat → Option Fil} {t : Nat → Option Nat} {e : Nat → Option Fil} (h : TabOk fl t e) (hE : Ext fl fl') : TabOk fl' t e := by
  intro k hk
  obtain ⟨h1, h2⟩ := h k hk
  refine ⟨?_, fun a ha => ?_⟩
  · cases ht : t k with
    | none => rw [ht] at h1; exact h1
    | some a =>
      obtain ⟨f, hf⟩ := h2 a ht
      rw [ht] at h1
      rw [← h1]
      show fl' a = fl a
      rw [hf, hE a f hf]
  · obtain ⟨f, hf⟩ := h2 a ha
    exact ⟨f, hE a f hf⟩
theorem TabOk.to {fl : Nat → Option Fil} {t : Nat → Option Nat} {e e' : Nat → Option Fil} (h : TabOk fl t e) (he : ∀ k, k < 20 → e k = e' k) : TabOk fl t e' := fun k hk => ⟨(h k hk).1.trans (he k hk), (h k hk).2⟩
theorem SesD.kept {G : GG} {a : Nat} {H H1 : Heap} (h : SesD G a H) (e0 : H1[a]? = H[a]?) (e1 : H1[a + 1]? = H[a + 1]?) : SesD G a H1 := by
  obtain ⟨w, t, h1, h2⟩ := h
  exact ⟨w, t, h1.kept e0, h2.kept e1⟩
theorem SesL.kept {G : GG} {a : Nat} {fl : Nat → Option Fil} {row : Nat → Nat} {tab : Nat → Option Fil} {H H1 : Heap} (h : SesL G a fl row tab H) (e0 : H1[a]? = H[a]?) (e1 : H1[a + 1]? = H[a + 1]?) : SesL G a fl row tab H1 := by
  obtain ⟨t, h1, h2, h3⟩ := h
  exact ⟨t, h1.kept e0, h2.kept e1, h3⟩
theorem SesL.ext {G : GG} {a : Nat} {fl fl' : Nat → Option Fil} {row : Nat → Nat} {tab : Nat → Option Fil} {H : Heap} (h : SesL G a fl row tab H) (hE : Ext fl fl') : SesL G a fl' row tab H := by
  obtain ⟨t, h1, h2, h3⟩ := h
  exact ⟨t, h1, h2, h3.ext hE⟩
theorem SesL.to {G : GG} {a : Nat} {fl : Nat → Option Fil} {row row' : Nat → Nat} {tab tab' : Nat → Option Fil} {H : Heap} (h : SesL G a fl row tab H) (hr : ∀ k, k < 6 → row k = row' k) (ht : ∀ k, k < 20 → tab k = tab' k) : SesL G a fl row' tab' H := by
  obtain ⟨t, h1, h2, h3⟩ := h
  refine ⟨t, ?_, h2, h3.to ht⟩
  rw [← hr 0 (by decide), ← hr 1 (by decide), ← hr 2 (by decide), ← hr 3 (by decide), ← hr 4 (by decide), ← hr 5 (by decide)]
  exact h1
theorem FlAt.kept {G : GG} {fb : Nat} {fl : Nat → Option Fil} {H H1 : Heap} (h : FlAt G fb fl H) (e : ∀ q, fb ≤ q → q < H.size → H1[q]? = H[q]?) : FlAt G fb fl H1 :=
  ⟨h.1, fun a f hf => ⟨(h.2 a f hf).1, (h.2 a f hf).2.kept (e a (h.2 a f hf).1 (h.2 a f hf).2.lt)⟩⟩
/-- a disc at b: 29 cells -/
def DiscAt (G : GG) (b : Nat) (fl : Nat → Option Fil) (σ : St) (H : Heap) : Prop :=
  Ob G b 1 [.ref (b + 1), .ref (b + 2), .ref (b + 3), .ref (b + 4), .int (iI (mn σ)), .int (iI (nx σ)), .int (iI (cntB (dm σ) 240))] H ∧
  Ra G (b + 1) 3 12 (fun k => some (b + 5 + 2 * k)) H ∧ Ia G (b + 2) 1 240 (fun k => b2i (dm σ k)) H ∧ Ia G (b + 3) 0 20 (fun k => iI (vr σ k)) H ∧ Ia G (b + 4) 0 2 (fun k => if k = 0 then iI (s0 σ) else iI (s1 σ)) H ∧
  (∀ n, n < 12 → SesD G (b + 5 + 2 * n) H) ∧ ∀ n, n < mn σ → n < 12 → SesL G (b + 5 + 2 * n) fl (se σ n) (en σ n) H
theorem DiscAt.kept {G : GG} {b : Nat} {fl : Nat → Option Fil} {σ : St} {H H1 : Heap} (h : DiscAt G b fl σ H) (e : ∀ q, b ≤ q → q < b + 29 → H1[q]? = H[q]?) : DiscAt G b fl σ H1 := by
  obtain ⟨h1, h2, h3, h4, h5, h6, h7⟩ := h
  refine ⟨h1.kept (e _ (by omega) (by omega)), h2.kept (e _ (by omega) (by omega)), h3.kept (e _ (by omega) (by omega)), h4.kept (e _ (by omega) (by omega)), h5.kept (e _ (by omega) (by omega)), fun n hn => (h6 n hn).kept (e _ (by omega) (by omega)) (e _ (by omega) (by omega)), fun n hn hn2 => (h7 n hn hn2).kept (e _ (by omega) (by omega)) (e _ (by omega) (by omega))⟩
theorem DiscAt.ext {G : GG} {b : Nat} {fl fl' : Nat → Option Fil} {σ : St} {H : Heap} (h : DiscAt G b fl σ H) (hE : Ext fl fl') : DiscAt G b fl' σ H := by
  obtain ⟨h1, h2, h3, h4, h5, h6, h7⟩ := h
  exact ⟨h1, h2, h3, h4, h5, h6, fun n hn hn2 => (h7 n hn hn2).ext hE⟩
/-- the disc's cells lie below the heap's end -/
theorem DiscAt.lt {G : GG} {b : Nat} {fl : Nat → Option Fil} {σ : St} {H : Heap} (h : DiscAt G b fl σ H) : b + 29 ≤ H.size := by
  obtain ⟨w, t, -, h2⟩ := h.2.2.2.2.2.1 11 (by decide)
  have := h2.lt
  omega
/-- the same disc, told of another state that agrees where it counts -/
theorem DiscAt.to {G : GG} {b : Nat} {fl : Nat → Option Fil} {σ τ : St} {H : Heap} (h : DiscAt G b fl σ H) (e1 : nx σ = nx τ) (e2 : mn σ = mn τ) (e3 : s0 σ = s0 τ) (e4 : s1 σ = s1 τ) (e5 : ∀ k, dm σ k = dm τ k) (e6 : ∀ k, k < 20 → vr σ k = vr τ k) (e7 : ∀ n, n < mn σ → ∀ k, k < 6 → se σ n k = se τ n k) (e8 : ∀ n, n < mn σ → ∀ k, k < 20 → en σ n k = en τ n k) : DiscAt G b fl τ H := by
  obtain ⟨h1, h2, h3, h4, h5, h6, h7⟩ := h
  have e5' : dm σ = dm τ := funext e5
  refine ⟨by rw [← e1, ← e2, ← e5']; exact h1, h2, by rw [← e5']; exact h3, h4.to (fun j hj => by rw [e6 j hj]), by rw [← e3, ← e4]; exact h5, h6, fun n hn hn2 => ?_⟩
  rw [← e2] at hn
  exact (h7 n hn hn2).to (e7 n hn) (e8 n hn)
def upSe (σ : St) (n : Nat) (row : Nat → Nat) (tab : Nat → Option Fil) : St := mkS (nx σ) (mn σ) (s0 σ) (s1 σ) (dm σ) (vr σ) (va_up (se σ) n row) (va_up (en σ) n tab)
theorem up_s {α : Type} {f : Nat → α} {k : Nat} {v : α} : va_up f k v k = v := by simp [va_up]
theorem up_n {α : Type} {f : Nat → α} {k j : Nat} {v : α} (h : j ≠ k) : va_up f k v j = f j := by simp [va_up, h]
/-- one session has changed -/
theorem DiscAt.ses {G : GG} {b n : Nat} {fl : Nat → Option Fil} {σ : St} {H H1 : Heap} {row : Nat → Nat} {tab : Nat → Option Fil} (h : DiscAt G b fl σ H) (hn : n < 12) (hs : SesL G (b + 5 + 2 * n) fl row tab H1) (e : ∀ q, b ≤ q → q < b + 29 → q ≠ b + 5 + 2 * n → q ≠ b + 6 + 2 * n → H1[q]? = H[q]?) : DiscAt G b fl (upSe σ n row tab) H1 := by
  obtain ⟨h1, h2, h3, h4, h5, h6, h7⟩ := h
  refine ⟨h1.kept (e _ (by omega) (by omega) (by omega) (by omega)), h2.kept (e _ (by omega) (by omega) (by omega) (by omega)), h3.kept (e _ (by omega) (by omega) (by omega) (by omega)), h4.kept (e _ (by omega) (by omega) (by omega) (by omega)), h5.kept (e _ (by omega) (by omega) (by omega) (by omega)), fun k hk => ?_, fun k hk hk2 => ?_⟩
  · by_cases hkn : k = n
    · subst hkn; exact hs.dead
    · exact (h6 k hk).kept (e _ (by omega) (by omega) (by omega) (by omega)) (e _ (by omega) (by omega) (by omega) (by omega))
  · by_cases hkn : k = n
    · subst hkn
      show SesL G _ fl (va_up (se σ) k row k) (va_up (en σ) k tab k) H1
      rw [up_s, up_s]; exact hs
    · show SesL G _ fl (va_up (se σ) n row k) (va_up (en σ) n tab k) H1
      rw [up_n hkn, up_n hkn]
      exact (h7 k hk hk2).kept (e _ (by omega) (by omega) (by omega) (by omega)) (e _ (by omega) (by omega) (by omega) (by omega))
/-- the disc's own cell has changed -/
theorem DiscAt.own {G : GG} {b : Nat} {fl : Nat → Option Fil} {σ τ : St} {H H1 : Heap} (h : DiscAt G b fl σ H) (ho : Ob G b 1 [.ref (b + 1), .ref (b + 2), .ref (b + 3), .ref (b + 4), .int (iI (mn τ)), .int (iI (nx τ)), .int (iI (cntB (dm τ) 240))] H1) (e3 : s0 σ = s0 τ) (e4 : s1 σ = s1 τ) (e5 : dm σ = dm τ) (e6 : vr σ = vr τ) (e : ∀ q, b < q → q < b + 29 → H1[q]? = H[q]?)
    (e7 : ∀ n, n < mn τ → n < 12 → SesL G (b + 5 + 2 * n) fl (se τ n) (en τ n) H1) : DiscAt G b fl τ H1 := by
  obtain ⟨h1, h2, h3, h4, h5, h6, h7⟩ := h
  exact ⟨ho, h2.kept (e _ (by omega) (by omega)), by rw [← e5]; exact h3.kept (e _ (by omega) (by omega)), by rw [← e6]; exact h4.kept (e _ (by omega) (by omega)), by rw [← e3, ← e4]; exact h5.kept (e _ (by omega) (by omega)), fun n hn => (h6 n hn).kept (e _ (by omega) (by omega)) (e _ (by omega) (by omega)), e7⟩
theorem DiscAt.live {G : GG} {b n : Nat} {fl : Nat → Option Fil} {σ : St} {H : Heap} (h : DiscAt G b fl σ H) (hn : n < mn σ) (hn2 : n < 12) : SesL G (b + 5 + 2 * n) fl (se σ n) (en σ n) H := h.2.2.2.2.2.2 n hn hn2
/-- new cells, and changes between lo and hi alone -/
def FrR (lo hi : Nat) (H H1 : Heap) : Prop := H.size ≤ H1.size ∧ ∀ q, q < H.size → (q < lo ∨ hi ≤ q) → H1[q]? = H[q]?
theorem FrR.rf {lo hi : Nat} {H : Heap} : FrR lo hi H H := ⟨Nat.le_refl _, fun _ _ _ => rfl⟩
theorem FrR.trans {lo hi : Nat} {H H1 H2 : Heap} (h1 : FrR lo hi H H1) (h2 : FrR lo hi H1 H2) : FrR lo hi H H2 := ⟨Nat.le_trans h1.1 h2.1, fun q hq ho => (h2.2 q (Nat.lt_of_lt_of_le hq h1.1) ho).trans (h1.2 q hq ho)⟩
theorem FrR.wide {lo hi lo' hi' : Nat} {H H1 : Heap} (h : FrR lo hi H H1) (h1 : lo' ≤ lo) (h2 : hi ≤ hi') : FrR lo' hi' H H1 := ⟨h.1, fun q hq ho => h.2 q hq (by omega)⟩
theorem FrR.of1 {lo hi a : Nat} {H H1 : Heap} (h : Fr1 a H H1) (h1 : lo ≤ a) (h2 : a < hi) : FrR lo hi H H1 := ⟨Nat.le_of_eq h.1.symm, fun q _ ho => h.2 q (by omega)⟩
theorem FrR.pu {lo hi : Nat} {H H1 : Heap} (h : Pu H H1) : FrR lo hi H H1 := ⟨by rw [h.1]; omega, fun q hq _ => h.2 q hq⟩
/-- nothing but the cells lo .. hi has changed, and none has come -/
def FrS (lo hi : Nat) (H H1 : Heap) : Prop := H1.size = H.size ∧ ∀ q, (q < lo ∨ hi ≤ q) → H1[q]? = H[q]?
theorem FrS.rf {lo hi : Nat} {H : Heap} : FrS lo hi H H := ⟨rfl, fun _ _ => rfl⟩
theorem FrS.trans {lo hi : Nat} {H H1 H2 : Heap} (h1 : FrS lo hi H H1) (h2 : FrS lo hi H1 H2) : FrS lo hi H H2 := ⟨h2.1.trans h1.1, fun q ho => (h2.2 q ho).trans (h1.2 q ho)⟩
theorem FrS.wide {lo hi lo' hi' : Nat} {H H1 : Heap} (h : FrS lo hi H H1) (h1 : lo' ≤ lo) (h2 : hi ≤ hi') : FrS lo' hi' H H1 := ⟨h.1, fun q ho => h.2 q (by omega)⟩
theorem FrS.of1 {lo hi a : Nat} {H H1 : Heap} (h : Fr1 a H H1) (h1 : lo ≤ a) (h2 : a < hi) : FrS lo hi H H1 := ⟨h.1, fun q ho => h.2 q (by omega)⟩
theorem FrS.R {lo hi : Nat} {H H1 : Heap} (h : FrS lo hi H H1) : FrR lo hi H H1 := ⟨Nat.le_of_eq h.1.symm, fun q _ ho => h.2 q ho⟩
theorem FlAt.S {G : GG} {fb lo hi : Nat} {fl : Nat → Option Fil} {H H1 : Heap} (h : FlAt G fb fl H) (e : FrS lo hi H H1) (hh : hi ≤ fb) : FlAt G fb fl H1 := h.kept (fun q hq _ => e.2 q (by omega))
theorem FlAt.R {G : GG} {fb lo hi : Nat} {fl : Nat → Option Fil} {H H1 : Heap} (h : FlAt G fb fl H) (e : FrR lo hi H H1) (hh : hi ≤ fb) : FlAt G fb fl H1 := h.kept (fun q hq h2 => e.2 q h2 (by omega))
/-- answers only -/
def RO (P : Int32 → Prop) : Option Value → Heap → Heap → Prop := PI (fun r H H1 => H1 = H ∧ P r)
theorem RO.mk {P : Int32 → Prop} {r : Int32} {H : Heap} (h : P r) : RO P (some (.int r)) H H := ⟨r, rfl, rfl, h⟩
