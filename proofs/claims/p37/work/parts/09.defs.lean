/-- a session's two cells as they are -/
def SesR (G : GG) (a : Nat) (w : Nat → Int32) (t : Nat → Option Nat) (H : Heap) : Prop := Ob G a 3 [.ref (a + 1), .int (w 0), .int (w 1), .int (w 2), .int (w 3), .int (w 4), .int (w 5)] H ∧ Ra G (a + 1) 4 20 t H
def encR (row : Nat → Nat) : Nat → Int32 := fun k => if k = 0 then iI (row 0) else if k = 1 then iI (row 1) else if k = 2 then iI ((row 1 : Int) + (row 2 : Int)) else if k = 3 then iI (row 3) else if k = 4 then iI (row 4) else iI (row 5)
theorem SesL.raw {G : GG} {a : Nat} {fl : Nat → Option Fil} {row : Nat → Nat} {tab : Nat → Option Fil} {H : Heap} (h : SesL G a fl row tab H) : ∃ t, SesR G a (encR row) t H ∧ TabOk fl t tab := by
  obtain ⟨t, h1, h2, h3⟩ := h
  exact ⟨t, ⟨h1, h2⟩, h3⟩
theorem SesR.live {G : GG} {a : Nat} {fl : Nat → Option Fil} {w : Nat → Int32} {row : Nat → Nat} {t : Nat → Option Nat} {tab : Nat → Option Fil} {H : Heap} (h : SesR G a w t H) (ht : TabOk fl t tab) (hw : w 0 = iI (row 0) ∧ w 1 = iI (row 1) ∧ w 2 = iI ((row 1 : Int) + (row 2 : Int)) ∧ w 3 = iI (row 3) ∧ w 4 = iI (row 4) ∧ w 5 = iI (row 5)) : SesL G a fl row tab H := by
  obtain ⟨e0, e1, e2, e3, e4, e5⟩ := hw
  refine ⟨t, ?_, h.2, ht⟩
  rw [← e0, ← e1, ← e2, ← e3, ← e4, ← e5]
  exact h.1
theorem SesR.kept {G : GG} {a : Nat} {w : Nat → Int32} {t : Nat → Option Nat} {H H1 : Heap} (h : SesR G a w t H) (e0 : H1[a]? = H[a]?) (e1 : H1[a + 1]? = H[a + 1]?) : SesR G a w t H1 := ⟨h.1.kept e0, h.2.kept e1⟩
/-- the references of a table hold files, all from fb on -/
def TabF (G : GG) (fb : Nat) (t : Nat → Option Nat) (H : Heap) : Prop := ∀ k, k < 20 → ∀ x, t k = some x → fb ≤ x ∧ ∃ vs, Ob G x 4 vs H
theorem TabF.kept {G : GG} {fb : Nat} {t : Nat → Option Nat} {H H1 : Heap} (h : TabF G fb t H) (e : ∀ q, fb ≤ q → q < H.size → H1[q]? = H[q]?) : TabF G fb t H1 := by
  intro k hk x hx
  obtain ⟨h1, vs, h2⟩ := h k hk x hx
  exact ⟨h1, vs, h2.kept (e x h1 h2.lt)⟩
theorem TabOk.F {G : GG} {fb : Nat} {fl : Nat → Option Fil} {t : Nat → Option Nat} {tab : Nat → Option Fil} {H : Heap} (h : TabOk fl t tab) (hf : FlAt G fb fl H) : TabF G fb t H := by
  intro k hk x hx
  obtain ⟨f, hf2⟩ := (h k hk).2 x hx
  exact ⟨(hf.2 x f hf2).1, _, (hf.2 x f hf2).2⟩
