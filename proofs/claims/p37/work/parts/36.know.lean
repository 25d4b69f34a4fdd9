/-! the classes and the nest mates' words, out of the law's words -/
theorem kn_of {own : String} {idx ci : Nat} {fs : List Value} (h : NW own idx ci fs) {args : Array Value} {s : State} (hts : ∀ w ∈ lw_tbl, w.before args s = true) : ∃ (C : String) (T : u_T) (N : Nat) (cC : ClassId) (iS : Nat → Nat), vwCl[ci]? = some (C, T, N) ∧ u_Kn s C T N cC iS := by
  obtain ⟨C, T, N, ty, h1, h2, _, _, h5, _⟩ := h
  obtain ⟨cC, iS, hk⟩ := u_known hts (fun w hw => lw_all_tbl (h2 w hw)) (hts _ (lw_all_tbl h5))
  exact ⟨C, T, N, cC, iS, h1, hk⟩
theorem kn_all {args : Array Value} {s : State} (hts : ∀ w ∈ lw_tbl, w.before args s = true) : ∃ D : va_G, ∀ (ci : Nat) (q : vw_C), vwCl[ci]? = some q → u_Kn s q.1 q.2.1 q.2.2 (D.1 ci) (D.2 ci) := by
  have hall : ∀ ci : Nat, ∃ (cC : ClassId) (iS : Nat → Nat), ∀ q : vw_C, vwCl[ci]? = some q → u_Kn s q.1 q.2.1 q.2.2 cC iS := by
    intro ci
    by_cases hlt : ci < 6
    · have key : ∃ (C : String) (T : u_T) (N : Nat) (cC : ClassId) (iS : Nat → Nat), vwCl[ci]? = some (C, T, N) ∧ u_Kn s C T N cC iS := by
        rcases (show ci = 0 ∨ ci = 1 ∨ ci = 2 ∨ ci = 3 ∨ ci = 4 ∨ ci = 5 by omega) with rfl | rfl | rfl | rfl | rfl | rfl
        · exact kn_of nw_X5_23 hts
        · exact kn_of nw_X5_9 hts
        · exact kn_of nw_X5_16 hts
        · exact kn_of nw_X1_9 hts
        · exact kn_of nw_X3_9 hts
        · exact kn_of nw_L_14 hts
      obtain ⟨C, T, N, cC, iS, h1, h2⟩ := key
      refine ⟨cC, iS, fun q hq => ?_⟩
      rw [h1] at hq
      cases hq
      exact h2
    · obtain ⟨C, T, N, cC, iS, h1, h2⟩ := kn_of nw_X5_23 hts
      refine ⟨cC, iS, fun q hq => ?_⟩
      have h9 := (List.getElem?_eq_some_iff.mp hq).1
      exact absurd (show ci < 6 from h9) hlt
  exact ⟨(fun ci => (hall ci).choose, fun ci => (hall ci).choose_spec.choose), fun ci q hq => (hall ci).choose_spec.choose_spec q hq⟩
