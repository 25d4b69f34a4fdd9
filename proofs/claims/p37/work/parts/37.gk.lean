theorem arr_p {ty : FieldType} {args : Array Value} {s : State} (h : (Cond.arrayClass ty).before args s = true) : ∃ cA : ClassId, ArrOfT s cA ty ∧ s.vm.findClass ("[" ++ ty.toString) = some cA := by
  obtain ⟨cA, kA, comp, h1, h2, h3⟩ := Cond.arrayClass_spec h
  exact ⟨cA, fun N z => ⟨fun k h => (by cases h), kA, h2, comp, h3⟩, h1⟩
theorem arr_o {C : String} {args : Array Value} {s : State} (h : (Cond.arrayOver (.object C)).before args s = true) : ∃ cA : ClassId, ArrOfT s cA (.object C) ∧ va_RA s cA (.object C) := by
  obtain ⟨comp, cA, kA, f4, _, f2, f3, f1⟩ := Cond.arrayOver_spec h
  exact ⟨cA, fun N z => ⟨(fun k h => by cases h), kA, f2, comp, f3⟩, kA, comp, f2, f3, f4, f1⟩
/-- what holds of the machine, out of the law's words -/
theorem gk_of {args : Array Value} {s : State} (hts : ∀ w ∈ lw_tbl, w.before args s = true) (n : Nat) : ∃ G : GG, Gk G s ∧ G.2.2 = n := by
  obtain ⟨D, hD⟩ := kn_all hts
  obtain ⟨c0, a0, b0⟩ := arr_p (hts _ (lw_all_tbl ac_int))
  obtain ⟨c1, a1, b1⟩ := arr_p (hts _ (lw_all_tbl ac_boolean))
  obtain ⟨c2, a2, b2⟩ := arr_p (hts _ (lw_all_tbl ac_char))
  have w3 := hts (.arrayOver (.object "WriteOnceDisc$Session")) (by decide +kernel)
  have w4 := hts (.arrayOver (.object "WriteOnceDisc$StoredFile")) (by decide +kernel)
  have w5 := hts (.arrayOver (.object "WriteOnceDisc$Disc")) (by decide +kernel)
  obtain ⟨c3, a3, b3⟩ := arr_o w3
  obtain ⟨c4, a4, b4⟩ := arr_o w4
  obtain ⟨c5, a5, b5⟩ := arr_o w5
  refine ⟨(D, (fun k => if k = 0 then c0 else if k = 1 then c1 else if k = 2 then c2 else if k = 3 then c3 else if k = 4 then c4 else c5), n), ⟨⟨hD, fun k q hk => ?_⟩, ⟨va_AO.of w3, va_AO.of w4, va_AO.of w5⟩, fun w hw => ?_⟩, rfl⟩
  · have hlt : k < 6 := (List.getElem?_eq_some_iff.mp hk).1
    rcases (show k = 0 ∨ k = 1 ∨ k = 2 ∨ k = 3 ∨ k = 4 ∨ k = 5 by omega) with rfl | rfl | rfl | rfl | rfl | rfl
    · cases hk; exact ⟨a0, b0⟩
    · cases hk; exact ⟨a1, b1⟩
    · cases hk; exact ⟨a2, b2⟩
    · cases hk; exact ⟨a3, b3⟩
    · cases hk; exact ⟨a4, b4⟩
    · cases hk; exact ⟨a5, b5⟩
  · simp only [nestW, List.mem_cons, List.not_mem_nil, or_false] at hw
    rcases hw with rfl | rfl | rfl | rfl | rfl | rfl | rfl <;> exact va_Nw.of rfl (hts _ (by decide +kernel))
