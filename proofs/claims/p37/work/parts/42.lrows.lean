/-! rows of the law's own: longs, raw ints, the script -/
def RJ (r : Int64) : Option Value → Heap → Heap → Prop := fun v H H1 => v = some (.long r) ∧ H1 = H
theorem lg_irr (x : Int64) : ¬ x < x := fun h => Int64.lt_irrefl h
def lowM (v : Int32) : Int := (v &&& 2147483647).toInt
def lowI (v : Int32) (n : Int) : Int := lowM v % n
theorem low_and (v : Int32) : v &&& 2147483647 = iI (lowM v) := (Int32.ofInt_toInt _).symm
theorem lowM_b (v : Int32) : 0 ≤ lowM v ∧ lowM v < 2147483648 := by
  obtain ⟨j, hj, e⟩ := pk_andE v (m := 2147483647) 31 (by decide)
  have hj2 : j < 2147483648 := hj
  unfold lowM
  rw [e, iI_nat, iI_toInt (by omega) (by omega)]
  omega
theorem low_b (v : Int32) {n : Int} (h : 0 < n) : 0 ≤ lowI v n ∧ lowI v n < n := ⟨Int.emod_nonneg _ (by omega), Int.emod_lt_of_pos _ h⟩
section ML2
variable {p : Program} {l : Launch} {e : Env} {R : Room} {s : State} {m : MethodId} {args : Array Value} {below : List Frame} {meth : Method} {c : Code} {H : Heap} {locs : List Loc} {cells slots : Nat} {Q : State → Prop}
variable {G : GG} {cc : ByteArray} {n : Nat} {ret : Option FieldType} {own : String} {pc : Nat} {ls : Array Slot} {st rest : List Value} {rm : Room} {Post : Option Value → Heap → Heap → Prop}
theorem e_lret (E : En G p s m args meth c cc n (some .long) own) (hL : Lk G locs) {v : Int64} (hdg : decode cc pc = .ok (.lreturn, 1)) (hp : Post (some (.long v)) s.heap H) : W p l e R s m args below meth c H locs rm.cells rm.slots (QQ G below args s rm Post) (F0 m pc ls [.long v]) :=
  W.lret E.1 E.2.1 E.2.2.2.1 (fun t ht _ => ⟨_, rfl, by rw [ht]; exact hp⟩) hL hdg E.2.2.2.2.2.2.1
theorem kSRJ (E : En G p s m args meth c cc n ret own) {y : MethodName} {b : ByteArray} {mL k idx : Nat} {ret' : Option FieldType} {rm' : Room} {As : List Value} {Pre : Heap → Prop} {x : Int64} (hC : CWS own idx y b mL ret' k) (hM : Ct G l y b mL ret' rm' As Pre (RJ x)) (hp : Pre H) (hL : Lk G locs) (hls : ls.size = n) (hst : st = As.reverse ++ rest) (hk : As.length = k) (hW : (rest.map fun v => v.category).sum ≤ 8) (hR : rm'.frames + 1 ≤ R.frames ∧ 8 + (mL + 11) + rm'.locals ≤ R.locals) (hz : rm'.cells = 0 ∧ rm'.slots = 0) (hf : cells ≤ R.cells ∧ slots ≤ R.slots) (hdg : decode cc pc = .ok (.invokestatic idx, 3))
    (kk : ∀ (locs1 : List Loc), Lk G locs1 → W p l e R s m args below meth c H locs1 cells slots Q (F0 m (pc + 3) ls (.long x :: rest))) : W p l e R s m args below meth c H locs cells slots Q (F0 m pc ls st) :=
  m_callS E hC hM hp hL hls hst hk hW hR (by rw [hz.1, hz.2]; exact hf) hdg (fun v H1 locs1 hL1 hv => by
    obtain ⟨rfl, rfl⟩ := hv
    rw [hz.1, hz.2]
    exact kk locs1 hL1)
theorem r_ldc (E : En G p s m args meth c cc n ret own) {index : Nat} {v : Int32} (hw : Cond.constant own index v ∈ lw_all) (hdg : decode cc pc = .ok (.ldc index, 2))
    (k : W p l e R s m args below meth c H locs cells slots Q (F0 m (pc + 2) ls (.int v :: rest))) : W p l e R s m args below meth c H locs cells slots Q (F0 m pc ls rest) := lv_ldc E.1 E.2.1 E.2.2.2.2.2.1 (E.2.2.2.2.1 _ hw) hdg k
theorem r_ldc2 (E : En G p s m args meth c cc n ret own) {index : Nat} {v : Int64} (hw : Cond.constantLong own index v ∈ lw_all) (hdg : decode cc pc = .ok (.ldc2_w index, 3))
    (k : W p l e R s m args below meth c H locs cells slots Q (F0 m (pc + 3) ls (.long v :: rest))) : W p l e R s m args below meth c H locs cells slots Q (F0 m pc ls rest) := lv_ldc2 E.1 E.2.1 E.2.2.2.2.2.1 (E.2.2.2.2.1 _ hw) hdg k
theorem r_i2l (E : En G p s m args meth c cc n ret own) {z : Int} (hdg : decode cc pc = .ok (.i2l, 1))
    (k : W p l e R s m args below meth c H locs cells slots Q (F0 m (pc + 1) ls (.long (i64 z) :: rest))) : W p l e R s m args below meth c H locs cells slots Q (F0 m pc ls (.int (iI z) :: rest)) := lv_i2l E.1 E.2.1 hdg rfl k
theorem r_lcmp (E : En G p s m args meth c cc n ret own) {x y : Int64} (hdg : decode cc pc = .ok (.lcmp, 1))
    (kk : ∀ z : Int, -1 ≤ z → z ≤ 1 → (z = 0 ↔ x = y) → W p l e R s m args below meth c H locs cells slots Q (F0 m (pc + 1) ls (.int (iI z) :: rest))) : W p l e R s m args below meth c H locs cells slots Q (F0 m pc ls (.long y :: .long x :: rest)) := by
  refine W.lcmp E.1 E.2.1 hdg ?_
  unfold lg_cmp
  by_cases h1 : y < x
  · rw [if_pos h1, show (1 : Int32) = iI 1 from rfl]
    exact kk 1 (by decide) (by decide) ⟨fun h => absurd h (by decide), fun h => absurd h1 (by rw [h]; exact lg_irr _)⟩
  · rw [if_neg h1]
    by_cases h2 : x = y
    · rw [if_pos h2, show (0 : Int32) = iI 0 from rfl]
      exact kk 0 (by decide) (by decide) ⟨fun _ => h2, fun _ => rfl⟩
    · rw [if_neg h2, show (-1 : Int32) = iI (-1) from rfl]
      exact kk (-1) (by decide) (by decide) ⟨fun h => absurd h (by decide), fun h => absurd h h2⟩
/-- a call that only stands on the script -/
theorem lot_blind {G : GG} {av : List Value} {b L : Nat} {xs : Nat → Int32} : FrameBlind (fun a U => a = av.toArray ∧ Gk G U ∧ va_X b L xs U U.heap) := fun a U g mk h => ⟨h.1, Gk.same (s := U) (U := U.calling g mk a) rfl h.2.1, h.2.2⟩
def PLot (G : GG) (av : List Value) (b L : Nat) (xs : Nat → Int32) : Array Value → State → Prop := fun a U => a = av.toArray ∧ Gk G U ∧ va_X b L xs U U.heap
def QLot : Array Value → State → Outcome → State → Prop := fun _ st o t => ∃ v, o = .returned v ∧ ((∃ r : Int32, v = some (.int r)) ∧ t.heap = st.heap)
def CtLot (G : GG) (l : Launch) (y : MethodName) (b : ByteArray) (n : Nat) (ret : Option FieldType) (rm : Room) (av : List Value) (bb L : Nat) (xs : Nat → Int32) : Prop :=
  Met l y (.code y b n ret :: lw_all) rm (PLot G av bb L xs) QLot rm.cells rm.slots (fun q => G.2.2 ≤ q)
theorem CtLot.of {G : GG} {l : Launch} {y : MethodName} {b : ByteArray} {n : Nat} {ret : Option FieldType} {rm : Room} {av : List Value} {bb L : Nat} {xs : Nat → Int32} (hy : plainName y.cls = true) (hn : (lg_sl av).length ≤ n)
    (body : ∀ p e s m args below meth c ls, En G p s m args meth c b n ret y.cls → va_X bb L xs s s.heap → lv_has ls n (lv_args 0 av) → W p l e rm s m args below meth c s.heap [] 0 0 (MQ below QLot args s rm.cells rm.slots (fun q => G.2.2 ≤ q)) (F0 m 0 ls [])) : CtLot G l y b n ret rm av bb L xs := by
  refine Met.ofW (cc := b) (maxL := n) (ret := ret) hy rfl ?_
  intro p e s m args below meth c s₁ B hml hv
  obtain ⟨rfl, hG, hP⟩ := hv
  have hts := atoms_spec (ws := .code y b n ret :: lw_all) B.pre
  have hl := lv_entry av hn
  rw [lg_entry_eq]
  exact body p e s m _ below meth c _ ⟨B.exec, B.bytes, hml, B.returns, fun w hw => hts w (List.mem_cons_of_mem _ hw), findClass_of_methodNamed B.named, B.notSynchronized, hG⟩ hP hl
theorem e_lotret (E : En G p s m args meth c cc n (some .int) own) (hL : Lk G locs) {v : Int32} (hdg : decode cc pc = .ok (.ireturn, 1)) : W p l e R s m args below meth c s.heap locs rm.cells rm.slots (MQ below QLot args s rm.cells rm.slots (fun q => G.2.2 ≤ q)) (F0 m pc ls [.int v]) :=
  W.iret E.1 E.2.1 E.2.2.2.1 (fun t ht _ => ⟨_, rfl, ⟨_, rfl⟩, ht⟩) hL hdg E.2.2.2.2.2.2.1
theorem kSLot (E : En G p s m args meth c cc n ret own) {y : MethodName} {b : ByteArray} {mL k idx bb L : Nat} {xs : Nat → Int32} {ret' : Option FieldType} {rm' : Room} {As : List Value} (hC : CWS own idx y b mL ret' k) (hM : CtLot G l y b mL ret' rm' As bb L xs) (hX : va_X bb L xs s H) (hL : Lk G locs) (hls : ls.size = n) (hst : st = As.reverse ++ rest) (hk : As.length = k) (hW : (rest.map fun v => v.category).sum ≤ 8) (hR : rm'.frames + 1 ≤ R.frames ∧ 8 + (mL + 11) + rm'.locals ≤ R.locals) (hz : rm'.cells = 0 ∧ rm'.slots = 0) (hf : cells ≤ R.cells ∧ slots ≤ R.slots) (hdg : decode cc pc = .ok (.invokestatic idx, 3))
    (kk : ∀ (r : Int32) (locs1 : List Loc), Lk G locs1 → W p l e R s m args below meth c H locs1 cells slots Q (F0 m (pc + 3) ls (.int r :: rest))) : W p l e R s m args below meth c H locs cells slots Q (F0 m pc ls st) :=
  m_run (av := []) (Pre := fun _ => True) (Po := fun v H H1 => (∃ r : Int32, v = some (.int r)) ∧ H1 = H) (rm' := rm') (va_runS (m_fix E) hM ⟨m_cb E hC.1 (E.2.2.2.2.1 _ hC.2.1) hR, E.2.2.2.2.1 _ hC.2.2⟩ ⟨lot_blind, fun U hU hW => ⟨rfl, Gk.warm hW E.2.2.2.2.2.2.2, by rw [hU]; exact va_X.moved hW.alike hX⟩⟩ rfl hk hls hst (lv_room hW) hdg (by rw [hz.1, hz.2]; exact hf)) hL (fun v H1 locs1 hL1 hv => by
    obtain ⟨⟨r, rfl⟩, rfl⟩ := hv
    rw [hz.1, hz.2]
    exact kk r locs1 hL1)
end ML2
