/-! the law's loop: what holds at its head -/
def LwS (G : GG) (x : Nat) (H0 : Heap) (fl : Nat → Option Fil) (σ : St) (hs : List St) (tx : Nat → Int) (len : Nat) (H : Heap) : Prop :=
  XAt G x (x + 184) fl σ hs tx len H ∧ MAt G (x + 179) σ hs tx len H ∧ Inv σ ∧ (∀ τ ∈ hs, Inv τ) ∧ TxOk tx len ∧ x + 184 ≤ H.size ∧ ∀ q, q < x → H[q]? = H0[q]?
theorem LwS.mid {G : GG} {x len : Nat} {H0 H H1 : Heap} {fl : Nat → Option Fil} {σ : St} {hs : List St} {tx : Nat → Int} (h : LwS G x H0 fl σ hs tx len H) (h1 : FrR x (x + 179) H H1) : MAt G (x + 179) σ hs tx len H1 :=
  h.2.1.kept (fun q a b => h1.2 q (by have := h.2.2.2.2.2.1; omega) (by omega))
theorem LwS.act {G : GG} {x len len' : Nat} {H0 H H1 H2 : Heap} {fl : Nat → Option Fil} {σ σ' : St} {hs hs' : List St} {tx tx' : Nat → Int} (h : LwS G x H0 fl σ hs tx len H) (h1 : XP G x (x + 184) fl σ' hs' tx' len' H H1) (h2 : MP G (x + 179) σ' hs' tx' len' H1 H2) (hI : Inv σ') (hIs : ∀ τ ∈ hs', Inv τ) (hT : TxOk tx' len') : ∃ fl', LwS G x H0 fl' σ' hs' tx' len' H2 := by
  obtain ⟨⟨fl', hE, hX⟩, hR⟩ := h1
  obtain ⟨hM, hS⟩ := h2
  have hz := h.2.2.2.2.2.1
  have hz1 := hR.1
  have hz2 := hS.1
  refine ⟨fl', hX.kept (fun q a b => hS.2 q (by omega)) (fun q a b => hS.2 q (by omega)), hM, hI, hIs, hT, by omega, fun q hq => ?_⟩
  rw [hS.2 q (by omega), hR.2 q (by omega) (by omega)]
  exact h.2.2.2.2.2.2 q hq
/-- a call of the model alone has changed nothing but its own cells -/
theorem LwS.own {G : GG} {x len : Nat} {H0 H H1 : Heap} {fl : Nat → Option Fil} {σ : St} {hs : List St} {tx : Nat → Int} (h : LwS G x H0 fl σ hs tx len H) (h2 : MP G (x + 179) σ hs tx len H H1) : LwS G x H0 fl σ hs tx len H1 := by
  obtain ⟨hM, hS⟩ := h2
  have hz := h.2.2.2.2.2.1
  have hz2 := hS.1
  refine ⟨h.1.kept (fun q a b => hS.2 q (by omega)) (fun q a b => hS.2 q (by omega)), hM, h.2.2.1, h.2.2.2.1, h.2.2.2.2.1, by omega, fun q hq => ?_⟩
  rw [hS.2 q (by omega)]
  exact h.2.2.2.2.2.2 q hq
section MSCR
variable {p : Program} {l : Launch} {e : Env} {R : Room} {s : State} {m : MethodId} {args : Array Value} {below : List Frame} {meth : Method} {c : Code} {H : Heap} {locs : List Loc} {cells slots : Nat} {Q : State → Prop}
variable {G : GG} {cc : ByteArray} {n : Nat} {ret : Option FieldType} {own : String} {pc : Nat} {ls : Array Slot} {rest : List Value}
/-- the script's k-th int -/
theorem r_scr (E : En G p s m args meth c cc n ret own) {b L : Nat} {xs : Nat → Int32} (hX : va_X b L xs s s.heap) (hb : b < G.2.2) (hG : G.2.2 = s.heap.size) (hz9 : G.2.2 ≤ H.size) (hfr : ∀ q, q < G.2.2 → H[q]? = s.heap[q]?) (hL : Lk G locs) (hL2 : L ≤ 2048) {z : Int} (k : Nat) (hz : z = (k : Int)) (hk : k < L) (hdg : decode cc pc = .ok (.iaload, 1))
    (kk : ∀ y, okI y → xs k = iI y → W p l e R s m args below meth c H locs cells slots Q (F0 m (pc + 1) ls (.int (iI y) :: rest))) : W p l e R s m args below meth c H locs cells slots Q (F0 m pc ls (.int (iI z) :: .ref b :: rest)) := by
  obtain ⟨y, hy, he⟩ := iI_of (xs k)
  refine va_sld (A := fun q => G.2.2 ≤ q) (H0 := s.heap) E.1 E.2.1 hX (by omega) (by omega) ⟨by omega, fun q h1 h2 => hfr q (Nat.not_le.mp h2), hL⟩ (iI_in hz hk (by omega)) hdg ?_
  rw [iI_clamp hz (by omega), he]
  exact kk y hy he
theorem r_slen (E : En G p s m args meth c cc n ret own) {b L : Nat} {xs : Nat → Int32} (hX : va_X b L xs s s.heap) (hb : b < G.2.2) (hG : G.2.2 = s.heap.size) (hz9 : G.2.2 ≤ H.size) (hfr : ∀ q, q < G.2.2 → H[q]? = s.heap[q]?) (hL : Lk G locs) (hdg : decode cc pc = .ok (.arraylength, 1))
    (kk : W p l e R s m args below meth c H locs cells slots Q (F0 m (pc + 1) ls (.int (iI (L : Int)) :: rest))) : W p l e R s m args below meth c H locs cells slots Q (F0 m pc ls (.ref b :: rest)) := by
  refine va_slen (A := fun q => G.2.2 ≤ q) (H0 := s.heap) E.1 E.2.1 hX (by omega) (by omega) ⟨by omega, fun q h1 h2 => hfr q (Nat.not_le.mp h2), hL⟩ hdg ?_
  exact kk
end MSCR
