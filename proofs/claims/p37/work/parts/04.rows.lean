/-! what holds of the machine throughout: the classes, the array classes, the words of nest mates -/
abbrev GG : Type := va_G × (Nat → ClassId) × Nat
def gTys (G : GG) : List (ClassId × FieldType) := [(G.2.1 0, .int), (G.2.1 1, .boolean), (G.2.1 2, .char), (G.2.1 3, .object "WriteOnceDisc$Session"), (G.2.1 4, .object "WriteOnceDisc$StoredFile"), (G.2.1 5, .object "WriteOnceDisc$Disc")]
def Gk (G : GG) (U : State) : Prop := va_K G.1 vwCl (gTys G) U ∧ (va_AO "WriteOnceDisc$Session" U ∧ va_AO "WriteOnceDisc$StoredFile" U ∧ va_AO "WriteOnceDisc$Disc" U) ∧ ∀ w ∈ nestW, va_Nw w U
theorem nestW_warm {s U : State} (hW : s.WarmedH U.vm) : ∀ w ∈ nestW, va_Nw w s → va_Nw w U := by
  intro w hw
  simp only [nestW, List.mem_cons, List.not_mem_nil, or_false] at hw
  rcases hw with rfl | rfl | rfl | rfl | rfl | rfl | rfl <;> exact va_Nw.warmM hW
theorem nestW_same {s U : State} (h : s.vm = U.vm) : ∀ w ∈ nestW, va_Nw w s → va_Nw w U := by
  intro w hw
  simp only [nestW, List.mem_cons, List.not_mem_nil, or_false] at hw
  rcases hw with rfl | rfl | rfl | rfl | rfl | rfl | rfl <;> exact va_Nw.same rfl h
theorem Gk.warm {G : GG} {s U : State} (hW : s.WarmedH U.vm) (h : Gk G s) : Gk G U :=
  ⟨va_K.moved hW.alike h.1, ⟨h.2.1.1.moved hW.alike, h.2.1.2.1.moved hW.alike, h.2.1.2.2.moved hW.alike⟩, fun w hw => nestW_warm hW w hw (h.2.2 w hw)⟩
theorem Gk.same {G : GG} {s U : State} (e : s.vm = U.vm) (h : Gk G s) : Gk G U := by
  have ha : s.vm.Alike U.vm := e ▸ Vm.Alike.refl s.vm
  exact ⟨va_K.moved ha h.1, ⟨h.2.1.1.moved ha, h.2.1.2.1.moved ha, h.2.1.2.2.moved ha⟩, fun w hw => nestW_same e w hw (h.2.2 w hw)⟩
def Ob (G : GG) (a ci : Nat) (fs : List Value) (H : Heap) : Prop := va_at G.1 vwCl (a, .inr (ci, fs)) H
def Ia (G : GG) (a t n : Nat) (f : Nat → Int32) (H : Heap) : Prop := va_at G.1 vwCl (a, .inl (G.2.1 t, n, .inl f)) H
def Ra (G : GG) (a t n : Nat) (f : Nat → Option Nat) (H : Heap) : Prop := va_at G.1 vwCl (a, .inl (G.2.1 t, n, .inr (.inr (.inr (.inr f))))) H
/-- one cell alone has changed -/
def Fr1 (a : Nat) (H H1 : Heap) : Prop := H1.size = H.size ∧ ∀ q : Nat, q ≠ a → H1[q]? = H[q]?
/-- one cell has come -/
def Pu (H H1 : Heap) : Prop := H1.size = H.size + 1 ∧ ∀ q : Nat, q < H.size → H1[q]? = H[q]?
def Lk (G : GG) (locs : List Loc) : Prop := ∀ q ∈ locs, G.2.2 ≤ q.base
theorem Lk.nil {G : GG} : Lk G [] := fun _ h => by cases h
theorem Lk.app {G : GG} {l1 l2 : List Loc} (h1 : Lk G l1) (h2 : Lk G l2) : Lk G (l1 ++ l2) := fun q hq => (List.mem_append.mp hq).elim (h1 q) (h2 q)
theorem Lk.one {G : GG} {l1 : List Loc} {a k : Nat} (h1 : Lk G l1) (h2 : G.2.2 ≤ a) : Lk G (l1 ++ [⟨a, k⟩]) := h1.app (fun q hq => by rw [List.mem_singleton.mp hq]; exact h2)
theorem Ob.kept {G : GG} {a ci : Nat} {fs : List Value} {H H1 : Heap} (h : Ob G a ci fs H) (e : H1[a]? = H[a]?) : Ob G a ci fs H1 := va_at.kept h e
theorem Ia.kept {G : GG} {a t n : Nat} {f : Nat → Int32} {H H1 : Heap} (h : Ia G a t n f H) (e : H1[a]? = H[a]?) : Ia G a t n f H1 := va_at.kept h e
theorem Ra.kept {G : GG} {a t n : Nat} {f : Nat → Option Nat} {H H1 : Heap} (h : Ra G a t n f H) (e : H1[a]? = H[a]?) : Ra G a t n f H1 := va_at.kept h e
theorem Ob.lt {G : GG} {a ci : Nat} {fs : List Value} {H : Heap} (h : Ob G a ci fs H) : a < H.size := va_at.lt h
theorem Ia.lt {G : GG} {a t n : Nat} {f : Nat → Int32} {H : Heap} (h : Ia G a t n f H) : a < H.size := va_at.lt h
theorem Ra.lt {G : GG} {a t n : Nat} {f : Nat → Option Nat} {H : Heap} (h : Ra G a t n f H) : a < H.size := va_at.lt h
theorem arrV_congr {cA : ClassId} {N : Nat} {f g : Nat → Value} (h : ∀ j, j < N → f j = g j) : arrV cA N f = arrV cA N g := by
  unfold arrV
  congr 1
  apply Array.ext
  · simp
  · intro i h1 h2
    simp at h1
    simp [h i h1]
theorem Ia.to {G : GG} {a t n : Nat} {f g : Nat → Int32} {H : Heap} (h : Ia G a t n f H) (e : ∀ j, j < n → f j = g j) : Ia G a t n g H := by
  have h1 : H[a]? = some (vp_cell (G.2.1 t) (n, .inl f)) := h
  show H[a]? = some (vp_cell (G.2.1 t) (n, .inl g))
  rw [h1, vp_cell_i, vp_cell_i]
  exact congrArg some (arrV_congr fun j hj => by rw [e j hj])
theorem Ra.to {G : GG} {a t n : Nat} {f g : Nat → Option Nat} {H : Heap} (h : Ra G a t n f H) (e : ∀ j, j < n → f j = g j) : Ra G a t n g H := by
  have h1 : H[a]? = some (vp_cell (G.2.1 t) (n, .inr (.inr (.inr (.inr f))))) := h
  show H[a]? = some (vp_cell (G.2.1 t) (n, .inr (.inr (.inr (.inr g)))))
  rw [h1, vp_cell_q, vp_cell_q]
  exact congrArg some (arrV_congr fun j hj => by rw [e j hj])
/-- what a method's walk stands on -/
def En (G : GG) (p : Program) (s : State) (m : MethodId) (args : Array Value) (meth : Method) (c : Code) (cc : ByteArray) (n : Nat) (ret : Option FieldType) (own : String) : Prop :=
  p.tables.exec = Jvm.exec ∧ c.code = cc ∧ c.maxLocals = n ∧ meth.sig.returnType = ret ∧ (∀ w ∈ lw_all, w.before args s = true) ∧ s.vm.findClass own = some m.cls ∧ meth.locks = false ∧ Gk G s
/-- a method's contract -/
def Ct (G : GG) (l : Launch) (y : MethodName) (b : ByteArray) (n : Nat) (ret : Option FieldType) (rm : Room) (av : List Value) (Pre : Heap → Prop) (Post : Option Value → Heap → Heap → Prop) : Prop :=
  Met l y (.code y b n ret :: lw_all) rm (fun a U => a = av.toArray ∧ Gk G U ∧ Pre U.heap) (fun _ st o t => ∃ v, o = .returned v ∧ Post v st.heap t.heap) rm.cells rm.slots (fun q => G.2.2 ≤ q)
def PI (P : Int32 → Heap → Heap → Prop) : Option Value → Heap → Heap → Prop := fun v H H1 => ∃ r, v = some (.int r) ∧ P r H H1
def PV (P : Heap → Heap → Prop) : Option Value → Heap → Heap → Prop := fun v H H1 => v = none ∧ P H H1
def PR (P : Option Nat → Heap → Heap → Prop) : Option Value → Heap → Heap → Prop := fun v H H1 => ∃ r, v = some (va_rf r) ∧ P r H H1
def QQ (G : GG) (below : List Frame) (args : Array Value) (s : State) (rm : Room) (Post : Option Value → Heap → Heap → Prop) : State → Prop := MQ below (fun _ st o t => ∃ v, o = .returned v ∧ Post v st.heap t.heap) args s rm.cells rm.slots (fun q => G.2.2 ≤ q)
/-- the start of a method's proof -/
theorem Ct.of {G : GG} {l : Launch} {y : MethodName} {b : ByteArray} {n : Nat} {ret : Option FieldType} {rm : Room} {av : List Value} {Pre : Heap → Prop} {Post : Option Value → Heap → Heap → Prop} (hy : plainName y.cls = true) (hn : (lg_sl av).length ≤ n)
    (body : ∀ p e s m args below meth c ls, En G p s m args meth c b n ret y.cls → meth.name = y.name → Pre s.heap → lv_has ls n (lv_args 0 av) → W p l e rm s m args below meth c s.heap [] 0 0 (QQ G below args s rm Post) (F0 m 0 ls [])) : Ct G l y b n ret rm av Pre Post := by
  refine Met.ofW (cc := b) (maxL := n) (ret := ret) hy rfl ?_
  intro p e s m args below meth c s₁ B hml hv
  obtain ⟨rfl, hG, hP⟩ := hv
  have hts := atoms_spec (ws := .code y b n ret :: lw_all) B.pre
  have hl := lv_entry av hn
  rw [lg_entry_eq]
  exact body p e s m _ below meth c _ ⟨B.exec, B.bytes, hml, B.returns, fun w hw => hts w (List.mem_cons_of_mem _ hw), findClass_of_methodNamed B.named, B.notSynchronized, hG⟩ (name_of_methodNamed B.named B.method).1 hP hl
section MR
variable {p : Program} {l : Launch} {e : Env} {R : Room} {s : State} {m : MethodId} {args : Array Value} {below : List Frame} {meth : Method} {c : Code} {H : Heap} {locs : List Loc} {cells slots : Nat} {Q : State → Prop}
variable {G : GG} {cc : ByteArray} {n : Nat} {ret : Option FieldType} {own : String} {pc : Nat} {ls : Array Slot} {st rest : List Value} {rm : Room} {Post : Option Value → Heap → Heap → Prop}
theorem e_iret (E : En G p s m args meth c cc n (some .int) own) (hL : Lk G locs) {v : Int32} (hdg : decode cc pc = .ok (.ireturn, 1)) (hp : Post (some (.int v)) s.heap H) : W p l e R s m args below meth c H locs rm.cells rm.slots (QQ G below args s rm Post) (F0 m pc ls [.int v]) :=
  W.iret E.1 E.2.1 E.2.2.2.1 (fun t ht _ => ⟨_, rfl, by rw [ht]; exact hp⟩) hL hdg E.2.2.2.2.2.2.1
theorem e_zret (E : En G p s m args meth c cc n (some .boolean) own) (hL : Lk G locs) {v : Int32} (hv : narrow .boolean (.int v) = .int v) (hdg : decode cc pc = .ok (.ireturn, 1)) (hp : Post (some (.int v)) s.heap H) : W p l e R s m args below meth c H locs rm.cells rm.slots (QQ G below args s rm Post) (F0 m pc ls [.int v]) :=
  W.zret E.1 E.2.1 E.2.2.2.1 hv (fun t ht _ => ⟨_, rfl, by rw [ht]; exact hp⟩) hL hdg E.2.2.2.2.2.2.1
theorem e_vret (E : En G p s m args meth c cc n none own) (hL : Lk G locs) (hdg : decode cc pc = .ok (.return_, 1)) (hp : Post none s.heap H) : W p l e R s m args below meth c H locs rm.cells rm.slots (QQ G below args s rm Post) (F0 m pc ls []) :=
  W.vret E.1 E.2.1 E.2.2.2.1 (fun t ht _ => ⟨_, rfl, by rw [ht]; exact hp⟩) hL hdg E.2.2.2.2.2.2.1
theorem e_aret {C : String} (E : En G p s m args meth c cc n (some (.object C)) own) (hL : Lk G locs) {r : Option Nat} (hdg : decode cc pc = .ok (.areturn, 1)) (hp : Post (some (va_rf r)) s.heap H) : W p l e R s m args below meth c H locs rm.cells rm.slots (QQ G below args s rm Post) (F0 m pc ls [va_rf r]) :=
  W.aret E.1 E.2.1 E.2.2.2.1 (Or.inl ⟨_, rfl⟩) (by cases r; exact Or.inl rfl; exact Or.inr ⟨_, rfl⟩) (fun t ht _ => ⟨_, rfl, by rw [ht]; exact hp⟩) hL hdg E.2.2.2.2.2.2.1
theorem va_P1 {D : va_G} {cl : List vw_C} {q : Nat × va_E} {H : Heap} (h : va_at D cl q H) : va_P D cl [q] H := fun k r hk => by
  have hz : k < 1 := (List.getElem?_eq_some_iff.mp hk).1
  rw [show k = 0 by omega] at hk
  cases hk
  exact h
theorem m_get (E : En G p s m args meth c cc n ret own) {idx ci k a : Nat} {fs : List Value} {v : Value} (hO : Ob G a ci fs H) (hf : FW own idx ci k) (hv : fs[k]? = some v) (hdg : decode cc pc = .ok (.getfield idx, 3))
    (kk : W p l e R s m args below meth c H locs cells slots Q (F0 m (pc + 3) ls (v :: rest))) : W p l e R s m args below meth c H locs cells slots Q (F0 m pc ls (.ref a :: rest)) := by
  obtain ⟨C, T, N, hc, hin, hk, hlk, hown2⟩ := hf
  refine va_get (D := G.1) (ci := ci) (v := v) (C := C) (ref := C) (T := T) (N := N) (index := idx) (tys := gTys G) (cl := vwCl) E.1 E.2.1 E.2.2.2.2.1 hin E.2.2.2.2.2.1 E.2.2.2.2.2.2.2.1 (va_P1 hO) 0 rfl hc k hk (E.2.2.2.2.1 _ hlk) (fun _ h9 => by rw [hown2] at h9; exact h9) hv hdg kk
theorem m_put (E : En G p s m args meth c cc n ret own) {idx ci k a : Nat} {fs : List Value} {v : Value} {ty : FieldType} (hO : Ob G a ci fs H) (hf : FW own idx ci k) (hp : FP ci k ty false) (hn : narrow ty v = v) (hfit : fits ty v = true) (hl : k < fs.length) (hL : Lk G locs) (ha : G.2.2 ≤ a) (hdg : decode cc pc = .ok (.putfield idx, 3))
    (kk : ∀ (H1 : Heap) (locs1 : List Loc), Lk G locs1 → Ob G a ci (fs.set k v) H1 → Fr1 a H H1 → W p l e R s m args below meth c H1 locs1 cells slots Q (F0 m (pc + 3) ls rest)) : W p l e R s m args below meth c H locs cells slots Q (F0 m pc ls (v :: .ref a :: rest)) := by
  obtain ⟨C, T, N, hc, hin, hk, hlk, hown2⟩ := hf
  obtain ⟨C', T', N', ty0, hc', -, -, hty, hnm, hd, hfin⟩ := hp
  cases hc.symm.trans hc'
  have hts := E.2.2.2.2.1
  have hK := E.2.2.2.2.2.2.2.1
  have hap := va_apart (own := own) hts hin ty0 hty hnm hK hc
  obtain ⟨r, h1, cell, q1, q2, q3, q4⟩ := hO
  have hr : r = (C, T, N) := Option.some.inj (h1.symm.trans hc)
  subst hr
  obtain ⟨hS, hfc, kC, hkC, hkind⟩ := hK.1 ci _ hc
  obtain ⟨cf, kf, fi, f, hi, hsl⟩ := hS k hk
  have hlay := hts _ (hin _ (u_in_lay hk))
  unfold u_lay at hlay
  rw [if_neg (by rw [hfin]; decide)] at hlay
  have hst := (u_facts hfc hkC (u_lays hts hin hk) hi).1
  have h6 := u_store hfc hkC hkind hlay hi hd hn hfit
  refine W.putK E.1 E.2.1 (f := f) ⟨E.2.2.2.2.2.1, hts _ hlk, ⟨_, _, _, by rw [← hown2]; exact hi⟩, hst⟩ (by rw [q2]; exact h6) q1 q3 (by rw [hsl]; exact k2_hasslot (q4 k hk)) rfl rfl hdg fun H' e1 e2 e3 => ?_
  rw [hsl] at e1 ⊢
  exact kk H' _ (hL.one ha) ⟨_, hc, t_OB.to (V := updV (vp_V fs) k v) ⟨_, e1, q2, q3, t_set q4 hap hk v⟩ (fun j _ => vp_updV_set hl v j)⟩ ⟨e2, e3⟩
theorem m_putF (E : En G p s m args meth c cc n ret own) {idx ci k a : Nat} {fs : List Value} {v : Value} {ty : FieldType} (hin2 : meth.name = "<init>") (hO : Ob G a ci fs H) (hf : FW own idx ci k) (hp : FP ci k ty true) (hn : narrow ty v = v) (hfit : fits ty v = true) (hl : k < fs.length) (hL : Lk G locs) (ha : G.2.2 ≤ a) (hoc : ∃ T N, vwCl[ci]? = some (own, T, N)) (hdg : decode cc pc = .ok (.putfield idx, 3))
    (kk : ∀ (H1 : Heap) (locs1 : List Loc), Lk G locs1 → Ob G a ci (fs.set k v) H1 → Fr1 a H H1 → W p l e R s m args below meth c H1 locs1 cells slots Q (F0 m (pc + 3) ls rest)) : W p l e R s m args below meth c H locs cells slots Q (F0 m pc ls (v :: .ref a :: rest)) := by
  obtain ⟨C, T, N, hc, hin, hk, hlk, hown2⟩ := hf
  obtain ⟨C', T', N', ty0, hc', -, -, hty, hnm, hd, hfin⟩ := hp
  cases hc.symm.trans hc'
  obtain ⟨T2, N2, hoc⟩ := hoc
  have hCo : C = own := by have := hc.symm.trans hoc; simp at this; exact this.1
  have hts := E.2.2.2.2.1
  have hown := E.2.2.2.2.2.1
  have hK := E.2.2.2.2.2.2.2.1
  have hap := va_apart (own := own) hts hin ty0 hty hnm hK hc
  obtain ⟨r, h1, cell, q1, q2, q3, q4⟩ := hO
  have hr : r = (C, T, N) := Option.some.inj (h1.symm.trans hc)
  subst hr
  obtain ⟨hS, hfc, kC, hkC, hkind⟩ := hK.1 ci _ hc
  obtain ⟨cf, kf, fi, f, hi, hsl⟩ := hS k hk
  have hlay := hts _ (hin _ (u_in_lay hk))
  unfold u_lay at hlay
  rw [if_pos hfin] at hlay
  have hst := (u_facts hfc hkC (u_lays hts hin hk) hi).1
  have hcf : m.cls = cf := by
    obtain ⟨_, _, c', _, _, _, -, -, hf', -, -, -, hown3, -⟩ := Cond.laysFinal_spec hlay
    have e1 : c' = cf := by have := hi.symm.trans hf'; simp at this; exact this.1.symm
    rw [hown2, hCo] at hown3
    rw [← e1]; exact Option.some.inj (hown.symm.trans hown3)
  have h6 := u_fits hfc hkC hkind (Or.inr hlay) hi hd hn hfit
  refine W.putFinK E.1 E.2.1 hown (hts _ hlk) (by rw [← hown2]; exact hi) hst hcf hin2 (by rw [q2]; exact h6) q1 q3 (by rw [hsl]; exact k2_hasslot (q4 k hk)) rfl rfl hdg fun H' e1 e2 e3 => ?_
  rw [hsl] at e1 ⊢
  exact kk H' _ (hL.one ha) ⟨_, hc, t_OB.to (V := updV (vp_V fs) k v) ⟨_, e1, q2, q3, t_set q4 hap hk v⟩ (fun j _ => vp_updV_set hl v j)⟩ ⟨e2, e3⟩
/-! arrays -/
theorem m_iald (E : En G p s m args meth c cc n ret own) {a N : Nat} {f : Nat → Int32} (hO : Ia G a 0 N f H) {i : Int32} (hin : vp_in i N) (hdg : decode cc pc = .ok (.iaload, 1))
    (kk : W p l e R s m args below meth c H locs cells slots Q (F0 m (pc + 1) ls (.int (f i.toNatClampNeg) :: rest))) : W p l e R s m args below meth c H locs cells slots Q (F0 m pc ls (.int i :: .ref a :: rest)) :=
  va_iald E.1 E.2.1 E.2.2.2.2.2.2.2.1 (va_P1 hO) 0 0 rfl rfl hin hdg kk
theorem m_zald (E : En G p s m args meth c cc n ret own) {a N : Nat} {f : Nat → Int32} (hO : Ia G a 1 N f H) {i : Int32} (hin : vp_in i N) (hdg : decode cc pc = .ok (.baload, 1))
    (kk : W p l e R s m args below meth c H locs cells slots Q (F0 m (pc + 1) ls (.int (f i.toNatClampNeg) :: rest))) : W p l e R s m args below meth c H locs cells slots Q (F0 m pc ls (.int i :: .ref a :: rest)) :=
  va_zald E.1 E.2.1 E.2.2.2.2.2.2.2.1 (va_P1 hO) 0 1 rfl rfl hin hdg kk
theorem m_cald (E : En G p s m args meth c cc n ret own) {a N : Nat} {f : Nat → Int32} (hO : Ia G a 2 N f H) {i : Int32} (hin : vp_in i N) (hdg : decode cc pc = .ok (.caload, 1))
    (kk : W p l e R s m args below meth c H locs cells slots Q (F0 m (pc + 1) ls (.int (f i.toNatClampNeg) :: rest))) : W p l e R s m args below meth c H locs cells slots Q (F0 m pc ls (.int i :: .ref a :: rest)) :=
  va_cald E.1 E.2.1 E.2.2.2.2.2.2.2.1 (va_P1 hO) 0 2 rfl rfl hin hdg kk
theorem m_aald (E : En G p s m args meth c cc n ret own) {a N t : Nat} {f : Nat → Option Nat} {C : String} (hO : Ra G a t N f H) (ht : (gTys G)[t]? = some (G.2.1 t, .object C)) {i : Int32} (hin : vp_in i N) (hdg : decode cc pc = .ok (.aaload, 1))
    (kk : W p l e R s m args below meth c H locs cells slots Q (F0 m (pc + 1) ls (va_rf (f i.toNatClampNeg) :: rest))) : W p l e R s m args below meth c H locs cells slots Q (F0 m pc ls (.int i :: .ref a :: rest)) :=
  va_aldq E.1 E.2.1 E.2.2.2.2.2.2.2.1 (va_P1 hO) 0 t rfl ht hin hdg kk
theorem m_iast (E : En G p s m args meth c cc n ret own) {a N : Nat} {f : Nat → Int32} (hO : Ia G a 0 N f H) {i x : Int32} (hin : vp_in i N) (hL : Lk G locs) (ha : G.2.2 ≤ a) (hdg : decode cc pc = .ok (.iastore, 1))
    (kk : ∀ (H1 : Heap) (locs1 : List Loc), Lk G locs1 → Ia G a 0 N (upd f i.toNatClampNeg x) H1 → Fr1 a H H1 → W p l e R s m args below meth c H1 locs1 cells slots Q (F0 m (pc + 1) ls rest)) : W p l e R s m args below meth c H locs cells slots Q (F0 m pc ls (.int x :: .int i :: .ref a :: rest)) := by
  have hK := E.2.2.2.2.2.2.2.1
  have hO' : H[a]? = some (vp_cell (G.2.1 0) (N, .inl f)) := hO
  refine W.iast E.1 E.2.1 hO' ((hK.2 0 _ rfl).1 N (fun j => .int (f j))) (fun q => by cases q) (by show ¬ (i < 0 ∨ (arrV _ _ _).slots.size ≤ _); rw [arrV_size]; exact hin) rfl rfl hdg fun H1 e z oq => ?_
  refine kk H1 _ (hL.one ha) ?_ ⟨z, oq⟩
  show H1[a]? = some (vp_cell _ _)
  rw [e, vp_cell_i, vp_cell_i, arrV_store]
  congr 2
  funext q
  by_cases hq : q = i.toNatClampNeg
  · subst hq
    simp [updV, upd]
  · simp [updV, upd, hq]
theorem m_zast (E : En G p s m args meth c cc n ret own) {a N : Nat} {f : Nat → Int32} (hO : Ia G a 1 N f H) {i x : Int32} (hin : vp_in i N) (hL : Lk G locs) (ha : G.2.2 ≤ a) (hdg : decode cc pc = .ok (.bastore, 1))
    (kk : ∀ (H1 : Heap) (locs1 : List Loc), Lk G locs1 → Ia G a 1 N (upd f i.toNatClampNeg (vp_nar .boolean x)) H1 → Fr1 a H H1 → W p l e R s m args below meth c H1 locs1 cells slots Q (F0 m (pc + 1) ls rest)) : W p l e R s m args below meth c H locs cells slots Q (F0 m pc ls (.int x :: .int i :: .ref a :: rest)) := by
  have hK := E.2.2.2.2.2.2.2.1
  have hO' : H[a]? = some (vp_cell (G.2.1 1) (N, .inl f)) := hO
  refine W.zast E.1 E.2.1 hO' ((hK.2 1 _ rfl).1 N (fun j => .int (f j))) (fun q => by cases q) (by show ¬ (i < 0 ∨ (arrV _ _ _).slots.size ≤ _); rw [arrV_size]; exact hin) rfl rfl hdg fun H1 e z oq => ?_
  refine kk H1 _ (hL.one ha) ?_ ⟨z, oq⟩
  show H1[a]? = some (vp_cell _ _)
  rw [e, vp_cell_i, vp_cell_i, arrV_store]
  congr 2
  funext q
  by_cases hq : q = i.toNatClampNeg
  · subst hq
    simp [updV, upd, vp_nar]
    try rfl
  · simp [updV, upd, hq]
theorem m_cast (E : En G p s m args meth c cc n ret own) {a N : Nat} {f : Nat → Int32} (hO : Ia G a 2 N f H) {i x : Int32} (hin : vp_in i N) (hL : Lk G locs) (ha : G.2.2 ≤ a) (hdg : decode cc pc = .ok (.castore, 1))
    (kk : ∀ (H1 : Heap) (locs1 : List Loc), Lk G locs1 → Ia G a 2 N (upd f i.toNatClampNeg (vp_nar .char x)) H1 → Fr1 a H H1 → W p l e R s m args below meth c H1 locs1 cells slots Q (F0 m (pc + 1) ls rest)) : W p l e R s m args below meth c H locs cells slots Q (F0 m pc ls (.int x :: .int i :: .ref a :: rest)) := by
  have hK := E.2.2.2.2.2.2.2.1
  have hO' : H[a]? = some (vp_cell (G.2.1 2) (N, .inl f)) := hO
  refine W.cast E.1 E.2.1 hO' ((hK.2 2 _ rfl).1 N (fun j => .int (f j))) (fun q => by cases q) (by show ¬ (i < 0 ∨ (arrV _ _ _).slots.size ≤ _); rw [arrV_size]; exact hin) rfl rfl hdg fun H1 e z oq => ?_
  refine kk H1 _ (hL.one ha) ?_ ⟨z, oq⟩
  show H1[a]? = some (vp_cell _ _)
  rw [e, vp_cell_i, vp_cell_i, arrV_store]
  congr 2
  funext q
  by_cases hq : q = i.toNatClampNeg
  · subst hq
    simp [updV, upd, vp_nar]
    try rfl
  · simp [updV, upd, hq]
theorem m_aast (E : En G p s m args meth c cc n ret own) {a N t ci v : Nat} {f : Nat → Option Nat} {vs : List Value} {r : vw_C} (hO : Ra G a t N f H) (ht : (gTys G)[t]? = some (G.2.1 t, .object r.1)) (hv : Ob G v ci vs H) (hc : vwCl[ci]? = some r) {i : Int32} (hin : vp_in i N) (hL : Lk G locs) (ha : G.2.2 ≤ a) (hdg : decode cc pc = .ok (.aastore, 1))
    (kk : ∀ (H1 : Heap) (locs1 : List Loc), Lk G locs1 → Ra G a t N (va_up f i.toNatClampNeg (some v)) H1 → Fr1 a H H1 → W p l e R s m args below meth c H1 locs1 cells slots Q (F0 m (pc + 1) ls rest)) : W p l e R s m args below meth c H locs cells slots Q (F0 m pc ls (.ref v :: .int i :: .ref a :: rest)) := by
  have hK := E.2.2.2.2.2.2.2.1
  have hO' : H[a]? = some (vp_cell (G.2.1 t) (N, .inr (.inr (.inr (.inr f))))) := hO
  have hlt : i.toNatClampNeg < N := Nat.not_le.mp fun q => hin (Or.inr q)
  have h0 : ¬ i < 0 := fun q => hin (Or.inl q)
  obtain ⟨r', hr', cellV, g1, g2, g3, -⟩ := hv
  have hcls := (hK.1 ci r hc).2
  obtain ⟨kA, comp, k1, k2, k3, -⟩ := (hK.2 t _ ht).2
  have hcomp : comp = G.1.1 ci := Option.some.inj (k3.symm.trans hcls.1)
  subst hcomp
  obtain ⟨kC, hkC, -⟩ := hcls.2
  refine W.aast E.1 E.2.1 hO' (fun q h => by cases h) (fun h => by cases h) k1 k2 rfl hkC ⟨h0, by show _ < (arrV _ _ _).slots.size; rw [arrV_size]; exact hlt⟩ g1 (fun q h => by rw [g3] at h; cases h) (by rw [g2]; exact hkC) (by rw [g2]; exact va_assign hcls) rfl rfl hdg fun H1 e z oq => ?_
  refine kk H1 _ (hL.one ha) ?_ ⟨z, oq⟩
  show H1[a]? = some (vp_cell _ _)
  rw [e, vp_cell_q, vp_cell_q, arrV_store]
  congr 2
  funext q
  by_cases hq : q = i.toNatClampNeg
  · subst hq
    simp [updV, va_up, va_rf]
  · simp [updV, va_up, hq]
theorem m_aastN (E : En G p s m args meth c cc n ret own) {a N t : Nat} {f : Nat → Option Nat} {C : String} (hO : Ra G a t N f H) (ht : (gTys G)[t]? = some (G.2.1 t, .object C)) {i : Int32} (hin : vp_in i N) (hL : Lk G locs) (ha : G.2.2 ≤ a) (hdg : decode cc pc = .ok (.aastore, 1))
    (kk : ∀ (H1 : Heap) (locs1 : List Loc), Lk G locs1 → Ra G a t N (va_up f i.toNatClampNeg none) H1 → Fr1 a H H1 → W p l e R s m args below meth c H1 locs1 cells slots Q (F0 m (pc + 1) ls rest)) : W p l e R s m args below meth c H locs cells slots Q (F0 m pc ls (.null :: .int i :: .ref a :: rest)) := by
  have hK := E.2.2.2.2.2.2.2.1
  have hO' : H[a]? = some (vp_cell (G.2.1 t) (N, .inr (.inr (.inr (.inr f))))) := hO
  refine va_WaastN (C := C) E.1 E.2.1 hO' ((hK.2 t _ ht).1 N (fun j => va_rf (f j))) (fun h => by cases h) (by show ¬ (i < 0 ∨ (arrV _ _ _).slots.size ≤ _); rw [arrV_size]; exact hin) rfl rfl hdg fun H1 e z oq => ?_
  refine kk H1 _ (hL.one ha) ?_ ⟨z, oq⟩
  show H1[a]? = some (vp_cell _ _)
  rw [e, vp_cell_q, vp_cell_q, arrV_store]
  congr 2
  funext q
  by_cases hq : q = i.toNatClampNeg
  · subst hq
    simp [updV, va_up, va_rf]
  · simp [updV, va_up, hq]
/-- a reference that may be null is stored -/
theorem m_aastQ (E : En G p s m args meth c cc n ret own) {a N t ci : Nat} {f : Nat → Option Nat} {v : Option Nat} {r : vw_C} (hO : Ra G a t N f H) (ht : (gTys G)[t]? = some (G.2.1 t, .object r.1)) (hv : ∀ q, v = some q → ∃ vs, Ob G q ci vs H) (hc : vwCl[ci]? = some r) {i : Int32} (hin : vp_in i N) (hL : Lk G locs) (ha : G.2.2 ≤ a) (hdg : decode cc pc = .ok (.aastore, 1))
    (kk : ∀ (H1 : Heap) (locs1 : List Loc), Lk G locs1 → Ra G a t N (va_up f i.toNatClampNeg v) H1 → Fr1 a H H1 → W p l e R s m args below meth c H1 locs1 cells slots Q (F0 m (pc + 1) ls rest)) : W p l e R s m args below meth c H locs cells slots Q (F0 m pc ls (va_rf v :: .int i :: .ref a :: rest)) := by
  cases v with
  | none => exact m_aastN E hO ht hin hL ha hdg kk
  | some q =>
    obtain ⟨vs, hq⟩ := hv q rfl
    exact m_aast E hO ht hq hc hin hL ha hdg kk
/-! new objects and arrays -/
theorem m_new (E : En G p s m args meth c cc n ret own) {idx ci : Nat} {fs : List Value} (hw : NW own idx ci fs) (hcells : cells + 1 ≤ R.cells) (hslots : slots + fs.length ≤ R.slots) (hdg : decode cc pc = .ok (.new idx, 3))
    (kk : ∀ (H1 : Heap), Ob G H.size ci fs H1 → Pu H H1 → W p l e R s m args below meth c H1 locs (cells + 1) (slots + fs.length) Q (F0 m (pc + 3) ls (.ref H.size :: rest))) : W p l e R s m args below meth c H locs cells slots Q (F0 m pc ls rest) := by
  obtain ⟨C, T, N, ty, hc, hin, hty, hcl, hinst, hini, hfs, hlen⟩ := hw
  have hts := E.2.2.2.2.1
  have hKn := E.2.2.2.2.2.2.2.1.1 ci _ hc
  rw [hlen] at hslots kk
  refine W.newcK E.1 E.2.1 E.2.2.2.2.2.1 (hts _ hcl) (hts _ hinst) (hts _ hini) rfl hdg hcells hslots hKn.2.1 rfl fun H1 kC hkC e1 z1 o1 => ?_
  exact kk H1 ⟨_, hc, (u_born ty hts hin hKn hkC e1 hty).to hfs⟩ ⟨z1, o1⟩
theorem m_newi (E : En G p s m args meth c cc n ret own) {t : Nat} {atype : ArrayType} (hw : Cond.arrayClass (newarray.typeOf atype) ∈ lw_all) (hd : defaultValue (newarray.typeOf atype) = .int 0) (ht : (gTys G)[t]? = some (G.2.1 t, newarray.typeOf atype)) (hRA : ∀ (U : State) (cA : ClassId), va_RA U cA (newarray.typeOf atype) = (U.vm.findClass ("[" ++ (newarray.typeOf atype).toString) = some cA)) {x : Int32} {N : Nat} (hn : ¬ x < 0) (hN : x.toNatClampNeg = N) (hbytes : N * componentBytes (newarray.typeOf atype) ≤ 536870912) (hcells : cells + 1 ≤ R.cells) (hslots : slots + N ≤ R.slots) (hdg : decode cc pc = .ok (.newarray atype, 2))
    (kk : ∀ (H1 : Heap), Ia G H.size t N (fun _ => 0) H1 → Pu H H1 → W p l e R s m args below meth c H1 locs (cells + 1) (slots + N) Q (F0 m (pc + 2) ls (.ref H.size :: rest))) : W p l e R s m args below meth c H locs cells slots Q (F0 m pc ls (.int x :: rest)) := by
  have hts := E.2.2.2.2.1
  refine va_newaK E.1 E.2.1 (hts _ hw) rfl hdg rfl hn hN hbytes hcells hslots rfl fun H1 cA e1 z1 o1 hAr hNm => ?_
  have h2 := (E.2.2.2.2.2.2.2.1.2 t _ ht).2
  rw [hRA] at h2
  have hcA : cA = G.2.1 t := Option.some.inj (hNm.symm.trans h2)
  subst hcA
  refine kk H1 ?_ ⟨z1, o1⟩
  show H1[H.size]? = some (vp_cell _ _)
  rw [e1, vp_cell_i, hd]
theorem m_newq (E : En G p s m args meth c cc n ret own) {t idx : Nat} {C : String} (hw : Cond.classLink own idx C ∈ lw_all) (hover : va_AO C s) (ht : (gTys G)[t]? = some (G.2.1 t, .object C)) {x : Int32} {N : Nat} (hn : ¬ x < 0) (hN : x.toNatClampNeg = N) (hbytes : N * 4 ≤ 536870912) (hcells : cells + 1 ≤ R.cells) (hslots : slots + N ≤ R.slots) (hdg : decode cc pc = .ok (.anewarray idx, 3))
    (kk : ∀ (H1 : Heap), Ra G H.size t N (fun _ => none) H1 → Pu H H1 → W p l e R s m args below meth c H1 locs (cells + 1) (slots + N) Q (F0 m (pc + 3) ls (.ref H.size :: rest))) : W p l e R s m args below meth c H locs cells slots Q (F0 m pc ls (.int x :: rest)) := by
  subst hN
  have hts := E.2.2.2.2.1
  refine W.anew E.1 E.2.1 E.2.2.2.2.2.1 (hts _ hw) (va_AO.use hover) rfl hdg rfl hn hbytes hcells hslots fun cA kA comp f1 f2 f3 f4 => ?_
  generalize hH1 : H.push ({ cls := cA, slots := Array.replicate x.toNatClampNeg .null, vm := .none } : Cell) = H1
  have z1 : H1.size = H.size + 1 := by rw [← hH1, Array.size_push]
  have e1 : H1[H.size]? = some (arrV cA x.toNatClampNeg (fun _ => .null)) := by rw [← hH1, Array.getElem?_push_size, ← arrV_new]
  have o1 : ∀ q : Nat, q < H.size → H1[q]? = H[q]? := fun q hq => by rw [← hH1, Array.getElem?_push, if_neg (Nat.ne_of_lt hq)]
  obtain ⟨kA', comp', k1, k2, k3, k4⟩ := (E.2.2.2.2.2.2.2.1.2 t _ ht).2
  have hcA : cA = G.2.1 t := Option.some.inj (f1.symm.trans k4)
  subst hcA
  refine kk H1 ?_ ⟨z1, o1⟩
  show H1[H.size]? = some (vp_cell _ _)
  rw [vp_cell_q]
  exact e1
/-! calls -/
theorem m_fix (E : En G p s m args meth c cc n ret own) : CallFix p m c cc n s args lw_all own := ⟨E.1, E.2.1, E.2.2.1, E.2.2.2.2.2.1, E.2.2.2.2.1⟩
theorem m_blind {av : List Value} {Pre : Heap → Prop} : FrameBlind (fun a U => a = av.toArray ∧ Gk G U ∧ Pre U.heap) := fun a U g mk h => ⟨h.1, Gk.same (s := U) (U := U.calling g mk a) rfl h.2.1, h.2.2⟩
theorem m_run {rm' : Room} {av : List Value} {Pre : Heap → Prop} {Po : Option Value → Heap → Heap → Prop} {st0 : List Value}
    (hr : va_Run p l e R s m args below meth c H locs cells slots rm'.cells rm'.slots (F0 m pc ls st0) rest (fun st o t => ∃ v, o = .returned v ∧ Po v st.heap t.heap) (fun q => G.2.2 ≤ q)) (hL : Lk G locs)
    (kk : ∀ (v : Option Value) (H1 : Heap) (locs1 : List Loc), Lk G locs1 → Po v H H1 → W p l e R s m args below meth c H1 locs1 (cells + rm'.cells) (slots + rm'.slots) Q (F0 m (pc + 3) ls (v.toList ++ rest))) : W p l e R s m args below meth c H locs cells slots Q (F0 m pc ls st0) := by
  intro T hT X
  obtain ⟨v, st₀, t, T', L, h0, X', hL2, e1, e2, ⟨v', hv, hp⟩, st⟩ := hr T hT X
  cases hv
  rw [h0, ← e1] at hp
  obtain ⟨t2, a1, b1⟩ := kk v T'.heap (locs ++ L) (hL.app hL2) hp T' rfl X'
  exact ⟨t2, st t2 a1, b1⟩
theorem m_cb {y : MethodName} {b : ByteArray} {mL k idx : Nat} {ret' : Option FieldType} {rm' : Room} (E : En G p s m args meth c cc n ret own) (hC : CB y b mL ret' k) (hlk : (Cond.methodLink own idx y).before args s = true) (hR : rm'.frames + 1 ≤ R.frames ∧ 8 + (mL + 11) + rm'.locals ≤ R.locals) : CallB R s args own idx y b mL ret' (.code y b mL ret' :: lw_all) rm' rm'.cells rm'.slots k :=
  callB_of k E.2.2.2.2.1 (lw_goodc hC.1) rfl rfl rfl (E.2.2.2.2.1 _ hC.2.1) hlk ⟨hC.2.2.1.1, hC.2.2.1.2, hC.2.2.2⟩ hR
theorem m_recv (E : En G p s m args meth c cc n ret own) {a ci : Nat} {fs : List Value} {C : String} (hO : Ob G a ci fs H) (hc : ∃ T N, vwCl[ci]? = some (C, T, N)) : ∃ cell : Cell, H[a]? = some cell ∧ cell.vm.isStatics = false ∧ s.vm.findClass C = some cell.cls := by
  obtain ⟨T, N, hc⟩ := hc
  exact va_recv (q := (C, T, N)) E.2.2.2.2.2.2.2.1 (va_P1 hO) hc (q0 := 0) rfl
theorem m_callV (E : En G p s m args meth c cc n ret own) {y : MethodName} {b : ByteArray} {mL k idx a ci : Nat} {ret' : Option FieldType} {rm' : Room} {As fs : List Value} {Pre : Heap → Prop} {Po : Option Value → Heap → Heap → Prop} (hC : CWV own idx y b mL ret' k) (hM : Ct G l y b mL ret' rm' (.ref a :: As) Pre Po) (hO : Ob G a ci fs H) (hc : ∃ T N, vwCl[ci]? = some (y.cls, T, N)) (hp : Pre H) (hL : Lk G locs) (hls : ls.size = n) (hst : st = As.reverse ++ .ref a :: rest) (hk : As.length = k) (hW : (rest.map fun v => v.category).sum ≤ 8) (hR : rm'.frames + 1 ≤ R.frames ∧ 8 + (mL + 11) + rm'.locals ≤ R.locals) (hf : cells + rm'.cells ≤ R.cells ∧ slots + rm'.slots ≤ R.slots) (hdg : decode cc pc = .ok (.invokevirtual idx, 3))
    (kk : ∀ (v : Option Value) (H1 : Heap) (locs1 : List Loc), Lk G locs1 → Po v H H1 → W p l e R s m args below meth c H1 locs1 (cells + rm'.cells) (slots + rm'.slots) Q (F0 m (pc + 3) ls (v.toList ++ rest))) : W p l e R s m args below meth c H locs cells slots Q (F0 m pc ls st) :=
  m_run (av := []) (Pre := Pre) (va_runV (m_fix E) hM ⟨m_cb E hC.1 (E.2.2.2.2.1 _ hC.2.1) hR, E.2.2.2.2.1 _ hC.2.2.1, E.2.2.2.2.1 _ hC.2.2.2⟩ ⟨m_blind, m_recv E hO hc, fun U hU hW => ⟨rfl, Gk.warm hW E.2.2.2.2.2.2.2, by rw [hU]; exact hp⟩⟩ rfl hk hls hst (lv_room hW) hdg hf) hL kk
theorem m_callS (E : En G p s m args meth c cc n ret own) {y : MethodName} {b : ByteArray} {mL k idx : Nat} {ret' : Option FieldType} {rm' : Room} {As : List Value} {Pre : Heap → Prop} {Po : Option Value → Heap → Heap → Prop} (hC : CWS own idx y b mL ret' k) (hM : Ct G l y b mL ret' rm' As Pre Po) (hp : Pre H) (hL : Lk G locs) (hls : ls.size = n) (hst : st = As.reverse ++ rest) (hk : As.length = k) (hW : (rest.map fun v => v.category).sum ≤ 8) (hR : rm'.frames + 1 ≤ R.frames ∧ 8 + (mL + 11) + rm'.locals ≤ R.locals) (hf : cells + rm'.cells ≤ R.cells ∧ slots + rm'.slots ≤ R.slots) (hdg : decode cc pc = .ok (.invokestatic idx, 3))
    (kk : ∀ (v : Option Value) (H1 : Heap) (locs1 : List Loc), Lk G locs1 → Po v H H1 → W p l e R s m args below meth c H1 locs1 (cells + rm'.cells) (slots + rm'.slots) Q (F0 m (pc + 3) ls (v.toList ++ rest))) : W p l e R s m args below meth c H locs cells slots Q (F0 m pc ls st) :=
  m_run (av := []) (Pre := Pre) (va_runS (m_fix E) hM ⟨m_cb E hC.1 (E.2.2.2.2.1 _ hC.2.1) hR, E.2.2.2.2.1 _ hC.2.2⟩ ⟨m_blind, fun U hU hW => ⟨rfl, Gk.warm hW E.2.2.2.2.2.2.2, by rw [hU]; exact hp⟩⟩ rfl hk hls hst (lv_room hW) hdg hf) hL kk
theorem m_callI (E : En G p s m args meth c cc n ret own) {y : MethodName} {b : ByteArray} {mL k idx a : Nat} {rm' : Room} {As : List Value} {Pre : Heap → Prop} {Po : Option Value → Heap → Heap → Prop} (hC : CWI own idx y b mL k) (hM : Ct G l y b mL none rm' (.ref a :: As) Pre Po) (hp : Pre H) (hL : Lk G locs) (hls : ls.size = n) (hst : st = As.reverse ++ .ref a :: rest) (hk : As.length = k) (hW : (rest.map fun v => v.category).sum ≤ 8) (hR : rm'.frames + 1 ≤ R.frames ∧ 8 + (mL + 11) + rm'.locals ≤ R.locals) (hf : cells + rm'.cells ≤ R.cells ∧ slots + rm'.slots ≤ R.slots) (hdg : decode cc pc = .ok (.invokespecial idx, 3))
    (kk : ∀ (v : Option Value) (H1 : Heap) (locs1 : List Loc), Lk G locs1 → Po v H H1 → W p l e R s m args below meth c H1 locs1 (cells + rm'.cells) (slots + rm'.slots) Q (F0 m (pc + 3) ls (v.toList ++ rest))) : W p l e R s m args below meth c H locs cells slots Q (F0 m pc ls st) :=
  m_run (av := []) (Pre := Pre) (va_runI (m_fix E) hM ⟨m_cb E hC.1 (E.2.2.2.2.1 _ hC.2.1) hR, hC.2.2.2, E.2.2.2.2.1 _ hC.2.2.1⟩ ⟨m_blind, fun U hU hW => ⟨rfl, Gk.warm hW E.2.2.2.2.2.2.2, by rw [hU]; exact hp⟩⟩ rfl hk hls hst (lv_room hW) hdg hf) hL kk
theorem m_callSN (E : En G p s m args meth c cc n ret own) {y : MethodName} {b : ByteArray} {mL k idx : Nat} {ret' : Option FieldType} {rm' : Room} {As : List Value} {Pre : Heap → Prop} {Po : Option Value → Heap → Heap → Prop} (hC : CWSN nestW own idx y b mL ret' k) (hM : Ct G l y b mL ret' rm' As Pre Po) (hp : Pre H) (hL : Lk G locs) (hls : ls.size = n) (hst : st = As.reverse ++ rest) (hk : As.length = k) (hW : (rest.map fun v => v.category).sum ≤ 8) (hR : rm'.frames + 1 ≤ R.frames ∧ 8 + (mL + 11) + rm'.locals ≤ R.locals) (hf : cells + rm'.cells ≤ R.cells ∧ slots + rm'.slots ≤ R.slots) (hdg : decode cc pc = .ok (.invokestatic idx, 3))
    (kk : ∀ (v : Option Value) (H1 : Heap) (locs1 : List Loc), Lk G locs1 → Po v H H1 → W p l e R s m args below meth c H1 locs1 (cells + rm'.cells) (slots + rm'.slots) Q (F0 m (pc + 3) ls (v.toList ++ rest))) : W p l e R s m args below meth c H locs cells slots Q (F0 m pc ls st) :=
  m_run (av := []) (Pre := Pre) (va_runSN (m_fix E) hM ⟨va_cnB k E.2.2.2.2.1 (lw_goodc hC.1.1) rfl rfl rfl (E.2.2.2.2.2.2.2.2.2 _ hC.2.1) (E.2.2.2.2.1 _ hC.1.2.1) ⟨hC.1.2.2.1.1, hC.1.2.2.1.2, hC.1.2.2.2⟩ hR, E.2.2.2.2.1 _ hC.2.2, trivial⟩ ⟨m_blind, fun U hU hW => ⟨rfl, Gk.warm hW E.2.2.2.2.2.2.2, by rw [hU]; exact hp⟩⟩ rfl hk hls hst (lv_room hW) hdg hf) hL kk
theorem m_callIN (E : En G p s m args meth c cc n ret own) {y : MethodName} {b : ByteArray} {mL k idx a : Nat} {rm' : Room} {As : List Value} {Pre : Heap → Prop} {Po : Option Value → Heap → Heap → Prop} (hC : CWIN nestW own idx y b mL k) (hM : Ct G l y b mL none rm' (.ref a :: As) Pre Po) (hp : Pre H) (hL : Lk G locs) (hls : ls.size = n) (hst : st = As.reverse ++ .ref a :: rest) (hk : As.length = k) (hW : (rest.map fun v => v.category).sum ≤ 8) (hR : rm'.frames + 1 ≤ R.frames ∧ 8 + (mL + 11) + rm'.locals ≤ R.locals) (hf : cells + rm'.cells ≤ R.cells ∧ slots + rm'.slots ≤ R.slots) (hdg : decode cc pc = .ok (.invokespecial idx, 3))
    (kk : ∀ (v : Option Value) (H1 : Heap) (locs1 : List Loc), Lk G locs1 → Po v H H1 → W p l e R s m args below meth c H1 locs1 (cells + rm'.cells) (slots + rm'.slots) Q (F0 m (pc + 3) ls (v.toList ++ rest))) : W p l e R s m args below meth c H locs cells slots Q (F0 m pc ls st) :=
  m_run (av := []) (Pre := Pre) (va_runIN (m_fix E) hM ⟨va_cnB k E.2.2.2.2.1 (lw_goodc hC.1.1) rfl rfl rfl (E.2.2.2.2.2.2.2.2.2 _ hC.2.1) (E.2.2.2.2.1 _ hC.1.2.1) ⟨hC.1.2.2.1.1, hC.1.2.2.1.2, hC.1.2.2.2⟩ hR, hC.2.2.2, E.2.2.2.2.1 _ hC.2.2.1⟩ ⟨m_blind, fun U hU hW => ⟨rfl, Gk.warm hW E.2.2.2.2.2.2.2, by rw [hU]; exact hp⟩⟩ rfl hk hls hst (lv_room hW) hdg hf) hL kk
theorem m_objinit (E : En G p s m args meth c cc n ret own) {idx a : Nat} (hlk : Cond.methodLink own idx objectInit ∈ lw_all) (hls : ls.size = n) (hfr : 1 ≤ R.frames) (hlo : (rest.map fun v => v.category).sum + 12 ≤ R.locals) (hdg : decode cc pc = .ok (.invokespecial idx, 3))
    (kk : W p l e R s m args below meth c H locs cells slots Q (F0 m (pc + 3) ls rest)) : W p l e R s m args below meth c H locs cells slots Q (F0 m pc ls (.ref a :: rest)) :=
  W.objInit E.1 E.2.1 E.2.2.2.2.2.1 (E.2.2.2.2.1 _ hlk) (E.2.2.2.2.1 _ oi_inst) (E.2.2.2.2.1 _ oi_code) rfl (by rw [E.2.2.1]; exact hls) rfl hdg hfr (by show 2 * 0 + _ + 12 ≤ _; omega) kk
theorem m_min (E : En G p s m args meth c cc n ret own) {idx : Nat} (hlk : Cond.methodLink own idx Lib.Math.min.name ∈ lw_all) (hls : ls.size = n) (hfr : 1 ≤ R.frames) (hlo : (rest.map fun v => v.category).sum + 13 ≤ R.locals) (hc : cells ≤ R.cells) (hs : slots ≤ R.slots) {x y : Int32} (hdg : decode cc pc = .ok (.invokestatic idx, 3))
    (kk : ∀ z : Int32, z = (if y < x then y else x) → W p l e R s m args below meth c H locs cells slots Q (F0 m (pc + 3) ls (.int z :: rest))) : W p l e R s m args below meth c H locs cells slots Q (F0 m pc ls (.int y :: .int x :: rest)) :=
  va_mmin E.1 E.2.1 (by rw [E.2.2.1]; exact hls.symm) E.2.2.2.2.2.1 (E.2.2.2.2.1 _ hlk) (E.2.2.2.2.1 _ ms_min) (E.2.2.2.2.1 _ mi_math) (E.2.2.2.2.1 _ mc_min) hfr hlo hc hs hdg (kk _ rfl)
theorem m_max (E : En G p s m args meth c cc n ret own) {idx : Nat} (hlk : Cond.methodLink own idx Lib.Math.max.name ∈ lw_all) (hls : ls.size = n) (hfr : 1 ≤ R.frames) (hlo : (rest.map fun v => v.category).sum + 13 ≤ R.locals) (hc : cells ≤ R.cells) (hs : slots ≤ R.slots) {x y : Int32} (hdg : decode cc pc = .ok (.invokestatic idx, 3))
    (kk : ∀ z : Int32, z = (if x < y then y else x) → W p l e R s m args below meth c H locs cells slots Q (F0 m (pc + 3) ls (.int z :: rest))) : W p l e R s m args below meth c H locs cells slots Q (F0 m pc ls (.int y :: .int x :: rest)) :=
  va_mmax E.1 E.2.1 (by rw [E.2.2.1]; exact hls.symm) E.2.2.2.2.2.1 (E.2.2.2.2.1 _ hlk) (E.2.2.2.2.1 _ ms_max) (E.2.2.2.2.1 _ mi_math) (E.2.2.2.2.1 _ mc_max) hfr hlo hc hs hdg (kk _ rfl)
/-! joins and loops -/
theorem W_cut {α : Type} (P : α → Prop) (g : α → JFrame) {g0 : JFrame} (J : ∀ v, P v → W p l e R s m args below meth c H locs cells slots Q (g v)) (k : (∀ v, P v → W p l e R s m args below meth c H locs cells slots Q (g v)) → W p l e R s m args below meth c H locs cells slots Q g0) : W p l e R s m args below meth c H locs cells slots Q g0 := k J
end MR
