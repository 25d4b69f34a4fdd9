/-! calls by what comes back: an answer alone (RE), a reference alone (QE), an answer and changes (WE), changes alone (WV) -/
def RE (x : Int32) : Option Value → Heap → Heap → Prop := fun v H H1 => v = some (.int x) ∧ H1 = H
def QE (r : Option Nat) : Option Value → Heap → Heap → Prop := fun v H H1 => v = some (va_rf r) ∧ H1 = H
def WE (x : Int32) (Q : Heap → Heap → Prop) : Option Value → Heap → Heap → Prop := fun v H H1 => v = some (.int x) ∧ Q H H1
def WV (Q : Heap → Heap → Prop) : Option Value → Heap → Heap → Prop := fun v H H1 => v = none ∧ Q H H1
section MCC
variable {p : Program} {l : Launch} {e : Env} {R : Room} {s : State} {m : MethodId} {args : Array Value} {below : List Frame} {meth : Method} {c : Code} {H : Heap} {locs : List Loc} {cells slots : Nat} {Q : State → Prop}
variable {G : GG} {cc : ByteArray} {n : Nat} {ret : Option FieldType} {own : String} {pc : Nat} {ls : Array Slot} {st rest : List Value}
theorem kVRE (E : En G p s m args meth c cc n ret own) {y : MethodName} {b : ByteArray} {mL k idx : Nat} {ret' : Option FieldType} {a ci : Nat} {fs : List Value} {rm' : Room} {As : List Value} {Pre : Heap → Prop} {x : Int32} (hC : CWV own idx y b mL ret' k) (hM : Ct G l y b mL ret' rm' (.ref a :: As) Pre (RE x)) (hO : Ob G a ci fs H) (hc : ∃ T N, vwCl[ci]? = some (y.cls, T, N)) (hp : Pre H) (hL : Lk G locs) (hls : ls.size = n) (hst : st = As.reverse ++ .ref a :: rest) (hk : As.length = k) (hW : (rest.map fun v => v.category).sum ≤ 8) (hR : rm'.frames + 1 ≤ R.frames ∧ 8 + (mL + 11) + rm'.locals ≤ R.locals) (hz : rm'.cells = 0 ∧ rm'.slots = 0) (hf : cells ≤ R.cells ∧ slots ≤ R.slots) (hdg : decode cc pc = .ok (.invokevirtual idx, 3))
    (kk : ∀ (locs1 : List Loc), Lk G locs1 → W p l e R s m args below meth c H locs1 cells slots Q (F0 m (pc + 3) ls (.int x :: rest))) : W p l e R s m args below meth c H locs cells slots Q (F0 m pc ls st) :=
  m_callV E hC hM hO hc hp hL hls hst hk hW hR (by rw [hz.1, hz.2]; exact hf) hdg (fun v H1 locs1 hL1 hv => by
    obtain ⟨rfl, rfl⟩ := hv
    rw [hz.1, hz.2]
    exact kk locs1 hL1)
theorem kVQE (E : En G p s m args meth c cc n ret own) {y : MethodName} {b : ByteArray} {mL k idx : Nat} {ret' : Option FieldType} {a ci : Nat} {fs : List Value} {rm' : Room} {As : List Value} {Pre : Heap → Prop} {r : Option Nat} (hC : CWV own idx y b mL ret' k) (hM : Ct G l y b mL ret' rm' (.ref a :: As) Pre (QE r)) (hO : Ob G a ci fs H) (hc : ∃ T N, vwCl[ci]? = some (y.cls, T, N)) (hp : Pre H) (hL : Lk G locs) (hls : ls.size = n) (hst : st = As.reverse ++ .ref a :: rest) (hk : As.length = k) (hW : (rest.map fun v => v.category).sum ≤ 8) (hR : rm'.frames + 1 ≤ R.frames ∧ 8 + (mL + 11) + rm'.locals ≤ R.locals) (hz : rm'.cells = 0 ∧ rm'.slots = 0) (hf : cells ≤ R.cells ∧ slots ≤ R.slots) (hdg : decode cc pc = .ok (.invokevirtual idx, 3))
    (kk : ∀ (locs1 : List Loc), Lk G locs1 → W p l e R s m args below meth c H locs1 cells slots Q (F0 m (pc + 3) ls (va_rf r :: rest))) : W p l e R s m args below meth c H locs cells slots Q (F0 m pc ls st) :=
  m_callV E hC hM hO hc hp hL hls hst hk hW hR (by rw [hz.1, hz.2]; exact hf) hdg (fun v H1 locs1 hL1 hv => by
    obtain ⟨rfl, rfl⟩ := hv
    rw [hz.1, hz.2]
    exact kk locs1 hL1)
theorem kVWE (E : En G p s m args meth c cc n ret own) {y : MethodName} {b : ByteArray} {mL k idx : Nat} {ret' : Option FieldType} {a ci : Nat} {fs : List Value} {rm' : Room} {As : List Value} {Pre : Heap → Prop} {x : Int32} {Qp : Heap → Heap → Prop} (hC : CWV own idx y b mL ret' k) (hM : Ct G l y b mL ret' rm' (.ref a :: As) Pre (WE x Qp)) (hO : Ob G a ci fs H) (hc : ∃ T N, vwCl[ci]? = some (y.cls, T, N)) (hp : Pre H) (hL : Lk G locs) (hls : ls.size = n) (hst : st = As.reverse ++ .ref a :: rest) (hk : As.length = k) (hW : (rest.map fun v => v.category).sum ≤ 8) (hR : rm'.frames + 1 ≤ R.frames ∧ 8 + (mL + 11) + rm'.locals ≤ R.locals) (hf : cells + rm'.cells ≤ R.cells ∧ slots + rm'.slots ≤ R.slots) (hdg : decode cc pc = .ok (.invokevirtual idx, 3))
    (kk : ∀ (H1 : Heap) (locs1 : List Loc), Lk G locs1 → Qp H H1 → W p l e R s m args below meth c H1 locs1 (cells + rm'.cells) (slots + rm'.slots) Q (F0 m (pc + 3) ls (.int x :: rest))) : W p l e R s m args below meth c H locs cells slots Q (F0 m pc ls st) :=
  m_callV E hC hM hO hc hp hL hls hst hk hW hR hf hdg (fun v H1 locs1 hL1 hv => by
    obtain ⟨rfl, hv⟩ := hv
    exact kk H1 locs1 hL1 hv)
theorem kVWV (E : En G p s m args meth c cc n ret own) {y : MethodName} {b : ByteArray} {mL k idx : Nat} {ret' : Option FieldType} {a ci : Nat} {fs : List Value} {rm' : Room} {As : List Value} {Pre : Heap → Prop} {Qp : Heap → Heap → Prop} (hC : CWV own idx y b mL ret' k) (hM : Ct G l y b mL ret' rm' (.ref a :: As) Pre (WV Qp)) (hO : Ob G a ci fs H) (hc : ∃ T N, vwCl[ci]? = some (y.cls, T, N)) (hp : Pre H) (hL : Lk G locs) (hls : ls.size = n) (hst : st = As.reverse ++ .ref a :: rest) (hk : As.length = k) (hW : (rest.map fun v => v.category).sum ≤ 8) (hR : rm'.frames + 1 ≤ R.frames ∧ 8 + (mL + 11) + rm'.locals ≤ R.locals) (hf : cells + rm'.cells ≤ R.cells ∧ slots + rm'.slots ≤ R.slots) (hdg : decode cc pc = .ok (.invokevirtual idx, 3))
    (kk : ∀ (H1 : Heap) (locs1 : List Loc), Lk G locs1 → Qp H H1 → W p l e R s m args below meth c H1 locs1 (cells + rm'.cells) (slots + rm'.slots) Q (F0 m (pc + 3) ls (rest))) : W p l e R s m args below meth c H locs cells slots Q (F0 m pc ls st) :=
  m_callV E hC hM hO hc hp hL hls hst hk hW hR hf hdg (fun v H1 locs1 hL1 hv => by
    obtain ⟨rfl, hv⟩ := hv
    exact kk H1 locs1 hL1 hv)
theorem kSRE (E : En G p s m args meth c cc n ret own) {y : MethodName} {b : ByteArray} {mL k idx : Nat} {ret' : Option FieldType} {rm' : Room} {As : List Value} {Pre : Heap → Prop} {x : Int32} (hC : CWS own idx y b mL ret' k) (hM : Ct G l y b mL ret' rm' As Pre (RE x)) (hp : Pre H) (hL : Lk G locs) (hls : ls.size = n) (hst : st = As.reverse ++ rest) (hk : As.length = k) (hW : (rest.map fun v => v.category).sum ≤ 8) (hR : rm'.frames + 1 ≤ R.frames ∧ 8 + (mL + 11) + rm'.locals ≤ R.locals) (hz : rm'.cells = 0 ∧ rm'.slots = 0) (hf : cells ≤ R.cells ∧ slots ≤ R.slots) (hdg : decode cc pc = .ok (.invokestatic idx, 3))
    (kk : ∀ (locs1 : List Loc), Lk G locs1 → W p l e R s m args below meth c H locs1 cells slots Q (F0 m (pc + 3) ls (.int x :: rest))) : W p l e R s m args below meth c H locs cells slots Q (F0 m pc ls st) :=
  m_callS E hC hM hp hL hls hst hk hW hR (by rw [hz.1, hz.2]; exact hf) hdg (fun v H1 locs1 hL1 hv => by
    obtain ⟨rfl, rfl⟩ := hv
    rw [hz.1, hz.2]
    exact kk locs1 hL1)
theorem kSQE (E : En G p s m args meth c cc n ret own) {y : MethodName} {b : ByteArray} {mL k idx : Nat} {ret' : Option FieldType} {rm' : Room} {As : List Value} {Pre : Heap → Prop} {r : Option Nat} (hC : CWS own idx y b mL ret' k) (hM : Ct G l y b mL ret' rm' As Pre (QE r)) (hp : Pre H) (hL : Lk G locs) (hls : ls.size = n) (hst : st = As.reverse ++ rest) (hk : As.length = k) (hW : (rest.map fun v => v.category).sum ≤ 8) (hR : rm'.frames + 1 ≤ R.frames ∧ 8 + (mL + 11) + rm'.locals ≤ R.locals) (hz : rm'.cells = 0 ∧ rm'.slots = 0) (hf : cells ≤ R.cells ∧ slots ≤ R.slots) (hdg : decode cc pc = .ok (.invokestatic idx, 3))
    (kk : ∀ (locs1 : List Loc), Lk G locs1 → W p l e R s m args below meth c H locs1 cells slots Q (F0 m (pc + 3) ls (va_rf r :: rest))) : W p l e R s m args below meth c H locs cells slots Q (F0 m pc ls st) :=
  m_callS E hC hM hp hL hls hst hk hW hR (by rw [hz.1, hz.2]; exact hf) hdg (fun v H1 locs1 hL1 hv => by
    obtain ⟨rfl, rfl⟩ := hv
    rw [hz.1, hz.2]
    exact kk locs1 hL1)
theorem kSWE (E : En G p s m args meth c cc n ret own) {y : MethodName} {b : ByteArray} {mL k idx : Nat} {ret' : Option FieldType} {rm' : Room} {As : List Value} {Pre : Heap → Prop} {x : Int32} {Qp : Heap → Heap → Prop} (hC : CWS own idx y b mL ret' k) (hM : Ct G l y b mL ret' rm' As Pre (WE x Qp)) (hp : Pre H) (hL : Lk G locs) (hls : ls.size = n) (hst : st = As.reverse ++ rest) (hk : As.length = k) (hW : (rest.map fun v => v.category).sum ≤ 8) (hR : rm'.frames + 1 ≤ R.frames ∧ 8 + (mL + 11) + rm'.locals ≤ R.locals) (hf : cells + rm'.cells ≤ R.cells ∧ slots + rm'.slots ≤ R.slots) (hdg : decode cc pc = .ok (.invokestatic idx, 3))
    (kk : ∀ (H1 : Heap) (locs1 : List Loc), Lk G locs1 → Qp H H1 → W p l e R s m args below meth c H1 locs1 (cells + rm'.cells) (slots + rm'.slots) Q (F0 m (pc + 3) ls (.int x :: rest))) : W p l e R s m args below meth c H locs cells slots Q (F0 m pc ls st) :=
  m_callS E hC hM hp hL hls hst hk hW hR hf hdg (fun v H1 locs1 hL1 hv => by
    obtain ⟨rfl, hv⟩ := hv
    exact kk H1 locs1 hL1 hv)
theorem kSWV (E : En G p s m args meth c cc n ret own) {y : MethodName} {b : ByteArray} {mL k idx : Nat} {ret' : Option FieldType} {rm' : Room} {As : List Value} {Pre : Heap → Prop} {Qp : Heap → Heap → Prop} (hC : CWS own idx y b mL ret' k) (hM : Ct G l y b mL ret' rm' As Pre (WV Qp)) (hp : Pre H) (hL : Lk G locs) (hls : ls.size = n) (hst : st = As.reverse ++ rest) (hk : As.length = k) (hW : (rest.map fun v => v.category).sum ≤ 8) (hR : rm'.frames + 1 ≤ R.frames ∧ 8 + (mL + 11) + rm'.locals ≤ R.locals) (hf : cells + rm'.cells ≤ R.cells ∧ slots + rm'.slots ≤ R.slots) (hdg : decode cc pc = .ok (.invokestatic idx, 3))
    (kk : ∀ (H1 : Heap) (locs1 : List Loc), Lk G locs1 → Qp H H1 → W p l e R s m args below meth c H1 locs1 (cells + rm'.cells) (slots + rm'.slots) Q (F0 m (pc + 3) ls (rest))) : W p l e R s m args below meth c H locs cells slots Q (F0 m pc ls st) :=
  m_callS E hC hM hp hL hls hst hk hW hR hf hdg (fun v H1 locs1 hL1 hv => by
    obtain ⟨rfl, hv⟩ := hv
    exact kk H1 locs1 hL1 hv)
theorem kSNRE (E : En G p s m args meth c cc n ret own) {y : MethodName} {b : ByteArray} {mL k idx : Nat} {ret' : Option FieldType} {rm' : Room} {As : List Value} {Pre : Heap → Prop} {x : Int32} (hC : CWSN nestW own idx y b mL ret' k) (hM : Ct G l y b mL ret' rm' As Pre (RE x)) (hp : Pre H) (hL : Lk G locs) (hls : ls.size = n) (hst : st = As.reverse ++ rest) (hk : As.length = k) (hW : (rest.map fun v => v.category).sum ≤ 8) (hR : rm'.frames + 1 ≤ R.frames ∧ 8 + (mL + 11) + rm'.locals ≤ R.locals) (hz : rm'.cells = 0 ∧ rm'.slots = 0) (hf : cells ≤ R.cells ∧ slots ≤ R.slots) (hdg : decode cc pc = .ok (.invokestatic idx, 3))
    (kk : ∀ (locs1 : List Loc), Lk G locs1 → W p l e R s m args below meth c H locs1 cells slots Q (F0 m (pc + 3) ls (.int x :: rest))) : W p l e R s m args below meth c H locs cells slots Q (F0 m pc ls st) :=
  m_callSN E hC hM hp hL hls hst hk hW hR (by rw [hz.1, hz.2]; exact hf) hdg (fun v H1 locs1 hL1 hv => by
    obtain ⟨rfl, rfl⟩ := hv
    rw [hz.1, hz.2]
    exact kk locs1 hL1)
theorem kSNQE (E : En G p s m args meth c cc n ret own) {y : MethodName} {b : ByteArray} {mL k idx : Nat} {ret' : Option FieldType} {rm' : Room} {As : List Value} {Pre : Heap → Prop} {r : Option Nat} (hC : CWSN nestW own idx y b mL ret' k) (hM : Ct G l y b mL ret' rm' As Pre (QE r)) (hp : Pre H) (hL : Lk G locs) (hls : ls.size = n) (hst : st = As.reverse ++ rest) (hk : As.length = k) (hW : (rest.map fun v => v.category).sum ≤ 8) (hR : rm'.frames + 1 ≤ R.frames ∧ 8 + (mL + 11) + rm'.locals ≤ R.locals) (hz : rm'.cells = 0 ∧ rm'.slots = 0) (hf : cells ≤ R.cells ∧ slots ≤ R.slots) (hdg : decode cc pc = .ok (.invokestatic idx, 3))
    (kk : ∀ (locs1 : List Loc), Lk G locs1 → W p l e R s m args below meth c H locs1 cells slots Q (F0 m (pc + 3) ls (va_rf r :: rest))) : W p l e R s m args below meth c H locs cells slots Q (F0 m pc ls st) :=
  m_callSN E hC hM hp hL hls hst hk hW hR (by rw [hz.1, hz.2]; exact hf) hdg (fun v H1 locs1 hL1 hv => by
    obtain ⟨rfl, rfl⟩ := hv
    rw [hz.1, hz.2]
    exact kk locs1 hL1)
theorem kSNWE (E : En G p s m args meth c cc n ret own) {y : MethodName} {b : ByteArray} {mL k idx : Nat} {ret' : Option FieldType} {rm' : Room} {As : List Value} {Pre : Heap → Prop} {x : Int32} {Qp : Heap → Heap → Prop} (hC : CWSN nestW own idx y b mL ret' k) (hM : Ct G l y b mL ret' rm' As Pre (WE x Qp)) (hp : Pre H) (hL : Lk G locs) (hls : ls.size = n) (hst : st = As.reverse ++ rest) (hk : As.length = k) (hW : (rest.map fun v => v.category).sum ≤ 8) (hR : rm'.frames + 1 ≤ R.frames ∧ 8 + (mL + 11) + rm'.locals ≤ R.locals) (hf : cells + rm'.cells ≤ R.cells ∧ slots + rm'.slots ≤ R.slots) (hdg : decode cc pc = .ok (.invokestatic idx, 3))
    (kk : ∀ (H1 : Heap) (locs1 : List Loc), Lk G locs1 → Qp H H1 → W p l e R s m args below meth c H1 locs1 (cells + rm'.cells) (slots + rm'.slots) Q (F0 m (pc + 3) ls (.int x :: rest))) : W p l e R s m args below meth c H locs cells slots Q (F0 m pc ls st) :=
  m_callSN E hC hM hp hL hls hst hk hW hR hf hdg (fun v H1 locs1 hL1 hv => by
    obtain ⟨rfl, hv⟩ := hv
    exact kk H1 locs1 hL1 hv)
theorem kSNWV (E : En G p s m args meth c cc n ret own) {y : MethodName} {b : ByteArray} {mL k idx : Nat} {ret' : Option FieldType} {rm' : Room} {As : List Value} {Pre : Heap → Prop} {Qp : Heap → Heap → Prop} (hC : CWSN nestW own idx y b mL ret' k) (hM : Ct G l y b mL ret' rm' As Pre (WV Qp)) (hp : Pre H) (hL : Lk G locs) (hls : ls.size = n) (hst : st = As.reverse ++ rest) (hk : As.length = k) (hW : (rest.map fun v => v.category).sum ≤ 8) (hR : rm'.frames + 1 ≤ R.frames ∧ 8 + (mL + 11) + rm'.locals ≤ R.locals) (hf : cells + rm'.cells ≤ R.cells ∧ slots + rm'.slots ≤ R.slots) (hdg : decode cc pc = .ok (.invokestatic idx, 3))
    (kk : ∀ (H1 : Heap) (locs1 : List Loc), Lk G locs1 → Qp H H1 → W p l e R s m args below meth c H1 locs1 (cells + rm'.cells) (slots + rm'.slots) Q (F0 m (pc + 3) ls (rest))) : W p l e R s m args below meth c H locs cells slots Q (F0 m pc ls st) :=
  m_callSN E hC hM hp hL hls hst hk hW hR hf hdg (fun v H1 locs1 hL1 hv => by
    obtain ⟨rfl, hv⟩ := hv
    exact kk H1 locs1 hL1 hv)
theorem kIWV (E : En G p s m args meth c cc n ret own) {y : MethodName} {b : ByteArray} {mL k idx : Nat} {a : Nat} {rm' : Room} {As : List Value} {Pre : Heap → Prop} {Qp : Heap → Heap → Prop} (hC : CWI own idx y b mL k) (hM : Ct G l y b mL none rm' (.ref a :: As) Pre (WV Qp)) (hp : Pre H) (hL : Lk G locs) (hls : ls.size = n) (hst : st = As.reverse ++ .ref a :: rest) (hk : As.length = k) (hW : (rest.map fun v => v.category).sum ≤ 8) (hR : rm'.frames + 1 ≤ R.frames ∧ 8 + (mL + 11) + rm'.locals ≤ R.locals) (hf : cells + rm'.cells ≤ R.cells ∧ slots + rm'.slots ≤ R.slots) (hdg : decode cc pc = .ok (.invokespecial idx, 3))
    (kk : ∀ (H1 : Heap) (locs1 : List Loc), Lk G locs1 → Qp H H1 → W p l e R s m args below meth c H1 locs1 (cells + rm'.cells) (slots + rm'.slots) Q (F0 m (pc + 3) ls (rest))) : W p l e R s m args below meth c H locs cells slots Q (F0 m pc ls st) :=
  m_callI E hC hM hp hL hls hst hk hW hR hf hdg (fun v H1 locs1 hL1 hv => by
    obtain ⟨rfl, hv⟩ := hv
    exact kk H1 locs1 hL1 hv)
theorem kINWV (E : En G p s m args meth c cc n ret own) {y : MethodName} {b : ByteArray} {mL k idx : Nat} {a : Nat} {rm' : Room} {As : List Value} {Pre : Heap → Prop} {Qp : Heap → Heap → Prop} (hC : CWIN nestW own idx y b mL k) (hM : Ct G l y b mL none rm' (.ref a :: As) Pre (WV Qp)) (hp : Pre H) (hL : Lk G locs) (hls : ls.size = n) (hst : st = As.reverse ++ .ref a :: rest) (hk : As.length = k) (hW : (rest.map fun v => v.category).sum ≤ 8) (hR : rm'.frames + 1 ≤ R.frames ∧ 8 + (mL + 11) + rm'.locals ≤ R.locals) (hf : cells + rm'.cells ≤ R.cells ∧ slots + rm'.slots ≤ R.slots) (hdg : decode cc pc = .ok (.invokespecial idx, 3))
    (kk : ∀ (H1 : Heap) (locs1 : List Loc), Lk G locs1 → Qp H H1 → W p l e R s m args below meth c H1 locs1 (cells + rm'.cells) (slots + rm'.slots) Q (F0 m (pc + 3) ls (rest))) : W p l e R s m args below meth c H locs cells slots Q (F0 m pc ls st) :=
  m_callIN E hC hM hp hL hls hst hk hW hR hf hdg (fun v H1 locs1 hL1 hv => by
    obtain ⟨rfl, hv⟩ := hv
    exact kk H1 locs1 hL1 hv)
end MCC
/-! ends -/
theorem RE_i {z w : Int} {H : Heap} (h : z = w) : RE (iI w) (some (.int (iI z))) H H := ⟨by rw [h], rfl⟩
theorem RE_t {b : Bool} {H : Heap} (h : b = true) : RE (b2i b) (some (.int (iI 1))) H H := ⟨by rw [h]; rfl, rfl⟩
theorem RE_f {b : Bool} {H : Heap} (h : b = false) : RE (b2i b) (some (.int (iI 0))) H H := ⟨by rw [h]; rfl, rfl⟩
theorem RE_b {b c : Bool} {H : Heap} (h : b = c) : RE (b2i c) (some (.int (b2i b))) H H := ⟨by rw [h], rfl⟩
section MMX
variable {p : Program} {l : Launch} {e : Env} {R : Room} {s : State} {m : MethodId} {args : Array Value} {below : List Frame} {meth : Method} {c : Code} {H : Heap} {locs : List Loc} {cells slots : Nat} {Q : State → Prop}
variable {G : GG} {cc : ByteArray} {n : Nat} {ret : Option FieldType} {own : String} {pc : Nat} {ls : Array Slot} {rest : List Value}
theorem r_min (E : En G p s m args meth c cc n ret own) {idx : Nat} (hlk : Cond.methodLink own idx Lib.Math.min.name ∈ lw_all) (hls : ls.size = n) (hfr : 1 ≤ R.frames) (hlo : (rest.map fun v => v.category).sum + 13 ≤ R.locals) (hc : cells ≤ R.cells) (hs : slots ≤ R.slots) {a b : Int} (ha : -2147483648 ≤ a ∧ a < 2147483648) (hb : -2147483648 ≤ b ∧ b < 2147483648) (hdg : decode cc pc = .ok (.invokestatic idx, 3))
    (kk : ∀ z : Int, (z ≤ a ∧ z ≤ b ∧ (z = a ∨ z = b)) → W p l e R s m args below meth c H locs cells slots Q (F0 m (pc + 3) ls (.int (iI z) :: rest))) : W p l e R s m args below meth c H locs cells slots Q (F0 m pc ls (.int (iI b) :: .int (iI a) :: rest)) := by
  refine m_min E hlk hls hfr hlo hc hs hdg (fun z hz => ?_)
  by_cases h : b < a
  · rw [hz, if_pos ((iI_lt hb ha).mpr h)]
    exact kk b ⟨by omega, by omega, Or.inr rfl⟩
  · rw [hz, if_neg (fun q => h ((iI_lt hb ha).mp q))]
    exact kk a ⟨by omega, by omega, Or.inl rfl⟩
theorem r_max (E : En G p s m args meth c cc n ret own) {idx : Nat} (hlk : Cond.methodLink own idx Lib.Math.max.name ∈ lw_all) (hls : ls.size = n) (hfr : 1 ≤ R.frames) (hlo : (rest.map fun v => v.category).sum + 13 ≤ R.locals) (hc : cells ≤ R.cells) (hs : slots ≤ R.slots) {a b : Int} (ha : -2147483648 ≤ a ∧ a < 2147483648) (hb : -2147483648 ≤ b ∧ b < 2147483648) (hdg : decode cc pc = .ok (.invokestatic idx, 3))
    (kk : ∀ z : Int, (a ≤ z ∧ b ≤ z ∧ (z = a ∨ z = b)) → W p l e R s m args below meth c H locs cells slots Q (F0 m (pc + 3) ls (.int (iI z) :: rest))) : W p l e R s m args below meth c H locs cells slots Q (F0 m pc ls (.int (iI b) :: .int (iI a) :: rest)) := by
  refine m_max E hlk hls hfr hlo hc hs hdg (fun z hz => ?_)
  by_cases h : a < b
  · rw [hz, if_pos ((iI_lt ha hb).mpr h)]
    exact kk b ⟨by omega, by omega, Or.inr rfl⟩
  · rw [hz, if_neg (fun q => h ((iI_lt ha hb).mp q))]
    exact kk a ⟨by omega, by omega, Or.inl rfl⟩
end MMX
