/-! one list of words for every method: the tables' words that a call may hand on -/
def lw_keep : Cond → Bool
  | .arrayOver _ => false
  | .privateMethod _ => false
  | .soleField _ _ => false
  | .superclass _ _ => false
  | .methodLinkNest _ _ _ _ => false
  | w => goodWord w
def lw_all : List Cond := lw_tbl.filter lw_keep
theorem lw_keep_good {w : Cond} (h : lw_keep w = true) : goodWord w = true := by
  cases w <;> first | exact h | cases h
theorem lw_all_tbl {w : Cond} (h : w ∈ lw_all) : w ∈ lw_tbl := (List.mem_filter.mp h).1
theorem lw_all_good {w : Cond} (h : w ∈ lw_all) : (w.onTables && w.keeps) = true ∨ ∃ ty, w = .arrayClass ty := good_of_word (lw_keep_good (List.mem_filter.mp h).2)
theorem lw_good : GoodIn lw_all lw_all := fun _ h => ⟨h, lw_all_good h⟩
theorem lw_goodc {w : Cond} (h : w ∈ lw_all) : GoodIn lw_all (w :: lw_all) := fun _ q => (List.mem_cons.mp q).elim (fun e => e ▸ ⟨h, lw_all_good h⟩) (fun q => ⟨q, lw_all_good q⟩)
theorem lw_mem {w : Cond} (i : Nat) (h : lw_tbl[i]? = some w) (hk : lw_keep w = true) : w ∈ lw_all := List.mem_filter.mpr ⟨List.mem_of_getElem? h, hk⟩
theorem lw_in {C : String} {T : u_T} {N : Nat} (is : List Nat) (h : (u_ws C T N).map some = is.map (fun i => lw_tbl[i]?)) (hk : (u_ws C T N).all lw_keep = true) : ∀ w ∈ u_ws C T N, w ∈ lw_all := by
  intro w hw
  have h1 : some w ∈ (u_ws C T N).map some := List.mem_map.mpr ⟨w, hw, rfl⟩
  rw [h] at h1
  obtain ⟨i, -, hi⟩ := List.mem_map.mp h1
  exact lw_mem i hi (List.all_eq_true.mp hk w hw)
/-- a field's link from class 'own' at pool entry 'idx': the k-th field of the ci-th class -/
def FW (own : String) (idx ci k : Nat) : Prop := ∃ (C : String) (T : u_T) (N : Nat), vwCl[ci]? = some (C, T, N) ∧ (∀ w ∈ u_ws C T N, w ∈ lw_all) ∧ k < N ∧ Cond.fieldLink own idx C (T k).2.1 (T k).2.2.1 ∈ lw_all ∧ (T k).1 = C
def FP (ci k : Nat) (ty : FieldType) (fin : Bool) : Prop := ∃ (C : String) (T : u_T) (N : Nat) (ty0 : Nat → FieldType), vwCl[ci]? = some (C, T, N) ∧ (∀ w ∈ u_ws C T N, w ∈ lw_all) ∧ k < N ∧ (∀ j, j < N → parseFieldDescriptor (T j).2.2.1 = some (ty0 j)) ∧ (∀ a, a < N → ∀ b, b < N → a ≠ b → (T a).2.1 ≠ (T b).2.1) ∧ parseFieldDescriptor (T k).2.2.1 = some ty ∧ (T k).2.2.2 = fin
/-- a call's words -/
def CB (y : MethodName) (b : ByteArray) (mL : Nat) (ret : Option FieldType) (k : Nat) : Prop := Cond.code y b mL ret ∈ lw_all ∧ Cond.initialized y.cls ∈ lw_all ∧ (y.cls ≠ "java/lang/invoke/MethodHandle" ∧ y.cls ≠ "java/lang/invoke/VarHandle") ∧ (parseMethodDescriptor y.desc).map (fun d => d.parameters.length) = some k
def CWV (own : String) (idx : Nat) (y : MethodName) (b : ByteArray) (mL : Nat) (ret : Option FieldType) (k : Nat) : Prop := CB y b mL ret k ∧ Cond.methodLink own idx y ∈ lw_all ∧ Cond.instanceMethod y ∈ lw_all ∧ Cond.selects y.cls y y ∈ lw_all
def CWS (own : String) (idx : Nat) (y : MethodName) (b : ByteArray) (mL : Nat) (ret : Option FieldType) (k : Nat) : Prop := CB y b mL ret k ∧ Cond.methodLink own idx y ∈ lw_all ∧ Cond.static y ∈ lw_all
def CWI (own : String) (idx : Nat) (y : MethodName) (b : ByteArray) (mL : Nat) (k : Nat) : Prop := CB y b mL none k ∧ Cond.methodLink own idx y ∈ lw_all ∧ Cond.instanceMethod y ∈ lw_all ∧ y.name = "<init>"
def nestH : String := "WriteOnceDisc"
def CWSN (nw : List Cond) (own : String) (idx : Nat) (y : MethodName) (b : ByteArray) (mL : Nat) (ret : Option FieldType) (k : Nat) : Prop := CB y b mL ret k ∧ Cond.methodLinkNest own idx y nestH ∈ nw ∧ Cond.static y ∈ lw_all
def CWIN (nw : List Cond) (own : String) (idx : Nat) (y : MethodName) (b : ByteArray) (mL : Nat) (k : Nat) : Prop := CB y b mL none k ∧ Cond.methodLinkNest own idx y nestH ∈ nw ∧ Cond.instanceMethod y ∈ lw_all ∧ y.name = "<init>"
/-- a new object's words -/
def NW (own : String) (idx ci : Nat) (fs : List Value) : Prop := ∃ (C : String) (T : u_T) (N : Nat) (ty : Nat → FieldType), vwCl[ci]? = some (C, T, N) ∧ (∀ w ∈ u_ws C T N, w ∈ lw_all) ∧ (∀ k, k < N → parseFieldDescriptor (T k).2.2.1 = some (ty k)) ∧ Cond.classLink own idx C ∈ lw_all ∧ Cond.instantiable C N ∈ lw_all ∧ Cond.initialized C ∈ lw_all ∧ (∀ j, j < N → defaultValue (ty j) = vp_V fs j) ∧ fs.length = N
def nestW : List Cond := [(Jvm.Cond.methodLinkNest "WriteOnceDisc$Disc" (28 : Nat) ({ cls := "WriteOnceDisc$Session", name := "<init>", desc := "()V" } : Jvm.MethodName) "WriteOnceDisc"), (Jvm.Cond.methodLinkNest "WriteOnceDisc" (25 : Nat) ({ cls := "WriteOnceDisc$CommandText", name := "<init>", desc := "()V" } : Jvm.MethodName) "WriteOnceDisc"), (Jvm.Cond.methodLinkNest "WriteOnceDisc$Session" (40 : Nat) ({ cls := "WriteOnceDisc", name := "isName", desc := "(I)Z" } : Jvm.MethodName) "WriteOnceDisc"), (Jvm.Cond.methodLinkNest "WriteOnceDisc$Disc" (68 : Nat) ({ cls := "WriteOnceDisc", name := "isName", desc := "(I)Z" } : Jvm.MethodName) "WriteOnceDisc"), (Jvm.Cond.methodLinkNest "WriteOnceDisc$Disc" (72 : Nat) ({ cls := "WriteOnceDisc", name := "isFileSize", desc := "(I)Z" } : Jvm.MethodName) "WriteOnceDisc"), (Jvm.Cond.methodLinkNest "WriteOnceDisc$Disc" (119 : Nat) ({ cls := "WriteOnceDisc", name := "isSector", desc := "(I)Z" } : Jvm.MethodName) "WriteOnceDisc"), (Jvm.Cond.methodLinkNest "WriteOnceDisc$Disc" (122 : Nat) ({ cls := "WriteOnceDisc", name := "isSetting", desc := "(I)Z" } : Jvm.MethodName) "WriteOnceDisc")]
/-- a method's code among the words, by its place: the bytes are not compared -/
def chkC (o : Option Cond) (y : MethodName) (mL : Nat) (ret : Option FieldType) : Bool := match o with
  | some (.code y1 _ m1 r1) => decide (y1 = y) && (decide (m1 = mL) && decide (r1 = ret))
  | _ => false
def bytC (o : Option Cond) : ByteArray := match o with
  | some (.code _ b _ _) => b
  | _ => ByteArray.empty
theorem lw_memC {y : MethodName} {b : ByteArray} {mL : Nat} {ret : Option FieldType} (i : Nat) (h : chkC (lw_tbl[i]?) y mL ret = true) (hb : bytC (lw_tbl[i]?) = b) : Cond.code y b mL ret ∈ lw_all := by
  generalize ho : lw_tbl[i]? = o at h hb
  unfold chkC at h
  split at h
  · next y1 b1 m1 r1 =>
    rw [Bool.and_eq_true, Bool.and_eq_true] at h
    have h1 := of_decide_eq_true h.1
    have h2 := of_decide_eq_true h.2.1
    have h3 := of_decide_eq_true h.2.2
    have h4 : b1 = b := hb
    subst h1 h2 h3 h4
    exact lw_mem i ho rfl
  · cases h
theorem in_X0 : ∀ w ∈ u_ws RX0 TX0 6, w ∈ lw_all := lw_in [143, 145, 147, 149, 151, 153] (by decide +kernel) (by decide +kernel)
theorem in_X1 : ∀ w ∈ u_ws RX1 TX1 7, w ∈ lw_all := lw_in [91, 93, 95, 97, 99, 101, 103] (by decide +kernel) (by decide +kernel)
theorem in_X2 : ∀ w ∈ u_ws RX2 TX2 3, w ∈ lw_all := lw_in [119, 121, 123] (by decide +kernel) (by decide +kernel)
theorem in_X3 : ∀ w ∈ u_ws RX3 TX3 7, w ∈ lw_all := lw_in [62, 64, 66, 68, 70, 72, 74] (by decide +kernel) (by decide +kernel)
theorem in_X4 : ∀ w ∈ u_ws RX4 TX4 3, w ∈ lw_all := lw_in [464, 466, 468] (by decide +kernel) (by decide +kernel)
theorem in_X5 : ∀ w ∈ u_ws RX5 TX5 3, w ∈ lw_all := lw_in [160, 162, 164] (by decide +kernel) (by decide +kernel)
theorem fp_X0_0 : FP 0 0 (.array .char) true := ⟨RX0, TX0, 6, tyX0, rfl, in_X0, by decide, tyX0_ok, nmX0, by decide +kernel, by decide +kernel⟩
theorem fp_X0_1 : FP 0 1 .int false := ⟨RX0, TX0, 6, tyX0, rfl, in_X0, by decide, tyX0_ok, nmX0, by decide +kernel, by decide +kernel⟩
theorem fp_X0_2 : FP 0 2 .int false := ⟨RX0, TX0, 6, tyX0, rfl, in_X0, by decide, tyX0_ok, nmX0, by decide +kernel, by decide +kernel⟩
theorem fp_X0_3 : FP 0 3 .int false := ⟨RX0, TX0, 6, tyX0, rfl, in_X0, by decide, tyX0_ok, nmX0, by decide +kernel, by decide +kernel⟩
theorem fp_X0_4 : FP 0 4 .int false := ⟨RX0, TX0, 6, tyX0, rfl, in_X0, by decide, tyX0_ok, nmX0, by decide +kernel, by decide +kernel⟩
theorem fp_X0_5 : FP 0 5 .int false := ⟨RX0, TX0, 6, tyX0, rfl, in_X0, by decide, tyX0_ok, nmX0, by decide +kernel, by decide +kernel⟩
theorem fp_X1_0 : FP 1 0 (.array (.object "WriteOnceDisc$Session")) true := ⟨RX1, TX1, 7, tyX1, rfl, in_X1, by decide, tyX1_ok, nmX1, by decide +kernel, by decide +kernel⟩
theorem fp_X1_1 : FP 1 1 (.array .boolean) true := ⟨RX1, TX1, 7, tyX1, rfl, in_X1, by decide, tyX1_ok, nmX1, by decide +kernel, by decide +kernel⟩
theorem fp_X1_2 : FP 1 2 (.array .int) true := ⟨RX1, TX1, 7, tyX1, rfl, in_X1, by decide, tyX1_ok, nmX1, by decide +kernel, by decide +kernel⟩
theorem fp_X1_3 : FP 1 3 (.array .int) true := ⟨RX1, TX1, 7, tyX1, rfl, in_X1, by decide, tyX1_ok, nmX1, by decide +kernel, by decide +kernel⟩
theorem fp_X1_4 : FP 1 4 .int false := ⟨RX1, TX1, 7, tyX1, rfl, in_X1, by decide, tyX1_ok, nmX1, by decide +kernel, by decide +kernel⟩
theorem fp_X1_5 : FP 1 5 .int false := ⟨RX1, TX1, 7, tyX1, rfl, in_X1, by decide, tyX1_ok, nmX1, by decide +kernel, by decide +kernel⟩
theorem fp_X1_6 : FP 1 6 .int false := ⟨RX1, TX1, 7, tyX1, rfl, in_X1, by decide, tyX1_ok, nmX1, by decide +kernel, by decide +kernel⟩
theorem fp_X2_0 : FP 2 0 (.array (.object "WriteOnceDisc$Disc")) true := ⟨RX2, TX2, 3, tyX2, rfl, in_X2, by decide, tyX2_ok, nmX2, by decide +kernel, by decide +kernel⟩
theorem fp_X2_1 : FP 2 1 .int false := ⟨RX2, TX2, 3, tyX2, rfl, in_X2, by decide, tyX2_ok, nmX2, by decide +kernel, by decide +kernel⟩
theorem fp_X2_2 : FP 2 2 .int false := ⟨RX2, TX2, 3, tyX2, rfl, in_X2, by decide, tyX2_ok, nmX2, by decide +kernel, by decide +kernel⟩
theorem fp_X3_0 : FP 3 0 (.array (.object "WriteOnceDisc$StoredFile")) true := ⟨RX3, TX3, 7, tyX3, rfl, in_X3, by decide, tyX3_ok, nmX3, by decide +kernel, by decide +kernel⟩
theorem fp_X3_1 : FP 3 1 .int false := ⟨RX3, TX3, 7, tyX3, rfl, in_X3, by decide, tyX3_ok, nmX3, by decide +kernel, by decide +kernel⟩
theorem fp_X3_2 : FP 3 2 .int false := ⟨RX3, TX3, 7, tyX3, rfl, in_X3, by decide, tyX3_ok, nmX3, by decide +kernel, by decide +kernel⟩
theorem fp_X3_3 : FP 3 3 .int false := ⟨RX3, TX3, 7, tyX3, rfl, in_X3, by decide, tyX3_ok, nmX3, by decide +kernel, by decide +kernel⟩
theorem fp_X3_4 : FP 3 4 .int false := ⟨RX3, TX3, 7, tyX3, rfl, in_X3, by decide, tyX3_ok, nmX3, by decide +kernel, by decide +kernel⟩
theorem fp_X3_5 : FP 3 5 .int false := ⟨RX3, TX3, 7, tyX3, rfl, in_X3, by decide, tyX3_ok, nmX3, by decide +kernel, by decide +kernel⟩
theorem fp_X3_6 : FP 3 6 .int false := ⟨RX3, TX3, 7, tyX3, rfl, in_X3, by decide, tyX3_ok, nmX3, by decide +kernel, by decide +kernel⟩
theorem fp_X4_0 : FP 4 0 .int true := ⟨RX4, TX4, 3, tyX4, rfl, in_X4, by decide, tyX4_ok, nmX4, by decide +kernel, by decide +kernel⟩
theorem fp_X4_1 : FP 4 1 .int true := ⟨RX4, TX4, 3, tyX4, rfl, in_X4, by decide, tyX4_ok, nmX4, by decide +kernel, by decide +kernel⟩
theorem fp_X4_2 : FP 4 2 .int true := ⟨RX4, TX4, 3, tyX4, rfl, in_X4, by decide, tyX4_ok, nmX4, by decide +kernel, by decide +kernel⟩
theorem fp_X5_0 : FP 5 0 (.object "WriteOnceDisc$Disc") true := ⟨RX5, TX5, 3, tyX5, rfl, in_X5, by decide, tyX5_ok, nmX5, by decide +kernel, by decide +kernel⟩
theorem fp_X5_1 : FP 5 1 (.object "WriteOnceDisc$History") true := ⟨RX5, TX5, 3, tyX5, rfl, in_X5, by decide, tyX5_ok, nmX5, by decide +kernel, by decide +kernel⟩
theorem fp_X5_2 : FP 5 2 (.object "WriteOnceDisc$CommandText") true := ⟨RX5, TX5, 3, tyX5, rfl, in_X5, by decide, tyX5_ok, nmX5, by decide +kernel, by decide +kernel⟩
theorem fw_X3_11 : FW RX3 11 3 0 := ⟨RX3, TX3, 7, rfl, in_X3, by decide, lw_mem 43 (by decide +kernel) rfl, by decide +kernel⟩
theorem fw_X3_17 : FW RX3 17 3 1 := ⟨RX3, TX3, 7, rfl, in_X3, by decide, lw_mem 44 (by decide +kernel) rfl, by decide +kernel⟩
theorem fw_X1_108 : FW RX1 108 3 1 := ⟨RX3, TX3, 7, rfl, in_X3, by decide, lw_mem 45 (by decide +kernel) rfl, by decide +kernel⟩
theorem fw_X5_109 : FW RX5 109 3 1 := ⟨RX3, TX3, 7, rfl, in_X3, by decide, lw_mem 46 (by decide +kernel) rfl, by decide +kernel⟩
theorem fw_X3_21 : FW RX3 21 3 2 := ⟨RX3, TX3, 7, rfl, in_X3, by decide, lw_mem 47 (by decide +kernel) rfl, by decide +kernel⟩
theorem fw_X1_111 : FW RX1 111 3 2 := ⟨RX3, TX3, 7, rfl, in_X3, by decide, lw_mem 48 (by decide +kernel) rfl, by decide +kernel⟩
theorem fw_X5_114 : FW RX5 114 3 2 := ⟨RX3, TX3, 7, rfl, in_X3, by decide, lw_mem 49 (by decide +kernel) rfl, by decide +kernel⟩
theorem fw_X3_24 : FW RX3 24 3 3 := ⟨RX3, TX3, 7, rfl, in_X3, by decide, lw_mem 50 (by decide +kernel) rfl, by decide +kernel⟩
theorem fw_X1_65 : FW RX1 65 3 3 := ⟨RX3, TX3, 7, rfl, in_X3, by decide, lw_mem 51 (by decide +kernel) rfl, by decide +kernel⟩
theorem fw_X5_117 : FW RX5 117 3 3 := ⟨RX3, TX3, 7, rfl, in_X3, by decide, lw_mem 52 (by decide +kernel) rfl, by decide +kernel⟩
theorem fw_X3_27 : FW RX3 27 3 4 := ⟨RX3, TX3, 7, rfl, in_X3, by decide, lw_mem 53 (by decide +kernel) rfl, by decide +kernel⟩
theorem fw_X1_112 : FW RX1 112 3 4 := ⟨RX3, TX3, 7, rfl, in_X3, by decide, lw_mem 54 (by decide +kernel) rfl, by decide +kernel⟩
theorem fw_X5_120 : FW RX5 120 3 4 := ⟨RX3, TX3, 7, rfl, in_X3, by decide, lw_mem 55 (by decide +kernel) rfl, by decide +kernel⟩
theorem fw_X3_30 : FW RX3 30 3 5 := ⟨RX3, TX3, 7, rfl, in_X3, by decide, lw_mem 56 (by decide +kernel) rfl, by decide +kernel⟩
theorem fw_X1_125 : FW RX1 125 3 5 := ⟨RX3, TX3, 7, rfl, in_X3, by decide, lw_mem 57 (by decide +kernel) rfl, by decide +kernel⟩
theorem fw_X5_123 : FW RX5 123 3 5 := ⟨RX3, TX3, 7, rfl, in_X3, by decide, lw_mem 58 (by decide +kernel) rfl, by decide +kernel⟩
theorem fw_X3_33 : FW RX3 33 3 6 := ⟨RX3, TX3, 7, rfl, in_X3, by decide, lw_mem 59 (by decide +kernel) rfl, by decide +kernel⟩
theorem fw_X1_87 : FW RX1 87 3 6 := ⟨RX3, TX3, 7, rfl, in_X3, by decide, lw_mem 60 (by decide +kernel) rfl, by decide +kernel⟩
theorem fw_X5_133 : FW RX5 133 3 6 := ⟨RX3, TX3, 7, rfl, in_X3, by decide, lw_mem 61 (by decide +kernel) rfl, by decide +kernel⟩
theorem fw_X1_11 : FW RX1 11 1 0 := ⟨RX1, TX1, 7, rfl, in_X1, by decide, lw_mem 79 (by decide +kernel) rfl, by decide +kernel⟩
theorem fw_X1_17 : FW RX1 17 1 1 := ⟨RX1, TX1, 7, rfl, in_X1, by decide, lw_mem 80 (by decide +kernel) rfl, by decide +kernel⟩
theorem fw_X5_161 : FW RX5 161 1 1 := ⟨RX1, TX1, 7, rfl, in_X1, by decide, lw_mem 81 (by decide +kernel) rfl, by decide +kernel⟩
theorem fw_X1_21 : FW RX1 21 1 2 := ⟨RX1, TX1, 7, rfl, in_X1, by decide, lw_mem 82 (by decide +kernel) rfl, by decide +kernel⟩
theorem fw_X5_185 : FW RX5 185 1 2 := ⟨RX1, TX1, 7, rfl, in_X1, by decide, lw_mem 83 (by decide +kernel) rfl, by decide +kernel⟩
theorem fw_X1_25 : FW RX1 25 1 3 := ⟨RX1, TX1, 7, rfl, in_X1, by decide, lw_mem 84 (by decide +kernel) rfl, by decide +kernel⟩
theorem fw_X5_171 : FW RX5 171 1 3 := ⟨RX1, TX1, 7, rfl, in_X1, by decide, lw_mem 85 (by decide +kernel) rfl, by decide +kernel⟩
theorem fw_X1_29 : FW RX1 29 1 4 := ⟨RX1, TX1, 7, rfl, in_X1, by decide, lw_mem 86 (by decide +kernel) rfl, by decide +kernel⟩
theorem fw_X5_102 : FW RX5 102 1 4 := ⟨RX1, TX1, 7, rfl, in_X1, by decide, lw_mem 87 (by decide +kernel) rfl, by decide +kernel⟩
theorem fw_X1_33 : FW RX1 33 1 5 := ⟨RX1, TX1, 7, rfl, in_X1, by decide, lw_mem 88 (by decide +kernel) rfl, by decide +kernel⟩
theorem fw_X5_155 : FW RX5 155 1 5 := ⟨RX1, TX1, 7, rfl, in_X1, by decide, lw_mem 89 (by decide +kernel) rfl, by decide +kernel⟩
theorem fw_X1_36 : FW RX1 36 1 6 := ⟨RX1, TX1, 7, rfl, in_X1, by decide, lw_mem 90 (by decide +kernel) rfl, by decide +kernel⟩
theorem fw_X2_11 : FW RX2 11 2 0 := ⟨RX2, TX2, 3, rfl, in_X2, by decide, lw_mem 115 (by decide +kernel) rfl, by decide +kernel⟩
theorem fw_X2_18 : FW RX2 18 2 1 := ⟨RX2, TX2, 3, rfl, in_X2, by decide, lw_mem 116 (by decide +kernel) rfl, by decide +kernel⟩
theorem fw_X2_22 : FW RX2 22 2 2 := ⟨RX2, TX2, 3, rfl, in_X2, by decide, lw_mem 117 (by decide +kernel) rfl, by decide +kernel⟩
theorem fw_X5_99 : FW RX5 99 2 2 := ⟨RX2, TX2, 3, rfl, in_X2, by decide, lw_mem 118 (by decide +kernel) rfl, by decide +kernel⟩
theorem fw_X0_9 : FW RX0 9 0 0 := ⟨RX0, TX0, 6, rfl, in_X0, by decide, lw_mem 132 (by decide +kernel) rfl, by decide +kernel⟩
theorem fw_X0_15 : FW RX0 15 0 1 := ⟨RX0, TX0, 6, rfl, in_X0, by decide, lw_mem 133 (by decide +kernel) rfl, by decide +kernel⟩
theorem fw_X5_71 : FW RX5 71 0 1 := ⟨RX0, TX0, 6, rfl, in_X0, by decide, lw_mem 134 (by decide +kernel) rfl, by decide +kernel⟩
theorem fw_X0_19 : FW RX0 19 0 2 := ⟨RX0, TX0, 6, rfl, in_X0, by decide, lw_mem 135 (by decide +kernel) rfl, by decide +kernel⟩
theorem fw_X5_78 : FW RX5 78 0 2 := ⟨RX0, TX0, 6, rfl, in_X0, by decide, lw_mem 136 (by decide +kernel) rfl, by decide +kernel⟩
theorem fw_X0_34 : FW RX0 34 0 3 := ⟨RX0, TX0, 6, rfl, in_X0, by decide, lw_mem 137 (by decide +kernel) rfl, by decide +kernel⟩
theorem fw_X5_214 : FW RX5 214 0 3 := ⟨RX0, TX0, 6, rfl, in_X0, by decide, lw_mem 138 (by decide +kernel) rfl, by decide +kernel⟩
theorem fw_X0_49 : FW RX0 49 0 4 := ⟨RX0, TX0, 6, rfl, in_X0, by decide, lw_mem 139 (by decide +kernel) rfl, by decide +kernel⟩
theorem fw_X5_217 : FW RX5 217 0 4 := ⟨RX0, TX0, 6, rfl, in_X0, by decide, lw_mem 140 (by decide +kernel) rfl, by decide +kernel⟩
theorem fw_X0_52 : FW RX0 52 0 5 := ⟨RX0, TX0, 6, rfl, in_X0, by decide, lw_mem 141 (by decide +kernel) rfl, by decide +kernel⟩
theorem fw_X5_220 : FW RX5 220 0 5 := ⟨RX0, TX0, 6, rfl, in_X0, by decide, lw_mem 142 (by decide +kernel) rfl, by decide +kernel⟩
theorem fw_X5_12 : FW RX5 12 5 0 := ⟨RX5, TX5, 3, rfl, in_X5, by decide, lw_mem 157 (by decide +kernel) rfl, by decide +kernel⟩
theorem fw_X5_19 : FW RX5 19 5 1 := ⟨RX5, TX5, 3, rfl, in_X5, by decide, lw_mem 158 (by decide +kernel) rfl, by decide +kernel⟩
theorem fw_X5_26 : FW RX5 26 5 2 := ⟨RX5, TX5, 3, rfl, in_X5, by decide, lw_mem 159 (by decide +kernel) rfl, by decide +kernel⟩
theorem fw_X4_7 : FW RX4 7 4 0 := ⟨RX4, TX4, 3, rfl, in_X4, by decide, lw_mem 456 (by decide +kernel) rfl, by decide +kernel⟩
theorem fw_X1_90 : FW RX1 90 4 0 := ⟨RX4, TX4, 3, rfl, in_X4, by decide, lw_mem 457 (by decide +kernel) rfl, by decide +kernel⟩
theorem fw_X5_143 : FW RX5 143 4 0 := ⟨RX4, TX4, 3, rfl, in_X4, by decide, lw_mem 458 (by decide +kernel) rfl, by decide +kernel⟩
theorem fw_X4_13 : FW RX4 13 4 1 := ⟨RX4, TX4, 3, rfl, in_X4, by decide, lw_mem 459 (by decide +kernel) rfl, by decide +kernel⟩
theorem fw_X5_146 : FW RX5 146 4 1 := ⟨RX4, TX4, 3, rfl, in_X4, by decide, lw_mem 460 (by decide +kernel) rfl, by decide +kernel⟩
theorem fw_X1_143 : FW RX1 143 4 1 := ⟨RX4, TX4, 3, rfl, in_X4, by decide, lw_mem 461 (by decide +kernel) rfl, by decide +kernel⟩
theorem fw_X4_16 : FW RX4 16 4 2 := ⟨RX4, TX4, 3, rfl, in_X4, by decide, lw_mem 462 (by decide +kernel) rfl, by decide +kernel⟩
theorem fw_X5_149 : FW RX5 149 4 2 := ⟨RX4, TX4, 3, rfl, in_X4, by decide, lw_mem 463 (by decide +kernel) rfl, by decide +kernel⟩
theorem cb_X5_init : CB yX5_init cX5_init 1 none 0 := ⟨lw_mem 24 (by decide +kernel) rfl, lw_mem 13 (by decide +kernel) rfl, ⟨by decide +kernel, by decide +kernel⟩, by decide +kernel⟩
theorem cw_L_152 : CWI RL 152 yX5_init cX5_init 1 0 := ⟨cb_X5_init, lw_mem 22 (by decide +kernel) rfl, lw_mem 23 (by decide +kernel) rfl, by decide +kernel⟩
theorem oi_X5 : Cond.methodLink RX5 3 objectInit ∈ lw_all := lw_mem 25 (by decide +kernel) rfl
theorem cb_X1_init : CB yX1_init cX1_init 2 none 0 := ⟨lw_mem 32 (by decide +kernel) rfl, lw_mem 14 (by decide +kernel) rfl, ⟨by decide +kernel, by decide +kernel⟩, by decide +kernel⟩
theorem cw_X5_11 : CWI RX5 11 yX1_init cX1_init 2 0 := ⟨cb_X1_init, lw_mem 30 (by decide +kernel) rfl, lw_mem 31 (by decide +kernel) rfl, by decide +kernel⟩
theorem oi_X1 : Cond.methodLink RX1 3 objectInit ∈ lw_all := lw_mem 33 (by decide +kernel) rfl
theorem cb_X3_init : CB yX3_init cX3_init 1 none 0 := ⟨lw_mem 39 (by decide +kernel) rfl, lw_mem 15 (by decide +kernel) rfl, ⟨by decide +kernel, by decide +kernel⟩, by decide +kernel⟩
theorem cw_X1_28 : CWIN nestW RX1 28 yX3_init cX3_init 1 0 := ⟨cb_X3_init, by decide +kernel, lw_mem 38 (by decide +kernel) rfl, by decide +kernel⟩
theorem oi_X3 : Cond.methodLink RX3 3 objectInit ∈ lw_all := lw_mem 40 (by decide +kernel) rfl
theorem cb_X2_init : CB yX2_init cX2_init 2 none 0 := ⟨lw_mem 110 (by decide +kernel) rfl, lw_mem 16 (by decide +kernel) rfl, ⟨by decide +kernel, by decide +kernel⟩, by decide +kernel⟩
theorem cw_X5_18 : CWI RX5 18 yX2_init cX2_init 2 0 := ⟨cb_X2_init, lw_mem 108 (by decide +kernel) rfl, lw_mem 109 (by decide +kernel) rfl, by decide +kernel⟩
theorem oi_X2 : Cond.methodLink RX2 3 objectInit ∈ lw_all := lw_mem 111 (by decide +kernel) rfl
theorem cw_X2_17 : CWI RX2 17 yX1_init cX1_init 2 0 := ⟨cb_X1_init, lw_mem 114 (by decide +kernel) rfl, lw_mem 31 (by decide +kernel) rfl, by decide +kernel⟩
theorem cb_X0_init : CB yX0_init cX0_init 1 none 0 := ⟨lw_mem 130 (by decide +kernel) rfl, lw_mem 17 (by decide +kernel) rfl, ⟨by decide +kernel, by decide +kernel⟩, by decide +kernel⟩
theorem cw_X5_25 : CWIN nestW RX5 25 yX0_init cX0_init 1 0 := ⟨cb_X0_init, by decide +kernel, lw_mem 129 (by decide +kernel) rfl, by decide +kernel⟩
theorem oi_X0 : Cond.methodLink RX0 3 objectInit ∈ lw_all := lw_mem 131 (by decide +kernel) rfl
theorem cb_X5_undo : CB yX5_undo cX5_undo 1 (some .int) 0 := ⟨lw_mem 170 (by decide +kernel) rfl, lw_mem 13 (by decide +kernel) rfl, ⟨by decide +kernel, by decide +kernel⟩, by decide +kernel⟩
theorem cw_L_116 : CWV RL 116 yX5_undo cX5_undo 1 (some .int) 0 := ⟨cb_X5_undo, lw_mem 167 (by decide +kernel) rfl, lw_mem 168 (by decide +kernel) rfl, lw_mem 169 (by decide +kernel) rfl⟩
theorem cb_X2_takeBack : CB yX2_takeBack cX2_takeBack 2 (some .boolean) 1 := ⟨lw_mem 174 (by decide +kernel) rfl, lw_mem 16 (by decide +kernel) rfl, ⟨by decide +kernel, by decide +kernel⟩, by decide +kernel⟩
theorem cw_X5_95 : CWV RX5 95 yX2_takeBack cX2_takeBack 2 (some .boolean) 1 := ⟨cb_X2_takeBack, lw_mem 171 (by decide +kernel) rfl, lw_mem 172 (by decide +kernel) rfl, lw_mem 173 (by decide +kernel) rfl⟩
theorem cb_X2_slotBehindHeld : CB yX2_slotBehindHeld cX2_slotBehindHeld 1 (some (.object "WriteOnceDisc$Disc")) 0 := ⟨lw_mem 178 (by decide +kernel) rfl, lw_mem 16 (by decide +kernel) rfl, ⟨by decide +kernel, by decide +kernel⟩, by decide +kernel⟩
theorem cw_X2_31 : CWV RX2 31 yX2_slotBehindHeld cX2_slotBehindHeld 1 (some (.object "WriteOnceDisc$Disc")) 0 := ⟨cb_X2_slotBehindHeld, lw_mem 175 (by decide +kernel) rfl, lw_mem 177 (by decide +kernel) rfl, lw_mem 0 (by decide +kernel) rfl⟩
theorem cb_J9_floorMod_7cf53 : CB yJ9_floorMod_7cf53 cJ9_floorMod_7cf53 3 (some .int) 2 := ⟨lw_mem 181 (by decide +kernel) rfl, lw_mem 18 (by decide +kernel) rfl, ⟨by decide +kernel, by decide +kernel⟩, by decide +kernel⟩
theorem cw_X2_25 : CWS RX2 25 yJ9_floorMod_7cf53 cJ9_floorMod_7cf53 3 (some .int) 2 := ⟨cb_J9_floorMod_7cf53, lw_mem 179 (by decide +kernel) rfl, lw_mem 180 (by decide +kernel) rfl⟩
theorem cb_X1_copyAll : CB yX1_copyAll cX1_copyAll 3 none 1 := ⟨lw_mem 185 (by decide +kernel) rfl, lw_mem 14 (by decide +kernel) rfl, ⟨by decide +kernel, by decide +kernel⟩, by decide +kernel⟩
theorem cw_X2_35 : CWV RX2 35 yX1_copyAll cX1_copyAll 3 none 1 := ⟨cb_X1_copyAll, lw_mem 182 (by decide +kernel) rfl, lw_mem 183 (by decide +kernel) rfl, lw_mem 184 (by decide +kernel) rfl⟩
theorem cb_X3_copyAll : CB yX3_copyAll cX3_copyAll 2 none 1 := ⟨lw_mem 189 (by decide +kernel) rfl, lw_mem 15 (by decide +kernel) rfl, ⟨by decide +kernel, by decide +kernel⟩, by decide +kernel⟩
theorem cw_X1_39 : CWV RX1 39 yX3_copyAll cX3_copyAll 2 none 1 := ⟨cb_X3_copyAll, lw_mem 186 (by decide +kernel) rfl, lw_mem 187 (by decide +kernel) rfl, lw_mem 188 (by decide +kernel) rfl⟩
theorem cb_X3_copyTable : CB yX3_copyTable cX3_copyTable 3 none 1 := ⟨lw_mem 193 (by decide +kernel) rfl, lw_mem 15 (by decide +kernel) rfl, ⟨by decide +kernel, by decide +kernel⟩, by decide +kernel⟩
theorem cw_X3_36 : CWV RX3 36 yX3_copyTable cX3_copyTable 3 none 1 := ⟨cb_X3_copyTable, lw_mem 190 (by decide +kernel) rfl, lw_mem 191 (by decide +kernel) rfl, lw_mem 192 (by decide +kernel) rfl⟩
set_option maxRecDepth 100000 in
theorem cb_L_lot : CB yL_lot cL_lot 2 (some .int) 2 := ⟨lw_memC 196 (by decide +kernel) rfl, lw_mem 12 (by decide +kernel) rfl, ⟨by decide +kernel, by decide +kernel⟩, by decide +kernel⟩
theorem cw_L_160 : CWS RL 160 yL_lot cL_lot 2 (some .int) 2 := ⟨cb_L_lot, lw_mem 194 (by decide +kernel) rfl, lw_mem 195 (by decide +kernel) rfl⟩
set_option maxRecDepth 100000 in
theorem cb_L_low : CB yL_low cL_low 2 (some .int) 2 := ⟨lw_memC 200 (by decide +kernel) rfl, lw_mem 12 (by decide +kernel) rfl, ⟨by decide +kernel, by decide +kernel⟩, by decide +kernel⟩
theorem cw_L_72 : CWS RL 72 yL_low cL_low 2 (some .int) 2 := ⟨cb_L_low, lw_mem 198 (by decide +kernel) rfl, lw_mem 199 (by decide +kernel) rfl⟩
set_option maxRecDepth 100000 in
theorem cb_L_look : CB yL_look cL_look 5 (some .long) 1 := ⟨lw_memC 204 (by decide +kernel) rfl, lw_mem 12 (by decide +kernel) rfl, ⟨by decide +kernel, by decide +kernel⟩, by decide +kernel⟩
theorem cw_L_103 : CWS RL 103 yL_look cL_look 5 (some .long) 1 := ⟨cb_L_look, lw_mem 202 (by decide +kernel) rfl, lw_mem 203 (by decide +kernel) rfl⟩
theorem cb_X5_next : CB yX5_next cX5_next 1 (some .int) 0 := ⟨lw_mem 210 (by decide +kernel) rfl, lw_mem 13 (by decide +kernel) rfl, ⟨by decide +kernel, by decide +kernel⟩, by decide +kernel⟩
theorem cw_L_13 : CWV RL 13 yX5_next cX5_next 1 (some .int) 0 := ⟨cb_X5_next, lw_mem 207 (by decide +kernel) rfl, lw_mem 208 (by decide +kernel) rfl, lw_mem 209 (by decide +kernel) rfl⟩
theorem cb_X5_setting : CB yX5_setting cX5_setting 2 (some .int) 1 := ⟨lw_mem 214 (by decide +kernel) rfl, lw_mem 13 (by decide +kernel) rfl, ⟨by decide +kernel, by decide +kernel⟩, by decide +kernel⟩
theorem cw_L_19 : CWV RL 19 yX5_setting cX5_setting 2 (some .int) 1 := ⟨cb_X5_setting, lw_mem 211 (by decide +kernel) rfl, lw_mem 212 (by decide +kernel) rfl, lw_mem 213 (by decide +kernel) rfl⟩
theorem cb_X5_isSetting : CB yX5_isSetting cX5_isSetting 1 (some .boolean) 1 := ⟨lw_mem 217 (by decide +kernel) rfl, lw_mem 13 (by decide +kernel) rfl, ⟨by decide +kernel, by decide +kernel⟩, by decide +kernel⟩
theorem cw_X5_168 : CWS RX5 168 yX5_isSetting cX5_isSetting 1 (some .boolean) 1 := ⟨cb_X5_isSetting, lw_mem 215 (by decide +kernel) rfl, lw_mem 216 (by decide +kernel) rfl⟩
theorem cb_X5_damaged : CB yX5_damaged cX5_damaged 2 (some .int) 1 := ⟨lw_mem 221 (by decide +kernel) rfl, lw_mem 13 (by decide +kernel) rfl, ⟨by decide +kernel, by decide +kernel⟩, by decide +kernel⟩
theorem cw_L_23 : CWV RL 23 yX5_damaged cX5_damaged 2 (some .int) 1 := ⟨cb_X5_damaged, lw_mem 218 (by decide +kernel) rfl, lw_mem 219 (by decide +kernel) rfl, lw_mem 220 (by decide +kernel) rfl⟩
theorem cb_X5_isSector : CB yX5_isSector cX5_isSector 1 (some .boolean) 1 := ⟨lw_mem 224 (by decide +kernel) rfl, lw_mem 13 (by decide +kernel) rfl, ⟨by decide +kernel, by decide +kernel⟩, by decide +kernel⟩
theorem cw_X5_158 : CWS RX5 158 yX5_isSector cX5_isSector 1 (some .boolean) 1 := ⟨cb_X5_isSector, lw_mem 222 (by decide +kernel) rfl, lw_mem 223 (by decide +kernel) rfl⟩
theorem cb_X5_sessions : CB yX5_sessions cX5_sessions 1 (some .int) 0 := ⟨lw_mem 228 (by decide +kernel) rfl, lw_mem 13 (by decide +kernel) rfl, ⟨by decide +kernel, by decide +kernel⟩, by decide +kernel⟩
theorem cw_L_26 : CWV RL 26 yX5_sessions cX5_sessions 1 (some .int) 0 := ⟨cb_X5_sessions, lw_mem 225 (by decide +kernel) rfl, lw_mem 226 (by decide +kernel) rfl, lw_mem 227 (by decide +kernel) rfl⟩
theorem cb_X5_session : CB yX5_session cX5_session 4 (some .int) 2 := ⟨lw_mem 232 (by decide +kernel) rfl, lw_mem 13 (by decide +kernel) rfl, ⟨by decide +kernel, by decide +kernel⟩, by decide +kernel⟩
theorem cw_L_29 : CWV RL 29 yX5_session cX5_session 4 (some .int) 2 := ⟨cb_X5_session, lw_mem 229 (by decide +kernel) rfl, lw_mem 230 (by decide +kernel) rfl, lw_mem 231 (by decide +kernel) rfl⟩
theorem cb_X1_sessionAt : CB yX1_sessionAt cX1_sessionAt 2 (some (.object "WriteOnceDisc$Session")) 1 := ⟨lw_mem 236 (by decide +kernel) rfl, lw_mem 14 (by decide +kernel) rfl, ⟨by decide +kernel, by decide +kernel⟩, by decide +kernel⟩
theorem cw_X5_105 : CWV RX5 105 yX1_sessionAt cX1_sessionAt 2 (some (.object "WriteOnceDisc$Session")) 1 := ⟨cb_X1_sessionAt, lw_mem 233 (by decide +kernel) rfl, lw_mem 234 (by decide +kernel) rfl, lw_mem 235 (by decide +kernel) rfl⟩
theorem cb_X3_countEntries : CB yX3_countEntries cX3_countEntries 3 (some .int) 0 := ⟨lw_mem 240 (by decide +kernel) rfl, lw_mem 15 (by decide +kernel) rfl, ⟨by decide +kernel, by decide +kernel⟩, by decide +kernel⟩
theorem cw_X5_126 : CWV RX5 126 yX3_countEntries cX3_countEntries 3 (some .int) 0 := ⟨cb_X3_countEntries, lw_mem 237 (by decide +kernel) rfl, lw_mem 238 (by decide +kernel) rfl, lw_mem 239 (by decide +kernel) rfl⟩
theorem cb_X1_isReadableIf : CB yX1_isReadableIf cX1_isReadableIf 3 (some .boolean) 2 := ⟨lw_mem 244 (by decide +kernel) rfl, lw_mem 14 (by decide +kernel) rfl, ⟨by decide +kernel, by decide +kernel⟩, by decide +kernel⟩
theorem cw_X5_129 : CWV RX5 129 yX1_isReadableIf cX1_isReadableIf 3 (some .boolean) 2 := ⟨cb_X1_isReadableIf, lw_mem 241 (by decide +kernel) rfl, lw_mem 242 (by decide +kernel) rfl, lw_mem 243 (by decide +kernel) rfl⟩
theorem cb_X1_areWholeIf : CB yX1_areWholeIf cX1_areWholeIf 6 (some .boolean) 3 := ⟨lw_mem 248 (by decide +kernel) rfl, lw_mem 14 (by decide +kernel) rfl, ⟨by decide +kernel, by decide +kernel⟩, by decide +kernel⟩
theorem cw_X1_115 : CWV RX1 115 yX1_areWholeIf cX1_areWholeIf 6 (some .boolean) 3 := ⟨cb_X1_areWholeIf, lw_mem 245 (by decide +kernel) rfl, lw_mem 247 (by decide +kernel) rfl, lw_mem 1 (by decide +kernel) rfl⟩
theorem cb_J9_min_7cf53 : CB yJ9_min_7cf53 cJ9_min_7cf53 2 (some .int) 2 := ⟨lw_mem 251 (by decide +kernel) rfl, lw_mem 18 (by decide +kernel) rfl, ⟨by decide +kernel, by decide +kernel⟩, by decide +kernel⟩
theorem cw_X1_128 : CWS RX1 128 yJ9_min_7cf53 cJ9_min_7cf53 2 (some .int) 2 := ⟨cb_J9_min_7cf53, lw_mem 249 (by decide +kernel) rfl, lw_mem 250 (by decide +kernel) rfl⟩
theorem cb_J9_max_7cf53 : CB yJ9_max_7cf53 cJ9_max_7cf53 2 (some .int) 2 := ⟨lw_mem 254 (by decide +kernel) rfl, lw_mem 18 (by decide +kernel) rfl, ⟨by decide +kernel, by decide +kernel⟩, by decide +kernel⟩
theorem cw_X1_134 : CWS RX1 134 yJ9_max_7cf53 cJ9_max_7cf53 2 (some .int) 2 := ⟨cb_J9_max_7cf53, lw_mem 252 (by decide +kernel) rfl, lw_mem 253 (by decide +kernel) rfl⟩
theorem cb_X5_entry : CB yX5_entry cX5_entry 6 (some .int) 3 := ⟨lw_mem 258 (by decide +kernel) rfl, lw_mem 13 (by decide +kernel) rfl, ⟨by decide +kernel, by decide +kernel⟩, by decide +kernel⟩
theorem cw_L_33 : CWV RL 33 yX5_entry cX5_entry 6 (some .int) 3 := ⟨cb_X5_entry, lw_mem 255 (by decide +kernel) rfl, lw_mem 256 (by decide +kernel) rfl, lw_mem 257 (by decide +kernel) rfl⟩
theorem cb_X5_isName : CB yX5_isName cX5_isName 1 (some .boolean) 1 := ⟨lw_mem 261 (by decide +kernel) rfl, lw_mem 13 (by decide +kernel) rfl, ⟨by decide +kernel, by decide +kernel⟩, by decide +kernel⟩
theorem cw_X5_136 : CWS RX5 136 yX5_isName cX5_isName 1 (some .boolean) 1 := ⟨cb_X5_isName, lw_mem 259 (by decide +kernel) rfl, lw_mem 260 (by decide +kernel) rfl⟩
theorem cb_X3_fileOf : CB yX3_fileOf cX3_fileOf 2 (some (.object "WriteOnceDisc$StoredFile")) 1 := ⟨lw_mem 265 (by decide +kernel) rfl, lw_mem 15 (by decide +kernel) rfl, ⟨by decide +kernel, by decide +kernel⟩, by decide +kernel⟩
theorem cw_X5_139 : CWV RX5 139 yX3_fileOf cX3_fileOf 2 (some (.object "WriteOnceDisc$StoredFile")) 1 := ⟨cb_X3_fileOf, lw_mem 262 (by decide +kernel) rfl, lw_mem 263 (by decide +kernel) rfl, lw_mem 264 (by decide +kernel) rfl⟩
theorem cw_X3_40 : CWSN nestW RX3 40 yX5_isName cX5_isName 1 (some .boolean) 1 := ⟨cb_X5_isName, by decide +kernel, lw_mem 260 (by decide +kernel) rfl⟩
theorem cb_X5_versions : CB yX5_versions cX5_versions 2 (some .int) 1 := ⟨lw_mem 270 (by decide +kernel) rfl, lw_mem 13 (by decide +kernel) rfl, ⟨by decide +kernel, by decide +kernel⟩, by decide +kernel⟩
theorem cw_L_37 : CWV RL 37 yX5_versions cX5_versions 2 (some .int) 1 := ⟨cb_X5_versions, lw_mem 267 (by decide +kernel) rfl, lw_mem 268 (by decide +kernel) rfl, lw_mem 269 (by decide +kernel) rfl⟩
set_option maxRecDepth 100000 in
theorem cb_L_holds : CB yL_holds cL_holds 15 (some .boolean) 1 := ⟨lw_memC 273 (by decide +kernel) rfl, lw_mem 12 (by decide +kernel) rfl, ⟨by decide +kernel, by decide +kernel⟩, by decide +kernel⟩
theorem cw_L_153 : CWS RL 153 yL_holds cL_holds 15 (some .boolean) 1 := ⟨cb_L_holds, lw_mem 271 (by decide +kernel) rfl, lw_mem 272 (by decide +kernel) rfl⟩
set_option maxRecDepth 100000 in
theorem cb_L_whole : CB yL_whole cL_whole 5 (some .boolean) 3 := ⟨lw_memC 276 (by decide +kernel) rfl, lw_mem 12 (by decide +kernel) rfl, ⟨by decide +kernel, by decide +kernel⟩, by decide +kernel⟩
theorem cw_L_42 : CWS RL 42 yL_whole cL_whole 5 (some .boolean) 3 := ⟨cb_L_whole, lw_mem 274 (by decide +kernel) rfl, lw_mem 275 (by decide +kernel) rfl⟩
theorem cb_X5_use : CB yX5_use cX5_use 2 (some .int) 1 := ⟨lw_mem 280 (by decide +kernel) rfl, lw_mem 13 (by decide +kernel) rfl, ⟨by decide +kernel, by decide +kernel⟩, by decide +kernel⟩
theorem cw_L_46 : CWV RL 46 yX5_use cX5_use 2 (some .int) 1 := ⟨cb_X5_use, lw_mem 277 (by decide +kernel) rfl, lw_mem 278 (by decide +kernel) rfl, lw_mem 279 (by decide +kernel) rfl⟩
theorem cb_X1_useOf : CB yX1_useOf cX1_useOf 4 (some .int) 1 := ⟨lw_mem 284 (by decide +kernel) rfl, lw_mem 14 (by decide +kernel) rfl, ⟨by decide +kernel, by decide +kernel⟩, by decide +kernel⟩
theorem cw_X5_165 : CWV RX5 165 yX1_useOf cX1_useOf 4 (some .int) 1 := ⟨cb_X1_useOf, lw_mem 281 (by decide +kernel) rfl, lw_mem 282 (by decide +kernel) rfl, lw_mem 283 (by decide +kernel) rfl⟩
theorem cw_X1_54 : CWV RX1 54 yX1_sessionAt cX1_sessionAt 2 (some (.object "WriteOnceDisc$Session")) 1 := ⟨cb_X1_sessionAt, lw_mem 285 (by decide +kernel) rfl, lw_mem 234 (by decide +kernel) rfl, lw_mem 235 (by decide +kernel) rfl⟩
theorem cb_X3_hasTaken : CB yX3_hasTaken cX3_hasTaken 2 (some .boolean) 1 := ⟨lw_mem 289 (by decide +kernel) rfl, lw_mem 15 (by decide +kernel) rfl, ⟨by decide +kernel, by decide +kernel⟩, by decide +kernel⟩
theorem cw_X1_137 : CWV RX1 137 yX3_hasTaken cX3_hasTaken 2 (some .boolean) 1 := ⟨cb_X3_hasTaken, lw_mem 286 (by decide +kernel) rfl, lw_mem 287 (by decide +kernel) rfl, lw_mem 288 (by decide +kernel) rfl⟩
theorem cb_X3_useOf : CB yX3_useOf cX3_useOf 2 (some .int) 1 := ⟨lw_mem 293 (by decide +kernel) rfl, lw_mem 15 (by decide +kernel) rfl, ⟨by decide +kernel, by decide +kernel⟩, by decide +kernel⟩
theorem cw_X1_140 : CWV RX1 140 yX3_useOf cX3_useOf 2 (some .int) 1 := ⟨cb_X3_useOf, lw_mem 290 (by decide +kernel) rfl, lw_mem 291 (by decide +kernel) rfl, lw_mem 292 (by decide +kernel) rfl⟩
theorem cb_X5_find : CB yX5_find cX5_find 3 (some .int) 1 := ⟨lw_mem 297 (by decide +kernel) rfl, lw_mem 13 (by decide +kernel) rfl, ⟨by decide +kernel, by decide +kernel⟩, by decide +kernel⟩
theorem cw_L_49 : CWV RL 49 yX5_find cX5_find 3 (some .int) 1 := ⟨cb_X5_find, lw_mem 294 (by decide +kernel) rfl, lw_mem 295 (by decide +kernel) rfl, lw_mem 296 (by decide +kernel) rfl⟩
theorem cb_X1_foundFile : CB yX1_foundFile cX1_foundFile 3 (some (.object "WriteOnceDisc$StoredFile")) 1 := ⟨lw_mem 301 (by decide +kernel) rfl, lw_mem 14 (by decide +kernel) rfl, ⟨by decide +kernel, by decide +kernel⟩, by decide +kernel⟩
theorem cw_X5_175 : CWV RX5 175 yX1_foundFile cX1_foundFile 3 (some (.object "WriteOnceDisc$StoredFile")) 1 := ⟨cb_X1_foundFile, lw_mem 298 (by decide +kernel) rfl, lw_mem 299 (by decide +kernel) rfl, lw_mem 300 (by decide +kernel) rfl⟩
theorem cb_X1_validNumberIf : CB yX1_validNumberIf cX1_validNumberIf 4 (some .int) 1 := ⟨lw_mem 305 (by decide +kernel) rfl, lw_mem 14 (by decide +kernel) rfl, ⟨by decide +kernel, by decide +kernel⟩, by decide +kernel⟩
theorem cw_X1_50 : CWV RX1 50 yX1_validNumberIf cX1_validNumberIf 4 (some .int) 1 := ⟨cb_X1_validNumberIf, lw_mem 302 (by decide +kernel) rfl, lw_mem 303 (by decide +kernel) rfl, lw_mem 304 (by decide +kernel) rfl⟩
theorem cw_X1_100 : CWV RX1 100 yX1_isReadableIf cX1_isReadableIf 3 (some .boolean) 2 := ⟨cb_X1_isReadableIf, lw_mem 306 (by decide +kernel) rfl, lw_mem 242 (by decide +kernel) rfl, lw_mem 243 (by decide +kernel) rfl⟩
theorem cw_X1_93 : CWV RX1 93 yX3_fileOf cX3_fileOf 2 (some (.object "WriteOnceDisc$StoredFile")) 1 := ⟨cb_X3_fileOf, lw_mem 307 (by decide +kernel) rfl, lw_mem 263 (by decide +kernel) rfl, lw_mem 264 (by decide +kernel) rfl⟩
theorem cb_X5_intact : CB yX5_intact cX5_intact 3 (some .int) 1 := ⟨lw_mem 311 (by decide +kernel) rfl, lw_mem 13 (by decide +kernel) rfl, ⟨by decide +kernel, by decide +kernel⟩, by decide +kernel⟩
theorem cw_L_52 : CWV RL 52 yX5_intact cX5_intact 3 (some .int) 1 := ⟨cb_X5_intact, lw_mem 308 (by decide +kernel) rfl, lw_mem 309 (by decide +kernel) rfl, lw_mem 310 (by decide +kernel) rfl⟩
theorem cb_X1_isIntactIf : CB yX1_isIntactIf cX1_isIntactIf 3 (some .boolean) 2 := ⟨lw_mem 315 (by decide +kernel) rfl, lw_mem 14 (by decide +kernel) rfl, ⟨by decide +kernel, by decide +kernel⟩, by decide +kernel⟩
theorem cw_X5_178 : CWV RX5 178 yX1_isIntactIf cX1_isIntactIf 3 (some .boolean) 2 := ⟨cb_X1_isIntactIf, lw_mem 312 (by decide +kernel) rfl, lw_mem 313 (by decide +kernel) rfl, lw_mem 314 (by decide +kernel) rfl⟩
theorem cb_X5_valid : CB yX5_valid cX5_valid 1 (some .int) 0 := ⟨lw_mem 319 (by decide +kernel) rfl, lw_mem 13 (by decide +kernel) rfl, ⟨by decide +kernel, by decide +kernel⟩, by decide +kernel⟩
theorem cw_L_55 : CWV RL 55 yX5_valid cX5_valid 1 (some .int) 0 := ⟨cb_X5_valid, lw_mem 316 (by decide +kernel) rfl, lw_mem 317 (by decide +kernel) rfl, lw_mem 318 (by decide +kernel) rfl⟩
theorem cw_X5_152 : CWV RX5 152 yX1_validNumberIf cX1_validNumberIf 4 (some .int) 1 := ⟨cb_X1_validNumberIf, lw_mem 320 (by decide +kernel) rfl, lw_mem 303 (by decide +kernel) rfl, lw_mem 304 (by decide +kernel) rfl⟩
theorem cb_X5_intactFiles : CB yX5_intactFiles cX5_intactFiles 1 (some .int) 0 := ⟨lw_mem 324 (by decide +kernel) rfl, lw_mem 13 (by decide +kernel) rfl, ⟨by decide +kernel, by decide +kernel⟩, by decide +kernel⟩
theorem cw_L_58 : CWV RL 58 yX5_intactFiles cX5_intactFiles 1 (some .int) 0 := ⟨cb_X5_intactFiles, lw_mem 321 (by decide +kernel) rfl, lw_mem 322 (by decide +kernel) rfl, lw_mem 323 (by decide +kernel) rfl⟩
theorem cb_X1_countIntactIf : CB yX1_countIntactIf cX1_countIntactIf 6 (some .int) 1 := ⟨lw_mem 328 (by decide +kernel) rfl, lw_mem 14 (by decide +kernel) rfl, ⟨by decide +kernel, by decide +kernel⟩, by decide +kernel⟩
theorem cw_X5_182 : CWV RX5 182 yX1_countIntactIf cX1_countIntactIf 6 (some .int) 1 := ⟨cb_X1_countIntactIf, lw_mem 325 (by decide +kernel) rfl, lw_mem 326 (by decide +kernel) rfl, lw_mem 327 (by decide +kernel) rfl⟩
theorem cw_X1_146 : CWV RX1 146 yX1_isIntactIf cX1_isIntactIf 3 (some .boolean) 2 := ⟨cb_X1_isIntactIf, lw_mem 329 (by decide +kernel) rfl, lw_mem 313 (by decide +kernel) rfl, lw_mem 314 (by decide +kernel) rfl⟩
theorem cb_X5_lost : CB yX5_lost cX5_lost 1 (some .int) 0 := ⟨lw_mem 333 (by decide +kernel) rfl, lw_mem 13 (by decide +kernel) rfl, ⟨by decide +kernel, by decide +kernel⟩, by decide +kernel⟩
theorem cw_L_61 : CWV RL 61 yX5_lost cX5_lost 1 (some .int) 0 := ⟨cb_X5_lost, lw_mem 330 (by decide +kernel) rfl, lw_mem 331 (by decide +kernel) rfl, lw_mem 332 (by decide +kernel) rfl⟩
theorem cb_X1_countFoundSectors : CB yX1_countFoundSectors cX1_countFoundSectors 5 (some .int) 0 := ⟨lw_mem 337 (by decide +kernel) rfl, lw_mem 14 (by decide +kernel) rfl, ⟨by decide +kernel, by decide +kernel⟩, by decide +kernel⟩
theorem cw_X5_191 : CWV RX5 191 yX1_countFoundSectors cX1_countFoundSectors 5 (some .int) 0 := ⟨cb_X1_countFoundSectors, lw_mem 334 (by decide +kernel) rfl, lw_mem 335 (by decide +kernel) rfl, lw_mem 336 (by decide +kernel) rfl⟩
theorem cb_X5_usedWell : CB yX5_usedWell cX5_usedWell 1 (some .float) 0 := ⟨lw_mem 341 (by decide +kernel) rfl, lw_mem 13 (by decide +kernel) rfl, ⟨by decide +kernel, by decide +kernel⟩, by decide +kernel⟩
theorem cw_L_64 : CWV RL 64 yX5_usedWell cX5_usedWell 1 (some .float) 0 := ⟨cb_X5_usedWell, lw_mem 338 (by decide +kernel) rfl, lw_mem 339 (by decide +kernel) rfl, lw_mem 340 (by decide +kernel) rfl⟩
set_option maxRecDepth 100000 in
theorem cb_L_would : CB yL_would cL_would 16 (some .boolean) 2 := ⟨lw_memC 344 (by decide +kernel) rfl, lw_mem 12 (by decide +kernel) rfl, ⟨by decide +kernel, by decide +kernel⟩, by decide +kernel⟩
theorem cw_L_157 : CWS RL 157 yL_would cL_would 16 (some .boolean) 2 := ⟨cb_L_would, lw_mem 342 (by decide +kernel) rfl, lw_mem 343 (by decide +kernel) rfl⟩
set_option maxRecDepth 100000 in
theorem cb_L_open : CB yL_open cL_open 2 (some .int) 1 := ⟨lw_memC 347 (by decide +kernel) rfl, lw_mem 12 (by decide +kernel) rfl, ⟨by decide +kernel, by decide +kernel⟩, by decide +kernel⟩
theorem cw_L_68 : CWS RL 68 yL_open cL_open 2 (some .int) 1 := ⟨cb_L_open, lw_mem 345 (by decide +kernel) rfl, lw_mem 346 (by decide +kernel) rfl⟩
theorem cb_X5_filesLeft : CB yX5_filesLeft cX5_filesLeft 2 (some .int) 1 := ⟨lw_mem 351 (by decide +kernel) rfl, lw_mem 13 (by decide +kernel) rfl, ⟨by decide +kernel, by decide +kernel⟩, by decide +kernel⟩
theorem cw_L_75 : CWV RL 75 yX5_filesLeft cX5_filesLeft 2 (some .int) 1 := ⟨cb_X5_filesLeft, lw_mem 348 (by decide +kernel) rfl, lw_mem 349 (by decide +kernel) rfl, lw_mem 350 (by decide +kernel) rfl⟩
theorem cb_X5_isFileSize : CB yX5_isFileSize cX5_isFileSize 1 (some .boolean) 1 := ⟨lw_mem 354 (by decide +kernel) rfl, lw_mem 13 (by decide +kernel) rfl, ⟨by decide +kernel, by decide +kernel⟩, by decide +kernel⟩
theorem cw_X5_202 : CWS RX5 202 yX5_isFileSize cX5_isFileSize 1 (some .boolean) 1 := ⟨cb_X5_isFileSize, lw_mem 352 (by decide +kernel) rfl, lw_mem 353 (by decide +kernel) rfl⟩
theorem cb_X1_roomForFiles : CB yX1_roomForFiles cX1_roomForFiles 2 (some .int) 0 := ⟨lw_mem 358 (by decide +kernel) rfl, lw_mem 14 (by decide +kernel) rfl, ⟨by decide +kernel, by decide +kernel⟩, by decide +kernel⟩
theorem cw_X5_194 : CWV RX5 194 yX1_roomForFiles cX1_roomForFiles 2 (some .int) 0 := ⟨cb_X1_roomForFiles, lw_mem 355 (by decide +kernel) rfl, lw_mem 356 (by decide +kernel) rfl, lw_mem 357 (by decide +kernel) rfl⟩
theorem cb_X1_openSession : CB yX1_openSession cX1_openSession 2 (some (.object "WriteOnceDisc$Session")) 0 := ⟨lw_mem 362 (by decide +kernel) rfl, lw_mem 14 (by decide +kernel) rfl, ⟨by decide +kernel, by decide +kernel⟩, by decide +kernel⟩
theorem cw_X1_43 : CWV RX1 43 yX1_openSession cX1_openSession 2 (some (.object "WriteOnceDisc$Session")) 0 := ⟨cb_X1_openSession, lw_mem 359 (by decide +kernel) rfl, lw_mem 360 (by decide +kernel) rfl, lw_mem 361 (by decide +kernel) rfl⟩
theorem cb_X5_filesEach : CB yX5_filesEach cX5_filesEach 2 (some .int) 1 := ⟨lw_mem 366 (by decide +kernel) rfl, lw_mem 13 (by decide +kernel) rfl, ⟨by decide +kernel, by decide +kernel⟩, by decide +kernel⟩
theorem cw_L_78 : CWV RL 78 yX5_filesEach cX5_filesEach 2 (some .int) 1 := ⟨cb_X5_filesEach, lw_mem 363 (by decide +kernel) rfl, lw_mem 364 (by decide +kernel) rfl, lw_mem 365 (by decide +kernel) rfl⟩
theorem cb_X1_sessionsOfOneFile : CB yX1_sessionsOfOneFile cX1_sessionsOfOneFile 7 (some .int) 1 := ⟨lw_mem 370 (by decide +kernel) rfl, lw_mem 14 (by decide +kernel) rfl, ⟨by decide +kernel, by decide +kernel⟩, by decide +kernel⟩
theorem cw_X5_205 : CWV RX5 205 yX1_sessionsOfOneFile cX1_sessionsOfOneFile 7 (some .int) 1 := ⟨cb_X1_sessionsOfOneFile, lw_mem 367 (by decide +kernel) rfl, lw_mem 368 (by decide +kernel) rfl, lw_mem 369 (by decide +kernel) rfl⟩
theorem cb_X5_validIf : CB yX5_validIf cX5_validIf 2 (some .int) 1 := ⟨lw_mem 374 (by decide +kernel) rfl, lw_mem 13 (by decide +kernel) rfl, ⟨by decide +kernel, by decide +kernel⟩, by decide +kernel⟩
theorem cw_L_81 : CWV RL 81 yX5_validIf cX5_validIf 2 (some .int) 1 := ⟨cb_X5_validIf, lw_mem 371 (by decide +kernel) rfl, lw_mem 372 (by decide +kernel) rfl, lw_mem 373 (by decide +kernel) rfl⟩
theorem cb_X5_latestIntact : CB yX5_latestIntact cX5_latestIntact 2 (some .int) 1 := ⟨lw_mem 378 (by decide +kernel) rfl, lw_mem 13 (by decide +kernel) rfl, ⟨by decide +kernel, by decide +kernel⟩, by decide +kernel⟩
theorem cw_L_84 : CWV RL 84 yX5_latestIntact cX5_latestIntact 2 (some .int) 1 := ⟨cb_X5_latestIntact, lw_mem 375 (by decide +kernel) rfl, lw_mem 376 (by decide +kernel) rfl, lw_mem 377 (by decide +kernel) rfl⟩
theorem cb_X1_latestWithIntact : CB yX1_latestWithIntact cX1_latestWithIntact 5 (some .int) 1 := ⟨lw_mem 382 (by decide +kernel) rfl, lw_mem 14 (by decide +kernel) rfl, ⟨by decide +kernel, by decide +kernel⟩, by decide +kernel⟩
theorem cw_X5_188 : CWV RX5 188 yX1_latestWithIntact cX1_latestWithIntact 5 (some .int) 1 := ⟨cb_X1_latestWithIntact, lw_mem 379 (by decide +kernel) rfl, lw_mem 380 (by decide +kernel) rfl, lw_mem 381 (by decide +kernel) rfl⟩
theorem cb_X5_worstSector : CB yX5_worstSector cX5_worstSector 1 (some .int) 0 := ⟨lw_mem 386 (by decide +kernel) rfl, lw_mem 13 (by decide +kernel) rfl, ⟨by decide +kernel, by decide +kernel⟩, by decide +kernel⟩
theorem cw_L_87 : CWV RL 87 yX5_worstSector cX5_worstSector 1 (some .int) 0 := ⟨cb_X5_worstSector, lw_mem 383 (by decide +kernel) rfl, lw_mem 384 (by decide +kernel) rfl, lw_mem 385 (by decide +kernel) rfl⟩
theorem cb_X1_mostHarmfulSector : CB yX1_mostHarmfulSector cX1_mostHarmfulSector 5 (some .int) 0 := ⟨lw_mem 390 (by decide +kernel) rfl, lw_mem 14 (by decide +kernel) rfl, ⟨by decide +kernel, by decide +kernel⟩, by decide +kernel⟩
theorem cw_X5_208 : CWV RX5 208 yX1_mostHarmfulSector cX1_mostHarmfulSector 5 (some .int) 0 := ⟨cb_X1_mostHarmfulSector, lw_mem 387 (by decide +kernel) rfl, lw_mem 388 (by decide +kernel) rfl, lw_mem 389 (by decide +kernel) rfl⟩
theorem cb_X1_moreHarmful : CB yX1_moreHarmful cX1_moreHarmful 5 (some .int) 2 := ⟨lw_mem 394 (by decide +kernel) rfl, lw_mem 14 (by decide +kernel) rfl, ⟨by decide +kernel, by decide +kernel⟩, by decide +kernel⟩
theorem cw_X1_150 : CWV RX1 150 yX1_moreHarmful cX1_moreHarmful 5 (some .int) 2 := ⟨cb_X1_moreHarmful, lw_mem 391 (by decide +kernel) rfl, lw_mem 393 (by decide +kernel) rfl, lw_mem 2 (by decide +kernel) rfl⟩
theorem cw_X1_153 : CWV RX1 153 yX1_countIntactIf cX1_countIntactIf 6 (some .int) 1 := ⟨cb_X1_countIntactIf, lw_mem 395 (by decide +kernel) rfl, lw_mem 326 (by decide +kernel) rfl, lw_mem 327 (by decide +kernel) rfl⟩
theorem cb_X5_largest : CB yX5_largest cX5_largest 1 (some .int) 0 := ⟨lw_mem 399 (by decide +kernel) rfl, lw_mem 13 (by decide +kernel) rfl, ⟨by decide +kernel, by decide +kernel⟩, by decide +kernel⟩
theorem cw_L_90 : CWV RL 90 yX5_largest cX5_largest 1 (some .int) 0 := ⟨cb_X5_largest, lw_mem 396 (by decide +kernel) rfl, lw_mem 397 (by decide +kernel) rfl, lw_mem 398 (by decide +kernel) rfl⟩
theorem cw_X5_197 : CWS RX5 197 yJ9_min_7cf53 cJ9_min_7cf53 2 (some .int) 2 := ⟨cb_J9_min_7cf53, lw_mem 400 (by decide +kernel) rfl, lw_mem 250 (by decide +kernel) rfl⟩
set_option maxRecDepth 100000 in
theorem cb_L_acts : CB yL_acts cL_acts 12 (some .boolean) 3 := ⟨lw_memC 403 (by decide +kernel) rfl, lw_mem 12 (by decide +kernel) rfl, ⟨by decide +kernel, by decide +kernel⟩, by decide +kernel⟩
theorem cw_L_164 : CWS RL 164 yL_acts cL_acts 12 (some .boolean) 3 := ⟨cb_L_acts, lw_mem 401 (by decide +kernel) rfl, lw_mem 402 (by decide +kernel) rfl⟩
theorem cb_X5_begin : CB yX5_begin cX5_begin 2 (some .int) 1 := ⟨lw_mem 407 (by decide +kernel) rfl, lw_mem 13 (by decide +kernel) rfl, ⟨by decide +kernel, by decide +kernel⟩, by decide +kernel⟩
theorem cw_L_128 : CWV RL 128 yX5_begin cX5_begin 2 (some .int) 1 := ⟨cb_X5_begin, lw_mem 404 (by decide +kernel) rfl, lw_mem 405 (by decide +kernel) rfl, lw_mem 406 (by decide +kernel) rfl⟩
theorem cb_X2_sketch : CB yX2_sketch cX2_sketch 2 none 1 := ⟨lw_mem 411 (by decide +kernel) rfl, lw_mem 16 (by decide +kernel) rfl, ⟨by decide +kernel, by decide +kernel⟩, by decide +kernel⟩
theorem cw_X5_30 : CWV RX5 30 yX2_sketch cX2_sketch 2 none 1 := ⟨cb_X2_sketch, lw_mem 408 (by decide +kernel) rfl, lw_mem 409 (by decide +kernel) rfl, lw_mem 410 (by decide +kernel) rfl⟩
theorem cb_X1_beginSession : CB yX1_beginSession cX1_beginSession 5 (some .int) 1 := ⟨lw_mem 415 (by decide +kernel) rfl, lw_mem 14 (by decide +kernel) rfl, ⟨by decide +kernel, by decide +kernel⟩, by decide +kernel⟩
theorem cw_X5_34 : CWV RX5 34 yX1_beginSession cX1_beginSession 5 (some .int) 1 := ⟨cb_X1_beginSession, lw_mem 412 (by decide +kernel) rfl, lw_mem 413 (by decide +kernel) rfl, lw_mem 414 (by decide +kernel) rfl⟩
theorem cb_X1_freshSession : CB yX1_freshSession cX1_freshSession 1 (some (.object "WriteOnceDisc$Session")) 0 := ⟨lw_mem 419 (by decide +kernel) rfl, lw_mem 14 (by decide +kernel) rfl, ⟨by decide +kernel, by decide +kernel⟩, by decide +kernel⟩
theorem cw_X1_47 : CWV RX1 47 yX1_freshSession cX1_freshSession 1 (some (.object "WriteOnceDisc$Session")) 0 := ⟨cb_X1_freshSession, lw_mem 416 (by decide +kernel) rfl, lw_mem 418 (by decide +kernel) rfl, lw_mem 3 (by decide +kernel) rfl⟩
theorem cb_X3_startAt : CB yX3_startAt cX3_startAt 5 none 3 := ⟨lw_mem 423 (by decide +kernel) rfl, lw_mem 15 (by decide +kernel) rfl, ⟨by decide +kernel, by decide +kernel⟩, by decide +kernel⟩
theorem cw_X1_58 : CWV RX1 58 yX3_startAt cX3_startAt 5 none 3 := ⟨cb_X3_startAt, lw_mem 420 (by decide +kernel) rfl, lw_mem 421 (by decide +kernel) rfl, lw_mem 422 (by decide +kernel) rfl⟩
theorem cw_X1_62 : CWV RX1 62 yX3_copyTable cX3_copyTable 3 none 1 := ⟨cb_X3_copyTable, lw_mem 424 (by decide +kernel) rfl, lw_mem 191 (by decide +kernel) rfl, lw_mem 192 (by decide +kernel) rfl⟩
theorem cb_X5_recorded : CB yX5_recorded cX5_recorded 2 (some .int) 1 := ⟨lw_mem 428 (by decide +kernel) rfl, lw_mem 13 (by decide +kernel) rfl, ⟨by decide +kernel, by decide +kernel⟩, by decide +kernel⟩
theorem cw_X5_38 : CWV RX5 38 yX5_recorded cX5_recorded 2 (some .int) 1 := ⟨cb_X5_recorded, lw_mem 425 (by decide +kernel) rfl, lw_mem 427 (by decide +kernel) rfl, lw_mem 4 (by decide +kernel) rfl⟩
theorem cb_X5_isError : CB yX5_isError cX5_isError 1 (some .boolean) 1 := ⟨lw_mem 431 (by decide +kernel) rfl, lw_mem 13 (by decide +kernel) rfl, ⟨by decide +kernel, by decide +kernel⟩, by decide +kernel⟩
theorem cw_X5_88 : CWS RX5 88 yX5_isError cX5_isError 1 (some .boolean) 1 := ⟨cb_X5_isError, lw_mem 429 (by decide +kernel) rfl, lw_mem 430 (by decide +kernel) rfl⟩
theorem cb_X2_recordSketch : CB yX2_recordSketch cX2_recordSketch 1 none 0 := ⟨lw_mem 435 (by decide +kernel) rfl, lw_mem 16 (by decide +kernel) rfl, ⟨by decide +kernel, by decide +kernel⟩, by decide +kernel⟩
theorem cw_X5_211 : CWV RX5 211 yX2_recordSketch cX2_recordSketch 1 none 0 := ⟨cb_X2_recordSketch, lw_mem 432 (by decide +kernel) rfl, lw_mem 433 (by decide +kernel) rfl, lw_mem 434 (by decide +kernel) rfl⟩
set_option maxRecDepth 100000 in
theorem cb_L_files : CB yL_files cL_files 14 (some .boolean) 3 := ⟨lw_memC 438 (by decide +kernel) rfl, lw_mem 12 (by decide +kernel) rfl, ⟨by decide +kernel, by decide +kernel⟩, by decide +kernel⟩
theorem cw_L_131 : CWS RL 131 yL_files cL_files 14 (some .boolean) 3 := ⟨cb_L_files, lw_mem 436 (by decide +kernel) rfl, lw_mem 437 (by decide +kernel) rfl⟩
theorem cb_X5_write : CB yX5_write cX5_write 3 (some .int) 2 := ⟨lw_mem 442 (by decide +kernel) rfl, lw_mem 13 (by decide +kernel) rfl, ⟨by decide +kernel, by decide +kernel⟩, by decide +kernel⟩
theorem cw_L_119 : CWV RL 119 yX5_write cX5_write 3 (some .int) 2 := ⟨cb_X5_write, lw_mem 439 (by decide +kernel) rfl, lw_mem 440 (by decide +kernel) rfl, lw_mem 441 (by decide +kernel) rfl⟩
theorem cb_X1_writeFile : CB yX1_writeFile cX1_writeFile 5 (some .int) 2 := ⟨lw_mem 446 (by decide +kernel) rfl, lw_mem 14 (by decide +kernel) rfl, ⟨by decide +kernel, by decide +kernel⟩, by decide +kernel⟩
theorem cw_X5_41 : CWV RX5 41 yX1_writeFile cX1_writeFile 5 (some .int) 2 := ⟨cb_X1_writeFile, lw_mem 443 (by decide +kernel) rfl, lw_mem 444 (by decide +kernel) rfl, lw_mem 445 (by decide +kernel) rfl⟩
theorem cw_X1_68 : CWSN nestW RX1 68 yX5_isName cX5_isName 1 (some .boolean) 1 := ⟨cb_X5_isName, by decide +kernel, lw_mem 260 (by decide +kernel) rfl⟩
theorem cw_X1_72 : CWSN nestW RX1 72 yX5_isFileSize cX5_isFileSize 1 (some .boolean) 1 := ⟨cb_X5_isFileSize, by decide +kernel, lw_mem 353 (by decide +kernel) rfl⟩
theorem cw_X1_75 : CWV RX1 75 yX1_roomForFiles cX1_roomForFiles 2 (some .int) 0 := ⟨cb_X1_roomForFiles, lw_mem 449 (by decide +kernel) rfl, lw_mem 356 (by decide +kernel) rfl, lw_mem 357 (by decide +kernel) rfl⟩
theorem cb_X4_init : CB yX4_init cX4_init 4 none 3 := ⟨lw_mem 454 (by decide +kernel) rfl, lw_mem 19 (by decide +kernel) rfl, ⟨by decide +kernel, by decide +kernel⟩, by decide +kernel⟩
theorem cw_X1_81 : CWI RX1 81 yX4_init cX4_init 4 3 := ⟨cb_X4_init, lw_mem 452 (by decide +kernel) rfl, lw_mem 453 (by decide +kernel) rfl, by decide +kernel⟩
theorem oi_X4 : Cond.methodLink RX4 1 objectInit ∈ lw_all := lw_mem 455 (by decide +kernel) rfl
theorem cb_X3_putFile : CB yX3_putFile cX3_putFile 3 none 2 := ⟨lw_mem 474 (by decide +kernel) rfl, lw_mem 15 (by decide +kernel) rfl, ⟨by decide +kernel, by decide +kernel⟩, by decide +kernel⟩
theorem cw_X1_83 : CWV RX1 83 yX3_putFile cX3_putFile 3 none 2 := ⟨cb_X3_putFile, lw_mem 471 (by decide +kernel) rfl, lw_mem 472 (by decide +kernel) rfl, lw_mem 473 (by decide +kernel) rfl⟩
theorem cb_X5_remove : CB yX5_remove cX5_remove 2 (some .int) 1 := ⟨lw_mem 478 (by decide +kernel) rfl, lw_mem 13 (by decide +kernel) rfl, ⟨by decide +kernel, by decide +kernel⟩, by decide +kernel⟩
theorem cw_L_122 : CWV RL 122 yX5_remove cX5_remove 2 (some .int) 1 := ⟨cb_X5_remove, lw_mem 475 (by decide +kernel) rfl, lw_mem 476 (by decide +kernel) rfl, lw_mem 477 (by decide +kernel) rfl⟩
theorem cb_X1_removeEntry : CB yX1_removeEntry cX1_removeEntry 3 (some .int) 1 := ⟨lw_mem 482 (by decide +kernel) rfl, lw_mem 14 (by decide +kernel) rfl, ⟨by decide +kernel, by decide +kernel⟩, by decide +kernel⟩
theorem cw_X5_45 : CWV RX5 45 yX1_removeEntry cX1_removeEntry 3 (some .int) 1 := ⟨cb_X1_removeEntry, lw_mem 479 (by decide +kernel) rfl, lw_mem 480 (by decide +kernel) rfl, lw_mem 481 (by decide +kernel) rfl⟩
theorem cw_X1_97 : CWV RX1 97 yX3_countEntries cX3_countEntries 3 (some .int) 0 := ⟨cb_X3_countEntries, lw_mem 483 (by decide +kernel) rfl, lw_mem 238 (by decide +kernel) rfl, lw_mem 239 (by decide +kernel) rfl⟩
theorem cb_X5_keep : CB yX5_keep cX5_keep 3 (some .int) 2 := ⟨lw_mem 487 (by decide +kernel) rfl, lw_mem 13 (by decide +kernel) rfl, ⟨by decide +kernel, by decide +kernel⟩, by decide +kernel⟩
theorem cw_L_125 : CWV RL 125 yX5_keep cX5_keep 3 (some .int) 2 := ⟨cb_X5_keep, lw_mem 484 (by decide +kernel) rfl, lw_mem 485 (by decide +kernel) rfl, lw_mem 486 (by decide +kernel) rfl⟩
theorem cb_X1_keepEntry : CB yX1_keepEntry cX1_keepEntry 6 (some .int) 2 := ⟨lw_mem 491 (by decide +kernel) rfl, lw_mem 14 (by decide +kernel) rfl, ⟨by decide +kernel, by decide +kernel⟩, by decide +kernel⟩
theorem cw_X5_48 : CWV RX5 48 yX1_keepEntry cX1_keepEntry 6 (some .int) 2 := ⟨cb_X1_keepEntry, lw_mem 488 (by decide +kernel) rfl, lw_mem 489 (by decide +kernel) rfl, lw_mem 490 (by decide +kernel) rfl⟩
theorem cb_X5_close : CB yX5_close cX5_close 1 (some .int) 0 := ⟨lw_mem 495 (by decide +kernel) rfl, lw_mem 13 (by decide +kernel) rfl, ⟨by decide +kernel, by decide +kernel⟩, by decide +kernel⟩
theorem cw_L_134 : CWV RL 134 yX5_close cX5_close 1 (some .int) 0 := ⟨cb_X5_close, lw_mem 492 (by decide +kernel) rfl, lw_mem 493 (by decide +kernel) rfl, lw_mem 494 (by decide +kernel) rfl⟩
theorem cb_X1_closeSession : CB yX1_closeSession cX1_closeSession 2 (some .int) 0 := ⟨lw_mem 499 (by decide +kernel) rfl, lw_mem 14 (by decide +kernel) rfl, ⟨by decide +kernel, by decide +kernel⟩, by decide +kernel⟩
theorem cw_X5_51 : CWV RX5 51 yX1_closeSession cX1_closeSession 2 (some .int) 0 := ⟨cb_X1_closeSession, lw_mem 496 (by decide +kernel) rfl, lw_mem 497 (by decide +kernel) rfl, lw_mem 498 (by decide +kernel) rfl⟩
theorem cb_X1_leadOutOf : CB yX1_leadOutOf cX1_leadOutOf 2 (some .int) 1 := ⟨lw_mem 503 (by decide +kernel) rfl, lw_mem 14 (by decide +kernel) rfl, ⟨by decide +kernel, by decide +kernel⟩, by decide +kernel⟩
theorem cw_X1_104 : CWV RX1 104 yX1_leadOutOf cX1_leadOutOf 2 (some .int) 1 := ⟨cb_X1_leadOutOf, lw_mem 500 (by decide +kernel) rfl, lw_mem 502 (by decide +kernel) rfl, lw_mem 5 (by decide +kernel) rfl⟩
theorem cb_X5_eject : CB yX5_eject cX5_eject 1 (some .int) 0 := ⟨lw_mem 507 (by decide +kernel) rfl, lw_mem 13 (by decide +kernel) rfl, ⟨by decide +kernel, by decide +kernel⟩, by decide +kernel⟩
theorem cw_L_137 : CWV RL 137 yX5_eject cX5_eject 1 (some .int) 0 := ⟨cb_X5_eject, lw_mem 504 (by decide +kernel) rfl, lw_mem 505 (by decide +kernel) rfl, lw_mem 506 (by decide +kernel) rfl⟩
theorem cb_X1_breakSession : CB yX1_breakSession cX1_breakSession 2 (some .int) 0 := ⟨lw_mem 511 (by decide +kernel) rfl, lw_mem 14 (by decide +kernel) rfl, ⟨by decide +kernel, by decide +kernel⟩, by decide +kernel⟩
theorem cw_X5_55 : CWV RX5 55 yX1_breakSession cX1_breakSession 2 (some .int) 0 := ⟨cb_X1_breakSession, lw_mem 508 (by decide +kernel) rfl, lw_mem 509 (by decide +kernel) rfl, lw_mem 510 (by decide +kernel) rfl⟩
theorem cb_X5_repair : CB yX5_repair cX5_repair 2 (some .int) 1 := ⟨lw_mem 515 (by decide +kernel) rfl, lw_mem 13 (by decide +kernel) rfl, ⟨by decide +kernel, by decide +kernel⟩, by decide +kernel⟩
theorem cw_L_140 : CWV RL 140 yX5_repair cX5_repair 2 (some .int) 1 := ⟨cb_X5_repair, lw_mem 512 (by decide +kernel) rfl, lw_mem 513 (by decide +kernel) rfl, lw_mem 514 (by decide +kernel) rfl⟩
theorem cb_X1_repairSession : CB yX1_repairSession cX1_repairSession 4 (some .int) 1 := ⟨lw_mem 519 (by decide +kernel) rfl, lw_mem 14 (by decide +kernel) rfl, ⟨by decide +kernel, by decide +kernel⟩, by decide +kernel⟩
theorem cw_X5_58 : CWV RX5 58 yX1_repairSession cX1_repairSession 4 (some .int) 1 := ⟨cb_X1_repairSession, lw_mem 516 (by decide +kernel) rfl, lw_mem 517 (by decide +kernel) rfl, lw_mem 518 (by decide +kernel) rfl⟩
theorem cb_X5_damage : CB yX5_damage cX5_damage 2 (some .int) 1 := ⟨lw_mem 523 (by decide +kernel) rfl, lw_mem 13 (by decide +kernel) rfl, ⟨by decide +kernel, by decide +kernel⟩, by decide +kernel⟩
theorem cw_L_143 : CWV RL 143 yX5_damage cX5_damage 2 (some .int) 1 := ⟨cb_X5_damage, lw_mem 520 (by decide +kernel) rfl, lw_mem 521 (by decide +kernel) rfl, lw_mem 522 (by decide +kernel) rfl⟩
theorem cb_X1_damageSector : CB yX1_damageSector cX1_damageSector 2 (some .int) 1 := ⟨lw_mem 527 (by decide +kernel) rfl, lw_mem 14 (by decide +kernel) rfl, ⟨by decide +kernel, by decide +kernel⟩, by decide +kernel⟩
theorem cw_X5_61 : CWV RX5 61 yX1_damageSector cX1_damageSector 2 (some .int) 1 := ⟨cb_X1_damageSector, lw_mem 524 (by decide +kernel) rfl, lw_mem 525 (by decide +kernel) rfl, lw_mem 526 (by decide +kernel) rfl⟩
theorem cw_X1_119 : CWSN nestW RX1 119 yX5_isSector cX5_isSector 1 (some .boolean) 1 := ⟨cb_X5_isSector, by decide +kernel, lw_mem 223 (by decide +kernel) rfl⟩
theorem cb_X5_set : CB yX5_set cX5_set 3 (some .int) 2 := ⟨lw_mem 532 (by decide +kernel) rfl, lw_mem 13 (by decide +kernel) rfl, ⟨by decide +kernel, by decide +kernel⟩, by decide +kernel⟩
theorem cw_L_146 : CWV RL 146 yX5_set cX5_set 3 (some .int) 2 := ⟨cb_X5_set, lw_mem 529 (by decide +kernel) rfl, lw_mem 530 (by decide +kernel) rfl, lw_mem 531 (by decide +kernel) rfl⟩
theorem cb_X1_changeSetting : CB yX1_changeSetting cX1_changeSetting 5 (some .int) 2 := ⟨lw_mem 536 (by decide +kernel) rfl, lw_mem 14 (by decide +kernel) rfl, ⟨by decide +kernel, by decide +kernel⟩, by decide +kernel⟩
theorem cw_X5_64 : CWV RX5 64 yX1_changeSetting cX1_changeSetting 5 (some .int) 2 := ⟨cb_X1_changeSetting, lw_mem 533 (by decide +kernel) rfl, lw_mem 534 (by decide +kernel) rfl, lw_mem 535 (by decide +kernel) rfl⟩
theorem cw_X1_122 : CWSN nestW RX1 122 yX5_isSetting cX5_isSetting 1 (some .boolean) 1 := ⟨cb_X5_isSetting, by decide +kernel, lw_mem 216 (by decide +kernel) rfl⟩
set_option maxRecDepth 100000 in
theorem cb_L_runs : CB yL_runs cL_runs 10 (some .boolean) 2 := ⟨lw_memC 540 (by decide +kernel) rfl, lw_mem 12 (by decide +kernel) rfl, ⟨by decide +kernel, by decide +kernel⟩, by decide +kernel⟩
theorem cw_L_149 : CWS RL 149 yL_runs cL_runs 10 (some .boolean) 2 := ⟨cb_L_runs, lw_mem 538 (by decide +kernel) rfl, lw_mem 539 (by decide +kernel) rfl⟩
set_option maxRecDepth 100000 in
theorem cb_L_types : CB yL_types cL_types 8 (some .boolean) 2 := ⟨lw_memC 543 (by decide +kernel) rfl, lw_mem 12 (by decide +kernel) rfl, ⟨by decide +kernel, by decide +kernel⟩, by decide +kernel⟩
theorem cw_L_107 : CWS RL 107 yL_types cL_types 8 (some .boolean) 2 := ⟨cb_L_types, lw_mem 541 (by decide +kernel) rfl, lw_mem 542 (by decide +kernel) rfl⟩
theorem cb_X5_clearText : CB yX5_clearText cX5_clearText 2 (some .int) 0 := ⟨lw_mem 547 (by decide +kernel) rfl, lw_mem 13 (by decide +kernel) rfl, ⟨by decide +kernel, by decide +kernel⟩, by decide +kernel⟩
theorem cw_L_96 : CWV RL 96 yX5_clearText cX5_clearText 2 (some .int) 0 := ⟨cb_X5_clearText, lw_mem 544 (by decide +kernel) rfl, lw_mem 545 (by decide +kernel) rfl, lw_mem 546 (by decide +kernel) rfl⟩
theorem cb_X5_append : CB yX5_append cX5_append 2 (some .int) 1 := ⟨lw_mem 551 (by decide +kernel) rfl, lw_mem 13 (by decide +kernel) rfl, ⟨by decide +kernel, by decide +kernel⟩, by decide +kernel⟩
theorem cw_L_93 : CWV RL 93 yX5_append cX5_append 2 (some .int) 1 := ⟨cb_X5_append, lw_mem 548 (by decide +kernel) rfl, lw_mem 549 (by decide +kernel) rfl, lw_mem 550 (by decide +kernel) rfl⟩
theorem cb_X0_addSign : CB yX0_addSign cX0_addSign 2 (some .boolean) 1 := ⟨lw_mem 555 (by decide +kernel) rfl, lw_mem 17 (by decide +kernel) rfl, ⟨by decide +kernel, by decide +kernel⟩, by decide +kernel⟩
theorem cw_X5_67 : CWV RX5 67 yX0_addSign cX0_addSign 2 (some .boolean) 1 := ⟨cb_X0_addSign, lw_mem 552 (by decide +kernel) rfl, lw_mem 553 (by decide +kernel) rfl, lw_mem 554 (by decide +kernel) rfl⟩
set_option maxRecDepth 100000 in
theorem cb_L_digits : CB yL_digits cL_digits 2 (some .boolean) 2 := ⟨lw_memC 558 (by decide +kernel) rfl, lw_mem 12 (by decide +kernel) rfl, ⟨by decide +kernel, by decide +kernel⟩, by decide +kernel⟩
theorem cw_L_99 : CWS RL 99 yL_digits cL_digits 2 (some .boolean) 2 := ⟨cb_L_digits, lw_mem 556 (by decide +kernel) rfl, lw_mem 557 (by decide +kernel) rfl⟩
theorem cb_X5_fault : CB yX5_fault cX5_fault 1 (some .int) 0 := ⟨lw_mem 562 (by decide +kernel) rfl, lw_mem 13 (by decide +kernel) rfl, ⟨by decide +kernel, by decide +kernel⟩, by decide +kernel⟩
theorem cw_L_110 : CWV RL 110 yX5_fault cX5_fault 1 (some .int) 0 := ⟨cb_X5_fault, lw_mem 559 (by decide +kernel) rfl, lw_mem 560 (by decide +kernel) rfl, lw_mem 561 (by decide +kernel) rfl⟩
theorem cb_X0_firstFault : CB yX0_firstFault cX0_firstFault 2 (some .int) 0 := ⟨lw_mem 566 (by decide +kernel) rfl, lw_mem 17 (by decide +kernel) rfl, ⟨by decide +kernel, by decide +kernel⟩, by decide +kernel⟩
theorem cw_X5_75 : CWV RX5 75 yX0_firstFault cX0_firstFault 2 (some .int) 0 := ⟨cb_X0_firstFault, lw_mem 563 (by decide +kernel) rfl, lw_mem 564 (by decide +kernel) rfl, lw_mem 565 (by decide +kernel) rfl⟩
theorem cb_X0_readCommand : CB yX0_readCommand cX0_readCommand 1 (some .boolean) 0 := ⟨lw_mem 570 (by decide +kernel) rfl, lw_mem 17 (by decide +kernel) rfl, ⟨by decide +kernel, by decide +kernel⟩, by decide +kernel⟩
theorem cw_X0_22 : CWV RX0 22 yX0_readCommand cX0_readCommand 1 (some .boolean) 0 := ⟨cb_X0_readCommand, lw_mem 567 (by decide +kernel) rfl, lw_mem 568 (by decide +kernel) rfl, lw_mem 569 (by decide +kernel) rfl⟩
theorem cb_X0_signAt : CB yX0_signAt cX0_signAt 1 (some .int) 0 := ⟨lw_mem 574 (by decide +kernel) rfl, lw_mem 17 (by decide +kernel) rfl, ⟨by decide +kernel, by decide +kernel⟩, by decide +kernel⟩
theorem cw_X0_30 : CWV RX0 30 yX0_signAt cX0_signAt 1 (some .int) 0 := ⟨cb_X0_signAt, lw_mem 571 (by decide +kernel) rfl, lw_mem 573 (by decide +kernel) rfl, lw_mem 6 (by decide +kernel) rfl⟩
theorem cb_X0_readFirst : CB yX0_readFirst cX0_readFirst 2 (some .boolean) 1 := ⟨lw_mem 578 (by decide +kernel) rfl, lw_mem 17 (by decide +kernel) rfl, ⟨by decide +kernel, by decide +kernel⟩, by decide +kernel⟩
theorem cw_X0_37 : CWV RX0 37 yX0_readFirst cX0_readFirst 2 (some .boolean) 1 := ⟨cb_X0_readFirst, lw_mem 575 (by decide +kernel) rfl, lw_mem 577 (by decide +kernel) rfl, lw_mem 7 (by decide +kernel) rfl⟩
theorem cb_X0_readNumber : CB yX0_readNumber cX0_readNumber 6 (some .int) 2 := ⟨lw_mem 582 (by decide +kernel) rfl, lw_mem 17 (by decide +kernel) rfl, ⟨by decide +kernel, by decide +kernel⟩, by decide +kernel⟩
theorem cw_X0_45 : CWV RX0 45 yX0_readNumber cX0_readNumber 6 (some .int) 2 := ⟨cb_X0_readNumber, lw_mem 579 (by decide +kernel) rfl, lw_mem 581 (by decide +kernel) rfl, lw_mem 8 (by decide +kernel) rfl⟩
theorem cb_X0_digitAt : CB yX0_digitAt cX0_digitAt 2 (some .int) 0 := ⟨lw_mem 586 (by decide +kernel) rfl, lw_mem 17 (by decide +kernel) rfl, ⟨by decide +kernel, by decide +kernel⟩, by decide +kernel⟩
theorem cw_X0_55 : CWV RX0 55 yX0_digitAt cX0_digitAt 2 (some .int) 0 := ⟨cb_X0_digitAt, lw_mem 583 (by decide +kernel) rfl, lw_mem 585 (by decide +kernel) rfl, lw_mem 9 (by decide +kernel) rfl⟩
theorem cb_X0_readSign : CB yX0_readSign cX0_readSign 2 (some .boolean) 1 := ⟨lw_mem 590 (by decide +kernel) rfl, lw_mem 17 (by decide +kernel) rfl, ⟨by decide +kernel, by decide +kernel⟩, by decide +kernel⟩
theorem cw_X0_26 : CWV RX0 26 yX0_readSign cX0_readSign 2 (some .boolean) 1 := ⟨cb_X0_readSign, lw_mem 587 (by decide +kernel) rfl, lw_mem 588 (by decide +kernel) rfl, lw_mem 589 (by decide +kernel) rfl⟩
theorem cb_X0_readSecond : CB yX0_readSecond cX0_readSecond 3 (some .boolean) 2 := ⟨lw_mem 594 (by decide +kernel) rfl, lw_mem 17 (by decide +kernel) rfl, ⟨by decide +kernel, by decide +kernel⟩, by decide +kernel⟩
theorem cw_X0_41 : CWV RX0 41 yX0_readSecond cX0_readSecond 3 (some .boolean) 2 := ⟨cb_X0_readSecond, lw_mem 591 (by decide +kernel) rfl, lw_mem 593 (by decide +kernel) rfl, lw_mem 10 (by decide +kernel) rfl⟩
theorem cb_X5_run : CB yX5_run cX5_run 3 (some .int) 0 := ⟨lw_mem 598 (by decide +kernel) rfl, lw_mem 13 (by decide +kernel) rfl, ⟨by decide +kernel, by decide +kernel⟩, by decide +kernel⟩
theorem cw_L_113 : CWV RL 113 yX5_run cX5_run 3 (some .int) 0 := ⟨cb_X5_run, lw_mem 595 (by decide +kernel) rfl, lw_mem 596 (by decide +kernel) rfl, lw_mem 597 (by decide +kernel) rfl⟩
theorem cw_X5_81 : CWV RX5 81 yX0_readCommand cX0_readCommand 1 (some .boolean) 0 := ⟨cb_X0_readCommand, lw_mem 599 (by decide +kernel) rfl, lw_mem 568 (by decide +kernel) rfl, lw_mem 569 (by decide +kernel) rfl⟩
theorem cb_X5_executeCommand : CB yX5_executeCommand cX5_executeCommand 1 (some .int) 0 := ⟨lw_mem 603 (by decide +kernel) rfl, lw_mem 13 (by decide +kernel) rfl, ⟨by decide +kernel, by decide +kernel⟩, by decide +kernel⟩
theorem cw_X5_85 : CWV RX5 85 yX5_executeCommand cX5_executeCommand 1 (some .int) 0 := ⟨cb_X5_executeCommand, lw_mem 600 (by decide +kernel) rfl, lw_mem 602 (by decide +kernel) rfl, lw_mem 11 (by decide +kernel) rfl⟩
theorem cw_X5_92 : CWV RX5 92 yX0_readSign cX0_readSign 2 (some .boolean) 1 := ⟨cb_X0_readSign, lw_mem 604 (by decide +kernel) rfl, lw_mem 588 (by decide +kernel) rfl, lw_mem 589 (by decide +kernel) rfl⟩
theorem cl_L_14 : Cond.classLink RL 14 RX5 ∈ lw_all := lw_mem 20 (by decide +kernel) rfl
theorem nw_L_14 : NW RL 14 5 [.null, .null, .null] := ⟨RX5, TX5, 3, tyX5, rfl, in_X5, tyX5_ok, cl_L_14, lw_mem 21 (by decide +kernel) rfl, lw_mem 13 (by decide +kernel) rfl, fun j hj => by rcases (show j = 0 ∨ j = 1 ∨ j = 2 by omega) with rfl | rfl | rfl <;> rfl, rfl⟩
theorem cl_X5_9 : Cond.classLink RX5 9 RX1 ∈ lw_all := lw_mem 28 (by decide +kernel) rfl
theorem nw_X5_9 : NW RX5 9 1 [.null, .null, .null, .null, .int 0, .int 0, .int 0] := ⟨RX1, TX1, 7, tyX1, rfl, in_X1, tyX1_ok, cl_X5_9, lw_mem 29 (by decide +kernel) rfl, lw_mem 14 (by decide +kernel) rfl, fun j hj => by rcases (show j = 0 ∨ j = 1 ∨ j = 2 ∨ j = 3 ∨ j = 4 ∨ j = 5 ∨ j = 6 by omega) with rfl | rfl | rfl | rfl | rfl | rfl | rfl <;> rfl, rfl⟩
theorem cl_X1_9 : Cond.classLink RX1 9 RX3 ∈ lw_all := lw_mem 34 (by decide +kernel) rfl
theorem nw_X1_9 : NW RX1 9 3 [.null, .int 0, .int 0, .int 0, .int 0, .int 0, .int 0] := ⟨RX3, TX3, 7, tyX3, rfl, in_X3, tyX3_ok, cl_X1_9, lw_mem 36 (by decide +kernel) rfl, lw_mem 15 (by decide +kernel) rfl, fun j hj => by rcases (show j = 0 ∨ j = 1 ∨ j = 2 ∨ j = 3 ∨ j = 4 ∨ j = 5 ∨ j = 6 by omega) with rfl | rfl | rfl | rfl | rfl | rfl | rfl <;> rfl, rfl⟩
theorem cl_X3_9 : Cond.classLink RX3 9 RX4 ∈ lw_all := lw_mem 41 (by decide +kernel) rfl
theorem nw_X3_9 : NW RX3 9 4 [.int 0, .int 0, .int 0] := ⟨RX4, TX4, 3, tyX4, rfl, in_X4, tyX4_ok, cl_X3_9, lw_mem 451 (by decide +kernel) rfl, lw_mem 19 (by decide +kernel) rfl, fun j hj => by rcases (show j = 0 ∨ j = 1 ∨ j = 2 by omega) with rfl | rfl | rfl <;> rfl, rfl⟩
theorem cl_X5_16 : Cond.classLink RX5 16 RX2 ∈ lw_all := lw_mem 106 (by decide +kernel) rfl
theorem nw_X5_16 : NW RX5 16 2 [.null, .int 0, .int 0] := ⟨RX2, TX2, 3, tyX2, rfl, in_X2, tyX2_ok, cl_X5_16, lw_mem 107 (by decide +kernel) rfl, lw_mem 16 (by decide +kernel) rfl, fun j hj => by rcases (show j = 0 ∨ j = 1 ∨ j = 2 by omega) with rfl | rfl | rfl <;> rfl, rfl⟩
theorem cl_X2_9 : Cond.classLink RX2 9 RX1 ∈ lw_all := lw_mem 112 (by decide +kernel) rfl
theorem nw_X2_9 : NW RX2 9 1 [.null, .null, .null, .null, .int 0, .int 0, .int 0] := ⟨RX1, TX1, 7, tyX1, rfl, in_X1, tyX1_ok, cl_X2_9, lw_mem 29 (by decide +kernel) rfl, lw_mem 14 (by decide +kernel) rfl, fun j hj => by rcases (show j = 0 ∨ j = 1 ∨ j = 2 ∨ j = 3 ∨ j = 4 ∨ j = 5 ∨ j = 6 by omega) with rfl | rfl | rfl | rfl | rfl | rfl | rfl <;> rfl, rfl⟩
theorem cl_X5_23 : Cond.classLink RX5 23 RX0 ∈ lw_all := lw_mem 126 (by decide +kernel) rfl
theorem nw_X5_23 : NW RX5 23 0 [.null, .int 0, .int 0, .int 0, .int 0, .int 0] := ⟨RX0, TX0, 6, tyX0, rfl, in_X0, tyX0_ok, cl_X5_23, lw_mem 127 (by decide +kernel) rfl, lw_mem 17 (by decide +kernel) rfl, fun j hj => by rcases (show j = 0 ∨ j = 1 ∨ j = 2 ∨ j = 3 ∨ j = 4 ∨ j = 5 by omega) with rfl | rfl | rfl | rfl | rfl | rfl <;> rfl, rfl⟩
theorem cl_X1_79 : Cond.classLink RX1 79 RX4 ∈ lw_all := lw_mem 450 (by decide +kernel) rfl
theorem nw_X1_79 : NW RX1 79 4 [.int 0, .int 0, .int 0] := ⟨RX4, TX4, 3, tyX4, rfl, in_X4, tyX4_ok, cl_X1_79, lw_mem 451 (by decide +kernel) rfl, lw_mem 19 (by decide +kernel) rfl, fun j hj => by rcases (show j = 0 ∨ j = 1 ∨ j = 2 by omega) with rfl | rfl | rfl <;> rfl, rfl⟩
theorem ac_int : Cond.arrayClass .int ∈ lw_all := lw_mem 78 (by decide +kernel) rfl
theorem ac_boolean : Cond.arrayClass .boolean ∈ lw_all := lw_mem 77 (by decide +kernel) rfl
theorem ac_char : Cond.arrayClass .char ∈ lw_all := lw_mem 156 (by decide +kernel) rfl
theorem oi_inst : Cond.instanceMethod objectInit ∈ lw_all := lw_mem 26 (by decide +kernel) rfl
theorem oi_code : Cond.code objectInit ⟨#[0xb1]⟩ 1 none ∈ lw_all := lw_mem 27 (by decide +kernel) rfl
theorem mc_max : Cond.code Lib.Math.max.name Lib.Math.max.code 2 (some .int) ∈ lw_all := lw_mem 254 (by decide +kernel) rfl
theorem ms_max : Cond.static Lib.Math.max.name ∈ lw_all := lw_mem 253 (by decide +kernel) rfl
theorem mc_min : Cond.code Lib.Math.min.name Lib.Math.min.code 2 (some .int) ∈ lw_all := lw_mem 251 (by decide +kernel) rfl
theorem ms_min : Cond.static Lib.Math.min.name ∈ lw_all := lw_mem 250 (by decide +kernel) rfl
theorem mi_math : Cond.initialized "java/lang/Math" ∈ lw_all := lw_mem 18 (by decide +kernel) rfl
theorem ml_X1_128 : Cond.methodLink RX1 128 Lib.Math.min.name ∈ lw_all := lw_mem 249 (by decide +kernel) rfl
theorem ml_X1_134 : Cond.methodLink RX1 134 Lib.Math.max.name ∈ lw_all := lw_mem 252 (by decide +kernel) rfl
theorem ml_X5_197 : Cond.methodLink RX5 197 Lib.Math.min.name ∈ lw_all := lw_mem 400 (by decide +kernel) rfl
theorem lc_L_7 : Cond.constant RL 7 (-505354899 : Int32) ∈ lw_all := lw_mem 197 (by decide +kernel) rfl
theorem lc_L_8 : Cond.constant RL 8 (2147483647 : Int32) ∈ lw_all := lw_mem 201 (by decide +kernel) rfl
theorem lc_L_9 : Cond.constantLong RL 9 (431 : Int64) ∈ lw_all := lw_mem 205 (by decide +kernel) rfl
theorem lc_L_11 : Cond.constantLong RL 11 (31 : Int64) ∈ lw_all := lw_mem 206 (by decide +kernel) rfl
