def MW (G : GG) (g : Nat) (τ : St) (v3 v5 v6 v7 v8 v9 v10 : Int32) : Heap → Heap → Prop := fun H H1 => MR G g τ v3 v5 v6 v7 v8 v9 v10 H1 ∧ FrS (g + 1) (g + 2) H H1
def tS (σ : St) (n y : Nat) : St := sSe (sNx σ (nx σ + y)) n 2 (se σ n 2 + y)
theorem dm_up {σ : St} {k : Nat} : va_up (dm σ) k true = dmH σ (k : Int) := by
  funext j
  by_cases h : j = k
  · subst h; simp [va_up, dmH]
  · have h2 : ¬ ((j : Int) = (k : Int)) := by omega
    simp [va_up, dmH, h, h2]
theorem Inv.dmk {σ : St} (h : Inv σ) (k : Nat) : Inv (sDm σ k) := h
theorem validD_up {σ : St} {k : Nat} : validD (sDm σ k) (dm (sDm σ k)) = validD σ (dmH σ (k : Int)) := by
  rw [← dm_up]; rfl
theorem cnt_up {σ : St} {k : Nat} : cntIntact (sDm σ k) (dm (sDm σ k)) = cntIntact σ (dmH σ (k : Int)) := by
  rw [← dm_up]; rfl
theorem up_dmk (σ : St) {k : Nat} (h : k < 240) : va_up (encN σ) (4 + k / 30) (bitsN (va_up (dm σ) k true) (30 * (k / 30)) 30) = encN (sDm σ k) := by
  have h1 := up_dm σ (w := k / 30) (j := k % 30) (by omega) (by omega)
  rwa [show 30 * (k / 30) + k % 30 = k by omega] at h1
theorem up_dmk0 (σ : St) {k : Nat} (h : k < 240) : va_up (encN (sDm σ k)) (4 + k / 30) (bitsN (dm σ) (30 * (k / 30)) 30) = encN σ := by
  have h1 := up_dm0 σ (w := k / 30) (j := k % 30) (by omega) (by omega)
  rw [show 30 * (k / 30) + k % 30 = k by omega] at h1
  rwa [enc_dm (by omega)] at h1
theorem i_setk {σ : St} {k : Nat} : iI ((bitsN (dm σ) (30 * (k / 30)) 30 : Nat) : Int) ||| (iI 1 <<< (iI ((k : Int) % 30) &&& 31)) = iI ((bitsN (va_up (dm σ) k true) (30 * (k / 30)) 30 : Nat) : Int) := by
  have h := i_set (d := dm σ) (b := 30 * (k / 30)) (j := k % 30) (by omega)
  rw [show 30 * (k / 30) + k % 30 = k by omega] at h
  rw [show ((k : Int) % 30) = ((k % 30 : Nat) : Int) by omega]
  exact h
theorem out_st {σ : St} {n : Nat} : sSe (tS σ n (se σ n 4)) n 0 1 = (leadOut σ n).2 := by
  have e : va_up (va_up (se σ) n (va_up (se σ n) 2 (se σ n 2 + se σ n 4))) n (va_up (va_up (se σ) n (va_up (se σ n) 2 (se σ n 2 + se σ n 4)) n) 0 1) = va_up (se σ) n (va_up (va_up (se σ n) 2 (se σ n 2 + se σ n 4)) 0 1) := by
    funext i w
    by_cases h1 : i = n <;> by_cases h2 : w = 2 <;> by_cases h3 : w = 0 <;> simp [va_up, h1, h2, h3]
  exact congrArg (fun z => mkS (nx σ + se σ n 4) (mn σ) (s0 σ) (s1 σ) (dm σ) (vr σ) z (en σ)) e
theorem wr_st {σ : St} {n k z : Nat} : tS (sSe (sVr (sEn σ n k (some (nx σ, z, n))) k (vr σ k + 1)) n 5 (se σ n 5 + 1)) n z = mkS (nx σ + z) (mn σ) (s0 σ) (s1 σ) (dm σ) (va_up (vr σ) k (vr σ k + 1)) (va_up (se σ) n (va_up (va_up (se σ n) 2 (se σ n 2 + z)) 5 (se σ n 5 + 1))) (va_up (en σ) n (va_up (en σ n) k (some (nx σ, z, n)))) := by
  have e : va_up (va_up (se σ) n (va_up (se σ n) 5 (se σ n 5 + 1))) n (va_up (va_up (se σ) n (va_up (se σ n) 5 (se σ n 5 + 1)) n) 2 (va_up (se σ) n (va_up (se σ n) 5 (se σ n 5 + 1)) n 2 + z)) = va_up (se σ) n (va_up (va_up (se σ n) 2 (se σ n 2 + z)) 5 (se σ n 5 + 1)) := by
    funext i w
    by_cases h1 : i = n <;> by_cases h2 : w = 2 <;> by_cases h3 : w = 5 <;> simp [va_up, h1, h2, h3]
  exact congrArg (fun y => mkS (nx σ + z) (mn σ) (s0 σ) (s1 σ) (dm σ) (va_up (vr σ) k (vr σ k + 1)) y (va_up (en σ) n (va_up (en σ n) k (some (nx σ, z, n))))) e
theorem encN_ext {σ τ : St} (h1 : nx σ = nx τ) (h2 : mn σ = mn τ) (h3 : s0 σ = s0 τ) (h4 : s1 σ = s1 τ) (h5 : dm σ = dm τ) (h6 : vr σ = vr τ) (h7 : ∀ n w, w < 6 → se σ n w = se τ n w) (h8 : ∀ n k, k < 20 → en σ n k = en τ n k) : encI σ = encI τ := by
  funext j
  unfold encI encN
  rw [h1, h2, h3, h4, h5, h6, h7 _ _ (Nat.mod_lt _ (by decide)), h8 _ _ (Nat.mod_lt _ (by decide))]
/-- a new session's entries, the first k of them laid -/
def bS (σ : St) (src : Nat → Option Fil) (k : Nat) : St := mkS (nx σ) (mn σ) (s0 σ) (s1 σ) (dm σ) (vr σ) (se σ) (va_up (en σ) (mn σ) (fun j => if j < k then src j else en σ (mn σ) j))
theorem bS_0 {σ : St} {src : Nat → Option Fil} : encI (bS σ src 0) = encI σ := by
  refine encN_ext rfl rfl rfl rfl rfl rfl (fun _ _ _ => rfl) (fun n k _ => ?_)
  show va_up (en σ) (mn σ) _ n k = _
  by_cases h : n = mn σ <;> simp [va_up, h]
theorem bS_up {σ : St} {src : Nat → Option Fil} {k : Nat} (h : k < 20) : va_up (encN (bS σ src k)) (104 + 20 * mn σ + k) (encO (src k)) = encN (bS σ src (k + 1)) := by
  rw [up_en (bS σ src k) (src k) h]
  have e : va_up (va_up (en σ) (mn σ) (fun j => if j < k then src j else en σ (mn σ) j)) (mn σ) (va_up (va_up (en σ) (mn σ) (fun j => if j < k then src j else en σ (mn σ) j) (mn σ)) k (src k)) = va_up (en σ) (mn σ) (fun j => if j < k + 1 then src j else en σ (mn σ) j) := by
    funext i j
    by_cases h1 : i = mn σ
    · by_cases h2 : j = k
      · subst h2; simp [va_up, h1]
      · have h3 : j < k + 1 ↔ j < k := by omega
        simp [va_up, h1, h2, h3]
    · simp [va_up, h1]
  exact congrArg (fun y => encN (mkS (nx σ) (mn σ) (s0 σ) (s1 σ) (dm σ) (vr σ) (se σ) y)) e
theorem bS_en {σ : St} {src : Nat → Option Fil} {k n j : Nat} (h : n < mn σ) : en (bS σ src k) n j = en σ n j := by
  show va_up (en σ) (mn σ) _ n j = _
  have h1 : ¬ n = mn σ := by omega
  simp [va_up, h1]
