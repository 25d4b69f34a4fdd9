/-! the reference's array of numbers, out of a state -/
def bitsN (d : Nat → Bool) (b : Nat) : Nat → Nat
  | 0 => 0
  | k + 1 => bitsN d b k + (if d (b + k) then 2 ^ k else 0)
def encO (o : Option Fil) : Nat := match o with
  | none => 0
  | some f => 64 * (f.1 + 1) + f.2.1
def encN (σ : St) (k : Nat) : Nat :=
  if k < 4 then (if k = 0 then nx σ else if k = 1 then mn σ else if k = 2 then s0 σ else s1 σ)
  else if k < 12 then bitsN (dm σ) (30 * (k - 4)) 30
  else if k < 32 then vr σ (k - 12)
  else if k < 104 then se σ ((k - 32) / 6) ((k - 32) % 6)
  else encO (en σ ((k - 104) / 20) ((k - 104) % 20))
def encI (σ : St) (k : Nat) : Int32 := iI ((encN σ k : Nat) : Int)
theorem bitsN_lt (d : Nat → Bool) (b : Nat) : ∀ k, bitsN d b k < 2 ^ k
  | 0 => Nat.lt_of_lt_of_le Nat.zero_lt_one (Nat.le_refl 1)
  | k + 1 => by
    have h := bitsN_lt d b k
    rw [bitsN, Nat.pow_succ]
    split <;> omega
theorem bitsN_bit (d : Nat → Bool) (b : Nat) : ∀ n j, j < n → (bitsN d b n).testBit j = d (b + j)
  | 0, j, h => absurd h (Nat.not_lt_zero j)
  | n + 1, j, h => by
    have hl := bitsN_lt d b n
    rw [bitsN]
    by_cases hj : j = n
    · subst hj
      cases hd : d (b + j) with
      | true => simp [Nat.testBit_lt_two_pow hl, Nat.add_comm, Nat.testBit_two_pow_add_eq]
      | false => simp [Nat.testBit_lt_two_pow hl]
    · have h1 : j < n := by omega
      have ih := bitsN_bit d b n j h1
      cases hd : d (b + n) with
      | true =>
        rw [if_pos rfl, Nat.add_comm, Nat.testBit_two_pow_add_gt h1]
        exact ih
      | false => simpa using ih
theorem bitsN_out (d : Nat → Bool) (b n j : Nat) (h : n ≤ j) : (bitsN d b n).testBit j = false :=
  Nat.testBit_lt_two_pow (Nat.lt_of_lt_of_le (bitsN_lt d b n) (Nat.pow_le_pow_right (by decide) h))
theorem bitsN_or (d : Nat → Bool) (b n j : Nat) (h : j < n) : bitsN d b n ||| 2 ^ j = bitsN (va_up d (b + j) true) b n := by
  apply Nat.eq_of_testBit_eq
  intro i
  rw [Nat.testBit_or, Nat.testBit_two_pow]
  by_cases hi : i < n
  · rw [bitsN_bit _ _ _ _ hi, bitsN_bit _ _ _ _ hi]
    by_cases hj : j = i
    · subst hj
      simp [va_up]
    · have h2 : ¬ b + i = b + j := by omega
      have h3 : ¬ i = j := fun h9 => hj h9.symm
      simp [va_up, hj, h3, h2]
  · rw [bitsN_out _ _ _ _ (by omega), bitsN_out _ _ _ _ (by omega)]
    have h2 : ¬ j = i := by omega
    simp [h2]
theorem bitsN_congr {d d' : Nat → Bool} {b : Nat} : ∀ {n : Nat}, (∀ j, j < n → d (b + j) = d' (b + j)) → bitsN d b n = bitsN d' b n
  | 0, _ => rfl
  | n + 1, h => by rw [bitsN, bitsN, h n (by omega), bitsN_congr (fun j hj => h j (by omega))]
theorem bit_and (N j : Nat) : N / 2 ^ j % 2 = if N.testBit j then 1 else 0 := by
  rw [Nat.testBit_eq_decide_div_mod_eq]
  have h := Nat.mod_two_eq_zero_or_one (N / 2 ^ j)
  rcases h with h | h <;> simp [h]
theorem sh31 : ∀ j : Fin 30, ((nI j.1 &&& 31).toBitVec.smod 32).toNat = j.1 := by decide +kernel
theorem shl31 : ∀ j : Fin 30, (1 : Int32) <<< (nI j.1 &&& 31) = nI (2 ^ j.1) := by decide +kernel
theorem i_shr {N j : Nat} (h : N < 2 ^ 30) (hj : j < 30) : nI N >>> (nI j &&& 31) = nI (N / 2 ^ j) :=
  pk_shrN (Nat.lt_trans h (by decide)) _ j (sh31 ⟨j, hj⟩)
theorem i_shl {j : Nat} (hj : j < 30) : (1 : Int32) <<< (nI j &&& 31) = nI (2 ^ j) := shl31 ⟨j, hj⟩
theorem i_or {a b : Nat} (ha : a < 2 ^ 31) (hb : b < 2 ^ 31) : nI a ||| nI b = nI (a ||| b) := by
  apply Int32.toBitVec_inj.mp
  apply BitVec.eq_of_toNat_eq
  have e : ∀ n : Nat, (nI n).toBitVec = BitVec.ofNat 32 n := fun n => by
    show (Int32.ofInt (n : Int)).toBitVec = _
    simp
  rw [Int32.toBitVec_or, e, e, e, BitVec.toNat_or, BitVec.toNat_ofNat, BitVec.toNat_ofNat, BitVec.toNat_ofNat]
  have h3 : a ||| b < 2 ^ 31 := Nat.or_lt_two_pow ha hb
  rw [Nat.mod_eq_of_lt (by omega), Nat.mod_eq_of_lt (by omega), Nat.mod_eq_of_lt (by omega)]
/-- one bit of a word -/
theorem i_bit {d : Nat → Bool} {b j : Nat} (hj : j < 30) : (iI ((bitsN d b 30 : Nat) : Int) >>> (iI ((j : Nat) : Int) &&& 31)) &&& 1 = iI (if d (b + j) then 1 else 0) := by
  have h := i_shr (bitsN_lt d b 30) hj
  show (nI (bitsN d b 30) >>> (nI j &&& 31)) &&& 1 = _
  rw [h, pk_and _ 1 (by decide)]
  have h2 : (nI (bitsN d b 30 / 2 ^ j)).toBitVec.toNat = bitsN d b 30 / 2 ^ j := by
    have h3 := bitsN_lt d b 30
    have h4 : bitsN d b 30 / 2 ^ j < 2 ^ 30 := Nat.lt_of_le_of_lt (Nat.div_le_self _ _) h3
    generalize bitsN d b 30 / 2 ^ j = q at h4
    have e : (nI q).toBitVec = BitVec.ofNat 32 q := by
      show (Int32.ofInt (q : Int)).toBitVec = _
      simp
    rw [e, BitVec.toNat_ofNat, Nat.mod_eq_of_lt (by omega)]
  rw [h2, show 2 ^ 1 = 2 from rfl, bit_and, bitsN_bit _ _ _ _ hj]
  cases d (b + j) <;> rfl
theorem i_set {d : Nat → Bool} {b j : Nat} (hj : j < 30) : iI ((bitsN d b 30 : Nat) : Int) ||| ((1 : Int32) <<< (iI ((j : Nat) : Int) &&& 31)) = iI ((bitsN (va_up d (b + j) true) b 30 : Nat) : Int) := by
  show nI (bitsN d b 30) ||| ((1 : Int32) <<< (nI j &&& 31)) = nI _
  rw [i_shl hj, i_or (Nat.lt_trans (bitsN_lt d b 30) (by decide)) (Nat.pow_lt_pow_right (by decide) (by omega)), bitsN_or _ _ _ _ hj]
/-! parts of a state put anew -/
def sNx (σ : St) (v : Nat) : St := mkS v (mn σ) (s0 σ) (s1 σ) (dm σ) (vr σ) (se σ) (en σ)
def sMn (σ : St) (v : Nat) : St := mkS (nx σ) v (s0 σ) (s1 σ) (dm σ) (vr σ) (se σ) (en σ)
def sS0 (σ : St) (v : Nat) : St := mkS (nx σ) (mn σ) v (s1 σ) (dm σ) (vr σ) (se σ) (en σ)
def sS1 (σ : St) (v : Nat) : St := mkS (nx σ) (mn σ) (s0 σ) v (dm σ) (vr σ) (se σ) (en σ)
def sDm (σ : St) (k : Nat) : St := mkS (nx σ) (mn σ) (s0 σ) (s1 σ) (va_up (dm σ) k true) (vr σ) (se σ) (en σ)
def sVr (σ : St) (k v : Nat) : St := mkS (nx σ) (mn σ) (s0 σ) (s1 σ) (dm σ) (va_up (vr σ) k v) (se σ) (en σ)
def sSe (σ : St) (n w v : Nat) : St := mkS (nx σ) (mn σ) (s0 σ) (s1 σ) (dm σ) (vr σ) (va_up (se σ) n (va_up (se σ n) w v)) (en σ)
def sEn (σ : St) (n k : Nat) (o : Option Fil) : St := mkS (nx σ) (mn σ) (s0 σ) (s1 σ) (dm σ) (vr σ) (se σ) (va_up (en σ) n (va_up (en σ n) k o))
theorem enc_vr {σ : St} {k : Nat} (h : k < 20) : encN σ (12 + k) = vr σ k := by
  unfold encN
  rw [if_neg (by omega), if_neg (by omega), if_pos (by omega), show 12 + k - 12 = k by omega]
theorem enc_se {σ : St} {n w : Nat} (h : n < 12) (h2 : w < 6) : encN σ (32 + 6 * n + w) = se σ n w := by
  unfold encN
  rw [if_neg (by omega), if_neg (by omega), if_neg (by omega), if_pos (by omega), show (32 + 6 * n + w - 32) / 6 = n by omega, show (32 + 6 * n + w - 32) % 6 = w by omega]
theorem enc_en {σ : St} {n k : Nat} (h2 : k < 20) : encN σ (104 + 20 * n + k) = encO (en σ n k) := by
  unfold encN
  rw [if_neg (by omega), if_neg (by omega), if_neg (by omega), if_neg (by omega), show (104 + 20 * n + k - 104) / 20 = n by omega, show (104 + 20 * n + k - 104) % 20 = k by omega]
theorem enc_dm {σ : St} {w : Nat} (h : w < 8) : encN σ (4 + w) = bitsN (dm σ) (30 * w) 30 := by
  unfold encN
  rw [if_neg (by omega), if_pos (by omega), show 4 + w - 4 = w by omega]
theorem up_nx (σ : St) (v : Nat) : va_up (encN σ) 0 v = encN (sNx σ v) := by
  funext j
  by_cases h : j = 0
  · subst h; simp [va_up, encN, sNx, nx_mk]
  · simp [va_up, encN, sNx, h, mn_mk, s0_mk, s1_mk, dm_mk, vr_mk, se_mk, en_mk]
theorem up_mn (σ : St) (v : Nat) : va_up (encN σ) 1 v = encN (sMn σ v) := by
  funext j
  by_cases h : j = 1
  · subst h; simp [va_up, encN, sMn, mn_mk]
  · simp [va_up, encN, sMn, h, nx_mk, s0_mk, s1_mk, dm_mk, vr_mk, se_mk, en_mk]
theorem up_s0 (σ : St) (v : Nat) : va_up (encN σ) 2 v = encN (sS0 σ v) := by
  funext j
  by_cases h : j = 2
  · subst h; simp [va_up, encN, sS0, s0_mk]
  · simp [va_up, encN, sS0, h, nx_mk, mn_mk, s1_mk, dm_mk, vr_mk, se_mk, en_mk]
theorem up_s1 (σ : St) (v : Nat) : va_up (encN σ) 3 v = encN (sS1 σ v) := by
  funext j
  by_cases h : j = 3
  · subst h; simp [va_up, encN, sS1, s1_mk]
  · by_cases h4 : j < 4
    · rcases (show j = 0 ∨ j = 1 ∨ j = 2 by omega) with rfl | rfl | rfl <;> rfl
    · simp [va_up, encN, sS1, h, h4, dm_mk, vr_mk, se_mk, en_mk]
theorem up_vr (σ : St) {k : Nat} (v : Nat) (hk : k < 20) : va_up (encN σ) (12 + k) v = encN (sVr σ k v) := by
  funext j
  by_cases h : j = 12 + k
  · subst h; rw [enc_vr hk]; simp [va_up, sVr, vr_mk]
  · rw [show va_up (encN σ) (12 + k) v j = encN σ j by simp [va_up, h]]
    unfold encN
    by_cases h1 : 12 ≤ j ∧ j < 32
    · have h2 : ¬ j - 12 = k := by omega
      simp [sVr, vr_mk, va_up, h2, show ¬ j < 4 by omega, show ¬ j < 12 by omega, h1.2]
    · rw [show sVr σ k v = mkS (nx σ) (mn σ) (s0 σ) (s1 σ) (dm σ) (va_up (vr σ) k v) (se σ) (en σ) from rfl, nx_mk, mn_mk, s0_mk, s1_mk, dm_mk, vr_mk, se_mk, en_mk]
      by_cases h4 : j < 12
      · rw [if_pos h4, if_pos h4]
      · rw [if_neg h4, if_neg h4, if_neg (show ¬ j < 32 by omega), if_neg (show ¬ j < 32 by omega)]
theorem up_se (σ : St) {n w : Nat} (v : Nat) (hn : n < 12) (hw : w < 6) : va_up (encN σ) (32 + 6 * n + w) v = encN (sSe σ n w v) := by
  funext j
  by_cases h : j = 32 + 6 * n + w
  · subst h; rw [enc_se hn hw]; simp [va_up, sSe, se_mk]
  · rw [show va_up (encN σ) (32 + 6 * n + w) v j = encN σ j by simp [va_up, h]]
    unfold encN
    rw [show sSe σ n w v = mkS (nx σ) (mn σ) (s0 σ) (s1 σ) (dm σ) (vr σ) (va_up (se σ) n (va_up (se σ n) w v)) (en σ) from rfl, nx_mk, mn_mk, s0_mk, s1_mk, dm_mk, vr_mk, se_mk, en_mk]
    by_cases h4 : j < 4
    · rw [if_pos h4, if_pos h4]
    rw [if_neg h4, if_neg h4]
    by_cases h5 : j < 12
    · rw [if_pos h5, if_pos h5]
    rw [if_neg h5, if_neg h5]
    by_cases h6 : j < 32
    · rw [if_pos h6, if_pos h6]
    rw [if_neg h6, if_neg h6]
    by_cases h7 : j < 104
    · rw [if_pos h7, if_pos h7]
      by_cases h8 : (j - 32) / 6 = n
      · have h9 : ¬ (j - 32) % 6 = w := by omega
        simp [va_up, h8, h9]
      · simp [va_up, h8]
    · rw [if_neg h7, if_neg h7]
theorem up_en (σ : St) {n k : Nat} (o : Option Fil) (hk : k < 20) : va_up (encN σ) (104 + 20 * n + k) (encO o) = encN (sEn σ n k o) := by
  funext j
  by_cases h : j = 104 + 20 * n + k
  · subst h; rw [enc_en hk]; simp [va_up, sEn, en_mk]
  · rw [show va_up (encN σ) (104 + 20 * n + k) (encO o) j = encN σ j by simp [va_up, h]]
    unfold encN
    rw [show sEn σ n k o = mkS (nx σ) (mn σ) (s0 σ) (s1 σ) (dm σ) (vr σ) (se σ) (va_up (en σ) n (va_up (en σ n) k o)) from rfl, nx_mk, mn_mk, s0_mk, s1_mk, dm_mk, vr_mk, se_mk, en_mk]
    by_cases h4 : j < 4
    · rw [if_pos h4, if_pos h4]
    rw [if_neg h4, if_neg h4]
    by_cases h5 : j < 12
    · rw [if_pos h5, if_pos h5]
    rw [if_neg h5, if_neg h5]
    by_cases h6 : j < 32
    · rw [if_pos h6, if_pos h6]
    rw [if_neg h6, if_neg h6]
    by_cases h7 : j < 104
    · rw [if_pos h7, if_pos h7]
    rw [if_neg h7, if_neg h7]
    by_cases h8 : (j - 104) / 20 = n
    · have h9 : ¬ (j - 104) % 20 = k := by omega
      simp [va_up, h8, h9]
    · simp [va_up, h8]
/-- a bit of damage -/
theorem up_dm (σ : St) {w j : Nat} (hw : w < 8) (hj : j < 30) : va_up (encN σ) (4 + w) (bitsN (va_up (dm σ) (30 * w + j) true) (30 * w) 30) = encN (sDm σ (30 * w + j)) := by
  funext i
  by_cases h : i = 4 + w
  · subst h; rw [enc_dm hw]; simp [va_up, sDm, dm_mk]
  · rw [show va_up (encN σ) (4 + w) (bitsN (va_up (dm σ) (30 * w + j) true) (30 * w) 30) i = encN σ i by simp [va_up, h]]
    unfold encN
    rw [show sDm σ (30 * w + j) = mkS (nx σ) (mn σ) (s0 σ) (s1 σ) (va_up (dm σ) (30 * w + j) true) (vr σ) (se σ) (en σ) from rfl, nx_mk, mn_mk, s0_mk, s1_mk, dm_mk, vr_mk, se_mk, en_mk]
    by_cases h4 : i < 4
    · rw [if_pos h4, if_pos h4]
    rw [if_neg h4, if_neg h4]
    by_cases h5 : i < 12
    · rw [if_pos h5, if_pos h5]
      refine bitsN_congr (fun q hq => ?_)
      have h9 : ¬ 30 * (i - 4) + q = 30 * w + j := by omega
      simp [va_up, h9]
    · rw [if_neg h5, if_neg h5]
/-- and taken back -/
theorem up_dm0 (σ : St) {w j : Nat} (hw : w < 8) (hj : j < 30) : va_up (encN (sDm σ (30 * w + j))) (4 + w) (encN σ (4 + w)) = encN σ := by
  rw [← up_dm σ hw hj]
  funext i
  by_cases h : i = 4 + w
  · subst h; simp [va_up]
  · simp [va_up, h]
theorem enc_to {σ τ : St} {n v N : Nat} {z : Int} (e : va_up (encN σ) n v = encN τ) (hz : z = (v : Int)) : ∀ j, j < N → upd (encI σ) n (iI z) j = encI τ j := by
  intro j _
  subst hz
  unfold encI
  rw [← e]
  unfold upd va_up
  split <;> rfl
/-- the reference's object, its state's array behind it -/
def MR (G : GG) (m : Nat) (σ : St) (v3 v5 v6 v7 v8 v9 v10 : Int32) (H : Heap) : Prop := Ob G m 6 [.ref (m + 1), .ref (m + 2), .ref (m + 3), .int v3, .ref (m + 4), .int v5, .int v6, .int v7, .int v8, .int v9, .int v10] H ∧ Ia G (m + 1) 0 344 (encI σ) H
