/-! texts: what the readers rest on -/
def TxOk (tx : Nat → Int) (len : Nat) : Prop := len ≤ 80 ∧ ∀ k, k < len → 32 ≤ tx k ∧ tx k ≤ 126
def dgt (tx : Nat → Int) (len p : Nat) : Int := if 48 ≤ hr tx len p ∧ hr tx len p ≤ 57 then hr tx len p - 48 else -6
theorem hr_b {tx : Nat → Int} {len : Nat} (h : TxOk tx len) (p : Nat) : (hr tx len p = -6 ∧ len ≤ p) ∨ (32 ≤ hr tx len p ∧ hr tx len p ≤ 126 ∧ p < len) := by
  unfold hr
  split
  · next hp => have := h.2 p hp; omega
  · omega
theorem dgt_or (tx : Nat → Int) (len p : Nat) : (dgt tx len p = hr tx len p - 48 ∧ 48 ≤ hr tx len p ∧ hr tx len p ≤ 57) ∨ (dgt tx len p = -6 ∧ ¬ (48 ≤ hr tx len p ∧ hr tx len p ≤ 57)) := by
  unfold dgt
  split
  · next h => exact Or.inl ⟨rfl, h⟩
  · next h => exact Or.inr ⟨rfl, h⟩
theorem pLoop_no {tx : Nat → Int} {len most v p : Nat} (h : ¬ (0 < v ∧ (48 ≤ hr tx len p ∧ hr tx len p ≤ 57) ∧ 10 * v + (hr tx len p - 48).toNat ≤ most)) : pLoop tx len most v p = (v, p) := by
  rw [pLoop, dif_neg h]
theorem pLoop_yes {tx : Nat → Int} {len most v p d : Nat} (h1 : 0 < v) (h2 : (d : Int) = hr tx len p - 48) (h3 : d ≤ 9) (h4 : 10 * v + d ≤ most) : pLoop tx len most v p = pLoop tx len most (10 * v + d) (p + 1) := by
  rw [pLoop, dif_pos ⟨h1, by omega, by omega⟩, show (hr tx len p - 48).toNat = d by omega]
theorem pLoop_b (tx : Nat → Int) (len most : Nat) : ∀ n v p, most - v = n → v ≤ most → (pLoop tx len most v p).1 ≤ most ∧ p ≤ (pLoop tx len most v p).2 ∧ (p ≤ len → (pLoop tx len most v p).2 ≤ len) := by
  intro n
  induction n using Nat.strongRecOn with
  | ind n ih =>
    intro v p hn hv
    by_cases h : 0 < v ∧ (48 ≤ hr tx len p ∧ hr tx len p ≤ 57) ∧ 10 * v + (hr tx len p - 48).toNat ≤ most
    · rw [pLoop, dif_pos h]
      obtain ⟨a1, a2, a3⟩ := ih (most - (10 * v + (hr tx len p - 48).toNat)) (by omega) (10 * v + (hr tx len p - 48).toNat) (p + 1) rfl (by omega)
      refine ⟨a1, by omega, fun hp => a3 ?_⟩
      by_cases hpl : p < len
      · omega
      · have : hr tx len p = -6 := by unfold hr; rw [if_neg hpl]
        omega
    · rw [pLoop_no h]
      exact ⟨hv, Nat.le_refl _, fun h => h⟩
theorem pNum_none {tx : Nat → Int} {len p least most : Nat} (h : ¬ ((48 ≤ hr tx len p ∧ hr tx len p ≤ 57) ∧ least ≤ (hr tx len p - 48).toNat ∧ (hr tx len p - 48).toNat ≤ most)) : pNum tx len p least most = (p, none) := by
  rw [pNum, if_neg h]
theorem pNum_some {tx : Nat → Int} {len p least most d v q : Nat} (h1 : (d : Int) = hr tx len p - 48) (h2 : d ≤ 9) (h3 : least ≤ d) (h4 : d ≤ most) (h5 : pLoop tx len most d (p + 1) = (v, q)) : pNum tx len p least most = (q, some v) := by
  rw [pNum, if_pos ⟨by omega, by omega, by omega⟩, show (hr tx len p - 48).toNat = d by omega, h5]
theorem pNum_b (tx : Nat → Int) (len p least most : Nat) : p ≤ (pNum tx len p least most).1 ∧ (p ≤ len → (pNum tx len p least most).1 ≤ len) ∧ ∀ v, (pNum tx len p least most).2 = some v → v ≤ most ∧ least ≤ v ∧ p + 1 ≤ (pNum tx len p least most).1 := by
  by_cases h : (48 ≤ hr tx len p ∧ hr tx len p ≤ 57) ∧ least ≤ (hr tx len p - 48).toNat ∧ (hr tx len p - 48).toNat ≤ most
  · obtain ⟨a1, a2, a3⟩ := pLoop_b tx len most _ (hr tx len p - 48).toNat (p + 1) rfl h.2.2
    have hmono : ∀ n v q, most - v = n → v ≤ (pLoop tx len most v q).1 := by
      intro n
      induction n using Nat.strongRecOn with
      | ind n ih =>
        intro v q hn
        by_cases h9 : 0 < v ∧ (48 ≤ hr tx len q ∧ hr tx len q ≤ 57) ∧ 10 * v + (hr tx len q - 48).toNat ≤ most
        · rw [pLoop, dif_pos h9]
          have := ih (most - (10 * v + (hr tx len q - 48).toNat)) (by omega) (10 * v + (hr tx len q - 48).toNat) (q + 1) rfl
          omega
        · rw [pLoop_no h9]; exact Nat.le_refl _
    rw [pNum, if_pos h]
    have hpl : p < len ∨ ¬ p < len := by omega
    refine ⟨by show p ≤ (pLoop tx len most _ (p + 1)).2; omega, fun hp => a3 ?_, fun v hv => ?_⟩
    · rcases hpl with h1 | h1
      · omega
      · have : hr tx len p = -6 := by unfold hr; rw [if_neg h1]
        omega
    · cases hv
      have := hmono _ (hr tx len p - 48).toNat (p + 1) rfl
      refine ⟨a1, by omega, a2⟩
  · rw [pNum_none h]
    exact ⟨Nat.le_refl _, fun h => h, fun v hv => by cases hv⟩
theorem pCmd_ce {tx : Nat → Int} {len p : Nat} (h : hr tx len p = 99 ∨ hr tx len p = 101) : pCmd tx len p = (p + 1, some (hr tx len p, 0, 0)) := by
  rw [pCmd, if_pos h]
theorem pCmd_b {tx : Nat → Int} {len p : Nat} (h : hr tx len p = 98) : pCmd tx len p = ((pNum tx len (p + 1) 0 1).1, (pNum tx len (p + 1) 0 1).2.map (fun a => (98, a, 0))) := by
  rw [pCmd, if_neg (by omega), if_pos h]
theorem pCmd_r {tx : Nat → Int} {len p : Nat} (h : hr tx len p = 114) : pCmd tx len p = ((pNum tx len (p + 1) 0 19).1, (pNum tx len (p + 1) 0 19).2.map (fun a => (114, a, 0))) := by
  rw [pCmd, if_neg (by omega), if_neg (by omega), if_pos h]
theorem pCmd_d {tx : Nat → Int} {len p : Nat} (h : hr tx len p = 100) : pCmd tx len p = ((pNum tx len (p + 1) 0 239).1, (pNum tx len (p + 1) 0 239).2.map (fun a => (100, a, 0))) := by
  rw [pCmd, if_neg (by omega), if_neg (by omega), if_neg (by omega), if_pos h]
theorem pCmd_w0 {tx : Nat → Int} {len p : Nat} (h : hr tx len p = 119) (h2 : (pNum tx len (p + 1) 0 19).2 = none) : pCmd tx len p = ((pNum tx len (p + 1) 0 19).1, none) := by
  rw [pCmd, if_neg (by omega), if_neg (by omega), if_neg (by omega), if_neg (by omega), if_pos h, h2]
theorem pCmd_w1 {tx : Nat → Int} {len p a : Nat} (h : hr tx len p = 119) (h2 : (pNum tx len (p + 1) 0 19).2 = some a) : pCmd tx len p = pSec tx len 119 61 1 40 (pNum tx len (p + 1) 0 19).1 a := by
  rw [pCmd, if_neg (by omega), if_neg (by omega), if_neg (by omega), if_neg (by omega), if_pos h, h2]
theorem pCmd_k0 {tx : Nat → Int} {len p : Nat} (h : hr tx len p = 107) (h2 : (pNum tx len (p + 1) 0 19).2 = none) : pCmd tx len p = ((pNum tx len (p + 1) 0 19).1, none) := by
  rw [pCmd, if_neg (by omega), if_neg (by omega), if_neg (by omega), if_neg (by omega), if_neg (by omega), if_pos h, h2]
theorem pCmd_k1 {tx : Nat → Int} {len p a : Nat} (h : hr tx len p = 107) (h2 : (pNum tx len (p + 1) 0 19).2 = some a) : pCmd tx len p = pSec tx len 107 46 0 11 (pNum tx len (p + 1) 0 19).1 a := by
  rw [pCmd, if_neg (by omega), if_neg (by omega), if_neg (by omega), if_neg (by omega), if_neg (by omega), if_pos h, h2]
theorem pCmd_no {tx : Nat → Int} {len p : Nat} (h : ¬ (hr tx len p = 99 ∨ hr tx len p = 101 ∨ hr tx len p = 98 ∨ hr tx len p = 114 ∨ hr tx len p = 100 ∨ hr tx len p = 119 ∨ hr tx len p = 107)) : pCmd tx len p = (p, none) := by
  rw [pCmd, if_neg (by omega), if_neg (by omega), if_neg (by omega), if_neg (by omega), if_neg (by omega), if_neg (by omega)]
theorem pSec_no {tx : Nat → Int} {len least most q a : Nat} {c sign : Int} (h : ¬ hr tx len q = sign) : pSec tx len c sign least most q a = (q, none) := by rw [pSec, if_neg h]
theorem pSec_yes {tx : Nat → Int} {len least most q a : Nat} {c sign : Int} (h : hr tx len q = sign) : pSec tx len c sign least most q a = ((pNum tx len (q + 1) least most).1, (pNum tx len (q + 1) least most).2.map (fun b => (c, a, b))) := by rw [pSec, if_pos h]
/-- a command takes at least one sign, and ends within the text; its numbers are within their ranges -/
theorem pCmd_all {tx : Nat → Int} {len : Nat} (hT : TxOk tx len) (p : Nat) : p ≤ (pCmd tx len p).1 ∧ (p ≤ len → (pCmd tx len p).1 ≤ len) ∧ ∀ c x y, (pCmd tx len p).2 = some (c, x, y) → p + 1 ≤ (pCmd tx len p).1 ∧ p < len ∧ ((c = 99 ∨ c = 101) ∨ (c = 98 ∧ x ≤ 1) ∨ (c = 114 ∧ x ≤ 19) ∨ (c = 100 ∧ x ≤ 239) ∨ (c = 119 ∧ x ≤ 19 ∧ 1 ≤ y ∧ y ≤ 40) ∨ (c = 107 ∧ x ≤ 19 ∧ y ≤ 11)) := by
  have hb := hr_b hT p
  by_cases h1 : hr tx len p = 99 ∨ hr tx len p = 101
  · rw [pCmd_ce h1]
    exact ⟨by show p ≤ p + 1; omega, fun _ => by show p + 1 ≤ len; omega, fun c x y h => by cases h; exact ⟨Nat.le_refl _, by omega, Or.inl h1⟩⟩
  have one : ∀ (cc : Int) (mo : Nat), pCmd tx len p = ((pNum tx len (p + 1) 0 mo).1, (pNum tx len (p + 1) 0 mo).2.map (fun a => (cc, a, 0))) → p < len → ((cc = 98 ∧ mo = 1) ∨ (cc = 114 ∧ mo = 19) ∨ (cc = 100 ∧ mo = 239)) → p ≤ (pCmd tx len p).1 ∧ (p ≤ len → (pCmd tx len p).1 ≤ len) ∧ ∀ c x y, (pCmd tx len p).2 = some (c, x, y) → p + 1 ≤ (pCmd tx len p).1 ∧ p < len ∧ ((c = 99 ∨ c = 101) ∨ (c = 98 ∧ x ≤ 1) ∨ (c = 114 ∧ x ≤ 19) ∨ (c = 100 ∧ x ≤ 239) ∨ (c = 119 ∧ x ≤ 19 ∧ 1 ≤ y ∧ y ≤ 40) ∨ (c = 107 ∧ x ≤ 19 ∧ y ≤ 11)) := by
    intro cc mo e hp hcc
    obtain ⟨b1, b2, b3⟩ := pNum_b tx len (p + 1) 0 mo
    rw [e]
    refine ⟨by show p ≤ (pNum tx len (p + 1) 0 mo).1; omega, fun _ => b2 (by omega), fun c x y h => ?_⟩
    cases hv : (pNum tx len (p + 1) 0 mo).2 with
    | none => rw [hv] at h; cases h
    | some v =>
      rw [hv] at h; cases h
      have := b3 _ hv
      refine ⟨b1, hp, ?_⟩
      omega
  have two : ∀ (cc sg : Int) (lo mo : Nat), ((pNum tx len (p + 1) 0 19).2 = none → pCmd tx len p = ((pNum tx len (p + 1) 0 19).1, none)) → (∀ a, (pNum tx len (p + 1) 0 19).2 = some a → pCmd tx len p = pSec tx len cc sg lo mo (pNum tx len (p + 1) 0 19).1 a) → p < len → 0 ≤ sg → ((cc = 119 ∧ lo = 1 ∧ mo = 40) ∨ (cc = 107 ∧ lo = 0 ∧ mo = 11)) → p ≤ (pCmd tx len p).1 ∧ (p ≤ len → (pCmd tx len p).1 ≤ len) ∧ ∀ c x y, (pCmd tx len p).2 = some (c, x, y) → p + 1 ≤ (pCmd tx len p).1 ∧ p < len ∧ ((c = 99 ∨ c = 101) ∨ (c = 98 ∧ x ≤ 1) ∨ (c = 114 ∧ x ≤ 19) ∨ (c = 100 ∧ x ≤ 239) ∨ (c = 119 ∧ x ≤ 19 ∧ 1 ≤ y ∧ y ≤ 40) ∨ (c = 107 ∧ x ≤ 19 ∧ y ≤ 11)) := by
    intro cc sg lo mo e0 e1 hp hsg hcc
    obtain ⟨b1, b2, b3⟩ := pNum_b tx len (p + 1) 0 19
    have b2 := b2 (by omega)
    cases hv : (pNum tx len (p + 1) 0 19).2 with
    | none => rw [e0 hv]; exact ⟨by show p ≤ (pNum tx len (p + 1) 0 19).1; omega, fun _ => b2, fun c x y h => by cases h⟩
    | some a =>
      have b4 := b3 a hv
      rw [e1 a hv]
      by_cases hs : hr tx len (pNum tx len (p + 1) 0 19).1 = sg
      · rw [pSec_yes hs]
        generalize (pNum tx len (p + 1) 0 19).1 = q at *
        have hb2 := hr_b hT q
        obtain ⟨d1, d2, d3⟩ := pNum_b tx len (q + 1) lo mo
        refine ⟨by show p ≤ (pNum tx len (q + 1) lo mo).1; omega, fun _ => d2 (by omega), fun c x y h => ?_⟩
        cases hw : (pNum tx len (q + 1) lo mo).2 with
        | none => rw [hw] at h; cases h
        | some v =>
          rw [hw] at h; cases h
          have := d3 _ hw
          refine ⟨by show p + 1 ≤ (pNum tx len (q + 1) lo mo).1; omega, hp, ?_⟩
          omega
      · rw [pSec_no hs]
        exact ⟨by show p ≤ (pNum tx len (p + 1) 0 19).1; omega, fun _ => b2, fun c x y h => by cases h⟩
  by_cases h2 : hr tx len p = 98
  · exact one 98 1 (pCmd_b h2) (by omega) (by omega)
  by_cases h3 : hr tx len p = 114
  · exact one 114 19 (pCmd_r h3) (by omega) (by omega)
  by_cases h4 : hr tx len p = 100
  · exact one 100 239 (pCmd_d h4) (by omega) (by omega)
  by_cases h5 : hr tx len p = 119
  · exact two 119 61 1 40 (pCmd_w0 h5) (fun a => pCmd_w1 h5) (by omega) (by omega) (by omega)
  by_cases h6 : hr tx len p = 107
  · exact two 107 46 0 11 (pCmd_k0 h6) (fun a => pCmd_k1 h6) (by omega) (by omega) (by omega)
  rw [pCmd_no (by omega)]
  exact ⟨Nat.le_refl _, fun h => h, fun c x y h => by cases h⟩
/-- a reader's cells -/
def TxR (G : GG) (a : Nat) (tx : Nat → Int) (len p : Nat) (le fi sc : Int) (H : Heap) : Prop := Ob G a 0 [.ref (a + 1), .int (iI len), .int (iI p), .int (iI le), .int (iI fi), .int (iI sc)] H ∧ Ia G (a + 1) 2 80 (fun k => iI (tx k)) H
theorem TxR.mk2 {G : GG} {a len p : Nat} {tx : Nat → Int} {le fi sc : Int} {H : Heap} {x1 x2 x3 x4 x5 : Int} (ho : Ob G a 0 [.ref (a + 1), .int (iI x1), .int (iI x2), .int (iI x3), .int (iI x4), .int (iI x5)] H) (hr : Ia G (a + 1) 2 80 (fun k => iI (tx k)) H) (e1 : x1 = len) (e2 : x2 = p) (e3 : x3 = le) (e4 : x4 = fi) (e5 : x5 = sc) : TxR G a tx len p le fi sc H := by
  subst e1; subst e2; subst e3; subst e4; subst e5; exact ⟨ho, hr⟩
theorem TxR.kept {G : GG} {a len p : Nat} {tx : Nat → Int} {le fi sc : Int} {H H1 : Heap} (h : TxR G a tx len p le fi sc H) (e0 : H1[a]? = H[a]?) (e1 : H1[a + 1]? = H[a + 1]?) : TxR G a tx len p le fi sc H1 := ⟨h.1.kept e0, h.2.kept e1⟩
def okCmd (o : Option (Int × Nat × Nat)) (le fi sc : Int) : Prop := ∀ c x y, o = some (c, x, y) → le = c ∧ ((c = 98 ∨ c = 119 ∨ c = 114 ∨ c = 107 ∨ c = 100) → fi = x) ∧ ((c = 119 ∨ c = 107) → sc = y)
theorem nar_char {c : Int} (h : 0 ≤ c) (h2 : c < 65536) : vp_nar .char (iI c) = iI c := by
  obtain ⟨n, rfl⟩ := Int.eq_ofNat_of_zero_le h
  unfold vp_nar
  rw [show iI (n : Int) = nI n from rfl, (pk_charN (q := n) (by omega)).1]
theorem i2c_id {c : Int} (h : 0 ≤ c) (h2 : c < 65536) : ((iI c).toUInt32 % 65536).toInt32 = iI c := by
  obtain ⟨n, rfl⟩ := Int.eq_ofNat_of_zero_le h
  rw [pk_char, show iI (n : Int) = nI n from rfl, pk_tn (by omega), Nat.mod_eq_of_lt (by omega)]
