/-! the disc's state and what each call does to it, in whole numbers -/
abbrev Fil : Type := Nat × Nat × Nat
def St : Type := (Nat × Nat × Nat × Nat) × (Nat → Bool) × (Nat → Nat) × (Nat → Nat → Nat) × (Nat → Nat → Option Fil)
def mkS (nx mn s0 s1 : Nat) (dm : Nat → Bool) (vr : Nat → Nat) (se : Nat → Nat → Nat) (en : Nat → Nat → Option Fil) : St := ((nx, mn, s0, s1), dm, vr, se, en)
def nx (σ : St) : Nat := σ.1.1
def mn (σ : St) : Nat := σ.1.2.1
def s0 (σ : St) : Nat := σ.1.2.2.1
def s1 (σ : St) : Nat := σ.1.2.2.2
def dm (σ : St) : Nat → Bool := σ.2.1
def vr (σ : St) : Nat → Nat := σ.2.2.1
def se (σ : St) : Nat → Nat → Nat := σ.2.2.2.1
def en (σ : St) : Nat → Nat → Option Fil := σ.2.2.2.2
theorem nx_mk (a b c d : Nat) (e f g h) : nx (mkS a b c d e f g h) = a := rfl
theorem mn_mk (a b c d : Nat) (e f g h) : mn (mkS a b c d e f g h) = b := rfl
theorem s0_mk (a b c d : Nat) (e f g h) : s0 (mkS a b c d e f g h) = c := rfl
theorem s1_mk (a b c d : Nat) (e f g h) : s1 (mkS a b c d e f g h) = d := rfl
theorem dm_mk (a b c d : Nat) (e f g h) : dm (mkS a b c d e f g h) = e := rfl
theorem vr_mk (a b c d : Nat) (e f g h) : vr (mkS a b c d e f g h) = f := rfl
theorem se_mk (a b c d : Nat) (e f g h) : se (mkS a b c d e f g h) = g := rfl
theorem en_mk (a b c d : Nat) (e f g h) : en (mkS a b c d e f g h) = h := rfl
def wholeB (d : Nat → Bool) (a : Nat) : Nat → Bool
  | 0 => true
  | c + 1 => wholeB d a c && !d (a + c)
def lastB (p : Nat → Bool) : Nat → Option Nat
  | 0 => none
  | n + 1 => if p n then some n else lastB p n
def cntB (p : Nat → Bool) : Nat → Nat
  | 0 => 0
  | n + 1 => cntB p n + (if p n then 1 else 0)
def sumF (f : Nat → Nat) : Nat → Nat
  | 0 => 0
  | n + 1 => sumF f n + f n
def oI (o : Option Nat) : Int := match o with
  | none => -6
  | some n => n
def opn (σ : St) : Option Nat := if 0 < mn σ ∧ se σ (mn σ - 1) 0 = 0 then some (mn σ - 1) else none
def readB (σ : St) (d : Nat → Bool) (n : Nat) : Bool := decide (se σ n 0 = 1) && wholeB d (se σ n 1) (se σ n 3)
def validD (σ : St) (d : Nat → Bool) : Option Nat := lastB (readB σ d) (mn σ)
def dmH (σ : St) (h : Int) : Nat → Bool := fun k => dm σ k || decide ((k : Int) = h)
def intactO (d : Nat → Bool) (o : Option Fil) : Bool := match o with
  | none => false
  | some f => wholeB d f.1 f.2.1
def sizeO (o : Option Fil) : Nat := match o with
  | none => 0
  | some f => f.2.1
def cntIntact (σ : St) (d : Nat → Bool) : Nat := match validD σ d with
  | none => 0
  | some n => cntB (fun k => intactO d (en σ n k)) 20
def foundSec (σ : St) : Nat := match validD σ (dm σ) with
  | none => 0
  | some n => sumF (fun k => sizeO (en σ n k)) 20
def foundF (σ : St) (name : Nat) : Option Fil := match validD σ (dm σ) with
  | none => none
  | some n => en σ n name
def sesAt (σ : St) (k : Nat) : Option Nat := lastB (fun n => decide (se σ n 1 ≤ k ∧ k < se σ n 1 + se σ n 2)) (mn σ)
def roomN (σ : St) : Nat := match opn σ with
  | some n => 240 - (nx σ + se σ n 4)
  | none => if 12 ≤ mn σ then 0 else 240 - (nx σ + s0 σ + s1 σ)
def worstA (f : Nat → Nat) : Nat → Nat × Nat
  | 0 => (0, 21)
  | k + 1 => if f k < (worstA f k).2 then (k, f k) else worstA f k
/-! actions -/
def isNm (x : Int) : Prop := 0 ≤ x ∧ x < 20
def isSc (x : Int) : Prop := 0 ≤ x ∧ x < 240
def spBegin (σ : St) (mode : Int) : Int × St :=
  if ¬ mode = 0 ∧ ¬ mode = 1 then (-2, σ)
  else if (opn σ).isSome then (-5, σ)
  else if 12 ≤ mn σ ∨ 240 < nx σ + s0 σ + s1 σ then (-4, σ)
  else (mn σ, mkS (nx σ + s0 σ) (mn σ + 1) (s0 σ) (s1 σ) (dm σ) (vr σ)
    (va_up (se σ) (mn σ) (fun w => if w = 1 then nx σ else if w = 2 then s0 σ else if w = 3 then s0 σ else if w = 4 then s1 σ else 0))
    (va_up (en σ) (mn σ) (fun k => if mode = 1 then foundF σ k else none)))
def spWrite (σ : St) (name size : Int) : Int × St :=
  if ¬ (0 ≤ name ∧ name < 20) then (-1, σ)
  else if ¬ (1 ≤ size ∧ size ≤ 40) then (-2, σ)
  else match opn σ with
    | none => (-5, σ)
    | some n => if 240 < nx σ + size.toNat + se σ n 4 then (-4, σ)
      else (nx σ, mkS (nx σ + size.toNat) (mn σ) (s0 σ) (s1 σ) (dm σ) (va_up (vr σ) name.toNat (vr σ name.toNat + 1))
        (va_up (se σ) n (va_up (va_up (se σ n) 2 (se σ n 2 + size.toNat)) 5 (se σ n 5 + 1)))
        (va_up (en σ) n (va_up (en σ n) name.toNat (some (nx σ, size.toNat, n)))))
def entriesN (σ : St) (n : Nat) : Nat := cntB (fun k => (en σ n k).isSome) 20
def spRemove (σ : St) (name : Int) : Int × St :=
  if ¬ (0 ≤ name ∧ name < 20) then (-1, σ)
  else match opn σ with
    | none => (-5, σ)
    | some n => if (en σ n name.toNat).isSome then
        (entriesN (mkS (nx σ) (mn σ) (s0 σ) (s1 σ) (dm σ) (vr σ) (se σ) (va_up (en σ) n (va_up (en σ n) name.toNat none))) n, mkS (nx σ) (mn σ) (s0 σ) (s1 σ) (dm σ) (vr σ) (se σ) (va_up (en σ) n (va_up (en σ n) name.toNat none)))
      else (-5, σ)
def spKeep (σ : St) (name ses : Int) : Int × St :=
  if ¬ (0 ≤ name ∧ name < 20) ∨ ¬ (0 ≤ ses ∧ ses < mn σ) then (-1, σ)
  else match opn σ with
    | none => (-5, σ)
    | some n => if readB σ (dm σ) ses.toNat then
        match en σ ses.toNat name.toNat with
        | none => (-5, σ)
        | some f => (f.1, mkS (nx σ) (mn σ) (s0 σ) (s1 σ) (dm σ) (vr σ) (se σ) (va_up (en σ) n (va_up (en σ n) name.toNat (some f))))
      else (-5, σ)
/-- the lead-out of the last session n is written, and it is closed -/
def leadOut (σ : St) (n : Nat) : Int × St :=
  (nx σ + se σ n 4, mkS (nx σ + se σ n 4) (mn σ) (s0 σ) (s1 σ) (dm σ) (vr σ) (va_up (se σ) n (va_up (va_up (se σ n) 2 (se σ n 2 + se σ n 4)) 0 1)) (en σ))
def spClose (σ : St) : Int × St := match opn σ with
  | none => (-5, σ)
  | some n => leadOut σ n
def spEject (σ : St) : Int × St := match opn σ with
  | none => (0, σ)
  | some n => (1, mkS (nx σ) (mn σ) (s0 σ) (s1 σ) (dm σ) (vr σ) (va_up (se σ) n (va_up (se σ n) 0 2)) (en σ))
def spRepair (σ : St) (ses : Int) : Int × St :=
  if ¬ (0 ≤ ses ∧ ses < mn σ) then (-1, σ)
  else if se σ ses.toNat 0 = 2 ∧ ses + 1 = mn σ ∧ wholeB (dm σ) (se σ ses.toNat 1) (se σ ses.toNat 3) = true then leadOut σ ses.toNat
  else (-5, σ)
def spDamage (σ : St) (sector : Int) : Int × St :=
  if ¬ (0 ≤ sector ∧ sector < 240) then (-1, σ)
  else (cntB (va_up (dm σ) sector.toNat true) 240, mkS (nx σ) (mn σ) (s0 σ) (s1 σ) (va_up (dm σ) sector.toNat true) (vr σ) (se σ) (en σ))
def spSet (σ : St) (setting value : Int) : Int × St :=
  if ¬ (setting = 0 ∨ setting = 1) then (-1, σ)
  else if setting = 0 then (if 2 ≤ value ∧ value ≤ 9 then ((s0 σ : Int), mkS (nx σ) (mn σ) value.toNat (s1 σ) (dm σ) (vr σ) (se σ) (en σ)) else (-2, σ))
  else (if 1 ≤ value ∧ value ≤ 9 then ((s1 σ : Int), mkS (nx σ) (mn σ) (s0 σ) value.toNat (dm σ) (vr σ) (se σ) (en σ)) else (-2, σ))
/-! questions -/
def spSession (σ : St) (ses what : Int) : Int :=
  if ¬ (0 ≤ ses ∧ ses < mn σ) then -1
  else if 0 ≤ what ∧ what ≤ 4 then se σ ses.toNat what.toNat
  else if what = 5 then entriesN σ ses.toNat
  else if what = 6 then (if readB σ (dm σ) ses.toNat then 1 else 0)
  else if what = 7 then se σ ses.toNat 5
  else -2
def spEntry (σ : St) (ses name what : Int) : Int :=
  if ¬ (0 ≤ ses ∧ ses < mn σ) ∨ ¬ (0 ≤ name ∧ name < 20) then -1
  else if ¬ (0 ≤ what ∧ what ≤ 2) then -2
  else match en σ ses.toNat name.toNat with
    | none => -6
    | some f => if what = 0 then f.1 else if what = 1 then f.2.1 else f.2.2
def spValid (σ : St) : Int := oI (validD σ (dm σ))
def spDamaged (σ : St) (sector : Int) : Int := if ¬ (0 ≤ sector ∧ sector < 240) then -1 else if dm σ sector.toNat then 1 else 0
def useN (σ : St) (k : Nat) : Int := match sesAt σ k with
  | none => 0
  | some n => if k < se σ n 1 + se σ n 3 then 1 else if se σ n 0 = 1 ∧ se σ n 1 + se σ n 2 - se σ n 4 ≤ k then 2 else 3
def spUse (σ : St) (sector : Int) : Int := if ¬ (0 ≤ sector ∧ sector < 240) then -1 else useN σ sector.toNat
def spSetting (σ : St) (setting : Int) : Int := if setting = 0 then s0 σ else if setting = 1 then s1 σ else -1
def spFind (σ : St) (name : Int) : Int := if ¬ (0 ≤ name ∧ name < 20) then -1 else match foundF σ name.toNat with
  | none => -6
  | some f => f.1
def spIntact (σ : St) (name : Int) : Int := if ¬ (0 ≤ name ∧ name < 20) then -1 else match foundF σ name.toNat with
  | none => -6
  | some f => if wholeB (dm σ) f.1 f.2.1 then 1 else 0
def spIntactFiles (σ : St) : Int := cntIntact σ (dm σ)
def spVersions (σ : St) (name : Int) : Int := if ¬ (0 ≤ name ∧ name < 20) then -1 else vr σ name.toNat
def spLatest (σ : St) (name : Int) : Int := if ¬ (0 ≤ name ∧ name < 20) then -1 else oI (lastB (fun n => readB σ (dm σ) n && intactO (dm σ) (en σ n name.toNat)) (mn σ))
def spLost (σ : St) : Int := nx σ - foundSec σ
def spLargest (σ : St) : Int := if roomN σ < 40 then roomN σ else 40
def spFilesLeft (σ : St) (size : Int) : Int := if ¬ (1 ≤ size ∧ size ≤ 40) then -2 else (roomN σ / size.toNat : Nat)
def eachN (σ : St) (size : Nat) : Nat := match opn σ with
  | some n => if 240 < nx σ + size + se σ n 4 then 0 else 1 + min (12 - mn σ) ((240 - (nx σ + size + se σ n 4)) / (size + s0 σ + s1 σ))
  | none => min (12 - mn σ) ((240 - nx σ) / (size + s0 σ + s1 σ))
def spFilesEach (σ : St) (size : Int) : Int := if ¬ (1 ≤ size ∧ size ≤ 40) then -2 else eachN σ size.toNat
def spValidIf (σ : St) (sector : Int) : Int := if ¬ (0 ≤ sector ∧ sector < 240) then -1 else oI (validD σ (dmH σ sector))
def worstN (σ : St) : Nat := (worstA (fun k => cntIntact σ (dmH σ k)) 240).1
/-! texts: the sign at a place (-6 behind the end) -/
def hr (tx : Nat → Int) (len p : Nat) : Int := if p < len then tx p else -6
def isDg (x : Int) : Prop := 48 ≤ x ∧ x ≤ 57
/-- further digits of a number -/
def pLoop (tx : Nat → Int) (len most v p : Nat) : Nat × Nat :=
  if h : 0 < v ∧ (48 ≤ hr tx len p ∧ hr tx len p ≤ 57) ∧ 10 * v + (hr tx len p - 48).toNat ≤ most then pLoop tx len most (10 * v + (hr tx len p - 48).toNat) (p + 1) else (v, p)
termination_by most - v
decreasing_by omega
/-- a number, and the place behind it; none: a fault at that place -/
def pNum (tx : Nat → Int) (len p least most : Nat) : Nat × Option Nat :=
  if (48 ≤ hr tx len p ∧ hr tx len p ≤ 57) ∧ least ≤ (hr tx len p - 48).toNat ∧ (hr tx len p - 48).toNat ≤ most then
    ((pLoop tx len most (hr tx len p - 48).toNat (p + 1)).2, some (pLoop tx len most (hr tx len p - 48).toNat (p + 1)).1)
  else (p, none)
/-- a second number behind a sign -/
def pSec (tx : Nat → Int) (len : Nat) (c : Int) (sign : Int) (least most q a : Nat) : Nat × Option (Int × Nat × Nat) :=
  if hr tx len q = sign then ((pNum tx len (q + 1) least most).1, (pNum tx len (q + 1) least most).2.map (fun b => (c, a, b))) else (q, none)
def pCmd (tx : Nat → Int) (len p : Nat) : Nat × Option (Int × Nat × Nat) :=
  if hr tx len p = 99 ∨ hr tx len p = 101 then (p + 1, some (hr tx len p, 0, 0))
  else if hr tx len p = 98 then ((pNum tx len (p + 1) 0 1).1, (pNum tx len (p + 1) 0 1).2.map (fun a => (98, a, 0)))
  else if hr tx len p = 114 then ((pNum tx len (p + 1) 0 19).1, (pNum tx len (p + 1) 0 19).2.map (fun a => (114, a, 0)))
  else if hr tx len p = 100 then ((pNum tx len (p + 1) 0 239).1, (pNum tx len (p + 1) 0 239).2.map (fun a => (100, a, 0)))
  else if hr tx len p = 119 then match (pNum tx len (p + 1) 0 19).2 with
    | none => ((pNum tx len (p + 1) 0 19).1, none)
    | some a => pSec tx len 119 61 1 40 (pNum tx len (p + 1) 0 19).1 a
  else if hr tx len p = 107 then match (pNum tx len (p + 1) 0 19).2 with
    | none => ((pNum tx len (p + 1) 0 19).1, none)
    | some a => pSec tx len 107 46 0 11 (pNum tx len (p + 1) 0 19).1 a
  else (p, none)
/-- the fault of a text, read from p on -/
def pFlt (tx : Nat → Int) (len p : Nat) : Int :=
  if (pCmd tx len p).2 = none then (pCmd tx len p).1
  else if len ≤ (pCmd tx len p).1 then -6
  else if h : hr tx len (pCmd tx len p).1 = 59 ∧ p ≤ (pCmd tx len p).1 ∧ (pCmd tx len p).1 < len then pFlt tx len ((pCmd tx len p).1 + 1)
  else (pCmd tx len p).1
termination_by len - p
decreasing_by omega
def spCmd (σ : St) (q : Int × Nat × Nat) : Int × St :=
  if q.1 = 98 then spBegin σ q.2.1 else if q.1 = 119 then spWrite σ q.2.1 q.2.2 else if q.1 = 114 then spRemove σ q.2.1 else if q.1 = 107 then spKeep σ q.2.1 q.2.2
  else if q.1 = 99 then spClose σ else if q.1 = 101 then spEject σ else spDamage σ q.2.1
/-- the commands from p on are done, to the first with an error -/
def pRun (tx : Nat → Int) (len : Nat) (σ : St) (p k : Nat) : Nat × St :=
  if h : p < len then
    match (pCmd tx len p).2 with
    | none => (k, σ)
    | some q => if (spCmd σ q).1 < 0 then (k, σ) else if hq : p ≤ (pCmd tx len p).1 then pRun tx len (spCmd σ q).2 ((pCmd tx len p).1 + 1) (k + 1) else (k, σ)
  else (k, σ)
termination_by len - p
decreasing_by omega
/-- a state is recorded: at most four -/
def recd (hs : List St) (σ : St) : List St := (if hs.length = 4 then hs.tail else hs) ++ [σ]
