/-! ===== PURE: what ties the class's memory to the reference's ===== -/
/-- the state of a valley: ((roofs, clouds, day, z), of roofs (what, roof), owed, of clouds (what, cloud), texts by use, the tape, the numbers that wait) -/
abbrev sg : Type := (Nat × Nat × Nat × Int32) × (Nat → Nat → Nat) × (Nat → Nat → Nat) × (Nat → Nat → Nat) × (Nat → List Int32) × List Int32 × List Int32
abbrev sR (σ : sg) : Nat := σ.1.1
abbrev sC (σ : sg) : Nat := σ.1.2.1
abbrev sD (σ : sg) : Nat := σ.1.2.2.1
abbrev sZ (σ : sg) : Int32 := σ.1.2.2.2
abbrev sr (σ : sg) : Nat → Nat → Nat := σ.2.1
abbrev so (σ : sg) : Nat → Nat → Nat := σ.2.2.1
abbrev sc (σ : sg) : Nat → Nat → Nat := σ.2.2.2.1
abbrev sT (σ : sg) : Nat → List Int32 := σ.2.2.2.2.1
abbrev sP (σ : sg) : List Int32 := σ.2.2.2.2.2.1
abbrev sW (σ : sg) : List Int32 := σ.2.2.2.2.2.2
def rf_most (w : Nat) : Nat := if w = 1 then 9999 else if w = 2 then 99999 else 99
def cf_most (w nR : Nat) : Nat := if w = 0 then 6 else if w = 1 then 9 else if w = 2 then nR - 1 else 99
/-- the bounds; days up to B -/
def WF (B : Nat) (σ : sg) : Prop :=
  sR σ ≤ 6 ∧ sC σ ≤ 5 ∧ (0 < sC σ → 0 < sR σ) ∧ sD σ ≤ B ∧
  (∀ w r, w < 4 → sr σ w r ≤ rf_most w) ∧ (∀ w r, sR σ ≤ r → sr σ w r = 0) ∧
  (∀ a b, so σ a b ≤ 999) ∧ (∀ a b, (sR σ ≤ a ∨ sR σ ≤ b ∨ a = b) → so σ a b = 0) ∧
  (∀ w c, c < sC σ → w < 4 → sc σ w c ≤ cf_most w (sR σ)) ∧
  (∀ u, (sT σ u).length ≤ 50) ∧ (sP σ).length ≤ 50 ∧ (sW σ).length ≤ 20
/-- the reference's row of numbers holds σ -/
def VM (g : Nat → Int32) (σ : sg) : Prop :=
  g 0 = nI (sR σ) ∧ g 1 = nI (sC σ) ∧ g 2 = nI (sD σ) ∧ g 3 = sZ σ ∧ g 4 = nI (sP σ).length ∧ g 5 = nI (sW σ).length ∧
  (∀ r w, r < sR σ → w < 4 → g (6 + 4 * r + w) = nI (sr σ w r)) ∧
  (∀ a b, a < 6 → b < 6 → g (30 + 6 * a + b) = nI (so σ a b)) ∧
  (∀ c w, c < sC σ → w < 4 → g (66 + 4 * c + w) = nI (sc σ w c)) ∧
  (∀ u, u < 2 → g (86 + u) = nI (sT σ u).length) ∧
  (∀ i, i < (sW σ).length → g (88 + i) = (sW σ).getD i 0) ∧
  (∀ u i, u < 2 → i < (sT σ u).length → g (108 + 50 * u + i) = (sT σ u).getD i 0) ∧
  (∀ i, i < (sP σ).length → g (208 + i) = (sP σ).getD i 0)
/-! texts: what a text compiles to (F rounds deep; tags 0 .. 4: a T, A, B, S, P; 5: a Q; 6 + l: what follows the first part of level l). (stuck, place, code) -/
def px_at (t : List Int32) (p : Nat) : Int32 := t.getD p (-1)
def px_sig (l : Nat) (x : Int32) : Bool :=
  if l = 0 then decide (x = 124) else if l = 1 then decide (x = 38) else if l = 2 then decide (x = 60) || (decide (x = 61) || decide (x = 62)) else if l = 3 then decide (x = 43) || decide (x = 45) else decide (x = 42) || (decide (x = 47) || decide (x = 37))
def px_nm (u : Nat) (x : Int32) : Option Nat :=
  if u = 0 then (if x = 119 then some 0 else if x = 100 then some 1 else if x = 109 then some 2 else none)
  else (if x = 115 then some 0 else if x = 114 then some 1 else if x = 100 then some 2 else none)
def px_dg (x : Int32) : Bool := decide (48 ≤ x) && decide (x ≤ 57)
def px_num (t : List Int32) : Nat → Nat → Int32 → Nat × Int32
  | 0, p, v => (p, v)
  | k + 1, p, v => if px_dg (px_at t p) then px_num t k (p + 1) (10 * v + px_at t p - 48) else (p, v)
def px (u : Nat) (t : List Int32) : Nat → Nat → Nat → Nat → Bool × Nat × List Int32
  | 0, _, _, p => (true, p, [])
  | F + 1, tag, o, p =>
    if tag < 5 then
      (let a := px u t F (tag + 1) o p
       if a.1 then a else
       let b := px u t F (6 + tag) o a.2.1
       (b.1, b.2.1, a.2.2 ++ b.2.2))
    else if tag = 5 then
      (let x := px_at t p
       if px_dg x then (let q := px_num t 4 p 0; (false, q.1, [q.2]))
       else match px_nm u x with
         | some k => (false, p + 1, [-1 - nI k])
         | none =>
           if x = 33 ∧ o < 5 then (let a := px u t F 5 (o + 1) (p + 1); (a.1, a.2.1, a.2.2 ++ [-33]))
           else if x = 40 ∧ o < 5 then
             (let a := px u t F 0 (o + 1) (p + 1)
              if a.1 then a else if px_at t a.2.1 = 41 then (false, a.2.1 + 1, a.2.2) else (true, a.2.1, a.2.2))
           else (true, p, []))
    else
      (let l := tag - 6
       let x := px_at t p
       if px_sig l x then
         (let a := px u t F (l + 1) o (p + 1)
          if a.1 then a else
          if l = 2 then (false, a.2.1, a.2.2 ++ [-x]) else
          let b := px u t F tag o a.2.1
          (b.1, b.2.1, a.2.2 ++ ([-x] ++ b.2.2)))
       else (false, p, []))
/-- rounds that no text of 50 bytes can need -/
def px_F : Nat := 1000
/-- t is a text of use u, and cd its code -/
def px_ok (u : Nat) (t cd : List Int32) : Prop := (t = [] ∧ cd = []) ∨ (t ≠ [] ∧ px u t px_F 0 0 0 = (false, t.length, cd))
def lw_wo (u : Nat) : Int32 := if u = 0 then 12 else 1
def lw_mo (u : Nat) : Int32 := if u = 0 then 99 else 9
/-- the class's Law at q -/
def LC (C : pm_M) (q u : Nat) (t : List Int32) : Prop :=
  C q 0 = lw_wo u ∧ C q 1 = lw_mo u ∧ ∃ cd : List Int32, px_ok u t cd ∧ cd.length ≤ 50 ∧ C q 3 = nI cd.length ∧ ∀ i, i < cd.length → C (q + 1) i = cd.getD i 0
/-- the class's Valley at p holds σ -/
def VC (C : pm_M) (p : Nat) (σ : sg) : Prop :=
  C (p + 1) 0 = nI (sR σ) ∧ C (p + 13) 0 = nI (sC σ) ∧ C p 3 = nI (sD σ) ∧ C p 4 = sZ σ ∧ C p 6 = nI (sP σ).length ∧ C p 8 = nI (sW σ).length ∧
  (∀ w r, w < 4 → r < 6 → C (p + 2 + w) r = nI (sr σ w r)) ∧
  (∀ a b, a < 6 → b < 6 → C (p + 7 + a) b = nI (so σ a b)) ∧
  (∀ w c, w < 4 → c < sC σ → C (p + 14 + w) c = nI (sc σ w c)) ∧
  (∀ i, i < (sP σ).length → C (p + 25) i = (sP σ).getD i 0) ∧
  (∀ i, i < (sW σ).length → C (p + 26) i = (sW σ).getD i 0) ∧
  (∀ u, u < 2 → LC C (p + 19 + 3 * u) u (sT σ u))
/-- a law's two numbers that never change -/
def LK (C : pm_M) (p : Nat) : Prop := C (p + 19) 0 = 12 ∧ C (p + 19) 1 = 99 ∧ C (p + 22) 0 = 1 ∧ C (p + 22) 1 = 9
def SH (C D : pm_M) : Prop := ∀ j, j < 4 → ∃ (b n : Nat), (b = 0 ∨ b = 8 ∨ b = 16 ∨ b = 32) ∧ n ≤ 40 ∧ (b = 0 → n = 0) ∧ C (97 + 2 * j) 0 = nI b ∧ D 8 j = nI b ∧ C (97 + 2 * j) 1 = nI n ∧ D 9 j = nI n ∧ ∀ i, i < 40 → C (98 + 2 * j) i = D 10 (40 * j + i)
def TR (C D : pm_M) : Prop := ∃ n : Nat, n ≤ 40 ∧ C 94 1 = nI n ∧ D 0 14 = nI n ∧ ∀ i, i < n → C 95 i = D 7 i
def ER (C D : pm_M) : Prop := ∀ k, k < 6 → C 105 k = D 3 k
def KP (C D : pm_M) : Prop := C 0 3 = D 0 2 ∧ (C 0 3 = 0 ∨ ∃ σ, WF 9999 σ ∧ VC C 61 σ ∧ VM (D 2) σ)
/-- what ties the two memories between calls -/
def RR (C D : pm_M) : Prop := (∃ σ, WF 9999 σ ∧ VC C 1 σ ∧ VM (D 1) σ) ∧ LK C 31 ∧ LK C 61 ∧ KP C D ∧ SH C D ∧ TR C D ∧ ER C D
