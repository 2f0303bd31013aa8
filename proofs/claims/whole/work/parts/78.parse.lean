-- a tape read: what comes of it, in numbers
abbrev kz_PR : Type := Bool × Int × List Int × List Int
def kz_bad (p : Int) : kz_PR := (false, p, [], [])
def kz_dg (x : Int) : Prop := 48 ≤ x ∧ x ≤ 57
def kz_pN (B : Int → Int) (p : Int) : Int × Int := if 48 ≤ B p ∧ B p ≤ 57 then (if B p = 48 then (0, p + 1) else if 48 ≤ B (p + 1) ∧ B (p + 1) ≤ 57 then (10 * (B p - 48) + (B (p + 1) - 48), p + 2) else (B p - 48, p + 1)) else (-1, p)
def kz_iS (x : Int) : Int := if x = 110 then 0 else if x = 112 then 1 else if x = 107 then 2 else if x = 118 then 3 else if x = 116 then 4 else -1
def kz_iG (x : Int) : Int := if x = 60 then 0 else if x = 61 then 1 else if x = 62 then 2 else -1
def kz_pT (B : Int → Int) (p : Int) : kz_PR := if kz_iS (B p) = -1 then kz_bad p else if kz_iG (B (p + 1)) = -1 then kz_bad (p + 1) else if (kz_pN B (p + 2)).1 = -1 then kz_bad (p + 2) else (true, (kz_pN B (p + 2)).2, [(kz_iS (B p) * 3 + kz_iG (B (p + 1))) * 100 + (kz_pN B (p + 2)).1], [kz_iS (B p) + 8 * kz_iG (B (p + 1)) + 32 * (kz_pN B (p + 2)).1])
/-- the rest of a row of operands: by which sign, which code -/
def kz_pL (F : Int → kz_PR) (B : Int → Int) (g c : Int) : Nat → kz_PR → kz_PR
  | 0, r => r
  | n + 1, r => if r.1 = true ∧ B r.2.1 = g then
      (let t := F (r.2.1 + 1)
       if t.1 = true then kz_pL F B g c n (true, t.2.1, r.2.2.1 ++ t.2.2.1 ++ [c], r.2.2.2 ++ t.2.2.2 ++ [c]) else kz_bad t.2.1)
    else r
/-- a factor: what stands under its marks, and whether they turn it -/
def kz_pF (E : Int → Int → kz_PR) (B : Int → Int) : Nat → Int → Int → kz_PR × Bool
  | 0, _, p => (kz_bad p, false)
  | n + 1, o, p => if B p = 33 then (if o = 5 then (kz_bad p, false) else
      (let t := kz_pF E B n (o + 1) (p + 1)
       ((t.1.1, t.1.2.1, t.1.2.2.1, t.1.2.2.2 ++ [-1]), !t.2)))
    else if B p = 40 then (if o = 5 then (kz_bad p, false) else
      (let t := E (o + 1) (p + 1)
       if t.1 = true ∧ B t.2.1 = 41 then ((true, t.2.1 + 1, t.2.2.1, t.2.2.2), false) else (kz_bad t.2.1, false)))
    else (kz_pT B p, false)
def kz_pFx (r : kz_PR × Bool) : kz_PR := (r.1.1, r.1.2.1, r.1.2.2.1 ++ (if r.2 = true then [-1] else []), r.1.2.2.2)
/-- E at an opening, with so much left of it -/
def kz_pE (B : Int → Int) : Nat → Int → Int → kz_PR
  | 0, _, p => kz_bad p
  | n + 1, o, p =>
    let fac := fun q => kz_pFx (kz_pF (kz_pE B n) B 7 o q)
    let bot := fun q => kz_pL fac B 38 (-2) 130 (fac q)
    kz_pL bot B 124 (-3) 130 (bot p)
