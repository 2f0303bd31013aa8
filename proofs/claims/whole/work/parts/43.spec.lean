-- what there is, and what follows from it, in numbers
abbrev kz_C : Type := Bool × Int × List Int × List Int
abbrev kz_A : Type := (Nat → Int) × List kz_C
def kz_run (v : Int → Bool) : List Int → List Bool → List Bool
  | [], st => st
  | c :: cs, st => kz_run v cs (if 0 ≤ c then v c :: st else if c = -1 then (match st with
    | b :: r => (!b) :: r
    | [] => []) else match st with
    | b :: a :: r => (if c = -2 then a && b else a || b) :: r
    | _ => [])
def kz_hg : List Int → Nat → Option Nat
  | [], h => some h
  | c :: cs, h => if 0 ≤ c then (if h < 16 then kz_hg cs (h + 1) else none) else if c = -1 then (if 1 ≤ h then kz_hg cs h else none) else if 2 ≤ h then kz_hg cs (h - 1) else none
def kz_vR (f : Int → Int → Int → Bool) (c : Int) : Bool := f (c % 8) (c / 8 % 4) (c / 32)
def kz_vC (f : Int → Int → Int → Bool) (c : Int) : Bool := f (c / 300) (c / 100 % 3) (c % 100)
def kz_tkR (c : Int) : Prop := c = -1 ∨ c = -2 ∨ c = -3 ∨ (0 ≤ c ∧ c % 8 < 5 ∧ c / 8 % 4 < 3 ∧ c / 32 ≤ 99)
def kz_tkC (c : Int) : Prop := c = -1 ∨ c = -2 ∨ c = -3 ∨ (0 ≤ c ∧ c < 1500)
def kz_wfc (c : kz_C) : Prop := (0 ≤ c.2.1 ∧ c.2.1 ≤ 99) ∧ kz_hg c.2.2.1 0 = some 1 ∧ kz_hg c.2.2.2 0 = some 1 ∧ (∀ t ∈ c.2.2.1, kz_tkC t) ∧ (∀ t ∈ c.2.2.2, kz_tkR t) ∧ ∀ f, kz_run (kz_vC f) c.2.2.1 [] = kz_run (kz_vR f) c.2.2.2 []
def kz_stp (c : kz_C) : List Int := c.2.2.2 ++ [if c.1 = true then -10 - c.2.1 else -200 - c.2.1]
def kz_flR (cls : List kz_C) : List Int := cls.flatMap kz_stp
def kz_sb (s : Nat → Int) (n t j : Int) : Int := if j = 0 then n else if j = 1 then s (Int.toNat (260 + n)) else if j = 2 then s (Int.toNat (250 + n)) else if j = 3 then s (Int.toNat (270 + n)) else t
def kz_f (s : Nat → Int) (n t : Int) : Int → Int → Int → Bool := fun j h v => if h = 0 then decide (kz_sb s n t j < v) else if h = 1 then decide (kz_sb s n t j = v) else decide (v < kz_sb s n t j)
def kz_hc (s : Nat → Int) (n t : Int) (c : kz_C) : Bool := (kz_run (kz_vR (kz_f s n t)) c.2.2.2 []).headD false
def kz_gr (s : Nat → Int) (n t : Int) : List kz_C → Int
  | [] => 0
  | c :: r => (if c.1 = true ∧ kz_hc s n t c = true then c.2.1 else 0) + kz_gr s n t r
def kz_ho (s : Nat → Int) (n t : Int) : List kz_C → Int
  | [] => 0
  | c :: r => (if c.1 = false ∧ kz_hc s n t c = true then c.2.1 else 0) + kz_ho s n t r
def kz_an (s : Nat → Int) (n t : Int) : List kz_C → Bool
  | [] => false
  | c :: r => kz_hc s n t c || kz_an s n t r
def kz_df (j : Int) : Int := if j = 0 then 3 else if j = 3 then 4 else 1
def kz_tl (s : Nat → Int) (j : Int) : Int := if s 4 = -1 then kz_df j else s (Int.toNat (336 + 5 * j + s 4))
/-- is something on: q a day without anything, l how much later the boiler -/
abbrev kz_on (s : Nat → Int) (q l w t : Int) : Prop := q = 0 ∧ 0 ≤ (if w = 0 then t - l else t) ∧ s (Int.toNat (130 + 40 * w + (if w = 0 then t - l else t))) = 1
def kz_wN (s : Nat → Int) (q l : Int) : Nat → Int
  | 0 => 0
  | k + 1 => let w := kz_wN s q l k + (if kz_on s q l 0 (k : Nat) then kz_tl s 0 else -kz_tl s 1)
    if w < 0 then 0 else if 99 < w then 99 else w
/-- the warmth ahead of minute x -/
def kz_w (s : Nat → Int) (q l x : Int) : Int := kz_wN s q l x.toNat
def kz_hd (A : kz_A) (n t : Int) : Int := if kz_ho A.1 n t A.2 < 1 then 1 else kz_ho A.1 n t A.2
def kz_ln (A : kz_A) (q l n t : Int) : Int := kz_w A.1 q l (t + 1) * kz_gr A.1 n t A.2 / 10
def kz_skN (A : kz_A) (q l n : Int) : Nat → Int
  | 0 => 0
  | k + 1 => if 0 < kp_abs (kz_ln A q l n (k : Nat) - kz_skN A q l n k) / kz_hd A n (k : Nat) then kz_ln A q l n (k : Nat) else kz_skN A q l n k
/-- where it sticks ahead of minute x -/
def kz_sk (A : kz_A) (q l n x : Int) : Int := kz_skN A q l n x.toNat
def kz_fr (A : kz_A) (q l n t : Int) : Int := kp_abs (kz_ln A q l n t - kz_sk A q l n t) / kz_hd A n t
def kz_rnN (s : Nat → Int) (q l : Int) (b : Bool) : Nat → Int
  | 0 => 0
  | k + 1 => if decide (kz_on s q l 2 (k : Nat)) = b then kz_rnN s q l b k + 1 else 0
def kz_rn (s : Nat → Int) (q l : Int) (b : Bool) (x : Int) : Int := kz_rnN s q l b x.toNat
def kz_tick (A : kz_A) (q l n t : Int) : Int := if A.1 (Int.toNat (250 + n)) = 4 ∧ kz_w A.1 q l (t + 1) ≤ kz_w A.1 q l t then 0 else if 9 < kz_fr A q l n t then 9 else kz_fr A q l n t
def kz_bef (s : Nat → Int) (q l t : Int) : Prop := 0 < t ∧ kz_on s q l 1 (t - 1)
def kz_kn (A : kz_A) (q l n t : Int) : Int :=
  if A.1 (Int.toNat (250 + n)) = 1 ∨ A.1 (Int.toNat (250 + n)) = 4 then kz_tick A q l n t
  else if A.1 (Int.toNat (250 + n)) = 2 ∨ A.1 (Int.toNat (250 + n)) = 5 then
    (if ¬ kz_on A.1 q l 1 t ∧ (0 < t ∧ kz_on A.1 q l 1 (t - 1)) then A.1 (Int.toNat (270 + n)) else if kz_on A.1 q l 1 t ∧ ¬ (0 < t ∧ kz_on A.1 q l 1 (t - 1)) ∧ A.1 (Int.toNat (250 + n)) = 5 then 1 else 0)
  else if A.1 (Int.toNat (250 + n)) = 3 ∨ A.1 (Int.toNat (250 + n)) = 6 then
    (if (if A.1 (Int.toNat (270 + n)) = 0 then 1 else A.1 (Int.toNat (270 + n))) ≤ kz_rn A.1 q l (decide (A.1 (Int.toNat (250 + n)) = 3)) (t + 1) then 1 else 0)
  else if kz_an A.1 n t A.2 = false ∧ t % 10 = A.1 (Int.toNat (270 + n)) then 1 else 0
abbrev kz_sr (s : Nat → Int) (n : Int) : Prop := s (Int.toNat (250 + n)) = 2 ∨ s (Int.toNat (250 + n)) = 5
def kz_lo (s : Nat → Int) (e n : Int) : Int := if kz_sr s n ∧ 0 < e then (if s (Int.toNat (280 + n)) - e < 1 then 1 else s (Int.toNat (280 + n)) - e) else s (Int.toNat (280 + n))
def kz_ir (s : Nat → Int) (q l e n p t : Int) : Int := if 0 < kz_w s q l (t + 1) ∨ kz_sr s n then kz_lo s e n - 5 - kz_tl s 2 * kp_abs (p - s (Int.toNat (260 + n))) else 0
def kz_ai (s : Nat → Int) (e n p : Int) : Int := kz_lo s e n - kz_tl s 3 * kp_abs (p - s (Int.toNat (260 + n)))
def kz_ld (s : Nat → Int) (q l e n p t : Int) : Int :=
  let m := if kz_ir s q l e n p t < kz_ai s e n p then kz_ai s e n p else kz_ir s q l e n p t
  if m < 0 then 0 else m
/-- what one noise adds at a place in a minute -/
def kz_ad (A : kz_A) (q l e n p t : Int) : Int := if 0 < kz_kn A q l n t ∧ kz_tl A.1 4 ≤ kz_ld A.1 q l e n p t then kz_kn A q l n t else 0
def kz_he (A : kz_A) (q l e z p t : Int) : Int := kp_sm (fun n => if z / 2 ^ (Int.toNat n) % 2 = 1 then kz_ad A q l e n p t else 0) (A.1 0)
def kz_da (A : kz_A) (q l e z p : Int) : Int := kp_sm (fun t => kz_he A q l e z p t) 40
-- what always holds of it
def kz_Is (s : Nat → Int) : Prop :=
  ((0 ≤ s 0 ∧ s 0 ≤ 10) ∧ (0 ≤ s 1 ∧ s 1 ≤ 5) ∧ (0 ≤ s 2 ∧ s 2 ≤ 12) ∧ (0 ≤ s 3 ∧ s 3 ≤ 120) ∧ -1 ≤ s 4 ∧ s 4 < s 1) ∧
  (∀ i, 0 ≤ i → i < s 3 → 0 ≤ s (Int.toNat (10 + i)) ∧ s (Int.toNat (10 + i)) ≤ 255) ∧
  (∀ i, 0 ≤ i → i < 120 → s (Int.toNat (130 + i)) = 0 ∨ s (Int.toNat (130 + i)) = 1) ∧
  (∀ n, 0 ≤ n → n < s 0 → (0 ≤ s (Int.toNat (250 + n)) ∧ s (Int.toNat (250 + n)) ≤ 6) ∧ (0 ≤ s (Int.toNat (260 + n)) ∧ s (Int.toNat (260 + n)) ≤ 9) ∧ (0 ≤ s (Int.toNat (270 + n)) ∧ s (Int.toNat (270 + n)) ≤ 9) ∧ (1 ≤ s (Int.toNat (280 + n)) ∧ s (Int.toNat (280 + n)) ≤ 40) ∧ (s (Int.toNat (290 + n)) = 0 ∨ s (Int.toNat (290 + n)) = 1)) ∧
  (∀ r, 0 ≤ r → r < s 2 → (0 ≤ s (Int.toNat (300 + r)) ∧ s (Int.toNat (300 + r)) ≤ 9) ∧ (0 ≤ s (Int.toNat (312 + r)) ∧ s (Int.toNat (312 + r)) ≤ 39) ∧ (0 ≤ s (Int.toNat (324 + r)) ∧ s (Int.toNat (324 + r)) ≤ 99)) ∧
  (0 ≤ s 4 → ∀ j, 0 ≤ j → j < 5 → 0 ≤ s (Int.toNat (336 + 5 * j + s 4)) ∧ s (Int.toNat (336 + 5 * j + s 4)) ≤ 99)
def kz_arr (s : Nat → Int) : Int → List Int → Prop
  | _, [] => True
  | x, c :: r => s (Int.toNat x) = c ∧ kz_arr s (x + 1) r
def kz_Ic (A : kz_A) : Prop :=
  A.2.length ≤ 10 ∧ (∀ c ∈ A.2, kz_wfc c) ∧ (A.1 4 = -1 → A.2 = []) ∧
  (0 ≤ A.1 4 → A.1 (Int.toNat (361 + A.1 4)) = ((kz_flR A.2).length : Int) ∧ (kz_flR A.2).length ≤ 120 ∧ kz_arr A.1 (366 + 140 * A.1 4) (kz_flR A.2))
def kz_I (A : kz_A) : Prop := kz_Is A.1 ∧ kz_Ic A
