/-! THE GRAMMAR OF A LAW: one reader for both. A thing read is (its code, its worth, its height on the stack) -/
abbrev Ex := List (Int × Int) × ((Nat → Int) → Int) × Nat
def bdd (v : Int) : Int := max (-1000000) (min 1000000 v)
def jn (o l r : Int) : Int := if o = 2 then bdd (l + r) else if o = 3 then bdd (l - r) else if o = 4 then bdd (l * r) else if o = 5 then (if r = 0 then 0 else Int.tdiv l r) else if o = 6 then (if l = r then 1 else 0) else if o = 7 then (if l < r then 1 else 0) else if o = 8 then (if r < l then 1 else 0) else if o = 10 then (if l ≠ 0 ∧ r ≠ 0 then 1 else 0) else (if l ≠ 0 ∨ r ≠ 0 then 1 else 0)
def xnum (v : Int) : Ex := ([(0, v)], fun _ => v, 1)
def xlet (k : Int) : Ex := ([(1, k)], fun lt => lt k.toNat, 1)
def xbin (o : Int) (a b : Ex) : Ex := (a.1 ++ b.1 ++ [(o, 0)], fun lt => jn o (a.2.1 lt) (b.2.1 lt), max a.2.2 (b.2.2 + 1))
def xnot (a : Ex) : Ex := (a.1 ++ [(9, 0)], fun lt => 1 - a.2.1 lt, a.2.2)
def oPm (c : Int) : Int := if c = 43 then 2 else if c = 45 then 3 else 0
def oTd (c : Int) : Int := if c = 42 then 4 else if c = 47 then 5 else 0
def oCm (c : Int) : Int := if c = 61 then 6 else if c = 60 then 7 else if c = 62 then 8 else 0
def oAn (c : Int) : Int := if c = 38 then 10 else 0
def oOr (c : Int) : Int := if c = 124 then 11 else 0
def ltr (c : Int) : Int := if c = 100 then 0 else if c = 119 then 1 else if c = 103 then 2 else if c = 107 then 3 else if c = 104 then 4 else if c = 102 then 5 else if c = 109 then 6 else if c = 99 then 7 else -1
section P61
variable (T : Nat → Int) (n : Nat)
/-- more of the same, parted by signs -/
def chn (op : Int → Int) (at' : Nat → Rs Ex) : Nat → Ex → Nat → Rs Ex
  | 0, e, p => .inl (e, bl T n p)
  | f + 1, e, p => if op (ch T n (bl T n p)) = 0 then .inl (e, bl T n p) else match at' (bl T n p + 1) with
    | .inl z => chn op at' f (xbin (op (ch T n (bl T n p))) e z.1) z.2
    | .inr w => .inr w
def sq1 (op : Int → Int) (at' : Nat → Rs Ex) (p : Nat) : Rs Ex := match at' p with
  | .inl z => chn T n op at' 240 z.1 z.2
  | .inr w => .inr w
/-- a thing in brackets, from after the opening one -/
def inb (s : Nat → Rs Ex) (c : Int) (p : Nat) : Rs Ex := match s p with
  | .inl z => if ch T n (bl T n z.2) = c then .inl (z.1, bl T n z.2 + 1) else .inr (bl T n z.2)
  | .inr w => .inr w
def atm (inn : Nat → Rs Ex) (p : Nat) : Rs Ex := if ch T n (bl T n p) = 91 then inn p else if ltr (ch T n (bl T n p)) ≠ -1 then .inl (xlet (ltr (ch T n (bl T n p))), bl T n p + 1) else match numb T n 4 9999 p with
  | .inl z => .inl (xnum z.1, z.2)
  | .inr w => .inr w
/-- a fault at the next sign -/
def flt (p : Nat) : Rs Ex := .inr (bl T n p)
def gTm (inn : Nat → Rs Ex) : Nat → Rs Ex := sq1 T n oTd (atm T n inn)
/-- a sum, j brackets may still be opened -/
def gSm : Nat → Nat → Rs Ex
  | 0 => sq1 T n oPm (gTm T n (flt T n))
  | j + 1 => sq1 T n oPm (gTm T n (fun p => inb T n (gSm j) 93 (bl T n p + 1)))
/-- a comparison, its first sum is read -/
def gCm (sum : Nat → Rs Ex) (e : Ex) (p : Nat) : Rs Ex := if oCm (ch T n (bl T n p)) = 0 then .inr (bl T n p) else match sum (bl T n p + 1) with
  | .inl z => .inl (xbin (oCm (ch T n (bl T n p))) e z.1, z.2)
  | .inr w => .inr w
def gCd (u : Nat → Rs Ex) : Nat → Rs Ex := sq1 T n oOr (sq1 T n oAn u)
def gNt (u : Nat → Rs Ex) (p : Nat) : Rs Ex := match u (bl T n p + 1) with
  | .inl z => .inl (xnot z.1, z.2)
  | .inr w => .inr w
def unt (nn pp sum : Nat → Rs Ex) (p : Nat) : Rs Ex := if ch T n (bl T n p) = 33 then nn p else if ch T n (bl T n p) = 40 then pp p else match sum p with
  | .inl z => gCm T n sum z.1 z.2
  | .inr w => .inr w
def gUn : Nat → Nat → Rs Ex
  | 0 => unt T n (flt T n) (flt T n) (gSm T n 0)
  | j + 1 => unt T n (gNt T n (gUn j)) (fun p => inb T n (gCd T n (gUn j)) 41 (bl T n p + 1)) (gSm T n (j + 1))
/-- the sum behind a condition -/
def gRs (e : Ex) (p : Nat) : Rs (Option Ex × Ex) := if ch T n (bl T n p) = 63 then (match gSm T n 6 (bl T n p + 1) with
  | .inl z => .inl ((some e, z.1), z.2)
  | .inr w => .inr w) else .inr (bl T n p)
/-- a condition whose first sum is read -/
def gCb (e : Ex) (p : Nat) : Rs Ex := match gCm T n (gSm T n 6) e p with
  | .inl z => (match chn T n oAn (gUn T n 6) 240 z.1 z.2 with
    | .inl y => chn T n oOr (sq1 T n oAn (gUn T n 6)) 240 y.1 y.2
    | .inr w => .inr w)
  | .inr w => .inr w
def gBd (p : Nat) : Rs (Option Ex × Ex) := if ch T n (bl T n p) = 33 ∨ ch T n (bl T n p) = 40 then (match gCd T n (gUn T n 6) p with
  | .inl z => gRs T n z.1 z.2
  | .inr w => .inr w) else match gSm T n 6 p with
  | .inl z => if oCm (ch T n (bl T n z.2)) = 0 then .inl ((none, z.1), bl T n z.2) else (match gCb T n z.1 z.2 with
    | .inl y => gRs T n y.1 y.2
    | .inr w => .inr w)
  | .inr w => .inr w
def gCl (p : Nat) : Rs (Option Ex × Ex) := if ch T n (bl T n p) = 121 then (if ch T n (bl T n (bl T n p + 1)) = 58 then gBd T n (bl T n (bl T n p + 1) + 1) else .inr (bl T n (bl T n p + 1))) else .inr (bl T n p)
def gLs : Nat → List (Option Ex × Ex) → Nat → Rs (List (Option Ex × Ex))
  | 0, l, p => .inl (l, bl T n p)
  | f + 1, l, p => if ch T n (bl T n p) = 59 then (match gCl T n (bl T n p + 1) with
    | .inl z => gLs f (l ++ [z.1]) z.2
    | .inr w => .inr w) else .inl (l, bl T n p)
def gLw : Rs (List (Option Ex × Ex)) := match gCl T n 0 with
  | .inl z => (match gLs T n 240 [z.1] z.2 with
    | .inl y => if ch T n (bl T n y.2) = -1 then .inl (y.1, bl T n y.2) else .inr (bl T n y.2)
    | .inr w => .inr w)
  | .inr w => .inr w
end P61
/-- what a law is worth -/
def lwv : List (Option Ex × Ex) → (Nat → Int) → Int
  | [], _ => 0
  | (none, s) :: _, lt => s.2.1 lt
  | (some c, s) :: r, lt => if c.2.1 lt ≠ 0 then s.2.1 lt else lwv r lt
/-- letters as they may be -/
def LtO (lt : Nat → Int) : Prop := ∀ j, j < 8 → 0 ≤ lt j ∧ lt j ≤ 999
/-- a good thing: its worth is no more than a million; q: it is a truth -/
def Xg (e : Ex) (h : Nat) (q : Prop) : Prop := e.2.2 ≤ h ∧ 1 ≤ e.1.length ∧ (∀ lt, LtO lt → -1000000 ≤ e.2.1 lt ∧ e.2.1 lt ≤ 1000000) ∧ (q → ∀ lt, LtO lt → e.2.1 lt = 0 ∨ e.2.1 lt = 1)
/-- a good reader -/
def Gd (n : Nat) (g : Nat → Rs Ex) (h : Nat) (q : Prop) : Prop := ∀ p, p ≤ n → match g p with
  | .inl z => z.2 ≤ n ∧ p + z.1.1.length ≤ z.2 ∧ Xg z.1 h q
  | .inr w => w ≤ n
theorem jn_r {o l r : Int} (hl : -1000000 ≤ l ∧ l ≤ 1000000) : -1000000 ≤ jn o l r ∧ jn o l r ≤ 1000000 := by
  unfold jn bdd
  have t : ∀ r : Int, -1000000 ≤ Int.tdiv l r ∧ Int.tdiv l r ≤ 1000000 := fun r => by
    have h := Int.natAbs_tdiv_le_natAbs l r
    omega
  have t := t r
  split
  · omega
  split
  · omega
  split
  · omega
  split
  · split <;> omega
  split
  · split <;> omega
  split
  · split <;> omega
  split
  · split <;> omega
  split
  · split <;> omega
  split <;> omega
theorem jn_t {o l r : Int} (ho : 6 ≤ o) : jn o l r = 0 ∨ jn o l r = 1 := by
  unfold jn
  rw [if_neg (by omega), if_neg (by omega), if_neg (by omega), if_neg (by omega)]
  split
  · split <;> omega
  split
  · split <;> omega
  split
  · split <;> omega
  split
  · split <;> omega
  split <;> omega
theorem Xg_bin {a b : Ex} {ha hb h : Nat} {q1 q2 q : Prop} {o : Int} (x : Xg a ha q1) (y : Xg b hb q2) (h1 : ha ≤ h) (h2 : hb + 1 ≤ h) (hq : q → 6 ≤ o) : Xg (xbin o a b) h q := by
  refine ⟨?_, ?_, fun lt hl => jn_r (x.2.2.1 lt hl), fun g lt hl => jn_t (hq g)⟩
  · show max a.2.2 (b.2.2 + 1) ≤ h
    have := x.1
    have := y.1
    omega
  · show 1 ≤ (a.1 ++ b.1 ++ [(o, 0)]).length
    simp only [List.length_append, List.length_cons, List.length_nil]; omega
theorem xbin_len {o : Int} {a b : Ex} : (xbin o a b).1.length = a.1.length + b.1.length + 1 := by
  show (a.1 ++ b.1 ++ [(o, 0)]).length = _
  simp only [List.length_append, List.length_cons, List.length_nil]
