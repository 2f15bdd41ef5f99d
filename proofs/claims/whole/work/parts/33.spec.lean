/-! ===== what the map is, and what is asked of it ===== -/
/-- width, height, zones, groups; owners, sea; people, names' lengths, letters; unit, factor, fault; the tape; what was written -/
abbrev MS : Type := (Nat × Nat × Nat × Nat) × ((Nat → Int) × (Nat → Int)) × ((Nat → Int) × (Nat → Nat) × (Nat → Int)) × (Int × Int × Int) × (Nat × (Nat → Int)) × (Nat × (Nat → Int))
abbrev mW (M : MS) : Nat := M.1.1
abbrev mH (M : MS) : Nat := M.1.2.1
abbrev mZ (M : MS) : Nat := M.1.2.2.1
abbrev mG (M : MS) : Nat := M.1.2.2.2
abbrev mO (M : MS) : Nat → Int := M.2.1.1
abbrev mS (M : MS) : Nat → Int := M.2.1.2
abbrev mP (M : MS) : Nat → Int := M.2.2.1.1
abbrev mNL (M : MS) : Nat → Nat := M.2.2.1.2.1
abbrev mN (M : MS) : Nat → Int := M.2.2.1.2.2
abbrev mU (M : MS) : Int := M.2.2.2.1.1
abbrev mF (M : MS) : Int := M.2.2.2.1.2.1
abbrev mX (M : MS) : Int := M.2.2.2.1.2.2
abbrev mTL (M : MS) : Nat := M.2.2.2.2.1.1
abbrev mT (M : MS) : Nat → Int := M.2.2.2.2.1.2
abbrev mWL (M : MS) : Nat := M.2.2.2.2.2.1
abbrev mWT (M : MS) : Nat → Int := M.2.2.2.2.2.2
abbrev nC (M : MS) : Nat := mW M * mH M
def MOK (M : MS) : Prop :=
  ((mW M = 0 ∧ mH M = 0) ∨ (2 ≤ mW M ∧ 2 ≤ mH M)) ∧ (mW M ≤ 24 ∧ mH M ≤ 16) ∧ mZ M ≤ 8 ∧ (1 ≤ mG M ∧ mG M ≤ 3) ∧ MapOK (mW M) (mH M) (mZ M) (mO M) (mS M) ∧
  (∀ k, k < 24 → 0 ≤ mP M k ∧ mP M k ≤ 99999) ∧ (∀ z, z < mZ M → 1 ≤ mNL M z ∧ mNL M z ≤ 6 ∧ ∀ k, k < mNL M z → 97 ≤ mN M (6 * z + k) ∧ mN M (6 * z + k) ≤ 122) ∧
  ((1 ≤ mU M ∧ mU M ≤ 9999) ∧ (2 ≤ mF M ∧ mF M ≤ 10) ∧ (-1 ≤ mX M ∧ mX M ≤ 400)) ∧ (mTL M ≤ 400 ∧ ∀ k, k < mTL M → -128 ≤ mT M k ∧ mT M k ≤ 127) ∧ (mWL M ≤ 1600 ∧ ∀ k, k < mWL M → -128 ≤ mWT M k ∧ mWT M k ≤ 127)
/-- land of a zone; land -/
def isL (M : MS) (z : Int) (c : Nat) : Bool := mO M c == z && mS M c == 0
def hasL (M : MS) (c : Nat) : Bool := mO M c != -1 && mS M c == 0
def lnd (M : MS) (z : Int) : Int := sumTo (fun c => b2i (mO M c = z ∧ mS M c = 0)) (nC M)
/-- the first cell below n with p that none of those is better than -/
def argB (p : Nat → Bool) (bt : Nat → Nat → Bool) (n : Nat) : Int := foldTo (fun b c => if p c && (b == -1 || bt c b.toNat) then (c : Int) else b) (-1) n
def sumFar (M : MS) (z : Int) (c : Nat) : Int := sumTo (fun o => if isL M z o then farM (mW M) c o else 0) (nC M)
def midM (M : MS) (z : Int) : Int := argB (isL M z) (fun c b => decide (sumFar M z c < sumFar M z b)) (nC M)
def gapM (w : Nat) (l : List Nat) (c : Nat) : Int := l.foldl (fun g o => min g (farM w c o)) 1000
def nxtM (M : MS) (z : Int) (l : List Nat) : Int := argB (fun c => isL M z c && !(l.contains c)) (fun c b => decide (gapM (mW M) l b < gapM (mW M) l c)) (nC M)
def ordN (M : MS) (z : Int) : Nat → List Nat
  | 0 => []
  | k + 1 => let l := ordN M z k; let c := if l.isEmpty then midM M z else nxtM M z l; if c = -1 then l else l ++ [c.toNat]
/-- THE ORDER of a zone -/
def ordL (M : MS) (z : Int) : List Nat := ordN M z (nC M)
/-- where a cell stands in it -/
def plcM (M : MS) (c : Nat) : Int := if hasL M c then ((ordL M (mO M c)).idxOf c : Int) else -1
/-- what is carried to a zone, and its dots: of what comes to each (a), with land (ld), one for s -/
def cry (a ld : Nat → Int) (s : Int) : Nat → Int
  | 0 => 0
  | z + 1 => if ld z = 0 then cry a ld s z + a z else (cry a ld s z + a z) % s
def dts (a ld : Nat → Int) (s : Int) (z : Nat) : Int := if ld z = 0 then 0 else (cry a ld s z + a z) / s
def ldM (M : MS) : Nat → Int := fun z => lnd M (z : Int)
/-- dots by level, zone; of a group -/
def dotM (M : MS) (u : Int) (g : Nat) : Nat → Nat → Int
  | 0 => dts (fun z => mP M (3 * z + g)) (ldM M) u
  | l + 1 => dts (dotM M u g l) (ldM M) (mF M)
def inM (M : MS) (u : Int) (g : Nat) : Nat → Nat → Int
  | 0 => fun z => mP M (3 * z + g)
  | l + 1 => dotM M u g l
def szM (M : MS) (u : Int) : Nat → Int
  | 0 => u
  | _ + 1 => mF M
/-- what is carried to a zone -/
def carM (M : MS) (g l z : Nat) : Int := cry (inM M (mU M) g l) (ldM M) (szM M (mU M) l) z
/-- how many dots of a group stand on a cell -/
def crwM (M : MS) (l c g : Nat) : Int := if hasL M c ∧ g < mG M then sumTo (fun k => b2i ((((k * mG M + g : Nat) : Int) % lnd M (mO M c)) = plcM M c)) (dotM M (mU M) g l (mO M c).toNat).toNat else 0
def togM (M : MS) (l c : Nat) : Int := crwM M l c 0 + crwM M l c 1 + crwM M l c 2
/-- the cells with dots -/
def sptM (M : MS) (l : Nat) : List Nat := (List.range (nC M)).filter (fun c => decide (0 < togM M l c))
