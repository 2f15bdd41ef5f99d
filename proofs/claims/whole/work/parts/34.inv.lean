/-! ===== paths through the cells with dots ===== -/
def thinL (w : Nat) (n : Int) (l : List Nat) : List Nat := l.foldl (fun k c => if k.all (fun o => !decide (farM w o c < n)) then k ++ [c] else k) []
/-- the nearest of those that aren't in k yet -/
def tnx (w : Nat) (p : Nat → Bool) (k : List Nat) (a n : Nat) : Int := argB (fun c => p c && !(k.contains c)) (fun c b => decide (farM w c a < farM w b a)) n
def tourN (w : Nat) (p : Nat → Bool) (n : Nat) : Nat → List Nat
  | 0 => []
  | k + 1 => let l := tourN w p n k; let c := match l.getLast? with
      | none => argB p (fun _ _ => false) n
      | some a => tnx w p l a n
    if c = -1 then l else l ++ [c.toNat]
def wayL (w : Nat) : List Nat → Int
  | a :: b :: l => farM w b a + wayL w (b :: l)
  | _ => 0
def handM (w a b c : Nat) : Int := (((b % w : Nat) : Int) - ((a % w : Nat) : Int)) * (((c / w : Nat) : Int) - ((a / w : Nat) : Int)) - (((b / w : Nat) : Int) - ((a / w : Nat) : Int)) * (((c % w : Nat) : Int) - ((a % w : Nat) : Int))
/-- the next corner of the hull behind a -/
def hnx (w : Nat) (p : Nat → Bool) (a n : Nat) : Int := argB (fun c => p c && !(c == a)) (fun c b => decide (handM w a b c < 0 ∨ handM w a b c = 0 ∧ farM w b a < farM w c a)) n
def hullN (w : Nat) (p : Nat → Bool) (n : Nat) : Nat → List Nat
  | 0 => []
  | k + 1 => let l := hullN w p n k; let f := argB p (fun _ _ => false) n; let c := match l.getLast? with
      | none => f
      | some a => let q := hnx w p a n; if q = f then -1 else q
    if c = -1 then l else l ++ [c.toNat]
abbrev dotP (M : MS) (l : Nat) : Nat → Bool := fun c => decide (0 < togM M l c)
/-- kind 0: those kept, 1: a tour, 2: a hull -/
def pthM (M : MS) (k l : Nat) (n : Int) : List Nat := match k with
  | 0 => thinL (mW M) n (sptM M l)
  | 1 => tourN (mW M) (dotP M l) (nC M) (nC M)
  | _ => hullN (mW M) (dotP M l) (nC M) (nC M)
/-- cells of the zones ahead -/
def fstM (M : MS) : Nat → Int := sumTo (ldM M)
/-! ===== what holds between the calls: the class ===== -/
def ChartRep (D : DT) (hc : Nat) (M : MS) : Prop :=
  CMap D hc (mW M) (mH M) (mO M) (mS M) ∧ (D.1 hc 2 = (mZ M : Int) ∧ D.1 hc 3 = (mG M : Int)) ∧ (∀ k, (k % 3 < mG M ∧ k / 3 < mZ M) → D.2 (hc + 5) k = mP M k) ∧ ∀ z, z < mZ M → D.2 (hc + 7) z = (mNL M z : Int) ∧ ∀ k, k < mNL M z → D.2 (hc + 6) (6 * z + k) = mN M (6 * z + k)
def ChartRng (D : DT) (hc : Nat) : Prop := (∀ c, c < 384 → D.2 (hc + 2) c = 0 ∨ D.2 (hc + 2) c = 1) ∧ ∀ k, k < 48 → -128 ≤ D.2 (hc + 6) k ∧ D.2 (hc + 6) k ≤ 127
def TallyRep (D : DT) (t : Nat) (M : MS) : Prop :=
  (∀ z, z < 8 → D.2 (t + 1) z = ldM M z) ∧ (D.1 t 2 = (mZ M : Int) ∧ D.1 t 3 = (mG M : Int)) ∧
  (∀ l g z, l < 5 → g < mG M → z < mZ M → D.2 (t + 2) ((l * 3 + g) * 8 + z) = dotM M (mU M) g l z ∧ D.2 (t + 3) ((l * 3 + g) * 8 + z) = carM M g l z) ∧ ∀ l g, l < 5 → g < mG M → D.2 (t + 4) (l * 3 + g) = carM M g l (mZ M)
def RanksOf (D : DT) (r : Nat) (M : MS) (z : Nat) : Prop := ∀ c, c < nC M → isL M (z : Int) c = true → D.2 (r + 1) c = plcM M c
def RanksAll (D : DT) (r : Nat) (M : MS) : Prop := (∀ c, c < nC M → D.2 (r + 1) c = plcM M c) ∧ (∀ z, z < mZ M → D.2 (r + 3) z = fstM M z) ∧ ∀ z, z < mZ M → ∀ i (hi : i < (ordL M (z : Int)).length), D.2 (r + 2) ((fstM M z).toNat + i) = ((ordL M (z : Int))[i] : Int)
def RanksRep (D : DT) (r : Nat) (M : MS) : Prop := (∀ z, z < 8 → D.2 (r + 4) z = 0 ∨ D.2 (r + 4) z = 1) ∧ (D.1 r 4 = 0 ∨ D.1 r 4 = 1) ∧ (∀ z, z < mZ M → D.2 (r + 4) z = 1 → RanksOf D r M z) ∧ (D.1 r 4 = 1 → RanksAll D r M)
def CrowdAt (D : DT) (k : Nat) (M : MS) (l : Nat) : Prop :=
  D.1 k 1 = (nC M : Int) ∧ (∀ c g, c < nC M → g < 3 → D.2 (k + 1) (g * 384 + c) = crwM M l c g) ∧ (∀ c, c < nC M → D.2 (k + 2) c = togM M l c) ∧ D.1 k 5 = ((sptM M l).length : Int) ∧ ∀ i (hi : i < (sptM M l).length), D.2 (k + 3) i = ((sptM M l)[i] : Int)
def CrowdRep (D : DT) (k : Nat) (M : MS) : Prop := D.1 k 0 = -1 ∨ ∃ l : Nat, l < 5 ∧ D.1 k 0 = (l : Int) ∧ CrowdAt D k M l
def PathAt (D : DT) (M : MS) (k l : Nat) (n : Int) : Prop :=
  D.1 70 0 = ((pthM M k l n).length : Int) ∧ (∀ i (hi : i < (pthM M k l n).length), D.2 71 i = ((pthM M k l n)[i] : Int)) ∧ (k = 1 → D.1 70 1 = wayL (mW M) (pthM M k l n))
def PathRep (D : DT) (M : MS) : Prop := D.1 70 5 = -1 ∨ ∃ (k l : Nat) (n : Int), k < 3 ∧ l < 5 ∧ (0 ≤ n ∧ n ≤ 999) ∧ D.1 70 5 = (k : Int) ∧ D.1 70 6 = (l : Int) ∧ D.1 70 7 = n ∧ PathAt D M k l n
/-- all but what is reckoned when asked for -/
def CBase (D : DT) (M : MS) : Prop :=
  ChartRep D 2 M ∧ (ChartRng D 2 ∧ ChartRng D 56) ∧ (D.1 1 1 = mU M ∧ D.1 1 2 = mF M ∧ D.1 0 3 = mX M) ∧ (D.1 55 0 = (mTL M : Int) ∧ ∀ k, k < mTL M → D.2 64 k = mT M k) ∧ (D.1 65 0 = (mWL M : Int) ∧ ∀ k, k < mWL M → D.2 66 k = mWT M k)
/-- what is reckoned when asked for: of the plan at p -/
def CCache (D : DT) (p : Nat) (M : MS) : Prop := (D.1 (p + 9) 0 = 0 ∨ (D.1 (p + 9) 0 = 1 ∧ TallyRep D (p + 9) M)) ∧ RanksRep D (p + 14) M ∧ CrowdRep D (p + 22) M
def CInv (D : DT) (M : MS) : Prop := MOK M ∧ CBase D M ∧ CCache D 1 M ∧ PathRep D M
/-! the reference -/
def OrdRep (D : DT) (M : MS) : Prop := (∀ z, z ≤ mZ M → D.2 87 z = fstM M z) ∧ (∀ z, z < mZ M → ∀ i (hi : i < (ordL M (z : Int)).length), D.2 86 ((fstM M z).toNat + i) = ((ordL M (z : Int))[i] : Int)) ∧ ∀ c, c < nC M → D.2 88 c = plcM M c
def RInv (D : DT) (M : MS) : Prop :=
  MOK M ∧ (RMap D (mW M) (mH M) (mO M) (mS M) ∧ D.2 76 2 = (mZ M : Int) ∧ D.2 76 3 = (mG M : Int)) ∧ (∀ k, k < 24 → D.2 82 k = mP M k) ∧ (∀ z, z < mZ M → ∀ k, k < 6 → D.2 84 (6 * z + k) = if k < mNL M z then mN M (6 * z + k) else 0) ∧
  (D.1 73 14 = mU M ∧ D.1 73 15 = mF M ∧ D.1 73 20 = mX M) ∧ (D.1 73 2 = (mTL M : Int) ∧ ∀ k, k < mTL M → D.2 74 k = mT M k) ∧ (D.1 73 40 = (mWL M : Int) ∧ ∀ k, k < mWL M → D.2 101 k = mWT M k) ∧ (∀ k, k < 48 → -128 ≤ D.2 85 k ∧ D.2 85 k ≤ 127) ∧ OrdRep D M
theorem RInv.keep {D D' : DT} {M : MS} (h : RInv D M) (hA : ∀ a ∈ [74, 76, 78, 80, 82, 84, 85, 86, 87, 88, 101], D'.2 a = D.2 a) (hF : ∀ k ∈ [2, 14, 15, 20, 40], D'.1 73 k = D.1 73 k) : RInv D' M := by
  have e74 := hA 74 (by decide)
  have e76 := hA 76 (by decide)
  have e78 := hA 78 (by decide)
  have e80 := hA 80 (by decide)
  have e82 := hA 82 (by decide)
  have e84 := hA 84 (by decide)
  have e85 := hA 85 (by decide)
  have e86 := hA 86 (by decide)
  have e87 := hA 87 (by decide)
  have e88 := hA 88 (by decide)
  have e101 := hA 101 (by decide)
  have f2 := hF 2 (by decide)
  have f14 := hF 14 (by decide)
  have f15 := hF 15 (by decide)
  have f20 := hF 20 (by decide)
  have f40 := hF 40 (by decide)
  unfold RInv RMap OrdRep at *
  rw [e74, e76, e78, e80, e82, e84, e85, e86, e87, e88, e101, f2, f14, f15, f20, f40]
  exact h
theorem RInv.frC {D D' : DT} {M : MS} (h : RInv D M) (f : FrC D D') : RInv D' M := h.keep (fun a ha => (f a (by simp only [List.mem_cons, List.not_mem_nil, or_false] at ha; omega)).2) (fun k _ => by rw [(f 73 (by omega)).1])
theorem CInv.frR {D D' : DT} {M : MS} (h : CInv D M) (f : ∀ a, a < 73 → D'.1 a = D.1 a ∧ D'.2 a = D.2 a) : CInv D' M := by
  obtain ⟨h1, h2, h3, h4⟩ := h
  refine ⟨h1, ?_, ?_, ?_⟩
  · unfold CBase ChartRep ChartRng CMap at *
    simp only [(f 0 (by omega)).1, (f 1 (by omega)).1, (f 2 (by omega)).1, (f 55 (by omega)).1, (f 65 (by omega)).1, (f (2 + 1) (by omega)).2, (f (2 + 2) (by omega)).2, (f (2 + 3) (by omega)).2, (f (2 + 4) (by omega)).2, (f (2 + 5) (by omega)).2, (f (2 + 6) (by omega)).2, (f (2 + 7) (by omega)).2, (f (56 + 2) (by omega)).2, (f (56 + 6) (by omega)).2, (f 64 (by omega)).2, (f 66 (by omega)).2]
    exact h2
  · unfold CCache TallyRep RanksRep RanksOf RanksAll CrowdRep CrowdAt at *
    simp only [(f (1 + 9) (by omega)).1, (f (1 + 14) (by omega)).1, (f (1 + 22) (by omega)).1, (f (1 + 9 + 1) (by omega)).2, (f (1 + 9 + 2) (by omega)).2, (f (1 + 9 + 3) (by omega)).2, (f (1 + 9 + 4) (by omega)).2, (f (1 + 14 + 1) (by omega)).2, (f (1 + 14 + 2) (by omega)).2, (f (1 + 14 + 3) (by omega)).2, (f (1 + 14 + 4) (by omega)).2, (f (1 + 22 + 1) (by omega)).2, (f (1 + 22 + 2) (by omega)).2, (f (1 + 22 + 3) (by omega)).2]
    exact h3
  · unfold PathRep PathAt at *
    simp only [(f 70 (by omega)).1, (f 71 (by omega)).2]
    exact h4
/-- both sides tell the same map -/
def Good (D : DT) : Prop := ∃ M, CInv D M ∧ RInv D M
