/-! what a row of the reference says -/
abbrev Rw : Type := Nat → Int
def wLim (w : Rw) (d : Int) : Int := w (10 + d).toNat
def wWho (w : Rw) (k : Int) : Int := w (20 + k).toNat
def wFr (w : Rw) (k : Int) : Int := w (51 + k).toNat
def wTo (w : Rw) (k : Int) : Int := w (82 + k).toNat
def wDay (w : Rw) (g : Int) : Int := w (113 + g).toNat
def wAm (w : Rw) (g : Int) : Int := w (173 + g).toNat
def wGot (w : Rw) (g : Int) : Int := w (233 + g).toNat
def wMany (w : Rw) (g : Int) : Int := w (293 + g).toNat
def wBack (w : Rw) (g : Int) : Int := w (353 + g).toNat
def wPd (w : Rw) (p : Int) : Int := w (413 + p).toNat
def wPa (w : Rw) (p : Int) : Int := w (593 + p).toNat
def wPb (w : Rw) (p : Int) : Int := w (773 + p).toNat
def wPc (w : Rw) (p : Int) : Int := w (953 + p).toNat
def wCl (w : Rw) (c q : Int) : Int := w (1133 + 5 * c + q).toNat
def partB (w : Rw) (p : Int) : Bool := decide (p % 3 < wMany w (p / 3)) && decide (p / 3 < w 2)
def spoB (w : Rw) (g : Int) : Bool := decide (w 7 * wAm w g < wGot w g * 100)
def onB (w : Rw) (k d day : Int) : Bool := decide (wWho w k = d) && (decide (wFr w k ≤ day) && decide (day ≤ wTo w k))
def forB (w : Rw) (d day : Int) : Bool := anyN (fun k => onB w k d day) (w 1).toNat
def yrS (w : Rw) (g : Int) : Int := wDay w g / 365
def leftS (w : Rw) (p : Int) : Int := wPa w p - wPb w p
def fullS (w : Rw) (p : Int) : Int := leftS w p * w 5 / 100
def openS (w : Rw) (p : Int) : Int := if spoB w (p / 3) = true then 0 else fullS w p
def wishS (w : Rw) (p : Int) : Int := if forB w (wPd w p) (wDay w (p / 3)) = true then openS w p else 0
/-- the wish of a donor in a gift: that of its part -/
def wishD (w : Rw) (d g : Int) : Int := sumN (fun i => if wPd w (3 * g + i) = d then wishS w (3 * g + i) else 0) (wMany w g).toNat
def ordS (w : Rw) (i : Nat) : Int := ordA (wDay w) (w 2).toNat i
/-- what is used of a donor's limit in a year behind the first i gifts -/
def usS (w : Rw) (d y : Int) (i : Nat) : Int := usedS (ordS w) (yrS w) (wishD w d) (wLim w d) y i
/-- the aid of the part p, whose gift stands at place i of the order -/
def aidP (w : Rw) (i : Nat) (p : Int) : Int := min (wishS w p) (wLim w (wPd w p) - usS w (wPd w p) (yrS w (p / 3)) i)
/-- the place of a gift in the order -/
def plcS (w : Rw) (g : Int) : Nat := (sumN (fun i => if ordS w i.toNat = g then i else 0) (w 2).toNat).toNat
def aidS (w : Rw) (p : Int) : Int := aidP w (plcS w (p / 3)) p
/-! what holds of every row: numbers in range, parts that are parts -/
def WFn (w : Rw) : Prop := ∀ i : Nat, i < 1233 → rng (w i)
def WFa (w : Rw) : Prop := (0 ≤ w 0 ∧ w 0 ≤ 10) ∧ (0 ≤ w 1 ∧ w 1 ≤ 31) ∧ (0 ≤ w 2 ∧ w 2 ≤ 60) ∧ (0 ≤ w 4 ∧ w 4 ≤ 20) ∧ (0 ≤ w 5 ∧ w 5 ≤ 100) ∧ (0 ≤ w 6 ∧ w 6 ≤ 9999) ∧ (0 ≤ w 7 ∧ w 7 ≤ 100)
def WFd (w : Rw) : Prop := ∀ d : Int, 0 ≤ d → d < w 0 → 0 ≤ wLim w d ∧ wLim w d ≤ 999999
def WFk (w : Rw) : Prop := ∀ k : Int, 0 ≤ k → k < w 1 → 0 ≤ wWho w k ∧ wWho w k < w 0 ∧ 0 ≤ wFr w k ∧ wFr w k ≤ 9999 ∧ -1 ≤ wTo w k ∧ wTo w k ≤ 9999
def WFg (w : Rw) : Prop := ∀ g : Int, 0 ≤ g → g < w 2 → 0 ≤ wDay w g ∧ wDay w g ≤ 9999 ∧ 1 ≤ wAm w g ∧ wAm w g ≤ 999999 ∧ 0 ≤ wGot w g ∧ wGot w g ≤ 999999 ∧ 0 ≤ wMany w g ∧ wMany w g ≤ 3 ∧ 0 ≤ wBack w g ∧ wBack w g ≤ wAm w g
def WFp (w : Rw) : Prop := ∀ g i : Int, 0 ≤ g → g < w 2 → 0 ≤ i → i < wMany w g → 0 ≤ wPd w (3 * g + i) ∧ wPd w (3 * g + i) < w 0 ∧ 0 ≤ wPb w (3 * g + i) ∧ wPb w (3 * g + i) ≤ wPa w (3 * g + i) ∧ wPa w (3 * g + i) ≤ 999999 ∧ 0 ≤ wPc w (3 * g + i) ∧ wPc w (3 * g + i) ≤ 999999
def WFx (w : Rw) : Prop := ∀ g i j : Int, 0 ≤ g → g < w 2 → 0 ≤ i → i < j → j < wMany w g → wPd w (3 * g + i) ≠ wPd w (3 * g + j)
def WFs (w : Rw) : Prop := ∀ g : Int, 0 ≤ g → g < w 2 → 0 < wMany w g → sumN (fun i => wPa w (3 * g + i)) (wMany w g).toNat = wAm w g ∧ sumN (fun i => wPb w (3 * g + i)) (wMany w g).toNat = wBack w g
def WFc (w : Rw) : Prop := ∀ c : Int, 0 ≤ c → c < w 4 → 0 ≤ wCl w c 0 ∧ wCl w c 0 ≤ 9999
def WF (w : Rw) : Prop := WFn w ∧ WFa w ∧ WFd w ∧ WFk w ∧ WFg w ∧ WFp w ∧ WFx w ∧ WFs w ∧ WFc w
/-! the register's ledger, as the row says it -/
def LRa (V : Sz) (w : Rw) : Prop := V 0 0 = w 5 ∧ V 1 0 = w 6 ∧ V 2 0 = w 7 ∧ V 3 0 = w 0 ∧ V 5 0 = w 1 ∧ V 9 0 = w 2 ∧ V 21 0 = w 4
def LRd (V : Sz) (w : Rw) : Prop := ∀ d : Int, 0 ≤ d → d < w 0 → V 4 d.toNat = wLim w d
def LRk (V : Sz) (w : Rw) : Prop := ∀ k : Int, 0 ≤ k → k < w 1 → V 6 k.toNat = wWho w k ∧ V 7 k.toNat = wFr w k ∧ V 8 k.toNat = wTo w k
def LRg (V : Sz) (w : Rw) : Prop := ∀ g : Int, 0 ≤ g → g < w 2 → V 10 g.toNat = wDay w g ∧ V 11 g.toNat = wAm w g ∧ V 12 g.toNat = wGot w g ∧ V 13 g.toNat = wBack w g ∧ V 14 g.toNat = wMany w g
def LRp (V : Sz) (w : Rw) : Prop := ∀ p : Int, 0 ≤ p → p < 180 → partB w p = true → V 16 p.toNat = wPd w p ∧ V 18 p.toNat = wPa w p ∧ V 19 p.toNat = wPb w p ∧ V 20 p.toNat = wPc w p
def LRo (V : Sz) (w : Rw) : Prop := ∀ i : Nat, (i : Int) < w 2 → V 15 i = ordS w i
def LRc (V : Sz) (w : Rw) : Prop := ∀ c q : Int, 0 ≤ c → c < w 4 → 0 ≤ q → q < 5 → V 22 (c * 5 + q).toNat = wCl w c q
def LRw (V : Sz) (w : Rw) : Prop := ∀ p : Int, 0 ≤ p → p < 180 → partB w p = true → V 23 p.toNat = openS w p ∧ V 24 p.toNat = wishS w p ∧ V 25 p.toNat = aidS w p
/-- what was told and made -/
def LR0 (V : Sz) (w : Rw) : Prop := LRa V w ∧ LRd V w ∧ LRk V w ∧ LRg V w ∧ LRp V w ∧ LRo V w ∧ LRc V w
/-- .. with what follows from it -/
def LR (V : Sz) (w : Rw) : Prop := LR0 V w ∧ LRw V w ∧ WF w ∧ w 1 ≤ 30
