/-! the class and the reference: what holds between them. b is 0 for the night that goes on, 47 for the one that is kept; W is the reference's array (or its image) -/
def RSc (h : HP) (b : Nat) (W : Int → Int) : Prop := gI h (9 + b) 6 = W 0 ∧ gI h (9 + b) 7 = W 1 ∧ gI h (9 + b) 8 = W 2 ∧ gI h (9 + b) 9 = W 3 ∧ gI h (9 + b) 10 = W 4 ∧ gI h (9 + b) 11 = W 5 ∧ gI h (51 + b) 5 = W 6 ∧ gI h (11 + b) 8 = W 7 ∧ gI h (19 + b) 5 = W 8
def GSc (W : Int → Int) : Prop := 0 ≤ W 0 ∧ W 0 ≤ 480 ∧ 0 ≤ W 1 ∧ W 1 ≤ 6 ∧ 0 ≤ W 2 ∧ W 2 ≤ 9 ∧ 0 ≤ W 3 ∧ W 3 ≤ 480 ∧ -1 ≤ W 4 ∧ W 4 < W 8 ∧ 0 ≤ W 5 ∧ W 5 ≤ 400 ∧ (W 6 = 0 ∨ W 6 = 1) ∧ 0 ≤ W 8 ∧ W 8 ≤ 12
def RWd (h : HP) (b : Nat) (W : Int → Int) : Prop := ∀ i : Int, 0 ≤ i → i < 64 → aI h (12 + b) i = W (9 + i) ∧ aI h (13 + b) i = W (73 + i) ∧ in32 (W (9 + i)) ∧ in32 (W (73 + i))
def RLm (h : HP) (b : Nat) (W : Int → Int) : Prop := ∀ i : Int, 0 ≤ i → i < 16 → aI h (14 + b) i = W (137 + 2 * i) ∧ aI h (15 + b) i = W (138 + 2 * i) ∧ in32 (W (138 + 2 * i))
def RWt (h : HP) (b : Nat) (W : Int → Int) : Prop := gI h (37 + b) 4 = W 10753 ∧ 0 ≤ W 10753 ∧ W 10753 ≤ 100 ∧ ∀ k : Int, 0 ≤ k → k < W 10753 → aI h (38 + b) k = 4 * W (10754 + 5 * k) + W (10754 + 5 * k + 1) ∧ aI h (39 + b) k = W (10754 + 5 * k + 2) ∧ aI h (40 + b) k = W (10754 + 5 * k + 3) ∧ aI h (41 + b) k = W (10754 + 5 * k + 4) ∧ 0 ≤ W (10754 + 5 * k) ∧ W (10754 + 5 * k) ≤ 3 ∧ 0 ≤ W (10754 + 5 * k + 1) ∧ W (10754 + 5 * k + 1) ≤ 3 ∧ 0 ≤ W (10754 + 5 * k + 2) ∧ W (10754 + 5 * k + 2) ≤ 6 ∧ 0 ≤ W (10754 + 5 * k + 3) ∧ W (10754 + 5 * k + 3) ≤ 9 ∧ 0 ≤ W (10754 + 5 * k + 4) ∧ W (10754 + 5 * k + 4) ≤ 99999
def RBk (h : HP) (b : Nat) (W : Int → Int) : Prop := (∀ g : Int, 0 ≤ g → g < 4 → aI h (43 + b) g = W (11254 + 4 * g) ∧ aI h (44 + b) g = W (11254 + 4 * g + 1) ∧ aI h (45 + b) g = W (11254 + 4 * g + 2) ∧ aI h (46 + b) g = W (11254 + 4 * g + 3) ∧ 1 ≤ W (11254 + 4 * g) ∧ W (11254 + 4 * g) ≤ 9999 ∧ 1 ≤ W (11254 + 4 * g + 1) ∧ W (11254 + 4 * g + 1) ≤ 100 ∧ 1 ≤ W (11254 + 4 * g + 2) ∧ W (11254 + 4 * g + 2) ≤ 100 ∧ 0 ≤ W (11254 + 4 * g + 3) ∧ W (11254 + 4 * g + 3) ≤ 9999) ∧ (∀ k : Int, 0 ≤ k → k < 3 → aI h (47 + b) k = W (11270 + k) ∧ 0 ≤ W (11270 + k) ∧ W (11270 + k) ≤ 100000000 ∧ aI h (48 + b) k = 0) ∧ gI h (42 + b) 6 = W 11273 ∧ gI h (42 + b) 7 = W 11274 ∧ 0 ≤ W 11273 ∧ W 11273 ≤ 1000000 ∧ 0 ≤ W 11274 ∧ W 11274 ≤ 1000000
def RPy (h : HP) (b : Nat) (W : Int → Int) : Prop := gI h (51 + b) 4 = W 11275 ∧ 0 ≤ W 11275 ∧ W 11275 ≤ 20 ∧ ∀ k : Int, 0 ≤ k → k < W 11275 → aI h (52 + b) k = W (11276 + 4 * k) ∧ aI h (53 + b) k = W (11276 + 4 * k + 1) ∧ aI h (54 + b) k = W (11276 + 4 * k + 2) ∧ aI h (55 + b) k = W (11276 + 4 * k + 3) ∧ 0 ≤ W (11276 + 4 * k) ∧ W (11276 + 4 * k) ≤ 99 ∧ 0 ≤ W (11276 + 4 * k + 1) ∧ W (11276 + 4 * k + 1) ≤ 999
/-- a row: its tag -/
def tgO (word job minute mach text first tested caught : Int) : Int := word + 64 * (job + 1) + 1024 * minute + 524288 * mach + 1048576 * text + 2097152 * first + 4194304 * tested + 8388608 * caught
def RR1 (h : HP) (b : Nat) (W : Int → Int) (k : Int) : Prop := ∃ te ca : Int, aI h (16 + b) k = W (11357 + 7 * k + 3) ∧ xxor (aI h (16 + b) k) (aI h (17 + b) k) = W (11357 + 7 * k + 2) ∧ in32 (aI h (16 + b) k) ∧ in32 (aI h (17 + b) k) ∧
  aI h (18 + b) k = tgO (W (11357 + 7 * k + 1)) (W (11357 + 7 * k + 4)) (W (11357 + 7 * k)) (W (11357 + 7 * k + 6) % 2) (W (11357 + 7 * k + 6) / 2 % 2) (if W (11357 + 7 * k + 5) = k then 1 else 0) te ca ∧
  (W (11357 + 7 * k + 6) % 2 = 1 → te = W (11357 + 7 * k + 6) / 4 % 2 ∧ ca = W (11357 + 7 * k + 6) / 8) ∧ (W (11357 + 7 * k + 6) % 2 = 0 → te = 0 ∧ ca = 0 ∧ W (11357 + 7 * k + 6) / 8 ≤ W (11357 + 7 * k + 6) / 4 % 2) ∧ (0 ≤ te ∧ te ≤ 1 ∧ 0 ≤ ca ∧ ca ≤ te) ∧
  0 ≤ W (11357 + 7 * k + 1) ∧ W (11357 + 7 * k + 1) < 64 ∧ -1 ≤ W (11357 + 7 * k + 4) ∧ W (11357 + 7 * k + 4) < W 8 ∧ 0 ≤ W (11357 + 7 * k) ∧ W (11357 + 7 * k) ≤ 480 ∧ 0 ≤ W (11357 + 7 * k + 6) ∧ W (11357 + 7 * k + 6) < 16 ∧ (W (11357 + 7 * k + 6) / 2 % 2 = 1 → 0 ≤ W (11357 + 7 * k + 4))
def RRw (h : HP) (b : Nat) (W : Int → Int) : Prop := gI h (11 + b) 7 = W 11356 ∧ 0 ≤ W 11356 ∧ W 11356 ≤ 5120 ∧ ∀ k : Int, 0 ≤ k → k < W 11356 → RR1 h b W k
/-! a text, read: its lines. A part: less (or not), its number ahead of a * (or none), what, of; a token of a condition: 0 <, 1 >, 2 not, 3 and, 4 or; a line: sort, word, two numbers, its sum, its condition -/
abbrev Prt : Type := Bool × Option Int × Int × Int
abbrev Ctk : Type := Nat × List Prt × List Prt
abbrev Lin : Type := Int × Int × Int × Int × List Prt × List Ctk
def tms (p : Prt) : Int := (if p.1 then -1 else 1) * p.2.1.getD 1
def prtC (p : Prt) : List Int := [tms p, p.2.2.1, p.2.2.2]
def sumC (s : List Prt) : List Int := (s.length : Int) :: s.flatMap prtC
def tokC (t : Ctk) : List Int := if t.1 = 0 then 60 :: (sumC t.2.1 ++ sumC t.2.2) else if t.1 = 1 then 62 :: (sumC t.2.1 ++ sumC t.2.2) else if t.1 = 2 then [268] else if t.1 = 3 then [267] else [266]
def linC (l : Lin) : List Int := if l.1 = 0 then [257, l.2.1, l.2.2.1] ++ sumC l.2.2.2.2.1 else if l.1 = 1 then [258, l.2.1, l.2.2.1, l.2.2.2.1] else if l.1 = 2 then [261, l.2.1, l.2.2.1] else (if l.1 = 3 then 263 else 264) :: (l.2.2.2.2.2.flatMap tokC ++ [-1])
def prgC (A : List Lin) : List Int := A.flatMap linC
def whtM (w : Int) : Int := if w = -2 then 0 else if w = 269 then 1 else if w = 270 then 2 else if w = 271 then 3 else 4
def prtM (p : Prt) : List (Int × Int) := (whtM p.2.2.1, p.2.2.2) :: (match p.2.1 with | none => [] | some m => [(5, m)])
def sumM (s : List Prt) : List (Int × Int) := match s with
  | [] => []
  | p :: ps => prtM p ++ ps.flatMap (fun q => prtM q ++ [(if q.1 then 7 else 6, 0)])
def tokM (t : Ctk) : List (Int × Int) := if t.1 = 0 then sumM t.2.1 ++ sumM t.2.2 ++ [(8, 0)] else if t.1 = 1 then sumM t.2.1 ++ sumM t.2.2 ++ [(9, 0)] else if t.1 = 2 then [(10, 0)] else if t.1 = 3 then [(11, 0)] else [(12, 0)]
def linM (l : Lin) : List (Int × Int) := if l.1 = 0 then sumM l.2.2.2.2.1 else if 3 ≤ l.1 then l.2.2.2.2.2.flatMap tokM else []
/-- what a part, a sum may be -/
def okP (p : Prt) : Prop := (∀ m, p.2.1 = some m → 0 ≤ m ∧ m ≤ 999999) ∧ (p.2.2.1 = -2 ∧ 0 ≤ p.2.2.2 ∧ p.2.2.2 ≤ 999999 ∨ (p.2.2.1 = 269 ∨ p.2.2.1 = 270) ∧ 0 ≤ p.2.2.2 ∧ p.2.2.2 ≤ 63 ∨ (p.2.2.1 = 271 ∨ p.2.2.1 = 272) ∧ p.2.2.2 = 0)
def okS (s : List Prt) : Prop := 1 ≤ s.length ∧ s.length ≤ 400 ∧ (∀ p ∈ s, okP p) ∧ ∃ p ps, s = p :: ps ∧ p.1 = false
/-- how high the stack of a condition grows: from n on, at most 40 -/
def hgt : List Ctk → Nat → Option Nat
  | [], n => some n
  | t :: ts, n => if t.1 < 2 then (if n < 40 then hgt ts (n + 1) else none) else if t.1 = 2 then (if 1 ≤ n then hgt ts n else none) else (if 2 ≤ n then hgt ts (n - 1) else none)
def okT (t : Ctk) : Prop := t.1 ≤ 4 ∧ (t.1 < 2 → okS t.2.1 ∧ okS t.2.2)
def okL (l : Lin) : Prop := 0 ≤ l.1 ∧ l.1 ≤ 4 ∧ (l.1 < 3 → 16 ≤ l.2.1 ∧ l.2.1 ≤ 63) ∧ (l.1 = 0 → 1 ≤ l.2.2.1 ∧ l.2.2.1 ≤ 9 ∧ okS l.2.2.2.2.1) ∧ (l.1 = 1 → 0 ≤ l.2.2.1 ∧ l.2.2.1 ≤ l.2.2.2.1 ∧ l.2.2.2.1 ≤ 63) ∧ (l.1 = 2 → 1 ≤ l.2.2.1 ∧ l.2.2.1 ≤ 9999) ∧ (3 ≤ l.1 → (∀ t ∈ l.2.2.2.2.2, okT t) ∧ hgt l.2.2.2.2.2 0 = some 1)
/-- bit i of a long -/
def tb (z : Int) (i : Nat) : Bool := (BitVec.ofInt 64 z).getLsbD i
/-- the reference's lines of a job at o -/
def MPr (W : Int → Int) (o : Int) (A : List Lin) : Prop := W (o + 16) = A.length ∧ A.length ≤ 10 ∧ ∀ (n : Nat) (l : Lin), A[n]? = some l → W (o + 22 + 6 * n) = l.1 ∧ (l.1 < 3 → W (o + 22 + 6 * n + 1) = l.2.1) ∧ (l.1 < 3 → W (o + 22 + 6 * n + 2) = l.2.2.1) ∧ (l.1 = 1 → W (o + 22 + 6 * n + 3) = l.2.2.2.1) ∧ 0 ≤ W (o + 22 + 6 * n + 4) ∧ W (o + 22 + 6 * n + 5) = W (o + 22 + 6 * n + 4) + (linM l).length ∧ W (o + 22 + 6 * n + 5) ≤ 400 ∧ ∀ (i : Nat) (s : Int × Int), (linM l)[i]? = some s → W (o + 82 + 2 * (W (o + 22 + 6 * n + 4) + i)) = s.1 ∧ W (o + 82 + 2 * (W (o + 22 + 6 * n + 4) + i) + 1) = s.2
def wrA (A : List Lin) (i : Nat) : Prop := ∃ l ∈ A, l.1 < 3 ∧ l.2.1 = i
/-- the text at t, of a job at o -/
def TXT (h : HP) (t : Nat) (W : Int → Int) (o : Int) : Prop := ∃ (A : List Lin) (q n : Nat), 126 < t ∧ t ≤ gn h ∧ gS h t = (9, 4) ∧ gP h t 0 = some q ∧ 126 < q ∧ q ≤ gn h ∧ gS h q = (100, n) ∧ n ≤ 1208 ∧ (prgC A).length ≤ n ∧ (∀ (i : Nat) (z : Int), (prgC A)[i]? = some z → aI h q i = z) ∧ gI h t 1 = A.length ∧ (∀ l ∈ A, okL l) ∧ MPr W o A ∧ gJ h t 2 = bits64 (W (o + 17)) (W (o + 18)) ∧ gJ h t 3 = bits64 (W (o + 19)) (W (o + 20)) ∧ in64 (gJ h t 2) ∧ in64 (gJ h t 3) ∧ ∀ i : Nat, tb (gJ h t 3) i = true ↔ wrA A i
/-- job at the place p, and at o in the reference's array -/
def JBf (h : HP) (p : Nat) (W : Int → Int) (o : Int) : Prop := gI h p 0 = W (o + 0) ∧ gI h p 1 = W (o + 1) ∧ gI h p 2 = W (o + 2) ∧ gI h p 3 = W (o + 3) ∧ gI h p 4 = W (o + 4) ∧ gI h p 6 = W (o + 5) ∧ gI h p 7 = W (o + 6) ∧ gI h p 8 = W (o + 7) ∧ gI h p 9 = W (o + 8) ∧ gI h p 12 = W (o + 9) ∧ gI h p 13 = W (o + 10) ∧ gI h p 10 = W (o + 11) ∧ gI h p 14 = W (o + 12) ∧ gI h p 15 = W (o + 13) ∧ gI h p 16 = W (o + 14) ∧ gI h p 17 = W (o + 15) ∧ gI h p 11 = W (o + 21)
def JBg (W : Int → Int) (o : Int) : Prop := 1 ≤ W (o + 0) ∧ W (o + 0) ≤ 60 ∧ 0 ≤ W (o + 1) ∧ W (o + 1) ≤ 1000 ∧ 0 ≤ W (o + 2) ∧ W (o + 2) ≤ 480 ∧ 0 ≤ W (o + 3) ∧ W (o + 3) ≤ 60 ∧ (W (o + 4) = 0 ∨ W (o + 4) = 1) ∧ 0 ≤ W (o + 5) ∧ W (o + 5) ≤ 60 ∧ 0 ≤ W (o + 6) ∧ W (o + 6) ≤ 1000 ∧ -9999 ≤ W (o + 7) ∧ W (o + 7) ≤ 9999 ∧ 0 ≤ W (o + 8) ∧ W (o + 8) ≤ 6 ∧ 0 ≤ W (o + 9) ∧ W (o + 9) ≤ 60 ∧ 0 ≤ W (o + 10) ∧ W (o + 10) ≤ 480 ∧ 0 ≤ W (o + 11) ∧ W (o + 11) ≤ 2 ∧ in32 (W (o + 12)) ∧ in32 (W (o + 13)) ∧ in32 (W (o + 14)) ∧ in32 (W (o + 15)) ∧ 0 ≤ W (o + 21) ∧ W (o + 21) ≤ 60 ∧ W (o + 9) ≤ W (o + 21) ∧ (W (o + 11) = 2 → 1 ≤ W (o + 2)) ∧
  (W (o + 8) = 0 → W (o + 11) = 2 → W (o + 10) < W (o + 2)) ∧ (W (o + 8) = 0 → W (o + 11) ≠ 2 → W (o + 10) = 0)
def RJb (h : HP) (b : Nat) (W : Int → Int) : Prop := ∀ j : Nat, (j : Int) < W 8 → JBf h (25 + b + j) W (169 + 882 * j) ∧ JBg W (169 + 882 * j) ∧ ∃ t, gP h (25 + b + j) 5 = some t ∧ TXT h t W (169 + 882 * j)
/-! on which others a job leans, and the order -/
def rdM (W : Int → Int) (j : Int) : Int := bits64 (W (169 + 882 * j + 17)) (W (169 + 882 * j + 18))
def wrM (W : Int → Int) (j : Int) : Int := bits64 (W (169 + 882 * j + 19)) (W (169 + 882 * j + 20))
def lnN (W : Int → Int) (j : Int) : Nat → Int
  | 0 => 0
  | k + 1 => if (k : Int) ≠ j ∧ yand (rdM W j) (wrM W k) ≠ 0 then xor_ (lnN W j k) (xshl 1 k) else lnN W j k
def lns (W : Int → Int) (j : Int) : Int := lnN W j (W 8).toNat
/-- the least job from k on (n of them left to look at) that can be placed; W 8 if none -/
def nxN (W : Int → Int) (pl : Int) : Nat → Int → Int
  | 0, k => k
  | n + 1, k => if xand (xshr pl k) 1 ≠ 1 ∧ xand (lns W k) (xxor pl (-1)) = 0 then k else nxN W pl n (k + 1)
def nxt (W : Int → Int) (pl : Int) : Int := nxN W pl (W 8).toNat 0
def plN (W : Int → Int) : Nat → Option Int
  | 0 => some 0
  | n + 1 => (plN W n).bind fun pl => if nxt W pl = W 8 then none else some (xor_ pl (xshl 1 (nxt W pl)))
def ordA (W : Int → Int) (n : Nat) : Int := nxt W ((plN W n).getD 0)
def ordOk (W : Int → Int) : Prop := ∃ pl, plN W (W 8).toNat = some pl
def RJo (h : HP) (b : Nat) (W : Int → Int) : Prop := (∀ j : Int, 0 ≤ j → j < W 8 → aI h (21 + b) j = lns W j) ∧ (gI h (19 + b) 4 = 1 ∧ ordOk W ∧ (∀ n : Nat, (n : Int) < W 8 → aI h (22 + b) n = ordA W n) ∨ gI h (19 + b) 4 = 0 ∧ ¬ ordOk W)
def RRn (W : Int → Int) : Prop := 0 ≤ W 4 → W (169 + 882 * W 4 + 8) = 1
/-- the whole night -/
def RN (h : HP) (b : Nat) (W : Int → Int) : Prop := RSc h b W ∧ GSc W ∧ RWd h b W ∧ RLm h b W ∧ RWt h b W ∧ RBk h b W ∧ RPy h b W ∧ RRw h b W ∧ RJb h b W ∧ RJo h b W ∧ RRn W
/-- how many jobs of the first n wait or run -/
def opN (W : Int → Int) : Nat → Int
  | 0 => 0
  | n + 1 => opN W n + (if W (169 + 882 * n + 8) ≤ 1 then 1 else 0)
def ptl (W : Int → Int) : Int := W 11356 + 10 * opN W (W 8).toNat
/-- the tape -/
def RTp (h : HP) : Prop := gI h 2 1 = gI h 113 5 ∧ 0 ≤ gI h 113 5 ∧ gI h 113 5 ≤ 400 ∧ gI h 1 1 = gI h 113 10 ∧ (∀ i : Int, 0 ≤ i → i < gI h 113 5 → aI h 3 i = aI h 116 i % 256 ∧ -128 ≤ aI h 116 i ∧ aI h 116 i < 128)
/-- what holds after n calls -/
def RA (n : Int) (h : HP) : Prop := LayC h ∧ LayK h ∧ LayM h ∧ 126 ≤ gn h ∧ gn h ≤ 126 + 2 * n ∧ gS h 126 = (101, 1) ∧ gI h 10 5 = -1 ∧ gI h 1 4 = gI h 113 3 ∧ (gI h 113 3 = 0 ∨ gI h 113 3 = 1) ∧ gI h 107 0 = 0 ∧ gI h 108 0 = 0 ∧ gI h 109 0 = 0 ∧ gI h 110 0 = 0 ∧ gI h 111 0 = 0 ∧
  RTp h ∧ RN h 0 (aI h 114) ∧ ptl (aI h 114) ≤ 10 * n ∧ (gI h 113 3 = 1 → RN h 47 (aI h 115) ∧ ptl (aI h 115) ≤ 10 * n) ∧ (gc h : Int) ≤ 1000 + 4 * n ∧ (gs h : Int) ≤ 300000 + 1300 * n ∧ (∀ k : Int, 0 ≤ k → k < 3 → aI h 95 k = 0) ∧ ∀ j : Nat, j < 12 → (gI h (25 + j) 4 = 0 ∨ gI h (25 + j) 4 = 1) ∧ (gI h (72 + j) 4 = 0 ∨ gI h (72 + j) 4 = 1)
