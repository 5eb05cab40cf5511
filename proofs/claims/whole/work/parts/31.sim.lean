/-! what stands between two calls: the class (clauses 0 to 32) and the model (11, 33 to 74) hold the same -/
def bJ (x : Int64) (k : Nat) : Bool := x.toBitVec.getLsbD k
def bI (x : Int32) (k : Nat) : Bool := x.toBitVec.getLsbD k
/-- parts of a kind of test -/
def tP (k : Int32) : Nat := if k = 38 ∨ k = 124 then 2 else if k = 33 then 1 else 0
def leafOK (k a : Int32) : Prop := k = 97 ∨ ((k = 102 ∨ k = 116) ∧ inN a 10) ∨ ((k = 115 ∨ k = 98) ∧ inN a 16) ∨ (k = 122 ∧ inN a 1000) ∨ (k = 100 ∧ inN a 7) ∨ (k = 110 ∧ inZ a 1 10) ∨ (k = 107 ∧ inN a 8)
/-- a test as it may stand at the place t -/
def StV (k a b : Int32) (t : Nat) : Prop := leafOK k a ∨ ((k = 33 ∨ k = 38 ∨ k = 124) ∧ (∃ x, x < t ∧ a = nI x) ∧ (k ≠ 33 → ∃ y, y < t ∧ b = nI y))
/-- an action as it may stand -/
def SaV (k a : Int32) : Prop := (k = 107 ∨ k = 120 ∨ k = 114 ∨ k = 115 ∨ k = 83) ∨ ((k = 109 ∨ k = 99) ∧ inN a 8) ∨ (k = 119 ∧ inN a 10) ∨ ((k = 70 ∨ k = 85) ∧ inN a 8) ∨ (k = 118 ∧ inZ a 1 30) ∨ (k = 105 ∧ inN a 4)
def SDay (d : Nat) (h : Hp) : Prop := gI h 3 0 7 = nI d ∧ gI h 11 0 1 = nI d
/-- a mail's numbers -/
def SmV (d : Nat) (h : Hp) (m : Nat) : Prop := inN (gI h 33 0 m) 10 ∧ inZ (gI h 34 0 m) 1 1023 ∧ inN (gI h 35 0 m) 65536 ∧ inN (gI h 36 0 m) 65536 ∧ inZ (gI h 37 0 m) 1 999 ∧ ∃ c, c ≤ d ∧ gI h 38 0 m = nI c
def SmE (h : Hp) (m : Nat) : Prop := gI h 2 m 0 = gI h 33 0 m ∧ gI h 2 m 1 = gI h 34 0 m ∧ gI h 2 m 2 = gI h 35 0 m ∧ gI h 2 m 3 = gI h 36 0 m ∧ gI h 2 m 4 = gI h 37 0 m ∧ gI h 2 m 5 = gI h 38 0 m - gI h 38 0 m / 7 * 7
/-- what deliveries and moves made of it -/
def SmD (h : Hp) (m : Nat) : Prop := gI h 2 m 8 = gI h 39 0 m ∧ gI h 2 m 9 = gI h 40 0 m ∧ isB (gI h 39 0 m) ∧ isB (gI h 40 0 m) ∧ (gI h 39 0 m = 0 → gI h 40 0 m = 0) ∧ gI h 2 m 7 = gI h 42 0 m
  ∧ (gI h 39 0 m = 1 → gI h 40 0 m = 0 → gI h 2 m 6 = gI h 41 0 m ∧ inN (gI h 41 0 m) 8 ∧ (gI h 2 m 10 = 0 → gI h 43 0 m = -1) ∧ (gI h 2 m 10 ≠ 0 → gI h 43 0 m = gI h 41 0 m))
def SMail (d nm : Nat) (h : Hp) : Prop := nm ≤ 40 ∧ gI h 3 0 6 = nI nm ∧ gI h 11 0 2 = nI nm ∧ (∀ m, m < nm → SmV d h m ∧ SmE h m) ∧ (∀ m, m < 40 → SmD h m) ∧ (∀ m, nm ≤ m → m < 40 → gI h 39 0 m = 0)
def SBox (h : Hp) : Prop := ∀ b, b < 8 → gI h 16 0 b = gI h 44 0 b ∧ gI h 17 0 b = gI h 45 0 b
def SReply (i d : Nat) (h : Hp) : Prop := ∀ p, p < 10 → gI h 18 0 p = gI h 47 0 p ∧ gI h 19 0 p = gI h 48 0 p ∧ ∃ c, c ≤ i ∧ gI h 18 0 p = nI c ∧ (c = 0 → gI h 46 0 p = -1) ∧ (c ≠ 0 → gI h 46 0 p = gI h 20 0 p ∧ ∃ e, e ≤ d ∧ gI h 46 0 p = nI e)
/-- the tests that look at no flag -/
def isSt (h : Hp) (t : Nat) : Bool := decide (gI h 12 0 t ≠ 107) && (decide (tP (gI h 12 0 t) < 1) || bJ (gJ h 9 0 3) (gI h 13 0 t).toNatClampNeg) && (decide (tP (gI h 12 0 t) < 2) || bJ (gJ h 9 0 3) (gI h 14 0 t).toNatClampNeg)
def STest (nt : Nat) (h : Hp) : Prop := nt ≤ 60 ∧ gI h 9 0 4 = nI nt ∧ gI h 11 0 19 = nI nt ∧ (∀ t, t < nt → gI h 12 0 t = gI h 49 0 t ∧ gI h 13 0 t = gI h 50 0 t ∧ gI h 14 0 t = gI h 51 0 t ∧ StV (gI h 12 0 t) (gI h 13 0 t) (gI h 14 0 t) t ∧ bJ (gJ h 9 0 3) t = isSt h t) ∧ (∀ t, nt ≤ t → t < 64 → bJ (gJ h 9 0 3) t = false)
/-- the class's rule q and the model's rule at p -/
def SrE (nt : Nat) (h : Hp) (q p : Nat) : Prop := gI h 6 q 2 = gI h 54 0 p ∧ gI h 6 q 3 = gI h 55 0 p ∧ (∃ t, t < nt ∧ gI h 54 0 p = nI t) ∧ ∃ c, c ≤ 5 ∧ gI h 55 0 p = nI c ∧ ∀ a, a < c → gI h 23 q a = gI h 56 0 (5 * p + a) ∧ gI h 24 q a = gI h 57 0 (5 * p + a) ∧ SaV (gI h 56 0 (5 * p + a)) (gI h 57 0 (5 * p + a))
def SScr (nt : Nat) (h : Hp) : Prop := ∀ s, s < 4 → ∃ nr, nr ≤ 12 ∧ gI h 7 s 1 = nI nr ∧ gI h 53 0 s = nI nr ∧ ∃ q : Nat → Nat, (∀ r, r < 12 → gR h 22 s r = q r + 1 ∧ 12 * s ≤ q r ∧ q r < 12 * s + 12) ∧ (∀ r r', r < 12 → r' < 12 → q r = q r' → r = r') ∧ ∀ r, r < nr → SrE nt h (q r) (12 * s + r)
def SLast (h : Hp) : Prop := ∃ c, c ≤ 200 ∧ gI h 5 1 4 = nI c ∧ gI h 11 0 47 = nI c ∧ (∀ k, k < c → gI h 26 1 k = gI h 63 0 k) ∧ gI h 5 1 5 = gI h 11 0 48 ∧ gI h 5 1 6 = gI h 11 0 49 ∧ gI h 5 1 7 = gI h 11 0 50 ∧ gI h 5 1 8 = gI h 11 0 51 ∧ gI h 5 1 3 = gI h 11 0 52
def Sim (i : Nat) (h : Hp) : Prop := ∃ d nm nt, d ≤ 100 * i ∧ SDay d h ∧ SMail d nm h ∧ SBox h ∧ SReply i d h ∧ STest nt h ∧ SScr nt h ∧ SLast h
