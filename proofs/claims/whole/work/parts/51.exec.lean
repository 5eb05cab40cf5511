/-! what a script does for a mail. σ: 0 outcome, 1 flags, 2 done, 3 clashes, 4 5 6 faults of nesting, forwarding, quotas, 7 forwards, 8 rules reached, 9 replied, 10 sent, 11 over, 20.. copied, 30.. load, 100.. what was done -/
def up (σ : Nat → Int32) (i : Nat) (v : Int32) (j : Nat) : Int32 := if j = i then v else σ j
section
variable (h : Hp) (m : Nat)
def xClash (k : Int32) (σ : Nat → Int32) : Bool :=
  if k = 109 ∨ k = 107 ∨ k = 120 then decide (σ 0 ≠ -1) else if k = 114 then (decide (σ 0 ≠ -1) || decide (σ 10 ≠ 0)) else if k = 99 ∨ k = 119 ∨ k = 118 then decide (σ 0 = 9) else false
def xMuch (a : Int32) (σ : Nat → Int32) : Bool := decide (a ≠ 0) && decide (¬ (σ (30 + cl a) + gI h 37 0 m ≤ gI h 44 0 (cl a)))
def xKnown (a : Int32) (σ : Nat → Int32) : Bool := decide (a = gI h 33 0 m) || bI (gI h 34 0 m ||| σ 7) (cl a)
def xFault (e : Nat) (k a : Int32) (σ : Nat → Int32) : Nat := if k = 105 ∧ e = 0 then 4 else if k = 119 ∧ xKnown h m a σ = true then 5 else if k = 99 ∧ xMuch h m a σ = true then 6 else 0
def xDue (a : Int32) : Bool := decide (gI h 46 0 (cl (gI h 33 0 m)) = -1) || decide (¬ (gI h 11 0 1 - gI h 46 0 (cl (gI h 33 0 m)) < a))
def xAct (k a : Int32) (σ : Nat → Int32) : Nat → Int32 :=
  if k = 70 then up σ 1 (σ 1 ||| (1 <<< (a &&& 31)))
  else if k = 83 then up σ 11 1
  else if k = 85 then up σ 1 (σ 1 &&& ((1 <<< (a &&& 31)) ^^^ (-1)))
  else if k = 99 then up (up (up σ 10 1) (20 + cl a) (σ (20 + cl a) + gI h 37 0 m)) (30 + cl a) (σ (30 + cl a) + gI h 37 0 m)
  else if k = 107 then up σ 0 0
  else if k = 109 then (if xMuch h m a σ = true then up (up (up σ 6 (σ 6 + 1)) 0 0) 30 (σ 30 + gI h 37 0 m) else up (up σ 0 a) (30 + cl a) (σ (30 + cl a) + gI h 37 0 m))
  else if k = 114 then up σ 0 9
  else if k = 118 then (if xDue h m a = true then up (up σ 10 1) 9 1 else up σ 10 1)
  else if k = 119 then up (up σ 10 1) 7 (σ 7 ||| (1 <<< (a &&& 31)))
  else if k = 120 then up σ 0 8 else σ
def xDid (σ : Nat → Int32) (code : Int32) : Nat → Int32 := up (up σ (100 + cl (σ 2)) code) 2 (σ 2 + 1)
def xOne (e : Nat) (RS : Int32 → (Nat → Int32) → Nat → Int32) (k a code : Int32) (σ : Nat → Int32) : Nat → Int32 :=
  if xClash k σ = true then up σ 3 (σ 3 + 1) else if xFault h m e k a σ ≠ 0 then up σ (xFault h m e k a σ) (σ (xFault h m e k a σ) + 1)
  else if σ 2 = 200 then up σ 11 1 else if k = 105 then RS a (xDid σ code) else xAct h m k a (xDid σ code)
def xEnds (k : Int32) (σ : Nat → Int32) : Bool := decide (k = 115) && decide (σ 2 ≠ 200)
def xActs (e : Nat) (RS : Int32 → (Nat → Int32) → Nat → Int32) (p : Nat) (c : Int32) : Nat → Nat → (Nat → Int32) → (Nat → Int32) × Bool
  | 0, _, σ => (σ, false)
  | n + 1, i, σ => if σ 11 ≠ 0 then (σ, false) else if xEnds (gI h 56 0 (5 * p + i)) σ = true then (xOne h m e RS (gI h 56 0 (5 * p + i)) (gI h 57 0 (5 * p + i)) (c + nI i) σ, true)
      else xActs e RS p c n (i + 1) (xOne h m e RS (gI h 56 0 (5 * p + i)) (gI h 57 0 (5 * p + i)) (c + nI i) σ)
def xMark (e r : Nat) (σ : Nat → Int32) : Nat → Int32 := if e = 4 then up σ 8 (σ 8 ||| (1 <<< (nI r &&& 31))) else σ
def xRules (e : Nat) (RS : Int32 → (Nat → Int32) → Nat → Int32) (s : Nat) : Nat → Nat → (Nat → Int32) → Nat → Int32
  | 0, _, σ => σ
  | n + 1, r, σ => if σ 11 ≠ 0 then σ else if tT h m (σ 1) (cl (gI h 54 0 (12 * s + r))) = true then
        (if (xActs h m e RS (12 * s + r) (1000 * nI s + 10 * nI r) (cl (gI h 55 0 (12 * s + r))) 0 (xMark e r σ)).2 = true then (xActs h m e RS (12 * s + r) (1000 * nI s + 10 * nI r) (cl (gI h 55 0 (12 * s + r))) 0 (xMark e r σ)).1
        else xRules e RS s n (r + 1) (xActs h m e RS (12 * s + r) (1000 * nI s + 10 * nI r) (cl (gI h 55 0 (12 * s + r))) 0 (xMark e r σ)).1)
      else xRules e RS s n (r + 1) σ
def xRun : Nat → Int32 → (Nat → Int32) → Nat → Int32
  | 0 => fun s σ => xRules h m 0 (fun _ σ => σ) (cl s) (cl (gI h 53 0 (cl s))) 0 σ
  | e + 1 => fun s σ => xRules h m (e + 1) (xRun e) (cl s) (cl (gI h 53 0 (cl s))) 0 σ
/-- what is in a box besides, and what stays true of σ -/
def xLo (nm b : Nat) : Int32 := gI h 45 0 b + sz (gM h (nI b) (nI m)) nm
def XW (nm : Nat) (σ : Nat → Int32) : Prop := (∃ c, c ≤ 200 ∧ σ 2 = nI c) ∧ (σ 0 = -1 ∨ inN (σ 0) 10) ∧ (∀ i, 8 ≤ i → i < 32 → bI (σ 1) i = false) ∧ (σ 9 = 0 ∨ σ 9 = 1)
  ∧ ∀ b, 1 ≤ b → b < 8 → σ (30 + b) = xLo h m nm b + σ (20 + b) + (if σ 0 = nI b then gI h 37 0 m else 0)
end
theorem up_e (σ : Nat → Int32) (i : Nat) (v : Int32) : up σ i v i = v := by unfold up; rw [if_pos rfl]
theorem up_n {σ : Nat → Int32} {i : Nat} {v : Int32} {j : Nat} (h : j ≠ i) : up σ i v j = σ j := by unfold up; rw [if_neg h]
theorem cl_n {x : Int32} {n : Nat} (a : inN x n) (hn : n < 2 ^ 31) : cl x < n ∧ x = nI (cl x) := by
  obtain ⟨j, hj, rfl⟩ := a
  rw [show cl (nI j) = j from nI_clamp (by omega)]
  exact ⟨hj, rfl⟩
section
variable {h : Hp} {m nm : Nat}
theorem XW.loc {σ σ' : Nat → Int32} (w : XW h m nm σ) (e : ∀ j, j = 0 ∨ j = 1 ∨ j = 2 ∨ j = 9 ∨ (20 ≤ j ∧ j < 38) → σ' j = σ j) : XW h m nm σ' := by
  obtain ⟨w1, w2, w3, w4, w5⟩ := w
  refine ⟨by rw [e 2 (by omega)]; exact w1, by rw [e 0 (by omega)]; exact w2, by rw [e 1 (by omega)]; exact w3, by rw [e 9 (by omega)]; exact w4, fun b h1 h2 => ?_⟩
  rw [e (30 + b) (by omega), e (20 + b) (by omega), e 0 (by omega)]
  exact w5 b h1 h2
theorem XW.cell {σ : Nat → Int32} {i : Nat} {v : Int32} (w : XW h m nm σ) (hi : (3 ≤ i ∧ i ≤ 8) ∨ i = 10 ∨ i = 11 ∨ 100 ≤ i) : XW h m nm (up σ i v) :=
  w.loc (fun j hj => up_n (by omega))
theorem XW.did {σ : Nat → Int32} {code : Int32} (w : XW h m nm σ) (n : σ 2 ≠ 200) : XW h m nm (xDid σ code) := by
  obtain ⟨⟨c, hc, ec⟩, w2, w3, w4, w5⟩ := w
  have hc' : c ≠ 200 := fun q => n (by rw [ec, q]; rfl)
  have g : ∀ j, j ≠ 2 → j < 100 → xDid σ code j = σ j := fun j h1 h2 => by unfold xDid; rw [up_n h1, up_n (by omega)]
  refine ⟨⟨c + 1, by omega, ?_⟩, by rw [g 0 (by omega) (by omega)]; exact w2, by rw [g 1 (by omega) (by omega)]; exact w3, by rw [g 9 (by omega) (by omega)]; exact w4, fun b h1 h2 => ?_⟩
  · unfold xDid
    rw [up_e, ec, nI_1]
  · rw [g (30 + b) (by omega) (by omega), g (20 + b) (by omega) (by omega), g 0 (by omega) (by omega)]
    exact w5 b h1 h2
theorem nI_ne {a b : Nat} (ha : a < 2 ^ 31) (hb : b < 2 ^ 31) (e : a ≠ b) : ¬ nI a = nI b := fun q => e ((nI_eq ha hb).mp q)
theorem XW.act {σ : Nat → Int32} {k a : Int32} (w : XW h m nm σ) (v : SaV k a) (hc : xClash k σ = false) : XW h m nm (xAct h m k a σ) := by
  obtain ⟨w1, w2, w3, w4, w5⟩ := id w
  have placed : k = 107 ∨ k = 109 ∨ k = 114 ∨ k = 120 → σ 0 = -1 := by
    intro q
    unfold xClash at hc
    rcases q with rfl | rfl | rfl | rfl <;> simp at hc <;> first | exact hc | exact hc.1
  have m1 : ∀ b, b < 8 → ¬ (-1 : Int32) = nI b := by decide +kernel
  have m8 : ∀ b, b < 8 → ¬ (8 : Int32) = nI b := by decide +kernel
  have m9 : ∀ b, b < 8 → ¬ (9 : Int32) = nI b := by decide +kernel
  have m0 : ∀ b, 1 ≤ b → b < 8 → ¬ (0 : Int32) = nI b := fun b h1 h2 => nI_ne (a := 0) (by omega) (by omega) (by omega)
  unfold xAct
  rcases v with (rfl | rfl | rfl | rfl | rfl) | ⟨rfl | rfl, o⟩ | ⟨rfl, o⟩ | ⟨rfl | rfl, o⟩ | ⟨rfl, o⟩ | ⟨rfl, o⟩
  · simp only [kd_45_70, kd_45_83, kd_45_85, kd_45_99, kd_45_105, kd_45_107, kd_45_109, kd_45_114, kd_45_115, kd_45_118, kd_45_119, kd_45_120, kd_70_45, kd_70_83, kd_70_85, kd_70_99, kd_70_105, kd_70_107, kd_70_109, kd_70_114, kd_70_115, kd_70_118, kd_70_119, kd_70_120, kd_83_45, kd_83_70, kd_83_85, kd_83_99, kd_83_105, kd_83_107, kd_83_109, kd_83_114, kd_83_115, kd_83_118, kd_83_119, kd_83_120, kd_85_45, kd_85_70, kd_85_83, kd_85_99, kd_85_105, kd_85_107, kd_85_109, kd_85_114, kd_85_115, kd_85_118, kd_85_119, kd_85_120, kd_99_45, kd_99_70, kd_99_83, kd_99_85, kd_99_105, kd_99_107, kd_99_109, kd_99_114, kd_99_115, kd_99_118, kd_99_119, kd_99_120, kd_105_45, kd_105_70, kd_105_83, kd_105_85, kd_105_99, kd_105_107, kd_105_109, kd_105_114, kd_105_115, kd_105_118, kd_105_119, kd_105_120, kd_107_45, kd_107_70, kd_107_83, kd_107_85, kd_107_99, kd_107_105, kd_107_109, kd_107_114, kd_107_115, kd_107_118, kd_107_119, kd_107_120, kd_109_45, kd_109_70, kd_109_83, kd_109_85, kd_109_99, kd_109_105, kd_109_107, kd_109_114, kd_109_115, kd_109_118, kd_109_119, kd_109_120, kd_114_45, kd_114_70, kd_114_83, kd_114_85, kd_114_99, kd_114_105, kd_114_107, kd_114_109, kd_114_115, kd_114_118, kd_114_119, kd_114_120, kd_115_45, kd_115_70, kd_115_83, kd_115_85, kd_115_99, kd_115_105, kd_115_107, kd_115_109, kd_115_114, kd_115_118, kd_115_119, kd_115_120, kd_118_45, kd_118_70, kd_118_83, kd_118_85, kd_118_99, kd_118_105, kd_118_107, kd_118_109, kd_118_114, kd_118_115, kd_118_119, kd_118_120, kd_119_45, kd_119_70, kd_119_83, kd_119_85, kd_119_99, kd_119_105, kd_119_107, kd_119_109, kd_119_114, kd_119_115, kd_119_118, kd_119_120, kd_120_45, kd_120_70, kd_120_83, kd_120_85, kd_120_99, kd_120_105, kd_120_107, kd_120_109, kd_120_114, kd_120_115, kd_120_118, kd_120_119, if_false, if_true]
    have p := placed (by simp)
    refine ⟨by rw [up_n (by omega)]; exact w1, by rw [up_e]; exact Or.inr ⟨0, by omega, rfl⟩, by rw [up_n (by omega)]; exact w3, by rw [up_n (by omega)]; exact w4, fun b h1 h2 => ?_⟩
    rw [up_n (by omega), up_n (by omega), up_e, w5 b h1 h2, p, if_neg (m1 b h2), if_neg (m0 b h1 h2)]
  · simp only [kd_45_70, kd_45_83, kd_45_85, kd_45_99, kd_45_105, kd_45_107, kd_45_109, kd_45_114, kd_45_115, kd_45_118, kd_45_119, kd_45_120, kd_70_45, kd_70_83, kd_70_85, kd_70_99, kd_70_105, kd_70_107, kd_70_109, kd_70_114, kd_70_115, kd_70_118, kd_70_119, kd_70_120, kd_83_45, kd_83_70, kd_83_85, kd_83_99, kd_83_105, kd_83_107, kd_83_109, kd_83_114, kd_83_115, kd_83_118, kd_83_119, kd_83_120, kd_85_45, kd_85_70, kd_85_83, kd_85_99, kd_85_105, kd_85_107, kd_85_109, kd_85_114, kd_85_115, kd_85_118, kd_85_119, kd_85_120, kd_99_45, kd_99_70, kd_99_83, kd_99_85, kd_99_105, kd_99_107, kd_99_109, kd_99_114, kd_99_115, kd_99_118, kd_99_119, kd_99_120, kd_105_45, kd_105_70, kd_105_83, kd_105_85, kd_105_99, kd_105_107, kd_105_109, kd_105_114, kd_105_115, kd_105_118, kd_105_119, kd_105_120, kd_107_45, kd_107_70, kd_107_83, kd_107_85, kd_107_99, kd_107_105, kd_107_109, kd_107_114, kd_107_115, kd_107_118, kd_107_119, kd_107_120, kd_109_45, kd_109_70, kd_109_83, kd_109_85, kd_109_99, kd_109_105, kd_109_107, kd_109_114, kd_109_115, kd_109_118, kd_109_119, kd_109_120, kd_114_45, kd_114_70, kd_114_83, kd_114_85, kd_114_99, kd_114_105, kd_114_107, kd_114_109, kd_114_115, kd_114_118, kd_114_119, kd_114_120, kd_115_45, kd_115_70, kd_115_83, kd_115_85, kd_115_99, kd_115_105, kd_115_107, kd_115_109, kd_115_114, kd_115_118, kd_115_119, kd_115_120, kd_118_45, kd_118_70, kd_118_83, kd_118_85, kd_118_99, kd_118_105, kd_118_107, kd_118_109, kd_118_114, kd_118_115, kd_118_119, kd_118_120, kd_119_45, kd_119_70, kd_119_83, kd_119_85, kd_119_99, kd_119_105, kd_119_107, kd_119_109, kd_119_114, kd_119_115, kd_119_118, kd_119_120, kd_120_45, kd_120_70, kd_120_83, kd_120_85, kd_120_99, kd_120_105, kd_120_107, kd_120_109, kd_120_114, kd_120_115, kd_120_118, kd_120_119, if_false, if_true]
    have p := placed (by simp)
    refine ⟨by rw [up_n (by omega)]; exact w1, by rw [up_e]; exact Or.inr ⟨8, by omega, rfl⟩, by rw [up_n (by omega)]; exact w3, by rw [up_n (by omega)]; exact w4, fun b h1 h2 => ?_⟩
    rw [up_n (by omega), up_n (by omega), up_e, w5 b h1 h2, p, if_neg (m1 b h2), if_neg (m8 b h2)]
  · simp only [kd_45_70, kd_45_83, kd_45_85, kd_45_99, kd_45_105, kd_45_107, kd_45_109, kd_45_114, kd_45_115, kd_45_118, kd_45_119, kd_45_120, kd_70_45, kd_70_83, kd_70_85, kd_70_99, kd_70_105, kd_70_107, kd_70_109, kd_70_114, kd_70_115, kd_70_118, kd_70_119, kd_70_120, kd_83_45, kd_83_70, kd_83_85, kd_83_99, kd_83_105, kd_83_107, kd_83_109, kd_83_114, kd_83_115, kd_83_118, kd_83_119, kd_83_120, kd_85_45, kd_85_70, kd_85_83, kd_85_99, kd_85_105, kd_85_107, kd_85_109, kd_85_114, kd_85_115, kd_85_118, kd_85_119, kd_85_120, kd_99_45, kd_99_70, kd_99_83, kd_99_85, kd_99_105, kd_99_107, kd_99_109, kd_99_114, kd_99_115, kd_99_118, kd_99_119, kd_99_120, kd_105_45, kd_105_70, kd_105_83, kd_105_85, kd_105_99, kd_105_107, kd_105_109, kd_105_114, kd_105_115, kd_105_118, kd_105_119, kd_105_120, kd_107_45, kd_107_70, kd_107_83, kd_107_85, kd_107_99, kd_107_105, kd_107_109, kd_107_114, kd_107_115, kd_107_118, kd_107_119, kd_107_120, kd_109_45, kd_109_70, kd_109_83, kd_109_85, kd_109_99, kd_109_105, kd_109_107, kd_109_114, kd_109_115, kd_109_118, kd_109_119, kd_109_120, kd_114_45, kd_114_70, kd_114_83, kd_114_85, kd_114_99, kd_114_105, kd_114_107, kd_114_109, kd_114_115, kd_114_118, kd_114_119, kd_114_120, kd_115_45, kd_115_70, kd_115_83, kd_115_85, kd_115_99, kd_115_105, kd_115_107, kd_115_109, kd_115_114, kd_115_118, kd_115_119, kd_115_120, kd_118_45, kd_118_70, kd_118_83, kd_118_85, kd_118_99, kd_118_105, kd_118_107, kd_118_109, kd_118_114, kd_118_115, kd_118_119, kd_118_120, kd_119_45, kd_119_70, kd_119_83, kd_119_85, kd_119_99, kd_119_105, kd_119_107, kd_119_109, kd_119_114, kd_119_115, kd_119_118, kd_119_120, kd_120_45, kd_120_70, kd_120_83, kd_120_85, kd_120_99, kd_120_105, kd_120_107, kd_120_109, kd_120_114, kd_120_115, kd_120_118, kd_120_119, if_false, if_true]
    have p := placed (by simp)
    refine ⟨by rw [up_n (by omega)]; exact w1, by rw [up_e]; exact Or.inr ⟨9, by omega, rfl⟩, by rw [up_n (by omega)]; exact w3, by rw [up_n (by omega)]; exact w4, fun b h1 h2 => ?_⟩
    rw [up_n (by omega), up_n (by omega), up_e, w5 b h1 h2, p, if_neg (m1 b h2), if_neg (m9 b h2)]
  · simp only [kd_45_70, kd_45_83, kd_45_85, kd_45_99, kd_45_105, kd_45_107, kd_45_109, kd_45_114, kd_45_115, kd_45_118, kd_45_119, kd_45_120, kd_70_45, kd_70_83, kd_70_85, kd_70_99, kd_70_105, kd_70_107, kd_70_109, kd_70_114, kd_70_115, kd_70_118, kd_70_119, kd_70_120, kd_83_45, kd_83_70, kd_83_85, kd_83_99, kd_83_105, kd_83_107, kd_83_109, kd_83_114, kd_83_115, kd_83_118, kd_83_119, kd_83_120, kd_85_45, kd_85_70, kd_85_83, kd_85_99, kd_85_105, kd_85_107, kd_85_109, kd_85_114, kd_85_115, kd_85_118, kd_85_119, kd_85_120, kd_99_45, kd_99_70, kd_99_83, kd_99_85, kd_99_105, kd_99_107, kd_99_109, kd_99_114, kd_99_115, kd_99_118, kd_99_119, kd_99_120, kd_105_45, kd_105_70, kd_105_83, kd_105_85, kd_105_99, kd_105_107, kd_105_109, kd_105_114, kd_105_115, kd_105_118, kd_105_119, kd_105_120, kd_107_45, kd_107_70, kd_107_83, kd_107_85, kd_107_99, kd_107_105, kd_107_109, kd_107_114, kd_107_115, kd_107_118, kd_107_119, kd_107_120, kd_109_45, kd_109_70, kd_109_83, kd_109_85, kd_109_99, kd_109_105, kd_109_107, kd_109_114, kd_109_115, kd_109_118, kd_109_119, kd_109_120, kd_114_45, kd_114_70, kd_114_83, kd_114_85, kd_114_99, kd_114_105, kd_114_107, kd_114_109, kd_114_115, kd_114_118, kd_114_119, kd_114_120, kd_115_45, kd_115_70, kd_115_83, kd_115_85, kd_115_99, kd_115_105, kd_115_107, kd_115_109, kd_115_114, kd_115_118, kd_115_119, kd_115_120, kd_118_45, kd_118_70, kd_118_83, kd_118_85, kd_118_99, kd_118_105, kd_118_107, kd_118_109, kd_118_114, kd_118_115, kd_118_119, kd_118_120, kd_119_45, kd_119_70, kd_119_83, kd_119_85, kd_119_99, kd_119_105, kd_119_107, kd_119_109, kd_119_114, kd_119_115, kd_119_118, kd_119_120, kd_120_45, kd_120_70, kd_120_83, kd_120_85, kd_120_99, kd_120_105, kd_120_107, kd_120_109, kd_120_114, kd_120_115, kd_120_118, kd_120_119, if_false]
    exact w
  · simp only [kd_45_70, kd_45_83, kd_45_85, kd_45_99, kd_45_105, kd_45_107, kd_45_109, kd_45_114, kd_45_115, kd_45_118, kd_45_119, kd_45_120, kd_70_45, kd_70_83, kd_70_85, kd_70_99, kd_70_105, kd_70_107, kd_70_109, kd_70_114, kd_70_115, kd_70_118, kd_70_119, kd_70_120, kd_83_45, kd_83_70, kd_83_85, kd_83_99, kd_83_105, kd_83_107, kd_83_109, kd_83_114, kd_83_115, kd_83_118, kd_83_119, kd_83_120, kd_85_45, kd_85_70, kd_85_83, kd_85_99, kd_85_105, kd_85_107, kd_85_109, kd_85_114, kd_85_115, kd_85_118, kd_85_119, kd_85_120, kd_99_45, kd_99_70, kd_99_83, kd_99_85, kd_99_105, kd_99_107, kd_99_109, kd_99_114, kd_99_115, kd_99_118, kd_99_119, kd_99_120, kd_105_45, kd_105_70, kd_105_83, kd_105_85, kd_105_99, kd_105_107, kd_105_109, kd_105_114, kd_105_115, kd_105_118, kd_105_119, kd_105_120, kd_107_45, kd_107_70, kd_107_83, kd_107_85, kd_107_99, kd_107_105, kd_107_109, kd_107_114, kd_107_115, kd_107_118, kd_107_119, kd_107_120, kd_109_45, kd_109_70, kd_109_83, kd_109_85, kd_109_99, kd_109_105, kd_109_107, kd_109_114, kd_109_115, kd_109_118, kd_109_119, kd_109_120, kd_114_45, kd_114_70, kd_114_83, kd_114_85, kd_114_99, kd_114_105, kd_114_107, kd_114_109, kd_114_115, kd_114_118, kd_114_119, kd_114_120, kd_115_45, kd_115_70, kd_115_83, kd_115_85, kd_115_99, kd_115_105, kd_115_107, kd_115_109, kd_115_114, kd_115_118, kd_115_119, kd_115_120, kd_118_45, kd_118_70, kd_118_83, kd_118_85, kd_118_99, kd_118_105, kd_118_107, kd_118_109, kd_118_114, kd_118_115, kd_118_119, kd_118_120, kd_119_45, kd_119_70, kd_119_83, kd_119_85, kd_119_99, kd_119_105, kd_119_107, kd_119_109, kd_119_114, kd_119_115, kd_119_118, kd_119_120, kd_120_45, kd_120_70, kd_120_83, kd_120_85, kd_120_99, kd_120_105, kd_120_107, kd_120_109, kd_120_114, kd_120_115, kd_120_118, kd_120_119, if_false, if_true]
    exact w.cell (by omega)
  · simp only [kd_45_70, kd_45_83, kd_45_85, kd_45_99, kd_45_105, kd_45_107, kd_45_109, kd_45_114, kd_45_115, kd_45_118, kd_45_119, kd_45_120, kd_70_45, kd_70_83, kd_70_85, kd_70_99, kd_70_105, kd_70_107, kd_70_109, kd_70_114, kd_70_115, kd_70_118, kd_70_119, kd_70_120, kd_83_45, kd_83_70, kd_83_85, kd_83_99, kd_83_105, kd_83_107, kd_83_109, kd_83_114, kd_83_115, kd_83_118, kd_83_119, kd_83_120, kd_85_45, kd_85_70, kd_85_83, kd_85_99, kd_85_105, kd_85_107, kd_85_109, kd_85_114, kd_85_115, kd_85_118, kd_85_119, kd_85_120, kd_99_45, kd_99_70, kd_99_83, kd_99_85, kd_99_105, kd_99_107, kd_99_109, kd_99_114, kd_99_115, kd_99_118, kd_99_119, kd_99_120, kd_105_45, kd_105_70, kd_105_83, kd_105_85, kd_105_99, kd_105_107, kd_105_109, kd_105_114, kd_105_115, kd_105_118, kd_105_119, kd_105_120, kd_107_45, kd_107_70, kd_107_83, kd_107_85, kd_107_99, kd_107_105, kd_107_109, kd_107_114, kd_107_115, kd_107_118, kd_107_119, kd_107_120, kd_109_45, kd_109_70, kd_109_83, kd_109_85, kd_109_99, kd_109_105, kd_109_107, kd_109_114, kd_109_115, kd_109_118, kd_109_119, kd_109_120, kd_114_45, kd_114_70, kd_114_83, kd_114_85, kd_114_99, kd_114_105, kd_114_107, kd_114_109, kd_114_115, kd_114_118, kd_114_119, kd_114_120, kd_115_45, kd_115_70, kd_115_83, kd_115_85, kd_115_99, kd_115_105, kd_115_107, kd_115_109, kd_115_114, kd_115_118, kd_115_119, kd_115_120, kd_118_45, kd_118_70, kd_118_83, kd_118_85, kd_118_99, kd_118_105, kd_118_107, kd_118_109, kd_118_114, kd_118_115, kd_118_119, kd_118_120, kd_119_45, kd_119_70, kd_119_83, kd_119_85, kd_119_99, kd_119_105, kd_119_107, kd_119_109, kd_119_114, kd_119_115, kd_119_118, kd_119_120, kd_120_45, kd_120_70, kd_120_83, kd_120_85, kd_120_99, kd_120_105, kd_120_107, kd_120_109, kd_120_114, kd_120_115, kd_120_118, kd_120_119, if_false, if_true]
    have p := placed (by simp)
    obtain ⟨hx, ex⟩ := cl_n o (by decide)
    by_cases c : xMuch h m a σ = true
    · rw [if_pos c]
      refine ⟨by rw [up_n (by omega), up_n (by omega), up_n (by omega)]; exact w1, by rw [up_n (by omega), up_e]; exact Or.inr ⟨0, by omega, rfl⟩, by rw [up_n (by omega), up_n (by omega), up_n (by omega)]; exact w3, by rw [up_n (by omega), up_n (by omega), up_n (by omega)]; exact w4, fun b h1 h2 => ?_⟩
      rw [up_n (by omega), up_n (by omega), up_n (by omega), up_n (by omega), up_n (by omega), up_n (by omega), up_n (by omega), up_e, w5 b h1 h2, p, if_neg (m1 b h2), if_neg (m0 b h1 h2)]
    · rw [if_neg c]
      refine ⟨by rw [up_n (by omega), up_n (by omega)]; exact w1, by rw [up_n (by omega), up_e]; exact Or.inr ⟨cl a, by omega, ex⟩, by rw [up_n (by omega), up_n (by omega)]; exact w3, by rw [up_n (by omega), up_n (by omega)]; exact w4, fun b h1 h2 => ?_⟩
      rw [show up (up σ 0 a) (30 + cl a) (σ (30 + cl a) + gI h 37 0 m) (20 + b) = σ (20 + b) by rw [up_n (by omega), up_n (by omega)], show up (up σ 0 a) (30 + cl a) (σ (30 + cl a) + gI h 37 0 m) 0 = a by rw [up_n (by omega), up_e]]
      by_cases e : b = cl a
      · subst e
        rw [up_e, w5 _ h1 h2, p, if_neg (m1 _ h2), if_pos ex, Int32.add_zero]
      · rw [up_n (by omega), up_n (by omega), w5 b h1 h2, p, if_neg (m1 b h2), if_neg (fun q => e ((nI_eq (by omega) (by omega)).mp (by rw [← ex, q])).symm)]
  · simp only [kd_45_70, kd_45_83, kd_45_85, kd_45_99, kd_45_105, kd_45_107, kd_45_109, kd_45_114, kd_45_115, kd_45_118, kd_45_119, kd_45_120, kd_70_45, kd_70_83, kd_70_85, kd_70_99, kd_70_105, kd_70_107, kd_70_109, kd_70_114, kd_70_115, kd_70_118, kd_70_119, kd_70_120, kd_83_45, kd_83_70, kd_83_85, kd_83_99, kd_83_105, kd_83_107, kd_83_109, kd_83_114, kd_83_115, kd_83_118, kd_83_119, kd_83_120, kd_85_45, kd_85_70, kd_85_83, kd_85_99, kd_85_105, kd_85_107, kd_85_109, kd_85_114, kd_85_115, kd_85_118, kd_85_119, kd_85_120, kd_99_45, kd_99_70, kd_99_83, kd_99_85, kd_99_105, kd_99_107, kd_99_109, kd_99_114, kd_99_115, kd_99_118, kd_99_119, kd_99_120, kd_105_45, kd_105_70, kd_105_83, kd_105_85, kd_105_99, kd_105_107, kd_105_109, kd_105_114, kd_105_115, kd_105_118, kd_105_119, kd_105_120, kd_107_45, kd_107_70, kd_107_83, kd_107_85, kd_107_99, kd_107_105, kd_107_109, kd_107_114, kd_107_115, kd_107_118, kd_107_119, kd_107_120, kd_109_45, kd_109_70, kd_109_83, kd_109_85, kd_109_99, kd_109_105, kd_109_107, kd_109_114, kd_109_115, kd_109_118, kd_109_119, kd_109_120, kd_114_45, kd_114_70, kd_114_83, kd_114_85, kd_114_99, kd_114_105, kd_114_107, kd_114_109, kd_114_115, kd_114_118, kd_114_119, kd_114_120, kd_115_45, kd_115_70, kd_115_83, kd_115_85, kd_115_99, kd_115_105, kd_115_107, kd_115_109, kd_115_114, kd_115_118, kd_115_119, kd_115_120, kd_118_45, kd_118_70, kd_118_83, kd_118_85, kd_118_99, kd_118_105, kd_118_107, kd_118_109, kd_118_114, kd_118_115, kd_118_119, kd_118_120, kd_119_45, kd_119_70, kd_119_83, kd_119_85, kd_119_99, kd_119_105, kd_119_107, kd_119_109, kd_119_114, kd_119_115, kd_119_118, kd_119_120, kd_120_45, kd_120_70, kd_120_83, kd_120_85, kd_120_99, kd_120_105, kd_120_107, kd_120_109, kd_120_114, kd_120_115, kd_120_118, kd_120_119, if_false, if_true]
    obtain ⟨hx, ex⟩ := cl_n o (by decide)
    refine ⟨by rw [up_n (by omega), up_n (by omega), up_n (by omega)]; exact w1, by rw [up_n (by omega), up_n (by omega), up_n (by omega)]; exact w2, by rw [up_n (by omega), up_n (by omega), up_n (by omega)]; exact w3, by rw [up_n (by omega), up_n (by omega), up_n (by omega)]; exact w4, fun b h1 h2 => ?_⟩
    rw [show up (up (up σ 10 1) (20 + cl a) (σ (20 + cl a) + gI h 37 0 m)) (30 + cl a) (σ (30 + cl a) + gI h 37 0 m) 0 = σ 0 by rw [up_n (by omega), up_n (by omega), up_n (by omega)]]
    by_cases e : b = cl a
    · subst e
      rw [up_e, up_n (show 20 + cl a ≠ 30 + cl a by omega), up_e, w5 _ h1 h2]
      ac_rfl
    · rw [up_n (by omega), up_n (by omega), up_n (by omega), up_n (by omega), up_n (by omega), up_n (by omega), w5 b h1 h2]
  · simp only [kd_45_70, kd_45_83, kd_45_85, kd_45_99, kd_45_105, kd_45_107, kd_45_109, kd_45_114, kd_45_115, kd_45_118, kd_45_119, kd_45_120, kd_70_45, kd_70_83, kd_70_85, kd_70_99, kd_70_105, kd_70_107, kd_70_109, kd_70_114, kd_70_115, kd_70_118, kd_70_119, kd_70_120, kd_83_45, kd_83_70, kd_83_85, kd_83_99, kd_83_105, kd_83_107, kd_83_109, kd_83_114, kd_83_115, kd_83_118, kd_83_119, kd_83_120, kd_85_45, kd_85_70, kd_85_83, kd_85_99, kd_85_105, kd_85_107, kd_85_109, kd_85_114, kd_85_115, kd_85_118, kd_85_119, kd_85_120, kd_99_45, kd_99_70, kd_99_83, kd_99_85, kd_99_105, kd_99_107, kd_99_109, kd_99_114, kd_99_115, kd_99_118, kd_99_119, kd_99_120, kd_105_45, kd_105_70, kd_105_83, kd_105_85, kd_105_99, kd_105_107, kd_105_109, kd_105_114, kd_105_115, kd_105_118, kd_105_119, kd_105_120, kd_107_45, kd_107_70, kd_107_83, kd_107_85, kd_107_99, kd_107_105, kd_107_109, kd_107_114, kd_107_115, kd_107_118, kd_107_119, kd_107_120, kd_109_45, kd_109_70, kd_109_83, kd_109_85, kd_109_99, kd_109_105, kd_109_107, kd_109_114, kd_109_115, kd_109_118, kd_109_119, kd_109_120, kd_114_45, kd_114_70, kd_114_83, kd_114_85, kd_114_99, kd_114_105, kd_114_107, kd_114_109, kd_114_115, kd_114_118, kd_114_119, kd_114_120, kd_115_45, kd_115_70, kd_115_83, kd_115_85, kd_115_99, kd_115_105, kd_115_107, kd_115_109, kd_115_114, kd_115_118, kd_115_119, kd_115_120, kd_118_45, kd_118_70, kd_118_83, kd_118_85, kd_118_99, kd_118_105, kd_118_107, kd_118_109, kd_118_114, kd_118_115, kd_118_119, kd_118_120, kd_119_45, kd_119_70, kd_119_83, kd_119_85, kd_119_99, kd_119_105, kd_119_107, kd_119_109, kd_119_114, kd_119_115, kd_119_118, kd_119_120, kd_120_45, kd_120_70, kd_120_83, kd_120_85, kd_120_99, kd_120_105, kd_120_107, kd_120_109, kd_120_114, kd_120_115, kd_120_118, kd_120_119, if_false, if_true]
    exact (w.cell (by omega)).cell (by omega)
  · simp only [kd_45_70, kd_45_83, kd_45_85, kd_45_99, kd_45_105, kd_45_107, kd_45_109, kd_45_114, kd_45_115, kd_45_118, kd_45_119, kd_45_120, kd_70_45, kd_70_83, kd_70_85, kd_70_99, kd_70_105, kd_70_107, kd_70_109, kd_70_114, kd_70_115, kd_70_118, kd_70_119, kd_70_120, kd_83_45, kd_83_70, kd_83_85, kd_83_99, kd_83_105, kd_83_107, kd_83_109, kd_83_114, kd_83_115, kd_83_118, kd_83_119, kd_83_120, kd_85_45, kd_85_70, kd_85_83, kd_85_99, kd_85_105, kd_85_107, kd_85_109, kd_85_114, kd_85_115, kd_85_118, kd_85_119, kd_85_120, kd_99_45, kd_99_70, kd_99_83, kd_99_85, kd_99_105, kd_99_107, kd_99_109, kd_99_114, kd_99_115, kd_99_118, kd_99_119, kd_99_120, kd_105_45, kd_105_70, kd_105_83, kd_105_85, kd_105_99, kd_105_107, kd_105_109, kd_105_114, kd_105_115, kd_105_118, kd_105_119, kd_105_120, kd_107_45, kd_107_70, kd_107_83, kd_107_85, kd_107_99, kd_107_105, kd_107_109, kd_107_114, kd_107_115, kd_107_118, kd_107_119, kd_107_120, kd_109_45, kd_109_70, kd_109_83, kd_109_85, kd_109_99, kd_109_105, kd_109_107, kd_109_114, kd_109_115, kd_109_118, kd_109_119, kd_109_120, kd_114_45, kd_114_70, kd_114_83, kd_114_85, kd_114_99, kd_114_105, kd_114_107, kd_114_109, kd_114_115, kd_114_118, kd_114_119, kd_114_120, kd_115_45, kd_115_70, kd_115_83, kd_115_85, kd_115_99, kd_115_105, kd_115_107, kd_115_109, kd_115_114, kd_115_118, kd_115_119, kd_115_120, kd_118_45, kd_118_70, kd_118_83, kd_118_85, kd_118_99, kd_118_105, kd_118_107, kd_118_109, kd_118_114, kd_118_115, kd_118_119, kd_118_120, kd_119_45, kd_119_70, kd_119_83, kd_119_85, kd_119_99, kd_119_105, kd_119_107, kd_119_109, kd_119_114, kd_119_115, kd_119_118, kd_119_120, kd_120_45, kd_120_70, kd_120_83, kd_120_85, kd_120_99, kd_120_105, kd_120_107, kd_120_109, kd_120_114, kd_120_115, kd_120_118, kd_120_119, if_false, if_true]
    refine ⟨by rw [up_n (by omega)]; exact w1, by rw [up_n (by omega)]; exact w2, fun i h1 h2 => ?_, by rw [up_n (by omega)]; exact w4, fun b h1 h2 => ?_⟩
    · obtain ⟨x, hx, rfl⟩ := o
      rw [up_e, bI_or, bI_sh (by omega), w3 i h1 h2, Bool.false_or, decide_eq_false (by omega)]
    · rw [up_n (by omega), up_n (by omega), up_n (by omega), w5 b h1 h2]
  · simp only [kd_45_70, kd_45_83, kd_45_85, kd_45_99, kd_45_105, kd_45_107, kd_45_109, kd_45_114, kd_45_115, kd_45_118, kd_45_119, kd_45_120, kd_70_45, kd_70_83, kd_70_85, kd_70_99, kd_70_105, kd_70_107, kd_70_109, kd_70_114, kd_70_115, kd_70_118, kd_70_119, kd_70_120, kd_83_45, kd_83_70, kd_83_85, kd_83_99, kd_83_105, kd_83_107, kd_83_109, kd_83_114, kd_83_115, kd_83_118, kd_83_119, kd_83_120, kd_85_45, kd_85_70, kd_85_83, kd_85_99, kd_85_105, kd_85_107, kd_85_109, kd_85_114, kd_85_115, kd_85_118, kd_85_119, kd_85_120, kd_99_45, kd_99_70, kd_99_83, kd_99_85, kd_99_105, kd_99_107, kd_99_109, kd_99_114, kd_99_115, kd_99_118, kd_99_119, kd_99_120, kd_105_45, kd_105_70, kd_105_83, kd_105_85, kd_105_99, kd_105_107, kd_105_109, kd_105_114, kd_105_115, kd_105_118, kd_105_119, kd_105_120, kd_107_45, kd_107_70, kd_107_83, kd_107_85, kd_107_99, kd_107_105, kd_107_109, kd_107_114, kd_107_115, kd_107_118, kd_107_119, kd_107_120, kd_109_45, kd_109_70, kd_109_83, kd_109_85, kd_109_99, kd_109_105, kd_109_107, kd_109_114, kd_109_115, kd_109_118, kd_109_119, kd_109_120, kd_114_45, kd_114_70, kd_114_83, kd_114_85, kd_114_99, kd_114_105, kd_114_107, kd_114_109, kd_114_115, kd_114_118, kd_114_119, kd_114_120, kd_115_45, kd_115_70, kd_115_83, kd_115_85, kd_115_99, kd_115_105, kd_115_107, kd_115_109, kd_115_114, kd_115_118, kd_115_119, kd_115_120, kd_118_45, kd_118_70, kd_118_83, kd_118_85, kd_118_99, kd_118_105, kd_118_107, kd_118_109, kd_118_114, kd_118_115, kd_118_119, kd_118_120, kd_119_45, kd_119_70, kd_119_83, kd_119_85, kd_119_99, kd_119_105, kd_119_107, kd_119_109, kd_119_114, kd_119_115, kd_119_118, kd_119_120, kd_120_45, kd_120_70, kd_120_83, kd_120_85, kd_120_99, kd_120_105, kd_120_107, kd_120_109, kd_120_114, kd_120_115, kd_120_118, kd_120_119, if_false, if_true]
    refine ⟨by rw [up_n (by omega)]; exact w1, by rw [up_n (by omega)]; exact w2, fun i h1 h2 => ?_, by rw [up_n (by omega)]; exact w4, fun b h1 h2 => ?_⟩
    · rw [up_e, bI_and, w3 i h1 h2, Bool.false_and]
    · rw [up_n (by omega), up_n (by omega), up_n (by omega), w5 b h1 h2]
  · simp only [kd_45_70, kd_45_83, kd_45_85, kd_45_99, kd_45_105, kd_45_107, kd_45_109, kd_45_114, kd_45_115, kd_45_118, kd_45_119, kd_45_120, kd_70_45, kd_70_83, kd_70_85, kd_70_99, kd_70_105, kd_70_107, kd_70_109, kd_70_114, kd_70_115, kd_70_118, kd_70_119, kd_70_120, kd_83_45, kd_83_70, kd_83_85, kd_83_99, kd_83_105, kd_83_107, kd_83_109, kd_83_114, kd_83_115, kd_83_118, kd_83_119, kd_83_120, kd_85_45, kd_85_70, kd_85_83, kd_85_99, kd_85_105, kd_85_107, kd_85_109, kd_85_114, kd_85_115, kd_85_118, kd_85_119, kd_85_120, kd_99_45, kd_99_70, kd_99_83, kd_99_85, kd_99_105, kd_99_107, kd_99_109, kd_99_114, kd_99_115, kd_99_118, kd_99_119, kd_99_120, kd_105_45, kd_105_70, kd_105_83, kd_105_85, kd_105_99, kd_105_107, kd_105_109, kd_105_114, kd_105_115, kd_105_118, kd_105_119, kd_105_120, kd_107_45, kd_107_70, kd_107_83, kd_107_85, kd_107_99, kd_107_105, kd_107_109, kd_107_114, kd_107_115, kd_107_118, kd_107_119, kd_107_120, kd_109_45, kd_109_70, kd_109_83, kd_109_85, kd_109_99, kd_109_105, kd_109_107, kd_109_114, kd_109_115, kd_109_118, kd_109_119, kd_109_120, kd_114_45, kd_114_70, kd_114_83, kd_114_85, kd_114_99, kd_114_105, kd_114_107, kd_114_109, kd_114_115, kd_114_118, kd_114_119, kd_114_120, kd_115_45, kd_115_70, kd_115_83, kd_115_85, kd_115_99, kd_115_105, kd_115_107, kd_115_109, kd_115_114, kd_115_118, kd_115_119, kd_115_120, kd_118_45, kd_118_70, kd_118_83, kd_118_85, kd_118_99, kd_118_105, kd_118_107, kd_118_109, kd_118_114, kd_118_115, kd_118_119, kd_118_120, kd_119_45, kd_119_70, kd_119_83, kd_119_85, kd_119_99, kd_119_105, kd_119_107, kd_119_109, kd_119_114, kd_119_115, kd_119_118, kd_119_120, kd_120_45, kd_120_70, kd_120_83, kd_120_85, kd_120_99, kd_120_105, kd_120_107, kd_120_109, kd_120_114, kd_120_115, kd_120_118, kd_120_119, if_false, if_true]
    by_cases c : xDue h m a = true
    · rw [if_pos c]
      have w' := w.cell (i := 10) (v := 1) (by omega)
      obtain ⟨w1, w2, w3, w4, w5⟩ := w'
      refine ⟨by rw [up_n (by omega)]; exact w1, by rw [up_n (by omega)]; exact w2, by rw [up_n (by omega)]; exact w3, by rw [up_e]; exact Or.inr rfl, fun b h1 h2 => ?_⟩
      rw [up_n (show 30 + b ≠ 9 by omega), up_n (show 20 + b ≠ 9 by omega), up_n (show 0 ≠ 9 by omega)]
      exact w5 b h1 h2
    · rw [if_neg c]
      exact w.cell (by omega)
  · simp only [kd_45_70, kd_45_83, kd_45_85, kd_45_99, kd_45_105, kd_45_107, kd_45_109, kd_45_114, kd_45_115, kd_45_118, kd_45_119, kd_45_120, kd_70_45, kd_70_83, kd_70_85, kd_70_99, kd_70_105, kd_70_107, kd_70_109, kd_70_114, kd_70_115, kd_70_118, kd_70_119, kd_70_120, kd_83_45, kd_83_70, kd_83_85, kd_83_99, kd_83_105, kd_83_107, kd_83_109, kd_83_114, kd_83_115, kd_83_118, kd_83_119, kd_83_120, kd_85_45, kd_85_70, kd_85_83, kd_85_99, kd_85_105, kd_85_107, kd_85_109, kd_85_114, kd_85_115, kd_85_118, kd_85_119, kd_85_120, kd_99_45, kd_99_70, kd_99_83, kd_99_85, kd_99_105, kd_99_107, kd_99_109, kd_99_114, kd_99_115, kd_99_118, kd_99_119, kd_99_120, kd_105_45, kd_105_70, kd_105_83, kd_105_85, kd_105_99, kd_105_107, kd_105_109, kd_105_114, kd_105_115, kd_105_118, kd_105_119, kd_105_120, kd_107_45, kd_107_70, kd_107_83, kd_107_85, kd_107_99, kd_107_105, kd_107_109, kd_107_114, kd_107_115, kd_107_118, kd_107_119, kd_107_120, kd_109_45, kd_109_70, kd_109_83, kd_109_85, kd_109_99, kd_109_105, kd_109_107, kd_109_114, kd_109_115, kd_109_118, kd_109_119, kd_109_120, kd_114_45, kd_114_70, kd_114_83, kd_114_85, kd_114_99, kd_114_105, kd_114_107, kd_114_109, kd_114_115, kd_114_118, kd_114_119, kd_114_120, kd_115_45, kd_115_70, kd_115_83, kd_115_85, kd_115_99, kd_115_105, kd_115_107, kd_115_109, kd_115_114, kd_115_118, kd_115_119, kd_115_120, kd_118_45, kd_118_70, kd_118_83, kd_118_85, kd_118_99, kd_118_105, kd_118_107, kd_118_109, kd_118_114, kd_118_115, kd_118_119, kd_118_120, kd_119_45, kd_119_70, kd_119_83, kd_119_85, kd_119_99, kd_119_105, kd_119_107, kd_119_109, kd_119_114, kd_119_115, kd_119_118, kd_119_120, kd_120_45, kd_120_70, kd_120_83, kd_120_85, kd_120_99, kd_120_105, kd_120_107, kd_120_109, kd_120_114, kd_120_115, kd_120_118, kd_120_119, if_false]
    exact w
theorem xFault_le (e : Nat) (k a : Int32) (σ : Nat → Int32) : xFault h m e k a σ = 0 ∨ (4 ≤ xFault h m e k a σ ∧ xFault h m e k a σ ≤ 6) := by
  unfold xFault
  split
  · omega
  · split
    · omega
    · split <;> omega
theorem xClash_did {k code : Int32} {σ : Nat → Int32} (n : σ 2 ≠ 200) : xClash k (xDid σ code) = xClash k σ := by
  have g : ∀ j, j ≠ 2 → j < 100 → xDid σ code j = σ j := fun j h1 h2 => by unfold xDid; rw [up_n h1, up_n (by omega)]
  unfold xClash
  rw [g 0 (by omega) (by omega), g 10 (by omega) (by omega)]
theorem XW.one {σ : Nat → Int32} {e : Nat} {RS : Int32 → (Nat → Int32) → Nat → Int32} {k a code : Int32} (w : XW h m nm σ) (v : SaV k a) (hR : k = 105 → e ≠ 0 → XW h m nm (xDid σ code) → XW h m nm (RS a (xDid σ code))) : XW h m nm (xOne h m e RS k a code σ) := by
  unfold xOne
  split
  · exact w.cell (by omega)
  · rename_i c
    split
    · have := xFault_le (h := h) (m := m) e k a σ
      exact w.cell (by omega)
    · rename_i z
      split
      · exact w.cell (by omega)
      · rename_i n
        split
        · rename_i k5
          exact hR k5 (fun e0 => z (fun q => by unfold xFault at q; rw [if_pos ⟨k5, e0⟩] at q; cases q)) (w.did n)
        · exact (w.did n).act v (by rw [xClash_did n]; simpa using c)
end
