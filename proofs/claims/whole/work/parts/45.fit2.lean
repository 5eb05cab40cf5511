/-! what a test without parts says of a mail -/
def cl (x : Int32) : Nat := x.toNatClampNeg
def fit (M : Nat → Int32) (k a : Int32) : Bool :=
  if k = 98 then bI (M 3) (cl a) else if k = 100 then decide (M 5 = a) else if k = 102 then decide (M 0 = a) else if k = 107 then bI (M 6) (cl a)
  else if k = 110 then decide (¬ nI (pcn (cl (M 1))) < a) else if k = 115 then bI (M 2) (cl a) else if k = 116 then bI (M 1) (cl a) else if k = 122 then decide (¬ M 4 ≤ a) else true
def mC (h : Hp) (m : Nat) (fl : Int32) : Nat → Int32 := fun i => if i = 6 then fl else gI h 2 m i
def bit01 (b : Bool) : Int32 := if b = true then 1 else 0
theorem hb_w {x a : Int32} {h : Hp} {Q : Int32 → Prop} {n : Nat} (ha : inN a n) (hn : n ≤ 32) : wp_X10_hasBit x a h Q = Q (bit01 (bI x (cl a))) := by
  obtain ⟨j, hj, rfl⟩ := ha
  rw [show cl (nI j) = j from nI_clamp (by omega)]
  cases b : bI x j
  · rw [hb_0 (by omega) b]; rfl
  · rw [hb_1 (by omega) b]; rfl
theorem fits_w {k a : Int32} {m : Nat} {fl : Int32} {h : Hp} {Q : Int32 → Prop} (o : leafOK k a) (hr : inN (gI h 2 m 1) 1024) : wp_X9_fits k a m fl h Q = Q (bit01 (fit (mC h m fl) k a)) := by
  unfold wp_X9_fits fit mC
  rcases o with rfl | ⟨rfl | rfl, o⟩ | ⟨rfl | rfl, o⟩ | ⟨rfl, o⟩ | ⟨rfl, o⟩ | ⟨rfl, o⟩ | ⟨rfl, o⟩
  · simp [bit01]
  · simp only [show ((102 : Int32) = 98) = False by decide, show ((102 : Int32) = 100) = False by decide, gI_sI, gI_sJ, gI_sR, gI_sD, gJ_sI, gJ_sJ, gJ_sR, gJ_sD, gR_sI, gR_sJ, gR_sR, gR_sD, gD_sI, gD_sJ, gD_sR, gD_sD, Nat.reduceEqDiff, false_and, and_false, true_and, and_true, and_self, reduceIte, if_true, if_false, ite_true, ite_false]
    by_cases e : gI h 2 m 0 = a <;> simp [e, bit01]
  · simp only [show ((116 : Int32) = 98) = False by decide, show ((116 : Int32) = 100) = False by decide, show ((116 : Int32) = 102) = False by decide, show ((116 : Int32) = 107) = False by decide, show ((116 : Int32) = 110) = False by decide, show ((116 : Int32) = 115) = False by decide, gI_sI, gI_sJ, gI_sR, gI_sD, gJ_sI, gJ_sJ, gJ_sR, gJ_sD, gR_sI, gR_sJ, gR_sR, gR_sD, gD_sI, gD_sJ, gD_sR, gD_sD, Nat.reduceEqDiff, false_and, and_false, true_and, and_true, and_self, reduceIte, if_true, if_false, ite_true, ite_false, hb_w o (by decide)]
  · simp only [show ((115 : Int32) = 98) = False by decide, show ((115 : Int32) = 100) = False by decide, show ((115 : Int32) = 102) = False by decide, show ((115 : Int32) = 107) = False by decide, show ((115 : Int32) = 110) = False by decide, gI_sI, gI_sJ, gI_sR, gI_sD, gJ_sI, gJ_sJ, gJ_sR, gJ_sD, gR_sI, gR_sJ, gR_sR, gR_sD, gD_sI, gD_sJ, gD_sR, gD_sD, Nat.reduceEqDiff, false_and, and_false, true_and, and_true, and_self, reduceIte, if_true, if_false, ite_true, ite_false, hb_w o (by decide)]
  · simp only [gI_sI, gI_sJ, gI_sR, gI_sD, gJ_sI, gJ_sJ, gJ_sR, gJ_sD, gR_sI, gR_sJ, gR_sR, gR_sD, gD_sI, gD_sJ, gD_sR, gD_sD, Nat.reduceEqDiff, false_and, and_false, true_and, and_true, and_self, reduceIte, if_true, if_false, ite_true, ite_false, hb_w o (by decide)]
  · simp only [show ((122 : Int32) = 98) = False by decide, show ((122 : Int32) = 100) = False by decide, show ((122 : Int32) = 102) = False by decide, show ((122 : Int32) = 107) = False by decide, show ((122 : Int32) = 110) = False by decide, show ((122 : Int32) = 115) = False by decide, show ((122 : Int32) = 116) = False by decide, gI_sI, gI_sJ, gI_sR, gI_sD, gJ_sI, gJ_sJ, gJ_sR, gJ_sD, gR_sI, gR_sJ, gR_sR, gR_sD, gD_sI, gD_sJ, gD_sR, gD_sD, Nat.reduceEqDiff, false_and, and_false, true_and, and_true, and_self, reduceIte, if_true, if_false, ite_true, ite_false]
    by_cases e : gI h 2 m 4 ≤ a <;> simp [e, bit01]
  · simp only [show ((100 : Int32) = 98) = False by decide, gI_sI, gI_sJ, gI_sR, gI_sD, gJ_sI, gJ_sJ, gJ_sR, gJ_sD, gR_sI, gR_sJ, gR_sR, gR_sD, gD_sI, gD_sJ, gD_sR, gD_sD, Nat.reduceEqDiff, false_and, and_false, true_and, and_true, and_self, reduceIte, if_true, if_false, ite_true, ite_false]
    by_cases e : gI h 2 m 5 = a <;> simp [e, bit01]
  · obtain ⟨r, hr', er⟩ := hr
    simp only [show ((110 : Int32) = 98) = False by decide, show ((110 : Int32) = 100) = False by decide, show ((110 : Int32) = 102) = False by decide, show ((110 : Int32) = 107) = False by decide, gI_sI, gI_sJ, gI_sR, gI_sD, gJ_sI, gJ_sJ, gJ_sR, gJ_sD, gR_sI, gR_sJ, gR_sR, gR_sD, gD_sI, gD_sJ, gD_sR, gD_sD, Nat.reduceEqDiff, false_and, and_false, true_and, and_true, and_self, reduceIte, if_true, if_false, ite_true, ite_false, er, bc_w hr']
    simp only [show cl (nI r) = r from nI_clamp (by omega), show (1 : Nat) = 6 ↔ False by decide, gI_sI, gI_sJ, gI_sR, gI_sD, gJ_sI, gJ_sJ, gJ_sR, gJ_sD, gR_sI, gR_sJ, gR_sR, gR_sD, gD_sI, gD_sJ, gD_sR, gD_sD, Nat.reduceEqDiff, false_and, and_false, true_and, and_true, and_self, reduceIte, if_true, if_false, ite_true, ite_false, er]
    by_cases e : nI (pcn r) < a <;> simp [e, bit01, er, show cl (nI r) = r from nI_clamp (by omega)]
  · simp only [show ((107 : Int32) = 98) = False by decide, show ((107 : Int32) = 100) = False by decide, show ((107 : Int32) = 102) = False by decide, gI_sI, gI_sJ, gI_sR, gI_sD, gJ_sI, gJ_sJ, gJ_sR, gJ_sD, gR_sI, gR_sJ, gR_sR, gR_sD, gD_sI, gD_sJ, gD_sR, gD_sD, Nat.reduceEqDiff, false_and, and_false, true_and, and_true, and_self, reduceIte, if_true, if_false, ite_true, ite_false, hb_w o (by decide)]
def mM (h : Hp) (m : Nat) (fl : Int32) : Nat → Int32 := fun i => if i = 0 then gI h 33 0 m else if i = 1 then gI h 34 0 m else if i = 2 then gI h 35 0 m else if i = 3 then gI h 36 0 m else if i = 4 then gI h 37 0 m else if i = 5 then gI h 38 0 m - gI h 38 0 m / 7 * 7 else fl
theorem mM_mC {h : Hp} {m : Nat} {fl : Int32} (e : SmE h m) {k a : Int32} : fit (mC h m fl) k a = fit (mM h m fl) k a := by
  obtain ⟨e0, e1, e2, e3, e4, e5⟩ := e
  have g0 : mC h m fl 0 = mM h m fl 0 := e0
  have g1 : mC h m fl 1 = mM h m fl 1 := e1
  have g2 : mC h m fl 2 = mM h m fl 2 := e2
  have g3 : mC h m fl 3 = mM h m fl 3 := e3
  have g4 : mC h m fl 4 = mM h m fl 4 := e4
  have g5 : mC h m fl 5 = mM h m fl 5 := e5
  have g6 : mC h m fl 6 = mM h m fl 6 := rfl
  unfold fit
  rw [g0, g1, g2, g3, g4, g5, g6]
theorem sr_w {x a : Int32} {n : Nat} (ha : inN a n) (hn : n ≤ 32) : ((x >>> (a &&& 31)) &&& 1 = 1) ↔ bI x (cl a) = true := by
  obtain ⟨j, hj, rfl⟩ := ha
  rw [show cl (nI j) = j from nI_clamp (by omega), sr1 (by omega)]
  cases bI x j <;> decide
/-- the model's own: for the kinds that look at the mail alone -/
theorem ofm_w {k a : Int32} {m : Nat} {fl : Int32} {h : Hp} {Q : Int32 → Prop} (hm : m < 40) (o : leafOK k a) (hr : inN (gI h 34 0 m) 1024) (k1 : k ≠ 97) (k2 : k ≠ 107) (f : Q (bit01 (fit (mM h m fl) k a))) : wp_X11_ofMail k a (nI m) h Q := by
  have c1 : vp_in (nI m) 40 := vp_in_nI hm (by decide)
  unfold wp_X11_ofMail
  unfold fit mM at f
  rcases o with rfl | ⟨rfl | rfl, o⟩ | ⟨rfl | rfl, o⟩ | ⟨rfl, o⟩ | ⟨rfl, o⟩ | ⟨rfl, o⟩ | ⟨rfl, o⟩
  · exact absurd rfl k1
  · simp only [show ((102 : Int32) = 98) = False by decide, show ((102 : Int32) = 100) = False by decide, gI_sI, gI_sJ, gI_sR, gI_sD, gJ_sI, gJ_sJ, gJ_sR, gJ_sD, gR_sI, gR_sJ, gR_sR, gR_sD, gD_sI, gD_sJ, gD_sR, gD_sD, Nat.reduceEqDiff, false_and, and_false, true_and, and_true, and_self, reduceIte, if_true, if_false, ite_true, ite_false, c1, nI_clamp (show m < 2 ^ 31 by omega)] at f ⊢
    by_cases e : gI h 33 0 m = a <;> simpa [e, bit01] using f
  · simp only [show ((116 : Int32) = 98) = False by decide, show ((116 : Int32) = 100) = False by decide, show ((116 : Int32) = 102) = False by decide, show ((116 : Int32) = 107) = False by decide, show ((116 : Int32) = 110) = False by decide, show ((116 : Int32) = 115) = False by decide, gI_sI, gI_sJ, gI_sR, gI_sD, gJ_sI, gJ_sJ, gJ_sR, gJ_sD, gR_sI, gR_sJ, gR_sR, gR_sD, gD_sI, gD_sJ, gD_sR, gD_sD, Nat.reduceEqDiff, false_and, and_false, true_and, and_true, and_self, reduceIte, if_true, if_false, ite_true, ite_false, c1, nI_clamp (show m < 2 ^ 31 by omega), sr_w o (by decide)] at f ⊢
    cases e : bI (gI h 34 0 m) (cl a) <;> simpa [e, bit01] using f
  · simp only [show ((115 : Int32) = 98) = False by decide, show ((115 : Int32) = 100) = False by decide, show ((115 : Int32) = 102) = False by decide, show ((115 : Int32) = 107) = False by decide, show ((115 : Int32) = 110) = False by decide, gI_sI, gI_sJ, gI_sR, gI_sD, gJ_sI, gJ_sJ, gJ_sR, gJ_sD, gR_sI, gR_sJ, gR_sR, gR_sD, gD_sI, gD_sJ, gD_sR, gD_sD, Nat.reduceEqDiff, false_and, and_false, true_and, and_true, and_self, reduceIte, if_true, if_false, ite_true, ite_false, c1, nI_clamp (show m < 2 ^ 31 by omega), sr_w o (by decide)] at f ⊢
    cases e : bI (gI h 35 0 m) (cl a) <;> simpa [e, bit01] using f
  · simp only [gI_sI, gI_sJ, gI_sR, gI_sD, gJ_sI, gJ_sJ, gJ_sR, gJ_sD, gR_sI, gR_sJ, gR_sR, gR_sD, gD_sI, gD_sJ, gD_sR, gD_sD, Nat.reduceEqDiff, false_and, and_false, true_and, and_true, and_self, reduceIte, if_true, if_false, ite_true, ite_false, c1, nI_clamp (show m < 2 ^ 31 by omega), sr_w o (by decide)] at f ⊢
    cases e : bI (gI h 36 0 m) (cl a) <;> simpa [e, bit01] using f
  · simp only [show ((122 : Int32) = 98) = False by decide, show ((122 : Int32) = 100) = False by decide, show ((122 : Int32) = 102) = False by decide, show ((122 : Int32) = 107) = False by decide, show ((122 : Int32) = 110) = False by decide, show ((122 : Int32) = 115) = False by decide, show ((122 : Int32) = 116) = False by decide, gI_sI, gI_sJ, gI_sR, gI_sD, gJ_sI, gJ_sJ, gJ_sR, gJ_sD, gR_sI, gR_sJ, gR_sR, gR_sD, gD_sI, gD_sJ, gD_sR, gD_sD, Nat.reduceEqDiff, false_and, and_false, true_and, and_true, and_self, reduceIte, if_true, if_false, ite_true, ite_false, c1, nI_clamp (show m < 2 ^ 31 by omega)] at f ⊢
    by_cases e : gI h 37 0 m ≤ a <;> simpa [e, bit01] using f
  · simp only [show ((100 : Int32) = 98) = False by decide, gI_sI, gI_sJ, gI_sR, gI_sD, gJ_sI, gJ_sJ, gJ_sR, gJ_sD, gR_sI, gR_sJ, gR_sR, gR_sD, gD_sI, gD_sJ, gD_sR, gD_sD, Nat.reduceEqDiff, false_and, and_false, true_and, and_true, and_self, reduceIte, if_true, if_false, ite_true, ite_false, c1, nI_clamp (show m < 2 ^ 31 by omega)] at f ⊢
    by_cases e : (gI h 38 0 m - gI h 38 0 m / 7 * 7) = a <;> simpa [e, bit01] using f
  · obtain ⟨r, hr', er⟩ := hr
    simp only [show ((110 : Int32) = 98) = False by decide, show ((110 : Int32) = 100) = False by decide, show ((110 : Int32) = 102) = False by decide, show ((110 : Int32) = 107) = False by decide, show ((110 : Int32) = 115) = False by decide, show ((110 : Int32) = 116) = False by decide, show ((110 : Int32) = 122) = False by decide, gI_sI, gI_sJ, gI_sR, gI_sD, gJ_sI, gJ_sJ, gJ_sR, gJ_sD, gR_sI, gR_sJ, gR_sR, gR_sD, gD_sI, gD_sJ, gD_sR, gD_sD, Nat.reduceEqDiff, false_and, and_false, true_and, and_true, and_self, reduceIte, if_true, if_false, ite_true, ite_false, c1, nI_clamp (show m < 2 ^ 31 by omega), er, show cl (nI r) = r from nI_clamp (by omega)] at f ⊢
    refine bits_w hr' ?_
    by_cases e : nI (pcn r) < a <;> simpa [e, bit01] using f
  · exact absurd rfl k2
