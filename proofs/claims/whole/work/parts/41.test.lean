/-! tests -/
theorem leaf_k {k a : Int32} (o : leafOK k a) : k ≠ 33 ∧ k ≠ 38 ∧ k ≠ 124 := by
  rcases o with rfl | ⟨rfl | rfl, _⟩ | ⟨rfl | rfl, _⟩ | ⟨rfl, _⟩ | ⟨rfl, _⟩ | ⟨rfl, _⟩ | ⟨rfl, _⟩ <;> decide
theorem pt_e {k : Int32} {h : Hp} {Q : Int32 → Prop} : wp_X9_partsOf k h Q = Q (nI (tP k)) := by
  unfold wp_X9_partsOf tP
  by_cases a : k = 38
  · simp [a]; rfl
  by_cases b : k = 124
  · simp [b]; rfl
  by_cases c : k = 33
  · simp [c]; rfl
  · simp [a, b, c]; rfl
theorem ip_1 {k : Int32} {h : Hp} {Q : Int32 → Prop} (a : k = 38 ∨ k = 124) : wp_X11_isPair k h Q = Q 1 := by
  unfold wp_X11_isPair
  rcases a with rfl | rfl <;> simp
theorem ip_0 {k : Int32} {h : Hp} {Q : Int32 → Prop} (a : ¬ (k = 38 ∨ k = 124)) : wp_X11_isPair k h Q = Q 0 := by
  unfold wp_X11_isPair
  rw [if_neg (fun e => a (Or.inl e)), if_neg (fun e => a (Or.inr e))]
theorem ist_w {t : Nat} {h : Hp} {Q : Int32 → Prop} (ht : t < 60) (v : StV (gI h 12 0 t) (gI h 13 0 t) (gI h 14 0 t) t) (f : ∀ r, (r = if isSt h t = true then 1 else 0) → Q r) : wp_X9_isSteady (nI t) h Q := by
  unfold wp_X9_isSteady wp_X9_isSteady_b42
  have c1 : vp_in (nI t) 60 := vp_in_nI ht (by decide)
  refine ⟨c1, ?_⟩
  rw [pt_e]
  simp only [nI_clamp (show t < 2 ^ 31 by omega), c1, true_and]
  by_cases k7 : gI h 12 0 t = 107
  · rw [if_pos k7]
    exact f 0 (by simp [isSt, k7])
  rw [if_neg k7]
  rcases v with v | ⟨k3, ⟨x, hx, ex⟩, v⟩
  · obtain ⟨n1, n2, n3⟩ := leaf_k v
    have e0 : tP (gI h 12 0 t) = 0 := by simp [tP, n1, n2, n3]
    rw [e0]
    simp only [show nI 0 < 1 by decide, show nI 0 < 2 by decide, if_true]
    exact f 1 (by simp [isSt, k7, e0])
  · by_cases k33 : gI h 12 0 t = 33
    · have e0 : tP (gI h 12 0 t) = 1 := by simp [tP, k33]
      rw [e0, ex]
      simp only [show ¬ nI 1 < 1 by decide, show nI 1 < 2 by decide, if_true, if_false]
      cases b : bJ (gJ h 9 0 3) x
      · rw [hbJ_0 (by omega) b]
        simp only [if_true]
        exact f 0 (by simp [isSt, e0, ex, nI_clamp (show x < 2 ^ 31 by omega), b])
      · rw [hbJ_1 (by omega) b]
        simp only [z_10, if_false]
        exact f 1 (by simp [isSt, k7, e0, ex, nI_clamp (show x < 2 ^ 31 by omega), b])
    · obtain ⟨y, hy, ey⟩ := v k33
      have e0 : tP (gI h 12 0 t) = 2 := by
        rcases k3 with q | q | q
        · exact absurd q k33
        · simp [tP, q]
        · simp [tP, q]
      rw [e0, ex, ey]
      simp only [show ¬ nI 2 < 1 by decide, show ¬ nI 2 < 2 by decide, if_false]
      cases b : bJ (gJ h 9 0 3) x
      · rw [hbJ_0 (by omega) b]
        simp only [if_true]
        exact f 0 (by simp [isSt, e0, ex, nI_clamp (show x < 2 ^ 31 by omega), b])
      · rw [hbJ_1 (by omega) b]
        simp only [z_10, if_false]
        cases b2 : bJ (gJ h 9 0 3) y
        · rw [hbJ_0 (by omega) b2]
          simp only [if_true]
          exact f 0 (by simp [isSt, e0, ey, nI_clamp (show y < 2 ^ 31 by omega), b2])
        · rw [hbJ_1 (by omega) b2]
          simp only [z_10, if_false]
          exact f 1 (by simp [isSt, k7, e0, ex, ey, nI_clamp (show x < 2 ^ 31 by omega), nI_clamp (show y < 2 ^ 31 by omega), b, b2])
/-- the class's tests alone -/
def CT (nt : Nat) (h : Hp) : Prop := nt ≤ 60 ∧ gI h 9 0 4 = nI nt ∧ (∀ t, t < nt → StV (gI h 12 0 t) (gI h 13 0 t) (gI h 14 0 t) t ∧ bJ (gJ h 9 0 3) t = isSt h t) ∧ (∀ t, nt ≤ t → t < 64 → bJ (gJ h 9 0 3) t = false)
theorem STest.ct {nt : Nat} {h : Hp} (s : STest nt h) : CT nt h := ⟨s.1, s.2.1, fun t ht => ⟨(s.2.2.2.1 t ht).2.2.2.1, (s.2.2.2.1 t ht).2.2.2.2⟩, s.2.2.2.2⟩
theorem isSt_ext {h h' : Hp} {nt t : Nat} (v : StV (gI h 12 0 t) (gI h 13 0 t) (gI h 14 0 t) t) (e1 : gI h' 12 0 t = gI h 12 0 t) (e2 : gI h' 13 0 t = gI h 13 0 t) (e3 : gI h' 14 0 t = gI h 14 0 t) (ht : t ≤ nt) (hn : nt < 2 ^ 31) (hb : ∀ x, x < nt → bJ (gJ h' 9 0 3) x = bJ (gJ h 9 0 3) x) : isSt h' t = isSt h t := by
  unfold isSt
  rw [e1, e2, e3]
  rcases v with v | ⟨k3, ⟨x, hx, ex⟩, v⟩
  · obtain ⟨n1, n2, n3⟩ := leaf_k v
    have e0 : tP (gI h 12 0 t) = 0 := by simp [tP, n1, n2, n3]
    simp [e0]
  · by_cases k33 : gI h 12 0 t = 33
    · have e0 : tP (gI h 12 0 t) = 1 := by simp [tP, k33]
      simp [e0, ex, nI_clamp (show x < 2 ^ 31 by omega), hb x (by omega)]
    · obtain ⟨y, hy, ey⟩ := v k33
      simp [ex, ey, nI_clamp (show x < 2 ^ 31 by omega), nI_clamp (show y < 2 ^ 31 by omega), hb x (by omega), hb y (by omega)]
theorem app_w {nt : Nat} {h : Hp} {k a b : Int32} {Q : Int32 → Hp → Prop} (hn : nt < 60) (c : CT nt h) (hv : StV k a b nt) (hk : vp_nar .char k = k)
    (f : ∀ h', CT (nt + 1) h' → ag (wS [12, 13, 14] [(9, 3), (9, 4)]) h h' → (∀ t, gI h' 12 0 t = if t = nt then k else gI h 12 0 t) → (∀ t, gI h' 13 0 t = if t = nt then a else gI h 13 0 t) → (∀ t, gI h' 14 0 t = if t = nt then b else gI h 14 0 t) → Q (nI nt) h') : wp_X9_append k a b h Q := by
  obtain ⟨c1, c2, c3, c4⟩ := c
  unfold wp_X9_append LET
  have i1 : vp_in (nI nt) 60 := vp_in_nI hn (by decide)
  simp only [gI_sI, gI_sJ, gI_sR, gI_sD, gJ_sI, gJ_sJ, gJ_sR, gJ_sD, gR_sI, gR_sJ, gR_sR, gR_sD, gD_sI, gD_sJ, gD_sR, gD_sD, Nat.reduceEqDiff, false_and, and_false, true_and, and_true, and_self, reduceIte, if_true, if_false, ite_true, ite_false, forall_eq, z_10, z_01, z_in, z_cl, z_as, c2, i1, nI_clamp (show nt < 2 ^ 31 by omega), hk, nI_1]
  refine ist_w hn (by simpa [gI_sI, gI_sJ, gI_sR, gI_sD, gJ_sI, gJ_sJ, gJ_sR, gJ_sD, gR_sI, gR_sJ, gR_sR, gR_sD, gD_sI, gD_sJ, gD_sR, gD_sD] using hv) (fun r hr => ?_)
  have key : ∀ h' : Hp, (∀ t, gI h' 12 0 t = if t = nt then k else gI h 12 0 t) → (∀ t, gI h' 13 0 t = if t = nt then a else gI h 13 0 t) → (∀ t, gI h' 14 0 t = if t = nt then b else gI h 14 0 t) → gI h' 9 0 4 = nI (nt + 1) → (∀ t, t < 64 → bJ (gJ h' 9 0 3) t = if t = nt then isSt h' nt else bJ (gJ h 9 0 3) t) → CT (nt + 1) h' := by
    intro h' g1 g2 g3 g4 g5
    refine ⟨by omega, g4, fun t ht => ?_, fun t h1 h2 => by rw [g5 t h2, if_neg (by omega)]; exact c4 t (by omega) h2⟩
    by_cases e : t = nt
    · subst e
      rw [g1, g2, g3, if_pos rfl, if_pos rfl, if_pos rfl, g5 t (by omega), if_pos rfl]
      exact ⟨hv, rfl⟩
    · obtain ⟨d1, d2⟩ := c3 t (by omega)
      rw [g5 t (by omega), if_neg e, isSt_ext (h := h) (nt := nt) d1 (by rw [g1, if_neg e]) (by rw [g2, if_neg e]) (by rw [g3, if_neg e]) (by omega) (by omega) (fun x hx => by rw [g5 x (by omega), if_neg (by omega)]), g1, g2, g3, if_neg e, if_neg e, if_neg e]
      exact ⟨d1, d2⟩
  by_cases st : isSt (sI (sI (sI (sI h 12 0 nt k) 13 0 nt a) 14 0 nt b) 9 0 4 (nI (nt + 1))) nt = true
  · rw [if_pos st] at hr
    subst hr
    simp only [gI_sI, gI_sJ, gI_sR, gI_sD, gJ_sI, gJ_sJ, gJ_sR, gJ_sD, gR_sI, gR_sJ, gR_sR, gR_sD, gD_sI, gD_sJ, gD_sR, gD_sD, Nat.reduceEqDiff, false_and, and_false, true_and, and_true, and_self, reduceIte, if_true, if_false, ite_true, ite_false, forall_eq, z_10, z_01, z_in, z_cl, z_as]
    refine f _ (key _ (fun t => by simp [gI_sI, gI_sJ, gI_sR, gI_sD, gJ_sI, gJ_sJ, gJ_sR, gJ_sD, gR_sI, gR_sJ, gR_sR, gR_sD, gD_sI, gD_sJ, gD_sR, gD_sD]) (fun t => by simp [gI_sI, gI_sJ, gI_sR, gI_sD, gJ_sI, gJ_sJ, gJ_sR, gJ_sD, gR_sI, gR_sJ, gR_sR, gR_sD, gD_sI, gD_sJ, gD_sR, gD_sD]) (fun t => by simp [gI_sI, gI_sJ, gI_sR, gI_sD, gJ_sI, gJ_sJ, gJ_sR, gJ_sD, gR_sI, gR_sJ, gR_sR, gR_sD, gD_sI, gD_sJ, gD_sR, gD_sD]) (by simp [gI_sI, gI_sJ, gI_sR, gI_sD, gJ_sI, gJ_sJ, gJ_sR, gJ_sD, gR_sI, gR_sJ, gR_sR, gR_sD, gD_sI, gD_sJ, gD_sR, gD_sD]) (fun t ht => ?_)) (by repeat first | exact ag.rfl | refine ag.sI ?_ rfl | refine ag.sJ ?_ rfl | refine ag.sR ?_ rfl | refine ag.sD ?_ rfl) (fun t => by simp [gI_sI, gI_sJ, gI_sR, gI_sD, gJ_sI, gJ_sJ, gJ_sR, gJ_sD, gR_sI, gR_sJ, gR_sR, gR_sD, gD_sI, gD_sJ, gD_sR, gD_sD]) (fun t => by simp [gI_sI, gI_sJ, gI_sR, gI_sD, gJ_sI, gJ_sJ, gJ_sR, gJ_sD, gR_sI, gR_sJ, gR_sR, gR_sD, gD_sI, gD_sJ, gD_sR, gD_sD]) (fun t => by simp [gI_sI, gI_sJ, gI_sR, gI_sD, gJ_sI, gJ_sJ, gJ_sR, gJ_sD, gR_sI, gR_sJ, gR_sR, gR_sD, gD_sI, gD_sJ, gD_sR, gD_sD])
    have hb : ∀ t, bJ (gJ (sJ (sI (sI (sI (sI h 12 0 nt k) 13 0 nt a) 14 0 nt b) 9 0 4 (nI (nt + 1))) 9 0 3 (gJ h 9 0 3 ||| (1 : Int64) <<< ((nI nt).toInt64 &&& 63))) 9 0 3) t = (bJ (gJ h 9 0 3) t || decide (nt = t)) := fun t => by
      rw [gJ_sJ, if_pos ⟨rfl, rfl, rfl⟩, bJ_or, bJ_sh (by omega)]
    rw [hb]
    by_cases e : t = nt
    · subst e
      rw [if_pos rfl]
      refine Eq.trans (b := true) (by simp) (Eq.symm (Eq.trans (isSt_ext (h := sI (sI (sI (sI h 12 0 t k) 13 0 t a) 14 0 t b) 9 0 4 (nI (t + 1))) (nt := t) (by simpa [gI_sI, gI_sJ, gI_sR, gI_sD, gJ_sI, gJ_sJ, gJ_sR, gJ_sD, gR_sI, gR_sJ, gR_sR, gR_sD, gD_sI, gD_sJ, gD_sR, gD_sD] using hv) rfl rfl rfl (Nat.le_refl _) (by omega) (fun x hx => ?_)) st))
      rw [hb]
      simp [gI_sI, gI_sJ, gI_sR, gI_sD, gJ_sI, gJ_sJ, gJ_sR, gJ_sD, gR_sI, gR_sJ, gR_sR, gR_sD, gD_sI, gD_sJ, gD_sR, gD_sD, show ¬ t = x by omega]
    · rw [if_neg e]
      simp [show ¬ nt = t from fun q => e q.symm]
  · rw [if_neg st] at hr
    subst hr
    simp only [gI_sI, gI_sJ, gI_sR, gI_sD, gJ_sI, gJ_sJ, gJ_sR, gJ_sD, gR_sI, gR_sJ, gR_sR, gR_sD, gD_sI, gD_sJ, gD_sR, gD_sD, Nat.reduceEqDiff, false_and, and_false, true_and, and_true, and_self, reduceIte, if_true, if_false, ite_true, ite_false, forall_eq, z_10, z_01, z_in, z_cl, z_as]
    refine f _ (key _ (fun t => by simp [gI_sI, gI_sJ, gI_sR, gI_sD, gJ_sI, gJ_sJ, gJ_sR, gJ_sD, gR_sI, gR_sJ, gR_sR, gR_sD, gD_sI, gD_sJ, gD_sR, gD_sD]) (fun t => by simp [gI_sI, gI_sJ, gI_sR, gI_sD, gJ_sI, gJ_sJ, gJ_sR, gJ_sD, gR_sI, gR_sJ, gR_sR, gR_sD, gD_sI, gD_sJ, gD_sR, gD_sD]) (fun t => by simp [gI_sI, gI_sJ, gI_sR, gI_sD, gJ_sI, gJ_sJ, gJ_sR, gJ_sD, gR_sI, gR_sJ, gR_sR, gR_sD, gD_sI, gD_sJ, gD_sR, gD_sD]) (by simp [gI_sI, gI_sJ, gI_sR, gI_sD, gJ_sI, gJ_sJ, gJ_sR, gJ_sD, gR_sI, gR_sJ, gR_sR, gR_sD, gD_sI, gD_sJ, gD_sR, gD_sD]) (fun t ht => ?_)) (by repeat first | exact ag.rfl | refine ag.sI ?_ rfl | refine ag.sJ ?_ rfl | refine ag.sR ?_ rfl | refine ag.sD ?_ rfl) (fun t => by simp [gI_sI, gI_sJ, gI_sR, gI_sD, gJ_sI, gJ_sJ, gJ_sR, gJ_sD, gR_sI, gR_sJ, gR_sR, gR_sD, gD_sI, gD_sJ, gD_sR, gD_sD]) (fun t => by simp [gI_sI, gI_sJ, gI_sR, gI_sD, gJ_sI, gJ_sJ, gJ_sR, gJ_sD, gR_sI, gR_sJ, gR_sR, gR_sD, gD_sI, gD_sJ, gD_sR, gD_sD]) (fun t => by simp [gI_sI, gI_sJ, gI_sR, gI_sD, gJ_sI, gJ_sJ, gJ_sR, gJ_sD, gR_sI, gR_sJ, gR_sR, gR_sD, gD_sI, gD_sJ, gD_sR, gD_sD])
    by_cases e : t = nt
    · subst e
      rw [if_pos rfl]
      rw [Bool.not_eq_true] at st
      rw [st]
      simp only [gI_sI, gI_sJ, gI_sR, gI_sD, gJ_sI, gJ_sJ, gJ_sR, gJ_sD, gR_sI, gR_sJ, gR_sR, gR_sD, gD_sI, gD_sJ, gD_sR, gD_sD, Nat.reduceEqDiff, false_and, and_false, true_and, and_true, and_self, reduceIte, if_true, if_false, ite_true, ite_false]
      exact c4 t (Nat.le_refl _) ht
    · rw [if_neg e]
      simp only [gI_sI, gI_sJ, gI_sR, gI_sD, gJ_sI, gJ_sJ, gJ_sR, gJ_sD, gR_sI, gR_sJ, gR_sR, gR_sD, gD_sI, gD_sJ, gD_sR, gD_sD, Nat.reduceEqDiff, false_and, and_false, true_and, and_true, and_self, reduceIte, if_true, if_false, ite_true, ite_false]
theorem ads_e {nt : Nat} {h : Hp} {k a b : Int32} {Q : Int32 → Hp → Prop} (hn : nt < 60) (e : gI h 11 0 19 = nI nt) (hk : vp_nar .char k = k) :
    wp_X11_addsTest k a b h Q = Q (nI nt) (sI (sI (sI (sI h 49 0 nt k) 50 0 nt a) 51 0 nt b) 11 0 19 (nI (nt + 1))) := by
  unfold wp_X11_addsTest LET
  have i1 : vp_in (nI nt) 60 := vp_in_nI hn (by decide)
  simp only [gI_sI, gI_sJ, gI_sR, gI_sD, gJ_sI, gJ_sJ, gJ_sR, gJ_sD, gR_sI, gR_sJ, gR_sR, gR_sD, gD_sI, gD_sJ, gD_sR, gD_sD, Nat.reduceEqDiff, false_and, and_false, true_and, and_true, and_self, reduceIte, if_true, if_false, ite_true, ite_false, forall_eq, z_10, z_01, z_in, z_cl, z_as, e, i1, nI_clamp (show nt < 2 ^ 31 by omega), hk, nI_1]
theorem STest.of {nt : Nat} {h : Hp} (c : CT nt h) (e : gI h 11 0 19 = nI nt) (q : ∀ t, t < nt → gI h 12 0 t = gI h 49 0 t ∧ gI h 13 0 t = gI h 50 0 t ∧ gI h 14 0 t = gI h 51 0 t) : STest nt h :=
  ⟨c.1, c.2.1, e, fun t ht => ⟨(q t ht).1, (q t ht).2.1, (q t ht).2.2, (c.2.2.1 t ht).1, (c.2.2.1 t ht).2⟩, c.2.2.2⟩
theorem CT.ag {nt : Nat} {W : Nat → Nat → Bool} {h h' : Hp} (s : CT nt h) (a : ag W h h') (c : ∀ j k, wS [12, 13, 14] [(9, 3), (9, 4)] j k = true → W j k = false) : CT nt h' := by
  unfold CT isSt
  simp only [a.J 9 0 3 (c 9 3 rfl), a.I 9 0 4 (c 9 4 rfl), fun o k => a.I 12 o k (c 12 k rfl), fun o k => a.I 13 o k (c 13 k rfl), fun o k => a.I 14 o k (c 14 k rfl)]
  exact s
theorem SScr.mono {nt nt' : Nat} {h : Hp} (s : SScr nt h) (hn : nt ≤ nt') : SScr nt' h := by
  intro x hx
  obtain ⟨nr, t1, t2, t3, q, t4, t5, t6⟩ := s x hx
  refine ⟨nr, t1, t2, t3, q, t4, t5, fun r hr => ?_⟩
  obtain ⟨a, b, ⟨t, ht, e⟩, c⟩ := t6 r hr
  exact ⟨a, b, ⟨t, by omega, e⟩, c⟩
theorem StV_iff {k a b : Int32} {t : Nat} (o : tOK k a) : StV k a b t ↔ ((k = 33 ∨ k = 38 ∨ k = 124) → inN a t ∧ (k ≠ 33 → inN b t)) := by
  constructor
  · rintro (v | ⟨k3, v1, v2⟩) q
    · obtain ⟨n1, n2, n3⟩ := leaf_k v
      rcases q with q | q | q
      · exact absurd q n1
      · exact absurd q n2
      · exact absurd q n3
    · exact ⟨v1, v2⟩
  · intro q
    rcases o with o | o
    · exact Or.inl o
    · exact Or.inr ⟨o, q o⟩
theorem mt_1 {k a b : Int32} {nt : Nat} {h : Hp} {Q : Int32 → Hp → Prop} (o : tOK k a) (e : gI h 11 0 19 = nI nt) (hn : nt ≤ 60) (v : StV k a b nt) : wp_X11_test k a b h Q = wp_X11_test_b61 k a b (sI h 11 0 0 0) Q := by
  have f2 : gI (sI h 11 0 0 0) 11 0 19 = nI nt := by simp [gI_sI, gI_sJ, gI_sR, gI_sD, gJ_sI, gJ_sJ, gJ_sR, gJ_sD, gR_sI, gR_sJ, gR_sR, gR_sD, gD_sI, gD_sJ, gD_sR, gD_sD, e]
  have w := (StV_iff o).mp v
  unfold wp_X11_test wp_X11_test_b32 wp_X11_test_b40 LET
  simp only [to_1 o, gI_sI, gI_sJ, gI_sR, gI_sD, gJ_sI, gJ_sJ, gJ_sR, gJ_sD, gR_sI, gR_sJ, gR_sR, gR_sD, gD_sI, gD_sJ, gD_sR, gD_sD, Nat.reduceEqDiff, false_and, and_false, true_and, and_true, and_self, reduceIte, if_true, if_false, ite_true, ite_false, forall_eq, z_10, z_01, z_in, z_cl, z_as]
  by_cases k33 : k = 33
  · subst k33
    obtain ⟨w1, -⟩ := w (Or.inl rfl)
    simp only [it_1 f2 hn w1, gI_sI, gI_sJ, gI_sR, gI_sD, gJ_sI, gJ_sJ, gJ_sR, gJ_sD, gR_sI, gR_sJ, gR_sR, gR_sD, gD_sI, gD_sJ, gD_sR, gD_sD, Nat.reduceEqDiff, false_and, and_false, true_and, and_true, and_self, reduceIte, if_true, if_false, ite_true, ite_false, forall_eq, z_10, z_01, z_in, z_cl, z_as, ip_0 (k := 33) (by decide)]
  by_cases kp : k = 38 ∨ k = 124
  · obtain ⟨w1, w2⟩ := w (Or.inr kp)
    simp only [k33, it_1 f2 hn w1, it_1 f2 hn (w2 k33), gI_sI, gI_sJ, gI_sR, gI_sD, gJ_sI, gJ_sJ, gJ_sR, gJ_sD, gR_sI, gR_sJ, gR_sR, gR_sD, gD_sI, gD_sJ, gD_sR, gD_sD, Nat.reduceEqDiff, false_and, and_false, true_and, and_true, and_self, reduceIte, if_true, if_false, ite_true, ite_false, forall_eq, z_10, z_01, z_in, z_cl, z_as, ip_1 kp]
  · simp only [k33, gI_sI, gI_sJ, gI_sR, gI_sD, gJ_sI, gJ_sJ, gJ_sR, gJ_sD, gR_sI, gR_sJ, gR_sR, gR_sD, gD_sI, gD_sJ, gD_sR, gD_sD, Nat.reduceEqDiff, false_and, and_false, true_and, and_true, and_self, reduceIte, if_true, if_false, ite_true, ite_false, forall_eq, z_10, z_01, z_in, z_cl, z_as, ip_0 kp]
theorem mt_0 {k a b : Int32} {nt : Nat} {h : Hp} {Q : Int32 → Hp → Prop} (o : tOK k a) (e : gI h 11 0 19 = nI nt) (hn : nt ≤ 60) (v : ¬ StV k a b nt) : wp_X11_test k a b h Q = Q 0 (sI (sI h 11 0 0 0) 11 0 0 2) := by
  have f2 : gI (sI h 11 0 0 0) 11 0 19 = nI nt := by simp [gI_sI, gI_sJ, gI_sR, gI_sD, gJ_sI, gJ_sJ, gJ_sR, gJ_sD, gR_sI, gR_sJ, gR_sR, gR_sD, gD_sI, gD_sJ, gD_sR, gD_sD, e]
  rw [StV_iff o] at v
  unfold wp_X11_test wp_X11_test_b32 wp_X11_test_b40 wp_X11_test_b55 wp_X11_fails LET
  simp only [to_1 o, gI_sI, gI_sJ, gI_sR, gI_sD, gJ_sI, gJ_sJ, gJ_sR, gJ_sD, gR_sI, gR_sJ, gR_sR, gR_sD, gD_sI, gD_sJ, gD_sR, gD_sD, Nat.reduceEqDiff, false_and, and_false, true_and, and_true, and_self, reduceIte, if_true, if_false, ite_true, ite_false, forall_eq, z_10, z_01, z_in, z_cl, z_as]
  by_cases w1 : inN a nt
  case neg =>
    by_cases k33 : k = 33
    · subst k33
      simp only [it_0 f2 hn w1, gI_sI, gI_sJ, gI_sR, gI_sD, gJ_sI, gJ_sJ, gJ_sR, gJ_sD, gR_sI, gR_sJ, gR_sR, gR_sD, gD_sI, gD_sJ, gD_sR, gD_sD, Nat.reduceEqDiff, false_and, and_false, true_and, and_true, and_self, reduceIte, if_true, if_false, ite_true, ite_false, forall_eq, z_10, z_01, z_in, z_cl, z_as]
    by_cases kp : k = 38 ∨ k = 124
    · simp only [k33, it_0 f2 hn w1, gI_sI, gI_sJ, gI_sR, gI_sD, gJ_sI, gJ_sJ, gJ_sR, gJ_sD, gR_sI, gR_sJ, gR_sR, gR_sD, gD_sI, gD_sJ, gD_sR, gD_sD, Nat.reduceEqDiff, false_and, and_false, true_and, and_true, and_self, reduceIte, if_true, if_false, ite_true, ite_false, forall_eq, z_10, z_01, z_in, z_cl, z_as, ip_1 kp]
    · exact absurd (fun q => by rcases q with q | q; exact absurd q k33; exact absurd q kp) v
  by_cases k33 : k = 33
  · exact absurd (fun _ => ⟨w1, fun q => absurd k33 q⟩) v
  by_cases kp : k = 38 ∨ k = 124
  · by_cases w2 : inN b nt
    · exact absurd (fun _ => ⟨w1, fun _ => w2⟩) v
    · simp only [k33, it_1 f2 hn w1, it_0 f2 hn w2, gI_sI, gI_sJ, gI_sR, gI_sD, gJ_sI, gJ_sJ, gJ_sR, gJ_sD, gR_sI, gR_sJ, gR_sR, gR_sD, gD_sI, gD_sJ, gD_sR, gD_sD, Nat.reduceEqDiff, false_and, and_false, true_and, and_true, and_self, reduceIte, if_true, if_false, ite_true, ite_false, forall_eq, z_10, z_01, z_in, z_cl, z_as, ip_1 kp]
  · exact absurd (fun q => by rcases q with q | q; exact absurd q k33; exact absurd q kp) v
theorem ct_1 {k a b : Int32} {nt : Nat} {h : Hp} {Q : Int32 → Hp → Prop} {Z : String → Hp → Prop} (o : tOK k a) (e : gI h 9 0 4 = nI nt) (hn : nt ≤ 60) (v : StV k a b nt) : wp_X10_test k a b h Q Z = wp_X10_test_b57 k a b h Q Z := by
  have w := (StV_iff o).mp v
  unfold wp_X10_test wp_X10_test_b40
  simp only [al_1 o, pt_e, gI_sI, gI_sJ, gI_sR, gI_sD, gJ_sI, gJ_sJ, gJ_sR, gJ_sD, gR_sI, gR_sJ, gR_sR, gR_sD, gD_sI, gD_sJ, gD_sR, gD_sD, Nat.reduceEqDiff, false_and, and_false, true_and, and_true, and_self, reduceIte, if_true, if_false, ite_true, ite_false, forall_eq, z_10, z_01, z_in, z_cl, z_as]
  by_cases k33 : k = 33
  · subst k33
    obtain ⟨w1, -⟩ := w (Or.inl rfl)
    simp only [show nI (tP 33) = 1 by decide, show ¬ (1 : Int32) ≤ 0 by decide, show (1 : Int32) ≤ 1 by decide, gI_sI, gI_sJ, gI_sR, gI_sD, gJ_sI, gJ_sJ, gJ_sR, gJ_sD, gR_sI, gR_sJ, gR_sR, gR_sD, gD_sI, gD_sJ, gD_sR, gD_sD, Nat.reduceEqDiff, false_and, and_false, true_and, and_true, and_self, reduceIte, if_true, if_false, ite_true, ite_false, forall_eq, z_10, z_01, z_in, z_cl, z_as, rb_1 nt w1 e (by omega)]
  by_cases kp : k = 38 ∨ k = 124
  · obtain ⟨w1, w2⟩ := w (Or.inr kp)
    have t2 : tP k = 2 := by simp [tP, kp]
    simp only [t2, show ¬ (nI 2 : Int32) ≤ 0 by decide, show ¬ (nI 2 : Int32) ≤ 1 by decide, gI_sI, gI_sJ, gI_sR, gI_sD, gJ_sI, gJ_sJ, gJ_sR, gJ_sD, gR_sI, gR_sJ, gR_sR, gR_sD, gD_sI, gD_sJ, gD_sR, gD_sD, Nat.reduceEqDiff, false_and, and_false, true_and, and_true, and_self, reduceIte, if_true, if_false, ite_true, ite_false, forall_eq, z_10, z_01, z_in, z_cl, z_as, rb_1 nt w1 e (by omega), rb_1 nt (w2 k33) e (by omega)]
  · have t2 : tP k = 0 := by simp [tP, kp, k33]
    simp only [t2, show (nI 0 : Int32) ≤ 0 by decide, show (nI 0 : Int32) ≤ 1 by decide, gI_sI, gI_sJ, gI_sR, gI_sD, gJ_sI, gJ_sJ, gJ_sR, gJ_sD, gR_sI, gR_sJ, gR_sR, gR_sD, gD_sI, gD_sJ, gD_sR, gD_sD, Nat.reduceEqDiff, false_and, and_false, true_and, and_true, and_self, reduceIte, if_true, if_false, ite_true, ite_false, forall_eq, z_10, z_01, z_in, z_cl, z_as]
theorem ct_0 {k a b : Int32} {nt : Nat} {h : Hp} {Q : Int32 → Hp → Prop} {Z : String → Hp → Prop} (o : tOK k a) (e : gI h 9 0 4 = nI nt) (hn : nt ≤ 60) (v : ¬ StV k a b nt) : wp_X10_test k a b h Q Z = Z "java/lang/IndexOutOfBoundsException" h := by
  rw [StV_iff o] at v
  unfold wp_X10_test wp_X10_test_b40
  simp only [al_1 o, pt_e, gI_sI, gI_sJ, gI_sR, gI_sD, gJ_sI, gJ_sJ, gJ_sR, gJ_sD, gR_sI, gR_sJ, gR_sR, gR_sD, gD_sI, gD_sJ, gD_sR, gD_sD, Nat.reduceEqDiff, false_and, and_false, true_and, and_true, and_self, reduceIte, if_true, if_false, ite_true, ite_false, forall_eq, z_10, z_01, z_in, z_cl, z_as]
  by_cases k33 : k = 33
  · subst k33
    have w1 : ¬ inN a nt := fun w => v (fun _ => ⟨w, fun q => absurd rfl q⟩)
    simp only [show nI (tP 33) = 1 by decide, show ¬ (1 : Int32) ≤ 0 by decide, gI_sI, gI_sJ, gI_sR, gI_sD, gJ_sI, gJ_sJ, gJ_sR, gJ_sD, gR_sI, gR_sJ, gR_sR, gR_sD, gD_sI, gD_sJ, gD_sR, gD_sD, Nat.reduceEqDiff, false_and, and_false, true_and, and_true, and_self, reduceIte, if_true, if_false, ite_true, ite_false, forall_eq, z_10, z_01, z_in, z_cl, z_as, rb_0 nt w1 e (by omega)]
  by_cases kp : k = 38 ∨ k = 124
  · have t2 : tP k = 2 := by simp [tP, kp]
    by_cases w1 : inN a nt
    · have w2 : ¬ inN b nt := fun w => v (fun _ => ⟨w1, fun _ => w⟩)
      simp only [t2, show ¬ (nI 2 : Int32) ≤ 0 by decide, show ¬ (nI 2 : Int32) ≤ 1 by decide, gI_sI, gI_sJ, gI_sR, gI_sD, gJ_sI, gJ_sJ, gJ_sR, gJ_sD, gR_sI, gR_sJ, gR_sR, gR_sD, gD_sI, gD_sJ, gD_sR, gD_sD, Nat.reduceEqDiff, false_and, and_false, true_and, and_true, and_self, reduceIte, if_true, if_false, ite_true, ite_false, forall_eq, z_10, z_01, z_in, z_cl, z_as, rb_1 nt w1 e (by omega), rb_0 nt w2 e (by omega)]
    · simp only [t2, show ¬ (nI 2 : Int32) ≤ 0 by decide, gI_sI, gI_sJ, gI_sR, gI_sD, gJ_sI, gJ_sJ, gJ_sR, gJ_sD, gR_sI, gR_sJ, gR_sR, gR_sD, gD_sI, gD_sJ, gD_sR, gD_sD, Nat.reduceEqDiff, false_and, and_false, true_and, and_true, and_self, reduceIte, if_true, if_false, ite_true, ite_false, forall_eq, z_10, z_01, z_in, z_cl, z_as, rb_0 nt w1 e (by omega)]
  · exact absurd (fun q => by rcases q with q | q; exact absurd q k33; exact absurd q kp) v
theorem c_test {i : Nat} {h : Hp} (S : Sim i h) (p1 p2 p3 : Int32) (hc : vp_nar .char p1 = p1) {K : Int32 → Int32 → Hp → Prop} (hK : SK i K) :
    wp_L_test p1 p2 p3 h (fun r h1 => wp_X11_test p1 p2 p3 h1 (fun b h2 => K r b h2)) := by
  unfold wp_L_test LET
  obtain ⟨d, nm, nt, hd, s1, s2, s3, s4, s5, s6, s7⟩ := id S
  obtain ⟨n60, u1, u2, u3, u4⟩ := id s5
  by_cases a1 : tOK p1 p2
  case neg =>
    unfold wp_X10_test wp_X11_test wp_X11_fails LET
    simp [al_0 a1, to_0 a1]; exact hK.fail S 1 (by decide) (by exact ag.rfl.sI)
  by_cases v : StV p1 p2 p3 nt
  case neg =>
    rw [ct_0 a1 u1 n60 v]
    simp only [gI_sI, gI_sJ, gI_sR, gI_sD, gJ_sI, gJ_sJ, gJ_sR, gJ_sD, gR_sI, gR_sJ, gR_sR, gR_sD, gD_sI, gD_sJ, gD_sR, gD_sD, Nat.reduceEqDiff, false_and, and_false, true_and, and_true, and_self, reduceIte, if_true, if_false, ite_true, ite_false, forall_eq, z_10, z_01, z_in, z_cl, z_as, String.reduceEq]
    rw [mt_0 a1 u2 n60 v]
    exact hK.fail S 2 (by decide) (by exact ag.rfl.sI)
  rw [ct_1 a1 u1 n60 v]
  unfold wp_X10_test_b57 wp_X10_requireRoomForTests
  rcases Nat.lt_or_ge nt 60 with hn | hn
  · rw [if_pos (by rw [u1, nI_1]; exact nI_le (a := nt + 1) (b := 60) (by omega) (by decide))]
    refine app_w hn s5.ct v hc (fun h' ct A g1 g2 g3 => ?_)
    have e : gI (sJ h' 75 0 (0 : Int32).toNatClampNeg (nI nt).toInt64) 11 0 19 = nI nt := by rw [gI_sJ, A.I 11 0 19, u2]
    refine ⟨by simp only [z_in], ?_⟩
    intro y hy
    subst hy
    rw [mt_1 a1 e n60 v]
    unfold wp_X11_test_b61
    rw [if_neg (by
      simp only [gI_sI, gI_sJ, gI_sR, gI_sD, gJ_sI, gJ_sJ, gJ_sR, gJ_sD, gR_sI, gR_sJ, gR_sR, gR_sD, gD_sI, gD_sJ, gD_sR, gD_sD, Nat.reduceEqDiff, false_and, and_false, true_and, and_true, and_self, reduceIte, if_true, if_false, ite_true, ite_false, A.I 11 0 19, u2]
      exact fun q => by have := (nI_eq (b := 60) (by omega) (by omega)).mp q; omega), ads_e hn (by simp only [gI_sI, gI_sJ, gI_sR, gI_sD, gJ_sI, gJ_sJ, gJ_sR, gJ_sD, gR_sI, gR_sJ, gR_sR, gR_sD, gD_sI, gD_sJ, gD_sR, gD_sD, Nat.reduceEqDiff, false_and, and_false, true_and, and_true, and_self, reduceIte, if_true, if_false, ite_true, ite_false, A.I 11 0 19, u2]) hc]
    have B : ag (wS [12, 13, 14, 49, 50, 51, 75] [(9, 3), (9, 4), (11, 0), (11, 19)]) h h' := A.mono (wS_mono (by decide) (by decide))
    refine hK.go (h := h) (wS [12, 13, 14, 49, 50, 51, 75] [(9, 3), (9, 4), (11, 0), (11, 19)]) (by
      repeat first | exact B | refine ag.sI ?_ rfl | refine ag.sJ ?_ rfl) (fun C => ⟨d, nm, nt + 1, by omega, s1.ag C (wS_dis (by decide)), s2.ag C (wS_dis (by decide)), s3.ag C (wS_dis (by decide)), (s4.mono (by omega) (by omega)).ag C (wS_dis (by decide)), ?_, (s6.mono (by omega)).ag C (wS_dis (by decide)), s7.ag C (wS_dis (by decide))⟩) (by simp [gI_sI, gI_sJ, gI_sR, gI_sD, gJ_sI, gJ_sJ, gJ_sR, gJ_sD, gR_sI, gR_sJ, gR_sR, gR_sD, gD_sI, gD_sJ, gD_sR, gD_sD]) (fun _ => by simp [gI_sI, gI_sJ, gI_sR, gI_sD, gJ_sI, gJ_sJ, gJ_sR, gJ_sD, gR_sI, gR_sJ, gR_sR, gR_sD, gD_sI, gD_sJ, gD_sR, gD_sD])
    refine STest.of (ct.ag (W := wS [49, 50, 51, 75] [(11, 0), (11, 19)]) (by repeat first | exact ag.rfl | refine ag.sI ?_ rfl | refine ag.sJ ?_ rfl | refine ag.sR ?_ rfl | refine ag.sD ?_ rfl) (wS_dis (by decide))) (by simp [gI_sI, gI_sJ, gI_sR, gI_sD, gJ_sI, gJ_sJ, gJ_sR, gJ_sD, gR_sI, gR_sJ, gR_sR, gR_sD, gD_sI, gD_sJ, gD_sR, gD_sD]) (fun t ht => ?_)
    simp only [gI_sI, gI_sJ, gI_sR, gI_sD, gJ_sI, gJ_sJ, gJ_sR, gJ_sD, gR_sI, gR_sJ, gR_sR, gR_sD, gD_sI, gD_sJ, gD_sR, gD_sD, Nat.reduceEqDiff, false_and, and_false, true_and, and_true, and_self, reduceIte, if_true, if_false, ite_true, ite_false, g1, g2, g3, A.I 49 0 t, A.I 50 0 t, A.I 51 0 t]
    by_cases e : t = nt
    · simp [e]
    · simp only [e, if_false]
      obtain ⟨x1, x2, x3, -⟩ := u3 t (by omega)
      exact ⟨x1, x2, x3⟩
  · have hn : nt = 60 := Nat.le_antisymm n60 hn
    subst hn
    rw [if_neg (by rw [u1]; decide)]
    simp only [gI_sI, gI_sJ, gI_sR, gI_sD, gJ_sI, gJ_sJ, gJ_sR, gJ_sD, gR_sI, gR_sJ, gR_sR, gR_sD, gD_sI, gD_sJ, gD_sR, gD_sD, Nat.reduceEqDiff, false_and, and_false, true_and, and_true, and_self, reduceIte, if_true, if_false, ite_true, ite_false, forall_eq, z_10, z_01, z_in, z_cl, z_as, String.reduceEq]
    rw [mt_1 a1 u2 n60 v]
    unfold wp_X11_test_b61 wp_X11_fails LET
    simp only [gI_sI, gI_sJ, gI_sR, gI_sD, gJ_sI, gJ_sJ, gJ_sR, gJ_sD, gR_sI, gR_sJ, gR_sR, gR_sD, gD_sI, gD_sJ, gD_sR, gD_sD, Nat.reduceEqDiff, false_and, and_false, true_and, and_true, and_self, reduceIte, if_true, if_false, ite_true, ite_false, forall_eq, z_10, z_01, z_in, z_cl, z_as, u2, show nI 60 = 60 by rfl]
    exact hK.fail S 3 (by decide) (by exact ag.rfl.sI)
