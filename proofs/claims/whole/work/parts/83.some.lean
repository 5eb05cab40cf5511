/-! the model gathers, and answers -/
def UV (k a : Int32) (v : Nat) : Bool := (decide (k = 110) && decide (3 ≤ v ∧ v < 13)) || ((decide (k = 98) || decide (k = 100) || decide (k = 102) || decide (k = 115) || decide (k = 116) || decide (k = 122)) && decide (v = vr k a))
theorem use_w {v : Nat} {h : Hp} {Q : Hp → Prop} (hv : v < 45) (f : Q (sI h 65 0 v 1)) : wp_X11_uses (nI v) h Q := by
  unfold wp_X11_uses LET
  refine ⟨vp_in_nI hv (by decide), ?_⟩
  rw [nI_clamp (by omega), show vp_nar .boolean 1 = 1 from vnb true]
  rintro y rfl
  exact f
/-- one needed test -/
theorem nds_w {k a b : Int32} {t s : Nat} {h : Hp} {Q : Hp → Prop} (v : StV k a b t) (ht : t < 60) (e62 : gI h 11 0 62 = nI s) (hs : s < 61)
    (f : ∀ h', ag (wS [65, 68, 71] [(11, 62)]) h h' → (∀ x, gI h' 68 0 x = if ((k = 33 ∨ k = 38 ∨ k = 124) ∧ x = cl a) ∨ ((k = 38 ∨ k = 124) ∧ x = cl b) then 1 else gI h 68 0 x) → (∀ x, gI h' 65 0 x = if UV k a x = true then 1 else gI h 65 0 x)
      → (k ≠ 122 → gI h' 71 0 = gI h 71 0 ∧ gI h' 11 0 62 = nI s) → (k = 122 → gI h' 11 0 62 = nI (s + 1) ∧ (∀ x, x ≠ s → gI h' 71 0 x = gI h 71 0 x) ∧ gI h' 71 0 s = if (999 : Int32) ≤ a then 999 else a + 1) → Q h') : wp_X11_needs k a b h Q := by
  unfold wp_X11_needs
  by_cases m : mk k
  · obtain ⟨ha, hb⟩ := StV_mk v m
    have la := cl_lt ha (by omega)
    have ea := (cl_n ha (by omega)).2
    have va : vp_in a 60 := by rw [ea]; exact vp_in_nI (by omega) (by decide)
    have u0 : ∀ x, UV k a x = false := fun x => by unfold UV; rcases m with q | q | q <;> rw [q] <;> simp
    have n122 : k ≠ 122 := by rcases m with q | q | q <;> rw [q] <;> decide
    by_cases k33 : k = 33
    · rw [if_pos k33]
      unfold wp_X11_needs_b13 wp_X11_needs_b35 LET
      rw [show vp_nar .boolean 1 = 1 from vnb true, show a.toNatClampNeg = cl a from rfl]
      simp only [forall_eq]
      refine ⟨va, ?_⟩
      rw [if_pos k33]
      refine ⟨va, f _ (by repeat first | exact ag.rfl | refine ag.sI ?_ rfl | refine ag.sJ ?_ rfl | refine ag.sR ?_ rfl | refine ag.sD ?_ rfl) (fun x => ?_) (fun x => by rw [u0, if_neg (by decide), gI_o (by omega), gI_o (by omega)]) (fun _ => ⟨funext (fun x => by rw [gI_o (by omega), gI_o (by omega)]), by rw [gI_o (by omega), gI_o (by omega)]; exact e62⟩) (fun q => absurd q n122)⟩
      have np : ¬ (k = 38 ∨ k = 124) := by rw [k33]; decide
      by_cases e : x = cl a
      · rw [if_pos (Or.inl ⟨m, e⟩), e, gI_e]
      · rw [if_neg (fun q => by rcases q with q | q; exact e q.2; exact np q.1), gI_o (by omega), gI_o (by omega)]
    · have kk : k = 38 ∨ k = 124 := by rcases m with q | q; exact absurd q k33; exact q
      have hb := hb k33
      have lb := cl_lt hb (by omega)
      have eb := (cl_n hb (by omega)).2
      have vb : vp_in b 60 := by rw [eb]; exact vp_in_nI (by omega) (by decide)
      rw [if_neg k33, ip_1 kk, if_neg (by decide)]
      unfold wp_X11_needs_b13 wp_X11_needs_b35 LET
      rw [show vp_nar .boolean 1 = 1 from vnb true, show a.toNatClampNeg = cl a from rfl, show b.toNatClampNeg = cl b from rfl]
      simp only [forall_eq]
      refine ⟨va, ?_⟩
      rw [if_neg k33]
      refine ⟨vb, f _ (by repeat first | exact ag.rfl | refine ag.sI ?_ rfl | refine ag.sJ ?_ rfl | refine ag.sR ?_ rfl | refine ag.sD ?_ rfl) (fun x => ?_) (fun x => by rw [u0, if_neg (by decide), gI_o (by omega), gI_o (by omega)]) (fun _ => ⟨funext (fun x => by rw [gI_o (by omega), gI_o (by omega)]), by rw [gI_o (by omega), gI_o (by omega)]; exact e62⟩) (fun q => absurd q n122)⟩
      by_cases e : x = cl b
      · rw [if_pos (Or.inr ⟨kk, e⟩), e, gI_e]
      · rw [gI_o (by omega)]
        by_cases e' : x = cl a
        · rw [if_pos (Or.inl ⟨m, e'⟩), e', gI_e]
        · rw [if_neg (fun q => by rcases q with q | q; exact e' q.2; exact e q.2), gI_o (by omega)]
  · have o := StV_lf v m
    have m' := m
    unfold mk at m'
    simp only [not_or] at m'
    have np : ¬ (k = 38 ∨ k = 124) := fun q => by rcases q with q | q; exact m'.2.1 q; exact m'.2.2 q
    rw [if_neg m'.1, ip_0 np, if_pos rfl]
    have same68 : ∀ (h' : Hp), (∀ x, gI h' 68 0 x = gI h 68 0 x) → ∀ x, gI h' 68 0 x = if ((k = 33 ∨ k = 38 ∨ k = 124) ∧ x = cl a) ∨ ((k = 38 ∨ k = 124) ∧ x = cl b) then 1 else gI h 68 0 x := fun h' q x => by
      rw [if_neg (fun q => by rcases q with q | q; exact m q.1; exact np q.1)]; exact q x
    -- one variable
    have one : ∀ w, w < 45 → vr k a = w → (k = 98 ∨ k = 100 ∨ k = 102 ∨ k = 115 ∨ k = 116) → wp_X11_uses (nI w) h Q := fun w hw ew kk => by
      refine use_w hw (f _ (by repeat first | exact ag.rfl | refine ag.sI ?_ rfl | refine ag.sJ ?_ rfl | refine ag.sR ?_ rfl | refine ag.sD ?_ rfl) (same68 _ (fun x => by rw [gI_o (by omega)])) (fun x => ?_) (fun _ => ⟨funext (fun x => by rw [gI_o (by omega)]), by rw [gI_o (by omega)]; exact e62⟩) (fun q => by rcases kk with z | z | z | z | z <;> rw [z] at q <;> exact absurd q (by decide)))
      have : UV k a x = decide (x = w) := by
        unfold UV
        rw [ew]
        rcases kk with z | z | z | z | z <;> rw [z] <;> simp
      rw [this]
      by_cases e : x = w
      · rw [e, gI_e]; simp
      · rw [gI_o (by omega)]; simp [e]
    rcases o with rfl | ⟨rfl | rfl, o⟩ | ⟨rfl | rfl, o⟩ | ⟨rfl, o⟩ | ⟨rfl, o⟩ | ⟨rfl, o⟩ | ⟨rfl, o⟩
    · simp only [show ((97 : Int32) = 102) = False by decide, show ((97 : Int32) = 100) = False by decide, show ((97 : Int32) = 122) = False by decide, show ((97 : Int32) = 116) = False by decide, show ((97 : Int32) = 115) = False by decide, show ((97 : Int32) = 98) = False by decide, show ((97 : Int32) = 110) = False by decide, if_false]
      exact f h ag.rfl (same68 _ (fun _ => rfl)) (fun x => by rw [if_neg (by unfold UV; simp)]) (fun _ => ⟨rfl, e62⟩) (fun q => absurd q (by decide))
    · rw [if_pos rfl]
      unfold wp_X11_needs_b52
      rw [if_pos rfl]
      exact one 0 (by omega) (by unfold vr; simp) (by simp)
    · obtain ⟨j, hj, rfl⟩ := o
      simp only [show ((116 : Int32) = 102) = False by decide, show ((116 : Int32) = 100) = False by decide, show ((116 : Int32) = 122) = False by decide, if_false, if_true]
      rw [i3n]
      exact one (3 + j) (by omega) (by unfold vr; simp [show cl (nI j) = j from nI_clamp (by omega)]) (by simp)
    · obtain ⟨j, hj, rfl⟩ := o
      simp only [show ((115 : Int32) = 102) = False by decide, show ((115 : Int32) = 100) = False by decide, show ((115 : Int32) = 122) = False by decide, show ((115 : Int32) = 116) = False by decide, if_false, if_true]
      unfold wp_X11_needs_b147 wp_X11_needs_b161
      rw [if_pos rfl, show (13 : Int32) + nI j = nI (13 + j) by rw [show (13 : Int32) = nI 13 from rfl, nI_add]]
      exact one (13 + j) (by omega) (by unfold vr; simp [show cl (nI j) = j from nI_clamp (by omega)]) (by simp)
    · obtain ⟨j, hj, rfl⟩ := o
      simp only [show ((98 : Int32) = 102) = False by decide, show ((98 : Int32) = 100) = False by decide, show ((98 : Int32) = 122) = False by decide, show ((98 : Int32) = 116) = False by decide, show ((98 : Int32) = 115) = False by decide, if_false, if_true]
      unfold wp_X11_needs_b147 wp_X11_needs_b161
      rw [if_neg (by decide), show (29 : Int32) + nI j = nI (29 + j) by rw [show (29 : Int32) = nI 29 from rfl, nI_add]]
      exact one (29 + j) (by omega) (by unfold vr; simp [show cl (nI j) = j from nI_clamp (by omega)]) (by simp)
    · simp only [show ((122 : Int32) = 102) = False by decide, show ((122 : Int32) = 100) = False by decide, if_false, if_true]
      refine use_w (v := 2) (by omega) ?_
      have fin : ∀ w, w = (if (999 : Int32) ≤ a then 999 else a + 1) → wp_X11_needs_b105 (gI (sI h 65 0 2 1) 11 0 62) w (sI h 65 0 2 1) Q := fun w ew => by
        unfold wp_X11_needs_b105 LET
        rw [gI_o (show (11 : Nat) ≠ 65 ∨ _ from Or.inl (by decide)), e62, nI_clamp (by omega)]
        refine ⟨vp_in_nI hs (by decide), ?_⟩
        simp only [forall_eq]
        rw [gI_o (show (11 : Nat) ≠ 71 ∨ _ from Or.inl (by decide)), gI_o (show (11 : Nat) ≠ 65 ∨ _ from Or.inl (by decide)), e62, nI_1]
        refine f _ (by repeat first | exact ag.rfl | refine ag.sI ?_ rfl | refine ag.sJ ?_ rfl | refine ag.sR ?_ rfl | refine ag.sD ?_ rfl) (same68 _ (fun x => by rw [gI_o (by omega), gI_o (by omega), gI_o (by omega)])) (fun x => ?_) (fun q => absurd rfl q) (fun _ => ⟨gI_e, fun x hx => by rw [gI_o (by omega), gI_o (by omega), gI_o (by omega)], by rw [gI_o (by omega), gI_e, ew]⟩)
        rw [gI_o (by omega), gI_o (by omega)]
        have : UV 122 a x = decide (x = 2) := by
          unfold UV vr
          simp
        rw [this]
        by_cases e : x = 2
        · rw [e, gI_e]; simp
        · rw [gI_o (by omega)]; simp [e]
      by_cases q : (999 : Int32) ≤ a
      · rw [if_pos q]; exact fin 999 (by rw [if_pos q])
      · rw [if_neg q]; exact fin (a + 1) (by rw [if_neg q])
    · simp only [show ((100 : Int32) = 102) = False by decide, if_false, if_true]
      unfold wp_X11_needs_b52
      rw [if_neg (by decide)]
      exact one 1 (by omega) (by unfold vr; simp) (by simp)
    · simp only [show ((110 : Int32) = 102) = False by decide, show ((110 : Int32) = 100) = False by decide, show ((110 : Int32) = 122) = False by decide, show ((110 : Int32) = 116) = False by decide, show ((110 : Int32) = 115) = False by decide, show ((110 : Int32) = 98) = False by decide, if_false, if_true]
      unfold wp_X11_needs_b178
      refine LFP2.by (I := fun y h1 => ∃ n, n ≤ 10 ∧ y = nI n ∧ ag (wS [65] []) h h1 ∧ ∀ x, gI h1 65 0 x = if 3 ≤ x ∧ x < 3 + n then 1 else gI h 65 0 x) (μ := fun y _ => 10 - y.toNatClampNeg) ⟨0, by omega, rfl, ag.rfl, fun x => by rw [if_neg (by omega)]⟩ ?_
      rintro y h1 ⟨n, hn, rfl, A1, C⟩ P hP
      unfold wp_X11_needs_b178F LET
      by_cases c : n = 10
      · subst c
        rw [if_pos (by decide)]
        refine f h1 (A1.mono (wS_mono (by decide) (by decide))) (same68 _ (fun x => A1.I 68 0 x)) (fun x => ?_) (fun _ => ⟨funext (fun x => A1.I 71 0 x), by rw [A1.I 11 0 62]; exact e62⟩) (fun q => absurd q (by decide))
        rw [C]
        have : UV 110 a x = decide (3 ≤ x ∧ x < 13) := by unfold UV; simp
        rw [this]
        by_cases e : 3 ≤ x ∧ x < 13
        · rw [if_pos e, decide_eq_true e, if_pos rfl]
        · rw [if_neg e, decide_eq_false e, if_neg (by decide)]
      · rw [if_neg (show ¬ (10 : Int32) ≤ nI n from nI_ge (b := 10) (show n < 10 by omega) (by omega)), i3n]
        refine use_w (by omega) ?_
        rintro y rfl
        refine hP _ _ ⟨n + 1, by omega, nI_1 n, A1.sI rfl, fun x => ?_⟩ (by rw [nI_1, nI_clamp (by omega), nI_clamp (by omega)]; omega)
        by_cases e : x = 3 + n
        · rw [e, gI_e, if_pos (by omega)]
        · rw [gI_o (by omega), C]
          by_cases l : 3 ≤ x ∧ x < 3 + n
          · rw [if_pos l, if_pos (by omega)]
          · rw [if_neg l, if_neg (by omega)]
    · simp only [show ((107 : Int32) = 102) = False by decide, show ((107 : Int32) = 100) = False by decide, show ((107 : Int32) = 122) = False by decide, show ((107 : Int32) = 116) = False by decide, show ((107 : Int32) = 115) = False by decide, show ((107 : Int32) = 98) = False by decide, show ((107 : Int32) = 110) = False by decide, if_false]
      exact f h ag.rfl (same68 _ (fun _ => rfl)) (fun x => by rw [if_neg (by unfold UV; simp)]) (fun _ => ⟨rfl, e62⟩) (fun q => absurd q (by decide))
/-- the greatest of some sizes that is not above -/
theorem argmax {lk : Nat → Int32} {m : Int32} : ∀ s, (∃ x, x < s ∧ (lk x).toInt ≤ m.toInt) → ∃ x, x < s ∧ (lk x).toInt ≤ m.toInt ∧ ∀ y, y < s → (lk y).toInt ≤ m.toInt → (lk y).toInt ≤ (lk x).toInt := by
  intro s
  induction s with
  | zero => rintro ⟨x, hx, -⟩; omega
  | succ s ih =>
    rintro ⟨x, hx, l⟩
    by_cases ex : ∃ x, x < s ∧ (lk x).toInt ≤ m.toInt
    · obtain ⟨z, hz, lz, az⟩ := ih ex
      by_cases q : (lk s).toInt ≤ m.toInt ∧ (lk z).toInt < (lk s).toInt
      · refine ⟨s, by omega, q.1, fun y hy ly => ?_⟩
        by_cases e : y = s
        · rw [e]; exact Int.le_refl _
        · have := az y (by omega) ly; omega
      · refine ⟨z, by omega, lz, fun y hy ly => ?_⟩
        by_cases e : y = s
        · rw [e] at ly ⊢
          rcases Classical.not_and_iff_not_or_not.mp q with q | q
          · exact absurd ly q
          · omega
        · exact az y (by omega) ly
    · have e : x = s := by
        rcases Nat.lt_or_ge x s with l' | l'
        · exact absurd ⟨x, l', l⟩ ex
        · omega
      refine ⟨s, by omega, by rw [← e]; exact l, fun y hy ly => ?_⟩
      by_cases e' : y = s
      · rw [e']; exact Int.le_refl _
      · exact absurd ⟨y, by omega, ly⟩ ex
