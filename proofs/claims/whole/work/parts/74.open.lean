/-! tests still to weigh, and a test without parts under one -/
theorem bJ_andn {x y : Int64} {t : Nat} (ht : t < 64) : bJ (x &&& (y ^^^ (-1))) t = (bJ x t && !bJ y t) := by rw [bJ_and, bJ_not _ ht]
theorem io_w {x y : Int64} {t : Nat} {h : Hp} {Q : Int32 → Prop} (ht : t < 60) (ha : inN (gI h 13 0 t) 64) (hb : inN (gI h 14 0 t) 64) (f : Q (bit01 ((bJ x t && !bJ y t) && !(bJ x (cl (gI h 13 0 t)) || bJ x (cl (gI h 14 0 t)))))) : wp_X4_isOpen x y (nI t) h Q := by
  have ct : cl (nI t) = t := nI_clamp (by omega)
  unfold wp_X4_isOpen
  rw [hbJ_w (n := 64) ⟨t, by omega, rfl⟩ (by decide), ct, bJ_andn (by omega)]
  cases a : (bJ x t && !bJ y t)
  · rw [if_pos (show bit01 false = 0 from rfl)]
    rw [a] at f
    exact f
  · rw [if_neg (show ¬ bit01 true = 0 by decide)]
    rw [a] at f
    refine ⟨vp_in_nI ht (by decide), ?_⟩
    rw [nI_clamp (by omega), he_w ha hb (by decide)]
    cases b : (bJ x (cl (gI h 13 0 t)) || bJ x (cl (gI h 14 0 t)))
    · rw [if_pos (show bit01 false = 0 from rfl)]
      rw [b] at f
      exact f
    · rw [if_neg (show ¬ bit01 true = 0 by decide)]
      rw [b] at f
      exact f
section
variable {h0 : Hp} {nt ac : Nat} {as : Nat → Nat}
/-- no choice is left at the test t -/
def SHUT (h0 : Hp) (H F sH sF : Int64) (t : Nat) : Prop := ∀ p, (gI h0 12 0 t = 38 ∨ gI h0 12 0 t = 124) → decide (gI h0 12 0 t = 38) ≠ p → pb H F p t = true → pb sH sF p t = true ∨ pb H F p (cl (gI h0 13 0 t)) = true ∨ pb H F p (cl (gI h0 14 0 t)) = true
theorem lo_w {h : Hp} {Q : Int32 → Prop} (T : TT h0 nt) (K : AK (gI h0 12 0) (gI h0 13 0) (gI h0 14 0) nt as ac) (a : AH h0 as ac h)
    (f1 : (∀ i, i < ac → SHUT h0 (gJ h 4 0 4) (gJ h 4 0 5) (gJ h 4 0 8) (gJ h 4 0 9) (as i)) → Q (-1))
    (f2 : ∀ i, i < ac → (gI h0 12 0 (as i) = 38 ∨ gI h0 12 0 (as i) = 124) → pb (gJ h 4 0 4) (gJ h 4 0 5) (decide (gI h0 12 0 (as i) = 124)) (as i) = true → pb (gJ h 4 0 8) (gJ h 4 0 9) (decide (gI h0 12 0 (as i) = 124)) (as i) = false → Q (nI (as i))) : wp_X4_lastOpen h Q := by
  have K' := K
  obtain ⟨k60, k1, k2, k3⟩ := K'
  have n60 := T.1.1
  unfold wp_X4_lastOpen LET wp_X4_lastOpen_b7
  simp only [forall_eq]
  rw [a.2.1]
  refine LFP1.by (I := fun y => ∃ n, n ≤ ac ∧ y = nI n - 1 ∧ ∀ i, n ≤ i → i < ac → SHUT h0 (gJ h 4 0 4) (gJ h 4 0 5) (gJ h 4 0 8) (gJ h 4 0 9) (as i)) (μ := fun y => (y + 1).toNatClampNeg) ⟨ac, Nat.le_refl _, rfl, fun i h1 h2 => by omega⟩ ?_
  rintro y ⟨n, hn, rfl, sh⟩ P hP
  unfold wp_X4_lastOpen_b7F wp_X4_lastOpen_b50 wp_X4_lastOpen_b74 LET
  simp only [forall_eq]
  by_cases n0 : n = 0
  · subst n0
    rw [if_pos (by decide)]
    exact f1 (fun i hi => sh i (by omega) hi)
  obtain ⟨i, rfl⟩ : ∃ i, n = i + 1 := ⟨n - 1, by omega⟩
  rw [nI_sub1 (by omega), show i + 1 - 1 = i by omega, if_neg (nI_pos (by omega)), nI_clamp (show i < 2 ^ 31 by omega)]
  have ht := k1 i (by omega)
  have vv := T.1.2 (as i) ht
  have ei : gI h 28 0 i = nI (as i) := a.2.2 i (by omega)
  refine ⟨vp_in_nI (by omega) (by decide), ?_⟩
  rw [ei, nI_clamp (show as i < 2 ^ 31 by omega), a.1.I 12 0 (as i)]
  refine ⟨vp_in_nI (by omega) (by decide), ?_⟩
  have go : SHUT h0 (gJ h 4 0 4) (gJ h 4 0 5) (gJ h 4 0 8) (gJ h 4 0 9) (as i) → P (nI i + (-1)) := fun s => by
    rw [show nI i + (-1) = nI i - 1 from (Int32.sub_eq_add_neg _ _).symm]
    refine hP _ ⟨i, by omega, rfl, fun j h1 h2 => ?_⟩ (by rw [Int32.sub_add_cancel, Int32.sub_add_cancel, nI_clamp (by omega), nI_clamp (by omega)]; omega)
    by_cases e : j = i
    · subst e; exact s
    · exact sh j (by omega) h2
  have parts : (gI h0 12 0 (as i) = 38 ∨ gI h0 12 0 (as i) = 124) → inN (gI h 13 0 (as i)) 64 ∧ inN (gI h 14 0 (as i)) 64 := fun kk => by
    obtain ⟨ha, hb⟩ := StV_mk vv (Or.inr kk)
    have k33 : gI h0 12 0 (as i) ≠ 33 := fun q => by rcases kk with k | k <;> rw [k] at q <;> exact absurd q (by decide)
    obtain ⟨x, hx, ex⟩ := ha
    obtain ⟨y, hy, ey⟩ := hb k33
    rw [a.1.I 13 0 (as i), a.1.I 14 0 (as i)]
    exact ⟨⟨x, by omega, ex⟩, ⟨y, by omega, ey⟩⟩
  have e13 : gI h 13 0 (as i) = gI h0 13 0 (as i) := a.1.I 13 0 (as i)
  have e14 : gI h 14 0 (as i) = gI h0 14 0 (as i) := a.1.I 14 0 (as i)
  by_cases k124 : gI h0 12 0 (as i) = 124
  · rw [if_pos k124]
    obtain ⟨pa, pb'⟩ := parts (Or.inr k124)
    refine io_w (by omega) pa pb' ?_
    have d124 : decide (gI h0 12 0 (as i) = 124) = true := decide_eq_true k124
    have n38 : ¬ gI h0 12 0 (as i) = 38 := by rw [k124]; decide
    have f2 := f2 i (by omega) (Or.inr k124)
    rw [d124] at f2
    cases b : ((bJ (gJ h 4 0 4) (as i) && !bJ (gJ h 4 0 8) (as i)) && !(bJ (gJ h 4 0 4) (cl (gI h 13 0 (as i))) || bJ (gJ h 4 0 4) (cl (gI h 14 0 (as i)))))
    · rw [if_pos (show bit01 false = 0 from rfl), if_neg n38]
      refine go (fun p kk al m => ?_)
      cases p
      · exact absurd (decide_eq_false n38) al
      · have m : bJ (gJ h 4 0 4) (as i) = true := m
        rw [e13, e14, m] at b
        show bJ (gJ h 4 0 8) (as i) = true ∨ bJ (gJ h 4 0 4) _ = true ∨ bJ (gJ h 4 0 4) _ = true
        revert b
        cases bJ (gJ h 4 0 8) (as i) <;> cases bJ (gJ h 4 0 4) (cl (gI h0 13 0 (as i))) <;> cases bJ (gJ h 4 0 4) (cl (gI h0 14 0 (as i))) <;> simp
    · rw [if_neg (show ¬ bit01 true = 0 by decide)]
      simp only [Bool.and_eq_true, Bool.not_eq_true'] at b
      exact f2 b.1.1 b.1.2
  · rw [if_neg k124]
    by_cases k38 : gI h0 12 0 (as i) = 38
    · rw [if_pos k38]
      obtain ⟨pa, pb'⟩ := parts (Or.inl k38)
      refine io_w (by omega) pa pb' ?_
      have d124 : decide (gI h0 12 0 (as i) = 124) = false := decide_eq_false k124
      have f2 := f2 i (by omega) (Or.inl k38)
      rw [d124] at f2
      cases b : ((bJ (gJ h 4 0 5) (as i) && !bJ (gJ h 4 0 9) (as i)) && !(bJ (gJ h 4 0 5) (cl (gI h 13 0 (as i))) || bJ (gJ h 4 0 5) (cl (gI h 14 0 (as i)))))
      · rw [if_pos (show bit01 false = 0 from rfl)]
        refine go (fun p kk al m => ?_)
        cases p
        · have m : bJ (gJ h 4 0 5) (as i) = true := m
          rw [e13, e14, m] at b
          show bJ (gJ h 4 0 9) (as i) = true ∨ bJ (gJ h 4 0 5) _ = true ∨ bJ (gJ h 4 0 5) _ = true
          revert b
          cases bJ (gJ h 4 0 9) (as i) <;> cases bJ (gJ h 4 0 5) (cl (gI h0 13 0 (as i))) <;> cases bJ (gJ h 4 0 5) (cl (gI h0 14 0 (as i))) <;> simp
        · exact absurd (decide_eq_true k38) al
      · rw [if_neg (show ¬ bit01 true = 0 by decide)]
        simp only [Bool.and_eq_true, Bool.not_eq_true'] at b
        exact f2 b.1.1 b.1.2
    · rw [if_neg k38]
      exact go (fun p kk => by rcases kk with q | q; exact absurd q k38; exact absurd q k124)
/-- under a test that would help there is one without parts that would help -/
theorem uu_w {h : Hp} {Q : Int32 → Hp → Prop} {H F : Int64} {c : Nat → Int32} {i0 : Nat} (T : TT h0 nt) (K : AK (gI h0 12 0) (gI h0 13 0) (gI h0 14 0) nt as ac) (a : AH h0 as ac h) (W : WGH h0 as ac H F c (gJ h 4 0 6) (gJ h 4 0 7) (gJ h 4 0 8) (gJ h 4 0 9))
    (hi : i0 < ac) (hm : pb (gJ h 4 0 6) (gJ h 4 0 7) (decide (gI h0 12 0 (as i0) = 124)) (as i0) = true) (hs : pb (gJ h 4 0 8) (gJ h 4 0 9) (decide (gI h0 12 0 (as i0) = 124)) (as i0) = false)
    (f : ∀ i p h', i < ac → ¬ mk (gI h0 12 0 (as i)) → pb (gJ h 4 0 6) (gJ h 4 0 7) p (as i) = true → pb (gJ h 4 0 8) (gJ h 4 0 9) p (as i) = false → ag (wS [] [(4, 10)]) h h' → Q (nI (as i)) h') : wp_X4_unsettledUnder (nI (as i0)) h Q := by
  have K' := K
  obtain ⟨k60, k1, k2, k3⟩ := K'
  have n60 := T.1.1
  have main : ∀ p, pb (gJ h 4 0 6) (gJ h 4 0 7) p (as i0) = true → pb (gJ h 4 0 8) (gJ h 4 0 9) p (as i0) = false → wp_X4_unsettledUnder_b25 (nI (as i0)) (bit01 p) 0 h Q := by
    intro p hm hs
    unfold wp_X4_unsettledUnder_b25
    refine LFP4.by (I := fun x y z h' => h' = h ∧ ∃ i p n, i < ac ∧ x = nI (as i) ∧ y = bit01 p ∧ z = nI n ∧ as i + n ≤ 59 ∧ pb (gJ h 4 0 6) (gJ h 4 0 7) p (as i) = true ∧ pb (gJ h 4 0 8) (gJ h 4 0 9) p (as i) = false) (μ := fun x _ _ _ => x.toNatClampNeg) ⟨rfl, i0, p, 0, hi, rfl, rfl, rfl, by have := k1 i0 hi; omega, hm, hs⟩ ?_
    rintro x y z h' ⟨rfl, i, p, n, hi, rfl, rfl, rfl, hb, hm, hs⟩ P hP
    have ht := k1 i hi
    have vv := T.1.2 (as i) ht
    unfold wp_X4_unsettledUnder_b25F wp_X4_unsettledUnder_b91 wp_X4_unsettledUnder_b116 wp_X4_unsettledUnder_b147 wp_X4_unsettledUnder_b148 wp_X4_unsettledUnder_b154 LET
    simp only [forall_eq]
    rw [if_neg (show ¬ (60 : Int32) ≤ nI n from nI_ge (b := 60) (show n < 60 by omega) (by omega))]
    refine ⟨vp_in_nI (by omega) (by decide), ?_⟩
    rw [nI_clamp (show as i < 2 ^ 31 by omega), a.1.I 12 0 (as i), a.1.I 13 0 (as i), a.1.I 14 0 (as i), pt_e]
    by_cases m : mk (gI h0 12 0 (as i))
    case neg =>
      have t0 : tP (gI h0 12 0 (as i)) = 0 := by
        have m := m
        unfold mk at m
        simp only [not_or] at m
        unfold tP
        rw [if_neg (fun q => by rcases q with q | q; exact m.2.1 q; exact m.2.2 q), if_neg m.1]
      rw [t0, if_pos (by decide)]
      refine ⟨by cases p; exact Or.inl rfl; exact Or.inr rfl, f i p _ hi m hm hs (by repeat first | exact ag.rfl | refine ag.sI ?_ rfl | refine ag.sJ ?_ rfl | refine ag.sR ?_ rfl | refine ag.sD ?_ rfl)⟩
    have t1 : ¬ nI (tP (gI h0 12 0 (as i))) ≤ 0 := by
      rcases m with q | q | q <;> rw [q] <;> decide
    rw [if_neg t1]
    obtain ⟨ha, hb2⟩ := StV_mk vv m
    have ha' : inN (gI h0 13 0 (as i)) 64 := by obtain ⟨j, hj, e⟩ := ha; exact ⟨j, by omega, e⟩
    obtain ⟨ja, hja, eja⟩ := (k3 i hi).1 m
    have lta := k2 ja i hja hi
    have ea : gI h0 13 0 (as i) = nI (as ja) := by rw [eja]; exact (cl_n ha (by omega)).2
    rw [W.1 i p hi] at hm
    rw [W.2.1 i p hi] at hs
    simp only [Bool.and_eq_true] at hm
    have hm := hm.1
    unfold cw at hm hs
    have vi : vp_in (nI (as i)) 60 := vp_in_nI (by omega) (by decide)
    -- the two polarities' masks
    have body : ∀ s0 : Int64, (∀ x, x < 64 → bJ s0 x = (pb (gJ h' 4 0 6) (gJ h' 4 0 7) p x && !pb (gJ h' 4 0 8) (gJ h' 4 0 9) p x)) → vp_in (nI (as i)) 60 ∧ if gI h0 12 0 (as i) = 33 then (if bit01 p = 0 then P (gI h0 13 0 (as i)) 1 (nI n + 1) h' else P (gI h0 13 0 (as i)) 0 (nI n + 1) h') else wp_X10_hasBit_ s0 (gI h0 13 0 (as i)) h' (fun r4 => if r4 = 0 then P (gI h0 14 0 (as i)) (bit01 p) (nI n + 1) h' else P (gI h0 13 0 (as i)) (bit01 p) (nI n + 1) h') := by
      intro s0 es
      refine ⟨vi, ?_⟩
      by_cases k33 : gI h0 12 0 (as i) = 33
      · rw [if_pos k33] at hm hs ⊢
        have hm : pb (gJ h' 4 0 6) (gJ h' 4 0 7) (!p) (cl (gI h0 13 0 (as i))) = true := hm
        have hs : pb (gJ h' 4 0 8) (gJ h' 4 0 9) (!p) (cl (gI h0 13 0 (as i))) = false := hs
        rw [← eja] at hm hs
        have nx : P (gI h0 13 0 (as i)) (bit01 (!p)) (nI n + 1) h' := hP _ _ _ _ ⟨rfl, ja, !p, n + 1, by omega, ea, rfl, nI_1 n, by omega, hm, hs⟩ (by rw [ea, nI_clamp (by omega), nI_clamp (by omega)]; omega)
        cases p
        · rw [if_pos (show bit01 false = 0 from rfl)]; exact nx
        · rw [if_neg (show ¬ bit01 true = 0 by decide)]; exact nx
      · have kk : gI h0 12 0 (as i) = 38 ∨ gI h0 12 0 (as i) = 124 := by rcases m with q | q; exact absurd q k33; exact q
        obtain ⟨jb, hjb, ejb⟩ := (k3 i hi).2 kk
        have ltb := k2 jb i hjb hi
        have eb : gI h0 14 0 (as i) = nI (as jb) := by rw [ejb]; exact (cl_n (hb2 k33) (by omega)).2
        rw [if_neg k33, if_pos kk, ← eja, ← ejb] at hm hs
        rw [if_neg k33, hbJ_w ha' (by decide), ← eja, es (as ja) (by omega)]
        have nxa : pb (gJ h' 4 0 6) (gJ h' 4 0 7) p (as ja) = true → pb (gJ h' 4 0 8) (gJ h' 4 0 9) p (as ja) = false → P (gI h0 13 0 (as i)) (bit01 p) (nI n + 1) h' := fun hm hs => hP _ _ _ _ ⟨rfl, ja, p, n + 1, by omega, ea, rfl, nI_1 n, by omega, hm, hs⟩ (by rw [ea, nI_clamp (by omega), nI_clamp (by omega)]; omega)
        have nxb : pb (gJ h' 4 0 6) (gJ h' 4 0 7) p (as jb) = true → pb (gJ h' 4 0 8) (gJ h' 4 0 9) p (as jb) = false → P (gI h0 14 0 (as i)) (bit01 p) (nI n + 1) h' := fun hm hs => hP _ _ _ _ ⟨rfl, jb, p, n + 1, by omega, eb, rfl, nI_1 n, by omega, hm, hs⟩ (by rw [eb, nI_clamp (by omega), nI_clamp (by omega)]; omega)
        simp only [pg] at hm hs
        have key : ∀ (e p m1 s1 m2 s2 : Bool), (if e = p then m1 && m2 else m1 || m2) = true → (if e = p then s1 && s2 else s1 || s2) = false → ((m1 && !s1) = true ∧ m1 = true ∧ s1 = false) ∨ ((m1 && !s1) = false ∧ m2 = true ∧ s2 = false) := by
          intro e p m1 s1 m2 s2
          cases e <;> cases p <;> cases m1 <;> cases s1 <;> cases m2 <;> cases s2 <;> decide
        rcases key _ _ _ _ _ _ hm hs with ⟨b, u1, u2⟩ | ⟨b, u1, u2⟩
        · rw [b, if_neg (show ¬ bit01 true = 0 by decide)]
          exact nxa u1 u2
        · rw [b, if_pos (show bit01 false = 0 from rfl)]
          exact nxb u1 u2
    cases p
    · rw [if_pos (show bit01 false = 0 from rfl)]
      exact body _ (fun x hx => bJ_andn hx)
    · rw [if_neg (show ¬ bit01 true = 0 by decide)]
      exact body _ (fun x hx => bJ_andn hx)
  unfold wp_X4_unsettledUnder wp_X4_unsettledUnder_b21
  have ht := k1 i0 hi
  refine ⟨vp_in_nI (by omega) (by decide), ?_⟩
  rw [nI_clamp (show as i0 < 2 ^ 31 by omega), a.1.I 12 0 (as i0)]
  by_cases k124 : gI h0 12 0 (as i0) = 124
  · rw [if_pos k124]
    rw [decide_eq_true k124] at hm hs
    exact main true hm hs
  · rw [if_neg k124]
    rw [decide_eq_false k124] at hm hs
    exact main false hm hs
end
