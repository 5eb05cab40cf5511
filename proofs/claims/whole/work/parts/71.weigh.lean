/-! weighing -/
def cw (g : Nat → Bool → Bool) (k a b : Int32) (p lv : Bool) : Bool := if k = 33 then g (cl a) (!p) else if k = 38 ∨ k = 124 then (if decide (k = 38) = p then g (cl a) p && g (cl b) p else g (cl a) p || g (cl b) p) else lv
theorem cw_ext {g g' : Nat → Bool → Bool} {k a b : Int32} {p lv : Bool} (e1 : mk k → ∀ p, g (cl a) p = g' (cl a) p) (e2 : k = 38 ∨ k = 124 → ∀ p, g (cl b) p = g' (cl b) p) : cw g k a b p lv = cw g' k a b p lv := by
  unfold cw
  by_cases k33 : k = 33
  · rw [if_pos k33, if_pos k33, e1 (Or.inl k33)]
  · rw [if_neg k33, if_neg k33]
    by_cases kk : k = 38 ∨ k = 124
    · rw [if_pos kk, if_pos kk, e1 (Or.inr kk), e2 kk]
    · rw [if_neg kk, if_neg kk]
def lvM (c : Nat → Int32) (k a : Int32) (p : Bool) : Bool := if k = 107 then true else skM c k a p
def lvS (c : Nat → Int32) (k a : Int32) (p : Bool) : Bool := if k = 107 then true else !skM c k a (!p)
def pg (x y : Int64) (t : Nat) (p : Bool) : Bool := pb x y p t
/-- what weighing leaves, for the first n asked -/
def WGH (h0 : Hp) (as : Nat → Nat) (n : Nat) (H F : Int64) (c : Nat → Int32) (mH mF sH sF : Int64) : Prop :=
  (∀ i p, i < n → pb mH mF p (as i) = (cw (pg mH mF) (gI h0 12 0 (as i)) (gI h0 13 0 (as i)) (gI h0 14 0 (as i)) p (lvM c (gI h0 12 0 (as i)) (gI h0 13 0 (as i)) p) && !(bJ (gJ h0 9 0 3) (as i) && pb H F (!p) (as i))))
  ∧ (∀ i p, i < n → pb sH sF p (as i) = cw (pg sH sF) (gI h0 12 0 (as i)) (gI h0 13 0 (as i)) (gI h0 14 0 (as i)) p (lvS c (gI h0 12 0 (as i)) (gI h0 13 0 (as i)) p))
  ∧ ∀ x p, x < 64 → (∀ i, i < n → as i ≠ x) → pb mH mF p x = false ∧ pb sH sF p x = false
section
variable {h0 : Hp} {nt ac : Nat} {as : Nat → Nat}
theorem wst_w {n : Nat} {h1 : Hp} {P : Hp → Prop} {m1 m2 : Bool} {X : Hp → (Bool → Bool → Prop) → Prop} {H F : Int64} {c : Nat → Int32} (T : TV (gI h0 12 0) (gI h0 13 0) (gI h0 14 0) nt) (K : AK (gI h0 12 0) (gI h0 13 0) (gI h0 14 0) nt as ac) (hn : n < ac)
    (hst : gJ h1 9 0 3 = gJ h0 9 0 3) (hH : gJ h1 4 0 4 = H) (hF : gJ h1 4 0 5 = F)
    (W : WGH h0 as n H F c (gJ h1 4 0 6) (gJ h1 4 0 7) (gJ h1 4 0 8) (gJ h1 4 0 9))
    (em : ∀ p, (if p = true then m1 else m2) = cw (pg (gJ h1 4 0 6) (gJ h1 4 0 7)) (gI h0 12 0 (as n)) (gI h0 13 0 (as n)) (gI h0 14 0 (as n)) p (lvM c (gI h0 12 0 (as n)) (gI h0 13 0 (as n)) p))
    {Q : Hp → Prop}
    (f : ∀ h2, ag (wS [] [(4, 6), (4, 7)]) h1 h2 → (∀ s1 s2, (∀ p, (if p = true then s1 else s2) = cw (pg (gJ h1 4 0 8) (gJ h1 4 0 9)) (gI h0 12 0 (as n)) (gI h0 13 0 (as n)) (gI h0 14 0 (as n)) p (lvS c (gI h0 12 0 (as n)) (gI h0 13 0 (as n)) p)) → ∀ Q' : Hp → Prop, (∀ h3, ag (wS [] [(4, 6), (4, 7), (4, 8), (4, 9)]) h1 h3 → WGH h0 as (n + 1) H F c (gJ h3 4 0 6) (gJ h3 4 0 7) (gJ h3 4 0 8) (gJ h3 4 0 9) → Q' h3) → wp_X4_noteSure (nI (as n)) (bit01 s1) (bit01 s2) h2 Q') → Q h2) : wp_X4_noteMay (nI (as n)) (bit01 m1) (bit01 m2) h1 Q := by
  obtain ⟨k60, k1, k2, k3⟩ := K
  have n60 := T.1
  have ht := k1 n hn
  obtain ⟨W1, W2, W3⟩ := W
  have inj : ∀ i, i < n → as i ≠ as n := fun i hi q => by have := k2 i n hi hn; omega
  have fresh := fun p => W3 (as n) p (by omega) (fun i hi => inj i hi)
  refine nm_w (by omega) (fun h2 A2 E2 => f h2 A2 (fun s1 s2 es Q' g => ?_))
  refine ns_w (by omega) (fun h3 A3 E3 => g h3 ((A2.mono (wS_mono (by decide) (by decide))).trans (A3.mono (wS_mono (by decide) (by decide)))) ?_)
  rw [A3.J 4 0 6, A3.J 4 0 7]
  rw [A2.J 4 0 8, A2.J 4 0 9] at E3
  rw [hst, hH, hF] at E2
  have oldM : ∀ x p, x < 64 → x ≠ as n → pb (gJ h2 4 0 6) (gJ h2 4 0 7) p x = pb (gJ h1 4 0 6) (gJ h1 4 0 7) p x := fun x p hx e => by
    rw [E2 x p hx, decide_eq_false (fun q => e q.symm), Bool.false_and, Bool.or_false]
  have oldS : ∀ x p, x < 64 → x ≠ as n → pb (gJ h3 4 0 8) (gJ h3 4 0 9) p x = pb (gJ h1 4 0 8) (gJ h1 4 0 9) p x := fun x p hx e => by
    rw [E3 x p hx, decide_eq_false (fun q => e q.symm), Bool.false_and, Bool.or_false]
  -- parts are older
  have part1 : ∀ i, i ≤ n → mk (gI h0 12 0 (as i)) → cl (gI h0 13 0 (as i)) < 64 ∧ cl (gI h0 13 0 (as i)) ≠ as n := fun i hi m => by
    obtain ⟨j, hj, ej⟩ := (k3 i (by omega)).1 m
    rw [← ej]
    exact ⟨by have := k1 j (by omega); omega, inj j (by omega)⟩
  have part2 : ∀ i, i ≤ n → (gI h0 12 0 (as i) = 38 ∨ gI h0 12 0 (as i) = 124) → cl (gI h0 14 0 (as i)) < 64 ∧ cl (gI h0 14 0 (as i)) ≠ as n := fun i hi m => by
    obtain ⟨j, hj, ej⟩ := (k3 i (by omega)).2 m
    rw [← ej]
    exact ⟨by have := k1 j (by omega); omega, inj j (by omega)⟩
  have exM : ∀ i p lv, i ≤ n → cw (pg (gJ h2 4 0 6) (gJ h2 4 0 7)) (gI h0 12 0 (as i)) (gI h0 13 0 (as i)) (gI h0 14 0 (as i)) p lv = cw (pg (gJ h1 4 0 6) (gJ h1 4 0 7)) (gI h0 12 0 (as i)) (gI h0 13 0 (as i)) (gI h0 14 0 (as i)) p lv := fun i p lv hi =>
    cw_ext (fun m p => oldM _ p (part1 i hi m).1 (part1 i hi m).2) (fun m p => oldM _ p (part2 i hi m).1 (part2 i hi m).2)
  have exS : ∀ i p lv, i ≤ n → cw (pg (gJ h3 4 0 8) (gJ h3 4 0 9)) (gI h0 12 0 (as i)) (gI h0 13 0 (as i)) (gI h0 14 0 (as i)) p lv = cw (pg (gJ h1 4 0 8) (gJ h1 4 0 9)) (gI h0 12 0 (as i)) (gI h0 13 0 (as i)) (gI h0 14 0 (as i)) p lv := fun i p lv hi =>
    cw_ext (fun m p => oldS _ p (part1 i hi m).1 (part1 i hi m).2) (fun m p => oldS _ p (part2 i hi m).1 (part2 i hi m).2)
  refine ⟨fun i p hi => ?_, fun i p hi => ?_, fun x p hx hne => ?_⟩
  · rw [exM i p _ (by omega)]
    by_cases e : i = n
    · subst e
      rw [E2 _ p (by omega), (fresh p).1, decide_eq_true rfl, Bool.false_or, Bool.true_and, em p]
    · rw [oldM _ p (by have := k1 i (by omega); omega) (inj i (by omega))]
      exact W1 i p (by omega)
  · rw [exS i p _ (by omega)]
    by_cases e : i = n
    · subst e
      rw [E3 _ p (by omega), (fresh p).2, decide_eq_true rfl, Bool.false_or, Bool.true_and, es p]
    · rw [oldS _ p (by have := k1 i (by omega); omega) (inj i (by omega))]
      exact W2 i p (by omega)
  · have e : x ≠ as n := fun q => hne n (by omega) q.symm
    rw [oldM x p hx e, oldS x p hx e]
    exact W3 x p hx (fun i hi => hne i (by omega))
theorem weigh_w {h : Hp} {Q : Hp → Prop} (T : TV (gI h0 12 0) (gI h0 13 0) (gI h0 14 0) nt) (K : AK (gI h0 12 0) (gI h0 13 0) (gI h0 14 0) nt as ac) (a : AH h0 as ac h) (S : SSh (gI h 8 0))
    (f : ∀ h', ag (wS [] [(4, 6), (4, 7), (4, 8), (4, 9)]) h h' → WGH h0 as ac (gJ h 4 0 4) (gJ h 4 0 5) (gI h 8 0) (gJ h' 4 0 6) (gJ h' 4 0 7) (gJ h' 4 0 8) (gJ h' 4 0 9) → Q h') : wp_X4_weigh h Q := by
  unfold wp_X4_weigh LET wp_X4_weigh_b22
  simp only [forall_eq]
  refine LFP2.by (I := fun y h1 => ∃ n, n ≤ ac ∧ y = nI n ∧ ag (wS [] [(4, 6), (4, 7), (4, 8), (4, 9)]) h h1 ∧ WGH h0 as n (gJ h 4 0 4) (gJ h 4 0 5) (gI h 8 0) (gJ h1 4 0 6) (gJ h1 4 0 7) (gJ h1 4 0 8) (gJ h1 4 0 9)) (μ := fun y _ => 60 - y.toNatClampNeg)
    ⟨0, by omega, rfl, (by repeat first | exact ag.rfl | refine ag.sI ?_ rfl | refine ag.sJ ?_ rfl | refine ag.sR ?_ rfl | refine ag.sD ?_ rfl), fun i p hi => by omega, fun i p hi => by omega, fun x p hx _ => ?_⟩ ?_
  · cases p <;> simp [pb, gI_sI, gI_sJ, gI_sR, gI_sD, gJ_sI, gJ_sJ, gJ_sR, gJ_sD, gR_sI, gR_sJ, gR_sR, gR_sD, gD_sI, gD_sJ, gD_sR, gD_sD, bJ_0]
  rintro y h1 ⟨n, hn, rfl, A1, W⟩ P hP
  have K' := K
  obtain ⟨k60, k1, k2, k3⟩ := K'
  unfold wp_X4_weigh_b22F
  rw [A1.I 4 0 3, a.2.1]
  by_cases c : n = ac
  · subst c
    rw [if_pos (nI_le (Nat.le_refl _) (by omega))]
    exact f h1 A1 W
  rw [if_neg (nI_ge (show n < ac by omega) (by omega))]
  have n60 := T.1
  have ht := k1 n (by omega)
  have vv := T.2 (as n) ht
  have vt : vp_in (nI (as n)) 60 := vp_in_nI (by omega) (by decide)
  have ei : gI h1 28 0 n = nI (as n) := by rw [A1.I 28 0 n]; exact a.2.2 n (by omega)
  unfold wp_X4_weigh_b390 wp_X4_weigh_b400 wp_X4_weigh_b270 wp_X4_weigh_b271 wp_X4_weigh_b315 wp_X4_weigh_b316 wp_X4_weigh_b160 wp_X4_weigh_b161 wp_X4_weigh_b205 wp_X4_weigh_b206 wp_X4_weigh_b403 LET
  simp only [forall_eq]
  refine ⟨vp_in_nI (by omega) (by decide), ?_⟩
  rw [nI_clamp (show n < 2 ^ 31 by omega), ei, nI_clamp (show as n < 2 ^ 31 by omega), A1.I 12 0 (as n), A1.I 13 0 (as n), A1.I 14 0 (as n), a.1.I 12 0 (as n), a.1.I 13 0 (as n), a.1.I 14 0 (as n)]
  refine ⟨vt, ?_⟩
  have st : gJ h1 9 0 3 = gJ h0 9 0 3 := by rw [A1.J 9 0 3, a.1.J 9 0 3]
  have nx : ∀ h3, ag (wS [] [(4, 6), (4, 7), (4, 8), (4, 9)]) h1 h3 → WGH h0 as (n + 1) (gJ h 4 0 4) (gJ h 4 0 5) (gI h 8 0) (gJ h3 4 0 6) (gJ h3 4 0 7) (gJ h3 4 0 8) (gJ h3 4 0 9) → P (nI n + 1) h3 := fun h3 A3 W3 =>
    hP _ _ ⟨n + 1, by omega, nI_1 n, A1.trans A3, W3⟩ (by rw [nI_1, nI_clamp (by omega), nI_clamp (by omega)]; omega)
  have step : ∀ {m1 m2 : Bool}, (∀ p, (if p = true then m1 else m2) = cw (pg (gJ h1 4 0 6) (gJ h1 4 0 7)) (gI h0 12 0 (as n)) (gI h0 13 0 (as n)) (gI h0 14 0 (as n)) p (lvM (gI h 8 0) (gI h0 12 0 (as n)) (gI h0 13 0 (as n)) p)) → ∀ {Q : Hp → Prop}, (∀ h2, gJ h2 4 0 8 = gJ h1 4 0 8 → gJ h2 4 0 9 = gJ h1 4 0 9 → (∀ s1 s2, (∀ p, (if p = true then s1 else s2) = cw (pg (gJ h1 4 0 8) (gJ h1 4 0 9)) (gI h0 12 0 (as n)) (gI h0 13 0 (as n)) (gI h0 14 0 (as n)) p (lvS (gI h 8 0) (gI h0 12 0 (as n)) (gI h0 13 0 (as n)) p)) → wp_X4_noteSure (nI (as n)) (bit01 s1) (bit01 s2) h2 (fun h3 => P (nI n + 1) h3)) → Q h2) → wp_X4_noteMay (nI (as n)) (bit01 m1) (bit01 m2) h1 Q := fun em Q g =>
    wst_w (P := fun _ => True) (X := fun _ _ => True) T K (show n < ac by omega) st (A1.J 4 0 4) (A1.J 4 0 5) W em (fun h2 A2 ff => g h2 (A2.J 4 0 8) (A2.J 4 0 9) (fun s1 s2 es => ff s1 s2 es _ (fun h3 A3 W3 => nx h3 A3 W3)))
  generalize hk : gI h0 12 0 (as n) = k at *
  generalize hA : gI h0 13 0 (as n) = x at *
  generalize hB : gI h0 14 0 (as n) = y at *
  by_cases m : mk k
  · obtain ⟨ha, hb⟩ := StV_mk vv m
    have ha' : inN x 64 := by obtain ⟨j, hj, e⟩ := ha; exact ⟨j, by omega, e⟩
    by_cases k33 : k = 33
    · rw [if_pos k33]
      simp only [hbJ_w ha' (by decide)]
      refine step (m1 := bJ (gJ h1 4 0 7) (cl x)) (m2 := bJ (gJ h1 4 0 6) (cl x)) (fun p => ?_) (fun h2 e8 e9 g => ?_)
      · unfold cw
        rw [if_pos k33]
        cases p <;> rfl
      · rw [e8, e9]
        refine g _ _ (fun p => ?_)
        unfold cw
        rw [if_pos k33]
        cases p <;> rfl
    · have hb' : inN y 64 := by obtain ⟨j, hj, e⟩ := hb k33; exact ⟨j, by omega, e⟩
      have kk : k = 38 ∨ k = 124 := by rcases m with q | q; exact absurd q k33; exact q
      rw [if_neg k33]
      have cM : ∀ (g : Nat → Bool → Bool) (p lv : Bool), cw g k x y p lv = if decide (k = 38) = p then g (cl x) p && g (cl y) p else g (cl x) p || g (cl y) p := fun g p lv => by
        unfold cw
        rw [if_neg k33, if_pos kk]
      by_cases k38 : k = 38
      · rw [if_pos k38]
        simp only [hbJ_w ha' (by decide), hbJ_w hb' (by decide), he_w ha' hb' (by decide)]
        have fin : ∀ b, b = (bJ (gJ h1 4 0 6) (cl x) && bJ (gJ h1 4 0 6) (cl y)) → wp_X4_noteMay (nI (as n)) (bit01 b) (bit01 (bJ (gJ h1 4 0 7) (cl x) || bJ (gJ h1 4 0 7) (cl y))) h1 (fun h2 => if bit01 (bJ (gJ h2 4 0 8) (cl x)) = 0 then wp_X4_noteSure (nI (as n)) 0 (bit01 (bJ (gJ h2 4 0 9) (cl x) || bJ (gJ h2 4 0 9) (cl y))) h2 (fun h2 => P (nI n + 1) h2) else if bit01 (bJ (gJ h2 4 0 8) (cl y)) = 0 then wp_X4_noteSure (nI (as n)) 0 (bit01 (bJ (gJ h2 4 0 9) (cl x) || bJ (gJ h2 4 0 9) (cl y))) h2 (fun h2 => P (nI n + 1) h2) else wp_X4_noteSure (nI (as n)) 1 (bit01 (bJ (gJ h2 4 0 9) (cl x) || bJ (gJ h2 4 0 9) (cl y))) h2 (fun h2 => P (nI n + 1) h2)) := fun b hb => by
          refine step (fun p => ?_) (fun h2 e8 e9 g => ?_)
          · rw [cM, hb, decide_eq_true k38]
            cases p <;> rfl
          · rw [e8, e9]
            have g' : ∀ b, b = (bJ (gJ h1 4 0 8) (cl x) && bJ (gJ h1 4 0 8) (cl y)) → wp_X4_noteSure (nI (as n)) (bit01 b) (bit01 (bJ (gJ h1 4 0 9) (cl x) || bJ (gJ h1 4 0 9) (cl y))) h2 (fun h2 => P (nI n + 1) h2) := fun b hb => g _ _ (fun p => by
              rw [cM, hb, decide_eq_true k38]
              cases p <;> rfl)
            cases u : bJ (gJ h1 4 0 8) (cl x)
            · rw [if_pos (show bit01 false = 0 from rfl)]
              exact g' false (by rw [u]; rfl)
            · rw [if_neg (show ¬ bit01 true = 0 by decide)]
              cases w : bJ (gJ h1 4 0 8) (cl y)
              · rw [if_pos (show bit01 false = 0 from rfl)]
                exact g' false (by rw [u, w]; rfl)
              · rw [if_neg (show ¬ bit01 true = 0 by decide)]
                exact g' true (by rw [u, w]; rfl)
        cases u : bJ (gJ h1 4 0 6) (cl x)
        · rw [if_pos (show bit01 false = 0 from rfl)]
          exact fin false (by rw [u]; rfl)
        · rw [if_neg (show ¬ bit01 true = 0 by decide)]
          cases w : bJ (gJ h1 4 0 6) (cl y)
          · rw [if_pos (show bit01 false = 0 from rfl)]
            exact fin false (by rw [u, w]; rfl)
          · rw [if_neg (show ¬ bit01 true = 0 by decide)]
            exact fin true (by rw [u, w]; rfl)
      · have k124 : k = 124 := by rcases kk with q | q; exact absurd q k38; exact q
        rw [if_neg k38, if_pos k124]
        simp only [hbJ_w ha' (by decide), hbJ_w hb' (by decide), he_w ha' hb' (by decide)]
        have fin : ∀ b, b = (bJ (gJ h1 4 0 7) (cl x) && bJ (gJ h1 4 0 7) (cl y)) → wp_X4_noteMay (nI (as n)) (bit01 (bJ (gJ h1 4 0 6) (cl x) || bJ (gJ h1 4 0 6) (cl y))) (bit01 b) h1 (fun h2 => if bit01 (bJ (gJ h2 4 0 9) (cl x)) = 0 then wp_X4_noteSure (nI (as n)) (bit01 (bJ (gJ h2 4 0 8) (cl x) || bJ (gJ h2 4 0 8) (cl y))) 0 h2 (fun h2 => P (nI n + 1) h2) else if bit01 (bJ (gJ h2 4 0 9) (cl y)) = 0 then wp_X4_noteSure (nI (as n)) (bit01 (bJ (gJ h2 4 0 8) (cl x) || bJ (gJ h2 4 0 8) (cl y))) 0 h2 (fun h2 => P (nI n + 1) h2) else wp_X4_noteSure (nI (as n)) (bit01 (bJ (gJ h2 4 0 8) (cl x) || bJ (gJ h2 4 0 8) (cl y))) 1 h2 (fun h2 => P (nI n + 1) h2)) := fun b hb => by
          refine step (fun p => ?_) (fun h2 e8 e9 g => ?_)
          · rw [cM, hb, decide_eq_false k38]
            cases p <;> rfl
          · rw [e8, e9]
            have g' : ∀ b, b = (bJ (gJ h1 4 0 9) (cl x) && bJ (gJ h1 4 0 9) (cl y)) → wp_X4_noteSure (nI (as n)) (bit01 (bJ (gJ h1 4 0 8) (cl x) || bJ (gJ h1 4 0 8) (cl y))) (bit01 b) h2 (fun h2 => P (nI n + 1) h2) := fun b hb => g _ _ (fun p => by
              rw [cM, hb, decide_eq_false k38]
              cases p <;> rfl)
            cases u : bJ (gJ h1 4 0 9) (cl x)
            · rw [if_pos (show bit01 false = 0 from rfl)]
              exact g' false (by rw [u]; rfl)
            · rw [if_neg (show ¬ bit01 true = 0 by decide)]
              cases w : bJ (gJ h1 4 0 9) (cl y)
              · rw [if_pos (show bit01 false = 0 from rfl)]
                exact g' false (by rw [u, w]; rfl)
              · rw [if_neg (show ¬ bit01 true = 0 by decide)]
                exact g' true (by rw [u, w]; rfl)
        cases u : bJ (gJ h1 4 0 7) (cl x)
        · rw [if_pos (show bit01 false = 0 from rfl)]
          exact fin false (by rw [u]; rfl)
        · rw [if_neg (show ¬ bit01 true = 0 by decide)]
          cases w : bJ (gJ h1 4 0 7) (cl y)
          · rw [if_pos (show bit01 false = 0 from rfl)]
            exact fin false (by rw [u, w]; rfl)
          · rw [if_neg (show ¬ bit01 true = 0 by decide)]
            exact fin true (by rw [u, w]; rfl)
  · have o := StV_lf vv m
    unfold mk at m
    simp only [not_or] at m
    have cL : ∀ (g : Nat → Bool → Bool) (p lv : Bool), cw g k x y p lv = lv := fun g p lv => by
      unfold cw
      rw [if_neg m.1, if_neg (fun q => by rcases q with q | q; exact m.2.1 q; exact m.2.2 q)]
    rw [if_neg m.1, if_neg m.2.1, if_neg m.2.2]
    by_cases k7 : k = 107
    · rw [if_pos k7]
      refine step (m1 := true) (m2 := true) (fun p => ?_) (fun h2 _ _ g => ?_)
      · rw [cL]; unfold lvM; rw [if_pos k7]; cases p <;> rfl
      · refine g true true (fun p => ?_)
        rw [cL]; unfold lvS; rw [if_pos k7]; cases p <;> rfl
    · rw [if_neg k7]
      have e8 : gI h1 8 0 = gI h 8 0 := funext (fun k => A1.I 8 0 k)
      refine mh_w (by rw [e8]; exact S) o k7 (mf_w (by rw [e8]; exact S) o k7 ?_)
      rw [e8]
      refine step (fun p => ?_) (fun h2 _ _ g => ?_)
      · rw [cL]; unfold lvM; rw [if_neg k7]; cases p <;> rfl
      · have g' : ∀ b, b = (!skM (gI h 8 0) k x true) → wp_X4_noteSure (nI (as n)) (bit01 (!skM (gI h 8 0) k x false)) (bit01 b) h2 (fun h2 => P (nI n + 1) h2) := fun b hb => g _ _ (fun p => by
          rw [cL, hb]; unfold lvS; rw [if_neg k7]; cases p <;> rfl)
        cases u : skM (gI h 8 0) k x false
        · rw [if_pos (show bit01 false = 0 from rfl)]
          rw [u] at g'
          cases w : skM (gI h 8 0) k x true
          · rw [if_pos (show bit01 false = 0 from rfl)]
            exact g' true (by rw [w]; rfl)
          · rw [if_neg (show ¬ bit01 true = 0 by decide)]
            exact g' false (by rw [w]; rfl)
        · rw [if_neg (show ¬ bit01 true = 0 by decide)]
          rw [u] at g'
          cases w : skM (gI h 8 0) k x true
          · rw [if_pos (show bit01 false = 0 from rfl)]
            exact g' true (by rw [w]; rfl)
          · rw [if_neg (show ¬ bit01 true = 0 by decide)]
            exact g' false (by rw [w]; rfl)
end
