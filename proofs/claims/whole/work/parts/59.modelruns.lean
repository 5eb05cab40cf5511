/-! the model: rules, scripts, a run -/
section
variable {h h0 : Hp} {m nm nt : Nat} {P : Hp → Prop} {Q : Hp → Prop}
theorem mrul_l {e k s : Nat} {R : Int32 → (Nat → Int32) → Nat → Int32} (hP : ∀ h', wp_X11_runs_b87F (nI m) Q P h' → P h') (B : BF h m nm nt) (hk : k + e = 4) (hs : s < 4)
    (hRX : ∀ a σ', inN a 4 → e ≠ 0 → XW h m nm σ' → XW h m nm (R a σ'))
    (hRS : ∀ a σ' h', inN a 4 → e ≠ 0 → MC h h0 σ' (k + 1) a 0 (-1) h' → XW h m nm σ' → σ' 11 = 0 → (∀ h'', ME h h0 (R a σ') (k + 1) h' h'' → P h'') → P h') :
    ∀ n r σ h', r + n = cl (gI h 53 0 s) → MC h h0 σ k (nI s) (nI r) (-1) h' → XW h m nm σ → σ 11 = 0 → (∀ h'', ME h h0 (xRules h m e R s n r σ) k h' h'' → P h'') → P h' := by
  obtain ⟨nr, t1, t2, t3, t4⟩ := SScr.re B hs
  rw [t3, show cl (nI nr) = nr from nI_clamp (by omega)]
  have ck : (nI k).toNatClampNeg = k := nI_clamp (by omega)
  have cs : (nI s).toNatClampNeg = s := nI_clamp (by omega)
  have v6 : vp_in (nI k) 6 := vp_in_nI (by omega) (by decide)
  intro n
  induction n with
  | zero =>
    intro r σ h' hr c w o f
    have : r = nr := by omega
    subst this
    obtain ⟨s1, d1, g58, g59, g60⟩ := c
    apply hP
    unfold wp_X11_runs_b87F wp_X11_runs_b345 LET
    simp only [forall_eq]
    rw [d1, if_neg (nI_pos (by omega)), ck, g58, g59, cs, s1.I 53 0 s, t3]
    refine ⟨v6, vp_in_nI hs (by decide), ?_⟩
    rw [if_neg (nI_nlt (Nat.le_refl _) (by omega))]
    refine f _ ⟨s1.fr (Or.inl ⟨rfl, rfl⟩), fun j _ => ?_, fun q => absurd o q, fun _ => gI_e⟩
    rw [gI_o (by omega), gI_o (by omega), gI_o (by omega)]; exact ⟨rfl, rfl, rfl⟩
  | succ n ih =>
    intro r σ h' hr c w o f
    obtain ⟨s1, d1, g58, g59, g60⟩ := c
    obtain ⟨q, t, cn, y1, y2, y3, y4, y5, E⟩ := t4 r (by omega)
    have ec : cl (gI h 55 0 (12 * s + r)) = cn := by rw [E.2.2.1]; exact nI_clamp (by have := E.1; omega)
    obtain ⟨d, i, hi, hd, b1, ⟨n40, e1, e2, b2, b2', b2''⟩, b3, b4, b5, b6, hm⟩ := id B
    have n60 := b5.1
    have fx : xRules h m e R s (n + 1) r σ = if tT h m (σ 1) t = true then (if (xActs h m e R (12 * s + r) (1000 * nI s + 10 * nI r) cn 0 (xMark e r σ)).2 = true then (xActs h m e R (12 * s + r) (1000 * nI s + 10 * nI r) cn 0 (xMark e r σ)).1
        else xRules h m e R s n (r + 1) (xActs h m e R (12 * s + r) (1000 * nI s + 10 * nI r) cn 0 (xMark e r σ)).1) else xRules h m e R s n (r + 1) σ := by
      show (if σ 11 ≠ 0 then _ else _) = _
      rw [if_neg (fun q => q o), ec, y4, show cl (nI t) = t from nI_clamp (by omega)]
    rw [fx] at f
    have g35 : gI h' 11 0 35 = σ 1 := s1.2.1 1 (by omega) (by omega) (by omega)
    apply hP
    unfold wp_X11_runs_b87F wp_X11_runs_b200 wp_X11_runs_b221 wp_X11_runs_b345 LET
    simp only [forall_eq]
    rw [d1, if_neg (nI_pos (by omega)), ck, g58, g59, g60, cs, s1.I 53 0 s, t3]
    refine ⟨v6, vp_in_nI hs (by decide), ?_⟩
    rw [if_pos (nI_lt (show r < nr by omega) (by omega)), if_pos rfl, ix12, nI_clamp (show 12 * s + r < 2 ^ 31 by omega), s1.I 54 0, y4, g35]
    refine ⟨vp_in_nI (by omega) (by decide), ?_⟩
    refine holding_w (by omega) (by omega) (fun x hx => ?_) (by rw [s1.I 34 0 m]; exact recv_ok (b2 m hm).1.2.1) (fun h2 A2 => ?_)
    · rw [s1.I 49 0 x, s1.I 50 0 x, s1.I 51 0 x]
      exact b5.vM (by omega)
    have tv : tvM h' (mM h' m (σ 1)) (t + 1) t = tT h m (σ 1) t := by
      unfold tT
      rw [mM_WM s1.A]
      show tvs (gI h' 49 0) (gI h' 50 0) (gI h' 51 0) _ _ _ = _
      rw [show gI h' 49 0 = gI h 49 0 from funext (fun k => s1.I 49 0 k), show gI h' 50 0 = gI h 50 0 from funext (fun k => s1.I 50 0 k), show gI h' 51 0 = gI h 51 0 from funext (fun k => s1.I 51 0 k)]
    rw [tv]
    have s2 : MS h h0 σ h2 := by
      obtain ⟨a, b, c, d, f⟩ := s1
      refine ⟨⟨a.1, a.2.trans (A2.mono (wS_mono (by decide) (by decide)))⟩, fun i h1 h2 h3 => by rw [A2.I 11 0 (mf i)]; exact b i h1 h2 h3, fun b hb => by rw [A2.I 61 0 b]; exact c b hb, fun k hk => by rw [A2.I 62 0 k]; exact d k hk, by rw [A2.I 11 0 33, A2.I 11 0 34]; exact f⟩
    have d2 : gI h2 11 0 29 = nI k := by rw [A2.I 11 0 29]; exact d1
    have f2 : ∀ j, gI h2 58 0 j = gI h' 58 0 j ∧ gI h2 59 0 j = gI h' 59 0 j ∧ gI h2 60 0 j = gI h' 60 0 j := fun j => ⟨A2.I 58 0 j, A2.I 59 0 j, A2.I 60 0 j⟩
    cases tt : tT h m (σ 1) t
    · rw [tt, if_neg (by decide)] at f
      rw [if_pos (show bit01 false = 0 from rfl), d2, ck]
      simp only [show bit01 false = 0 from rfl, if_true, gI_o (show (11 : Nat) ≠ 60 ∨ _ from Or.inl (by decide)), d2, ck, gI_o (show (59 : Nat) ≠ 60 ∨ _ from Or.inl (by decide)), (f2 k).2.1, g59, nI_1]
      refine ⟨v6, v6, v6, ?_⟩
      refine ih (r + 1) σ _ (by omega) ⟨(s2.fr (Or.inr (Or.inr (Or.inr rfl)))).fr (Or.inr (Or.inr (Or.inl rfl))), ?_, ?_, ?_, ?_⟩ w o (fun h3 q => f h3 ⟨q.1, FR.trans (fun j hj => ?_) q.2.1, q.2.2⟩)
      · rw [gI_o (by omega), gI_o (by omega)]; exact d2
      · rw [gI_o (by omega), gI_o (by omega), (f2 k).1]; exact g58
      · rw [gI_e]
      · rw [gI_o (by omega), gI_e]
      · rw [gI_o (by omega), gI_o (by omega), gI_o (by omega), gI_o (by omega), gI_o (by omega), gI_o (by omega)]; exact f2 j
    · rw [tt, if_pos rfl] at f
      rw [if_neg (show ¬ bit01 true = 0 by decide), d2, ck]
      simp only [show (bit01 true = 0) = False from eq_false (by decide), if_false, gI_o (show (11 : Nat) ≠ 60 ∨ _ from Or.inl (by decide)), d2, ck, gI_o (show (59 : Nat) ≠ 60 ∨ _ from Or.inl (by decide)), (f2 k).2.1, g59, Int32.add_zero]
      refine ⟨v6, v6, v6, ?_⟩
      have sm : MS h h0 (xMark e r σ) h2 := s2.loc (fun j h8 _ _ => by
        unfold xMark
        split
        · exact up_n h8
        · rfl)
      have om : xMark e r σ 11 = 0 := by
        unfold xMark
        split
        · rw [up_n (by omega)]; exact o
        · exact o
      have w4 := XW.acts (c := 1000 * nI s + 10 * nI r) E hRX cn 0 _ (by omega) (w.mark (e := e) (r := r))
      refine mact_l hP B hk hs (show r < nr by omega) t1 t3 E hRX hRS cn 0 (xMark e r σ) _ (by omega) ⟨(sm.fr (Or.inr (Or.inr (Or.inr rfl)))).fr (Or.inr (Or.inr (Or.inl rfl))), ?_, ?_, ?_, ?_⟩ w.mark om (fun h3 q => ?_)
      · rw [gI_o (by omega), gI_o (by omega)]; exact d2
      · rw [gI_o (by omega), gI_o (by omega), (f2 k).1]; exact g58
      · rw [gI_e]
      · rw [gI_o (by omega), gI_e]; rfl
      · obtain ⟨q1, q2, q3, q4⟩ := q
        have fr : FR h' h3 k := FR.trans (fun j hj => by
          rw [gI_o (by omega), gI_o (by omega), gI_o (by omega), gI_o (by omega), gI_o (by omega), gI_o (by omega)]; exact f2 j) q1
        generalize xActs h m e R (12 * s + r) (1000 * nI s + 10 * nI r) cn 0 (xMark e r σ) = X at *
        by_cases o3 : X.1 11 = 0
        · cases z : X.2
          · rw [z, if_neg (by decide)] at f
            exact ih (r + 1) X.1 h3 (by omega) (q4 o3 z) w4 o3 (fun h4 q => f h4 ⟨q.1, fr.trans q.2.1, q.2.2⟩)
          · rw [z, if_pos rfl] at f
            obtain ⟨a1, a2⟩ := q3 o3 z
            exact f h3 ⟨a1, fr, fun q => absurd o3 q, fun _ => a2⟩
        · obtain ⟨a1, a2⟩ := q2 o3
          have ex : (if X.2 = true then X.1 else xRules h m e R s n (r + 1) X.1) = X.1 := by
            split
            · rfl
            · rw [xRules_over o3]
          rw [ex] at f
          exact f h3 ⟨a1, fr, fun _ => a2, fun q => absurd q o3⟩
theorem mrun_l (hP : ∀ h', wp_X11_runs_b87F (nI m) Q P h' → P h') (B : BF h m nm nt) : ∀ e k, k + e = 4 → ∀ a σ h', inN a 4 → MC h h0 σ k a 0 (-1) h' → XW h m nm σ → σ 11 = 0 → (∀ h'', ME h h0 (xRun h m e a σ) k h' h'' → P h'') → P h' := by
  intro e
  induction e with
  | zero =>
    rintro k hk a σ h' ⟨s, hs, rfl⟩ c w o f
    unfold xRun at f
    rw [show cl (nI s) = s from nI_clamp (by omega)] at f
    exact mrul_l hP B hk hs (fun _ _ _ q => absurd rfl q) (fun _ _ _ _ q => absurd rfl q) _ 0 σ h' (by omega) c w o f
  | succ e ih =>
    rintro k hk a σ h' ⟨s, hs, rfl⟩ c w o f
    unfold xRun at f
    rw [show cl (nI s) = s from nI_clamp (by omega)] at f
    exact mrul_l hP B hk hs (fun a σ' ha _ w' => XW.run B e a σ' ha w') (fun a σ' h' ha _ c' w' o' f' => ih (k + 1) (by omega) a σ' h' ha c' w' o' f') _ 0 σ h' (by omega) c w o f
end
section
variable {h : Hp} {m nm nt : Nat}
/-- the model's run -/
theorem mruns_w {g : Nat → Int32} {a : Int32} {h0 : Hp} {Q : Hp → Prop} (B : BF h m nm nt) (ha : inN a 4) (A : ag WM h h0)
    (f : ∀ h'', MS h h0 (xRun h m 4 a (xInit h m nm g)) h'' → gI h'' 11 0 40 = xFin (xRun h m 4 a (xInit h m nm g)) 0 → Q h'') : wp_X11_runs a (nI m) h0 Q := by
  unfold wp_X11_runs wp_X11_runs_b63 LET
  simp only [forall_eq]
  refine ⟨by unfold isC; decide, ?_⟩
  refine LFP2.by (I := fun y h1 => ∃ k, k ≤ 8 ∧ y = nI k ∧ ag WR h0 h1 ∧ (∀ i, i < 11 → 1 ≤ i → i ≠ 8 → gI h1 11 0 (mf i) = 0) ∧ gI h1 11 0 33 = 45 ∧ gI h1 11 0 34 = 0 ∧ gI h1 11 0 29 = -1 ∧ ∀ b, b < k → gI h1 61 0 b = 0) (μ := fun y _ => 8 - y.toNatClampNeg)
    ⟨0, by omega, rfl, (by repeat first | exact ag.rfl | refine ag.sI ?_ rfl | refine ag.sJ ?_ rfl | refine ag.sR ?_ rfl | refine ag.sD ?_ rfl), fun i h1 h2 h3 => ?_, by simp [gI_sI, gI_sJ, gI_sR, gI_sD, gJ_sI, gJ_sJ, gJ_sR, gJ_sD, gR_sI, gR_sJ, gR_sR, gR_sD, gD_sI, gD_sJ, gD_sR, gD_sD], by simp [gI_sI, gI_sJ, gI_sR, gI_sD, gJ_sI, gJ_sJ, gJ_sR, gJ_sD, gR_sI, gR_sJ, gR_sR, gR_sD, gD_sI, gD_sJ, gD_sR, gD_sD], by simp [gI_sI, gI_sJ, gI_sR, gI_sD, gJ_sI, gJ_sJ, gJ_sR, gJ_sD, gR_sI, gR_sJ, gR_sR, gR_sD, gD_sI, gD_sJ, gD_sR, gD_sD], fun b hb => by omega⟩ ?_
  · rcases (show i = 1 ∨ i = 2 ∨ i = 3 ∨ i = 4 ∨ i = 5 ∨ i = 6 ∨ i = 7 ∨ i = 9 ∨ i = 10 by omega) with rfl | rfl | rfl | rfl | rfl | rfl | rfl | rfl | rfl <;> simp [gI_sI, gI_sJ, gI_sR, gI_sD, gJ_sI, gJ_sJ, gJ_sR, gJ_sD, gR_sI, gR_sJ, gR_sR, gR_sD, gD_sI, gD_sJ, gD_sR, gD_sD, mf]
  rintro y h1 ⟨k, hk, rfl, A1, C1, c33, c34, c29, D1⟩ P0 hP0
  unfold wp_X11_runs_b63F LET
  by_cases ck : k = 8
  · subst ck
    rw [if_pos (by decide)]
    unfold wp_X11_begins LET
    simp only [forall_eq]
    rw [c29, gI_o (show (11 : Nat) ≠ 59 ∨ _ from Or.inl (by decide)), gI_o (show (11 : Nat) ≠ 58 ∨ _ from Or.inl (by decide)), gI_e]
    refine ⟨vp_in_nI (n := 0) (by decide) (by decide), vp_in_nI (n := 0) (by decide) (by decide), vp_in_nI (n := 0) (by decide) (by decide), ?_⟩
    rw [show ((-1 : Int32) + 1).toNatClampNeg = 0 from rfl]
    unfold wp_X11_runs_b87
    intro P hP
    have s1 : MS h h0 (xInit h m nm g) h1 := by
      refine ⟨⟨A, A1⟩, fun i h1 h2 h3 => ?_, fun b hb => ?_, fun k hk => ?_, ?_⟩
      · rw [C1 i h1 h2 h3]
        unfold xInit
        rw [if_neg (by omega), if_neg (by omega), if_neg (by omega)]
      · rw [D1 b hb]
        unfold xInit
        rw [if_neg (by omega), if_neg (by omega), if_neg (by omega)]
      · rw [show cl (xInit h m nm g 2) = 0 from rfl] at hk
        omega
      · rw [c33, c34]
        exact Or.inl ⟨rfl, rfl, rfl⟩
    refine mrun_l hP B 4 0 rfl a (xInit h m nm g) _ ha ⟨(((s1.fr (Or.inl ⟨rfl, rfl⟩)).fr (Or.inr (Or.inl rfl))).fr (Or.inr (Or.inr (Or.inl rfl)))).fr (Or.inr (Or.inr (Or.inr rfl))), ?_, ?_, ?_, ?_⟩ (XW.init g) rfl (fun h2 q => ?_)
    · rw [gI_o (by omega), gI_o (by omega), gI_o (by omega), gI_e]; rfl
    · rw [gI_o (by omega), gI_o (by omega), gI_e]
    · rw [gI_o (by omega), gI_e]
    · rw [gI_e]
    · obtain ⟨q1, q2, q3, q4⟩ := q
      have d : gI h2 11 0 29 = -1 := by
        by_cases o : xRun h m 4 a (xInit h m nm g) 11 = 0
        · rw [q4 o]; rfl
        · exact q3 o
      apply hP
      unfold wp_X11_runs_b87F LET
      simp only [forall_eq]
      rw [d, if_pos (by decide)]
      generalize xRun h m 4 a (xInit h m nm g) = σ at *
      have st : ∀ v, MS h h0 σ (sI h2 11 0 40 v) := fun v => by
        obtain ⟨a, b, c, d, f⟩ := q1
        refine ⟨⟨a.1, a.2.sI (by decide +kernel)⟩, fun i j1 j2 j3 => ?_, fun k hk => by rw [gI_o (by omega)]; exact c k hk, fun k hk => by rw [gI_o (by omega)]; exact d k hk, by rw [gI_o (by omega), gI_o (by omega)]; exact f⟩
        obtain ⟨o1, o2, o3, o4, o5⟩ := mf_o i j1 j2 j3
        rw [gI_o (by omega)]; exact b i j1 j2 j3
      have fin : ∀ v, v = xFin σ 0 → Q (sI h2 11 0 40 v) := fun v hv => f _ (st v) (by rw [gI_e, hv])
      unfold xFin at fin
      rcases q1.2.2.2.2 with ⟨c, o, g⟩ | ⟨c, o, g⟩ | ⟨c, o, g⟩ | ⟨c, o, g⟩ | ⟨c, o, x, hx, g⟩
      · rw [c, if_neg (by decide), if_neg (by decide), g]
        exact fin 0 (by rw [if_pos o, up_e])
      · rw [c, if_pos rfl]
        exact fin 8 (by rw [if_neg (by rw [o]; decide), o])
      · rw [c, if_neg (by decide), if_pos rfl]
        exact fin 9 (by rw [if_neg (by rw [o]; decide), o])
      · rw [c, if_neg (by decide), if_neg (by decide), g]
        exact fin 0 (by rw [if_neg (by rw [o]; decide), o])
      · rw [c, if_neg (by decide), if_neg (by decide)]
        refine fin _ ?_
        rw [if_neg (by rw [o, g]; exact nI_nm1 (by omega)), o]
  · rw [if_neg (show ¬ (8 : Int32) ≤ nI k from nI_ge (b := 8) (show k < 8 by omega) (by omega))]
    refine ⟨vp_in_nI (by omega) (by decide), ?_⟩
    rw [nI_clamp (by omega)]
    simp only [forall_eq]
    refine hP0 _ _ ⟨k + 1, by omega, nI_1 k, A1.sI rfl, fun i j1 j2 j3 => by rw [gI_o (by omega)]; exact C1 i j1 j2 j3, by rw [gI_o (by omega)]; exact c33, by rw [gI_o (by omega)]; exact c34, by rw [gI_o (by omega)]; exact c29, fun b hb => ?_⟩ (by rw [nI_1, nI_clamp (by omega), nI_clamp (by omega)]; omega)
    by_cases e : b = k
    · subst e; rw [gI_e]
    · rw [gI_o (by omega)]
      exact D1 b (by omega)
end
