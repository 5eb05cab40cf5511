/-! the model gathers -/
theorem vr_lt {k a : Int32} (o : leafOK k a) (s : skK k) (n : k ≠ 110) : vr k a < 45 := by
  unfold vr
  rcases o with rfl | ⟨rfl | rfl, o⟩ | ⟨rfl | rfl, o⟩ | ⟨rfl, o⟩ | ⟨rfl, o⟩ | ⟨rfl, o⟩ | ⟨rfl, o⟩
  · exact absurd s (by unfold skK; decide)
  · simp
  · have := cl_lt o (by decide); simp; omega
  · have := cl_lt o (by decide); simp; omega
  · have := cl_lt o (by decide); simp; omega
  · simp
  · simp
  · exact absurd rfl n
  · exact absurd s (by unfold skK; decide)
theorem UV_v {k a : Int32} (s : skK k) (n : k ≠ 110) : UV k a (vr k a) = true := by
  unfold UV
  rcases s with rfl | rfl | rfl | rfl | rfl | rfl | rfl
  · simp
  · simp
  · simp
  · exact absurd rfl n
  · simp
  · simp
  · simp
theorem UV_n {a : Int32} {i : Nat} (hi : i < 10) : UV 110 a (3 + i) = true := by
  unfold UV
  simp
  omega
theorem gm_w {nt : Nat} {nd0 : Nat → Bool} {h : Hp} {Q : Hp → Prop} (T : TV (gI h 49 0) (gI h 50 0) (gI h 51 0) nt) (e19 : gI h 11 0 19 = nI nt) (h68 : ∀ t, t < 60 → gI h 68 0 t = bit01 (nd0 t)) (h0 : ∀ t, nd0 t = true → t < nt)
    (f : ∀ h' nd sz um u, ag (wS [64, 65, 66, 68, 71] [(11, 58), (11, 62)]) h h' → (∀ t, nd0 t = true → nd t = true) → (∀ t, t < nt → gI h' 68 0 t = bit01 (nd t)) → NCL (gI h 49 0) (gI h 50 0) (gI h 51 0) nt nd → GT h' nt sz um u nd → (∀ v, v < 45 → gI h' 64 0 v = -1) → Q h') : wp_X11_gathers h Q := by
  have n60 := T.1
  unfold wp_X11_gathers wp_X11_gathers_b2
  refine LFP2.by (I := fun y h1 => ∃ n, n ≤ 45 ∧ y = nI n ∧ ag (wS [64, 65] []) h h1 ∧ ∀ v, v < n → gI h1 64 0 v = -1 ∧ gI h1 65 0 v = 0) (μ := fun y _ => 45 - y.toNatClampNeg) ⟨0, by omega, rfl, ag.rfl, fun v hv => by omega⟩ ?_
  rintro y h1 ⟨n, hn, rfl, A1, C1⟩ P hP
  unfold wp_X11_gathers_b2F LET
  by_cases c : n = 45
  case neg =>
    rw [if_neg (show ¬ (45 : Int32) ≤ nI n from nI_ge (b := 45) (show n < 45 by omega) (by omega)), nI_clamp (by omega), show vp_nar .boolean 0 = 0 from vnb false]
    refine ⟨vp_in_nI (by omega) (by decide), ?_⟩
    simp only [forall_eq]
    refine hP _ _ ⟨n + 1, by omega, nI_1 n, (A1.sI rfl).sI rfl, fun v hv => ?_⟩ (by rw [nI_1, nI_clamp (by omega), nI_clamp (by omega)]; omega)
    by_cases e : v = n
    · rw [e, gI_e, gI_o (by omega), gI_e]; exact ⟨rfl, rfl⟩
    · rw [gI_o (by omega), gI_o (by omega), gI_o (by omega), gI_o (by omega)]
      exact C1 v (by omega)
  subst c
  rw [if_pos (by decide)]
  simp only [forall_eq]
  rw [z_cl, gI_o (show (11 : Nat) ≠ 71 ∨ _ from Or.inl (by decide)), gI_o (show (11 : Nat) ≠ 11 ∨ 0 ≠ 0 ∨ 19 ≠ 62 from Or.inr (Or.inr (by decide))), A1.I 11 0 19, e19]
  refine ⟨vp_in_nI (n := 0) (by decide) (by decide), ?_⟩
  clear hP P
  unfold wp_X11_gathers_b47
  refine LFP2.by (I := fun y h2 => ∃ n nd U s, n ≤ nt ∧ y = nI n - 1 ∧ ag (wS [64, 65, 68, 71] [(11, 62)]) h h2 ∧ (∀ t, t < 60 → gI h2 68 0 t = bit01 (nd t)) ∧ (∀ t, nd0 t = true → nd t = true) ∧ (∀ t, nd t = true → t < nt)
      ∧ (∀ t, n ≤ t → t < nt → nd t = true → (mk (gI h 49 0 t) → nd (cl (gI h 50 0 t)) = true) ∧ (gI h 49 0 t = 38 ∨ gI h 49 0 t = 124 → nd (cl (gI h 51 0 t)) = true))
      ∧ (∀ v, v < 45 → gI h2 65 0 v = bit01 (U v)) ∧ (∀ t, n ≤ t → t < nt → nd t = true → ∀ v, v < 45 → UV (gI h 49 0 t) (gI h 50 0 t) v = true → U v = true) ∧ gI h2 11 0 62 = nI s ∧ s + n ≤ nt + 1 ∧ 1 ≤ s ∧ (∀ x, x < s → inZ (gI h2 71 0 x) 1 999) ∧ gI h2 71 0 0 = 1
      ∧ (∀ t, n ≤ t → t < nt → nd t = true → gI h 49 0 t = 122 → ∃ x, x < s ∧ gI h2 71 0 x = if (999 : Int32) ≤ gI h 50 0 t then 999 else gI h 50 0 t + 1) ∧ ∀ v, v < 45 → gI h2 64 0 v = -1) (μ := fun y _ => (y + 1).toNatClampNeg)
    ⟨nt, nd0, fun _ => false, 1, Nat.le_refl _, rfl, ((A1.mono (wS_mono (by decide) (by decide))).sI rfl).sI rfl, fun t ht => by rw [gI_o (by omega), gI_o (by omega), A1.I 68 0 t]; exact h68 t ht, fun _ e => e, h0, fun t h1 h2 => by omega, fun v hv => by rw [gI_o (by omega), gI_o (by omega), (C1 v hv).2]; rfl, fun t h1 h2 => by omega, by rw [gI_o (by omega), gI_e]; rfl, by omega, by omega, fun x hx => ?_, by rw [gI_e], fun t h1 h2 => by omega, fun v hv => by rw [gI_o (by omega), gI_o (by omega)]; exact (C1 v hv).1⟩ ?_
  · rw [show x = 0 by omega, gI_e]; exact ⟨by decide, by decide⟩
  rintro y h2 ⟨n, nd, U, s, hn, rfl, A2, q68, q0, qnt, qcl, q65, qU, q62, qs, qs1, qlk, qlk0, qz, q64⟩ P hP
  unfold wp_X11_gathers_b47F wp_X11_gathers_b82 LET
  simp only [forall_eq]
  by_cases n0 : n = 0
  · subst n0
    rw [if_pos (by decide)]
    unfold wp_X11_gathers_b95
    refine LFP2.by (I := fun y h3 => ∃ n um u, n ≤ 45 ∧ um ≤ n ∧ y = nI n ∧ ag (wS [66] [(11, 58)]) h2 h3 ∧ gI h3 11 0 58 = nI um ∧ (∀ j, j < um → gI h3 66 0 j = nI (u j) ∧ u j < n) ∧ (∀ i j, i < j → j < um → u i < u j) ∧ ∀ v, v < n → U v = true → ∃ j, j < um ∧ u j = v) (μ := fun y _ => 45 - y.toNatClampNeg)
      ⟨0, 0, fun _ => 0, by omega, Nat.le_refl _, rfl, (by repeat first | exact ag.rfl | refine ag.sI ?_ rfl | refine ag.sJ ?_ rfl | refine ag.sR ?_ rfl | refine ag.sD ?_ rfl), by rw [gI_e]; rfl, fun j hj => by omega, fun i j h1 h2 => by omega, fun v hv => by omega⟩ ?_
    rintro y h3 ⟨n, um, u, hn, hum, rfl, A3, e58, eu, inc, cov⟩ P hP
    unfold wp_X11_gathers_b95F wp_X11_gathers_b130 LET
    simp only [forall_eq]
    by_cases c : n = 45
    · subst c
      rw [if_pos (by decide)]
      have A23 : ag (wS [64, 65, 66, 68, 71] [(11, 58), (11, 62)]) h h3 := (A2.mono (wS_mono (by decide) (by decide))).trans (A3.mono (wS_mono (by decide) (by decide)))
      have lk3 : gI h3 71 0 = gI h2 71 0 := funext (fun x => A3.I 71 0 x)
      have e49 : gI h3 49 0 = gI h 49 0 := funext (fun x => A23.I 49 0 x)
      have e50 : gI h3 50 0 = gI h 50 0 := funext (fun x => A23.I 50 0 x)
      refine f h3 nd s um u A23 q0 (fun t ht => by rw [A3.I 68 0 t]; exact q68 t (by omega)) (fun t ht hd => qcl t (Nat.zero_le _) ht hd) ⟨by omega, e58, eu, fun i j hi hj e => ?_, fun val hv t ht hd => ?_, by rw [A3.I 11 0 62]; exact q62, by omega, fun x hx => by rw [lk3]; exact qlk x hx, fun M v => ?_⟩ (fun v hv => by rw [A3.I 64 0 v]; exact q64 v hv)
      · rcases Nat.lt_or_ge i j with l | l
        · have := inc i j l hj; omega
        · rcases Nat.eq_or_lt_of_le l with l | l
          · exact l.symm
          · have := inc j i l hi; omega
      · rw [e49, e50]
        have o : ¬ mk (gI h 49 0 t) → leafOK (gI h 49 0 t) (gI h 50 0 t) := fun m => StV_lf (T.2 t ht) m
        refine ⟨fun sk n110 => ?_, fun k110 i hi => ?_⟩
        · have lt := vr_lt (o (skK_nmk sk)) sk n110
          obtain ⟨j, hj, ej⟩ := cov _ lt (qU t (Nat.zero_le _) ht hd _ lt (UV_v sk n110))
          rw [← ej]; exact hv j hj
        · obtain ⟨j, hj, ej⟩ := cov (3 + i) (by omega) (qU t (Nat.zero_le _) ht hd (3 + i) (by omega) (by rw [k110]; exact UV_n hi))
          rw [← ej]; exact hv j hj
      · rw [lk3, e49, e50]
        obtain ⟨m1, m2⟩ := v.2.2.2.2.1
        rw [show (1 : Int32).toInt = 1 from rfl] at m1
        rw [show (999 : Int32).toInt = 999 from rfl] at m2
        obtain ⟨x, hx, l, mx⟩ := argmax (lk := gI h2 71 0) (m := M 4) s ⟨0, by omega, by rw [qlk0]; exact m1⟩
        refine ⟨x, hx, fun t ht hd k122 => ?_⟩
        have o : leafOK (gI h 49 0 t) (gI h 50 0 t) := StV_lf (T.2 t ht) (by rw [k122]; unfold mk; decide)
        have oa : inN (gI h 50 0 t) 1000 := by
          rw [k122] at o
          unfold leafOK at o
          simpa using o
        obtain ⟨a, ha, ea⟩ := oa
        have ta := nI_toInt (n := a) (by omega)
        obtain ⟨y, hy, ey⟩ := qz t (Nat.zero_le _) ht hd k122
        rw [Int32.le_iff_toInt_le, Int32.le_iff_toInt_le]
        constructor
        · intro z
          rcases Int.lt_or_le (gI h 50 0 t).toInt (M 4).toInt with z2 | z2
          · exfalso
            rw [ea, ta] at z z2
            rw [ea, if_neg (by rw [Int32.le_iff_toInt_le, ta, show (999 : Int32).toInt = 999 from rfl]; omega), nI_1] at ey
            have := mx y hy (by rw [ey, nI_toInt (by omega)]; omega)
            rw [ey, nI_toInt (by omega)] at this
            omega
          · exact z2
        · intro z; omega
    · rw [if_neg (show ¬ (45 : Int32) ≤ nI n from nI_ge (b := 45) (show n < 45 by omega) (by omega)), nI_clamp (show n < 2 ^ 31 by omega), A3.I 65 0 n, q65 n (by omega)]
      refine ⟨vp_in_nI (by omega) (by decide), ?_⟩
      cases b : U n
      · rw [if_pos (show bit01 false = 0 from rfl)]
        refine hP _ _ ⟨n + 1, um, u, by omega, by omega, nI_1 n, A3, e58, fun j hj => ⟨(eu j hj).1, by have := (eu j hj).2; omega⟩, inc, fun v hv e => ?_⟩ (by rw [nI_1, nI_clamp (by omega), nI_clamp (by omega)]; omega)
        by_cases ev : v = n
        · rw [ev, b] at e; cases e
        · exact cov v (by omega) e
      · rw [if_neg (show ¬ bit01 true = 0 by decide), e58, nI_clamp (show um < 2 ^ 31 by omega)]
        refine ⟨vp_in_nI (by omega) (by decide), ?_⟩
        rw [gI_o (show (11 : Nat) ≠ 66 ∨ _ from Or.inl (by decide)), e58]
        obtain ⟨u', ec, eo⟩ : ∃ u' : Nat → Nat, u' um = n ∧ ∀ j, j < um → u' j = u j := ⟨fun j => if j = um then n else u j, by simp, fun j hj => by simp [show ¬ j = um by omega]⟩
        refine hP _ _ ⟨n + 1, um + 1, u', by omega, by omega, nI_1 n, (A3.sI rfl).sI rfl, by rw [gI_e, nI_1], fun j hj => ?_, fun i j hij hj => ?_, fun v hv e => ?_⟩ (by rw [nI_1, nI_clamp (by omega), nI_clamp (by omega)]; omega)
        · rw [gI_o (by omega)]
          by_cases ej : j = um
          · rw [ej, gI_e, ec]; exact ⟨rfl, by omega⟩
          · rw [gI_o (by omega), eo j (by omega)]
            exact ⟨(eu j (by omega)).1, by have := (eu j (by omega)).2; omega⟩
        · rw [eo i (by omega)]
          by_cases ej : j = um
          · rw [ej, ec]; exact (eu i (by omega)).2
          · rw [eo j (by omega)]; exact inc i j hij (by omega)
        · by_cases ev : v = n
          · exact ⟨um, by omega, by rw [ec, ev]⟩
          · obtain ⟨j, hj, ej⟩ := cov v (by omega) e
            exact ⟨j, by omega, by rw [eo j hj]; exact ej⟩
  obtain ⟨i, rfl⟩ : ∃ i, n = i + 1 := ⟨n - 1, by omega⟩
  rw [nI_sub1 (by omega), show i + 1 - 1 = i by omega, if_neg (nI_pos (by omega)), nI_clamp (show i < 2 ^ 31 by omega), q68 i (by omega)]
  refine ⟨vp_in_nI (by omega) (by decide), ?_⟩
  rw [show nI i + (-1) = nI i - 1 from (Int32.sub_eq_add_neg _ _).symm]
  have hm : ∀ (z : Hp), (nI i - 1 + 1).toNatClampNeg < (nI (i + 1) - 1 + 1).toNatClampNeg := fun _ => by rw [Int32.sub_add_cancel, Int32.sub_add_cancel, nI_clamp (by omega), nI_clamp (by omega)]; omega
  have hm2 : (nI i - 1 + 1).toNatClampNeg < (nI i + 1).toNatClampNeg := by rw [Int32.sub_add_cancel, nI_1, nI_clamp (by omega), nI_clamp (by omega)]; omega
  cases hd : nd i
  · rw [if_pos (show bit01 false = 0 from rfl)]
    refine hP _ _ ⟨i, nd, U, s, by omega, rfl, A2, q68, q0, qnt, fun t h1 h2 e => ?_, q65, fun t h1 h2 e => ?_, q62, by omega, qs1, qlk, qlk0, fun t h1 h2 e => ?_, q64⟩ (by first | exact hm h2 | exact hm2)
    · exact qcl t (by rcases Nat.eq_or_lt_of_le h1 with z | z; rw [← z, hd] at e; cases e; exact z) h2 e
    · exact qU t (by rcases Nat.eq_or_lt_of_le h1 with z | z; rw [← z, hd] at e; cases e; exact z) h2 e
    · exact qz t (by rcases Nat.eq_or_lt_of_le h1 with z | z; rw [← z, hd] at e; cases e; exact z) h2 e
  · rw [if_neg (show ¬ bit01 true = 0 by decide), A2.I 49 0 i, A2.I 50 0 i, A2.I 51 0 i]
    have vv := T.2 i (by omega)
    refine nds_w vv (by omega) q62 (by omega) (fun h3 A3 r68 r65 rn rz => ?_)
    have A23 : ag (wS [64, 65, 68, 71] [(11, 62)]) h h3 := A2.trans (A3.mono (wS_mono (by decide) (by decide)))
    have pa : (gI h 49 0 i = 33 ∨ gI h 49 0 i = 38 ∨ gI h 49 0 i = 124) → cl (gI h 50 0 i) < i := fun m => cl_lt (StV_mk vv m).1 (by omega)
    have pb' : (gI h 49 0 i = 38 ∨ gI h 49 0 i = 124) → cl (gI h 51 0 i) < i := fun kk => cl_lt ((StV_mk vv (Or.inr kk)).2 (fun q => by rcases kk with k | k <;> rw [k] at q <;> exact absurd q (by decide))) (by omega)
    -- the new set of needed tests
    obtain ⟨nd', end'⟩ : ∃ nd' : Nat → Bool, ∀ x, nd' x = (decide (((gI h 49 0 i = 33 ∨ gI h 49 0 i = 38 ∨ gI h 49 0 i = 124) ∧ x = cl (gI h 50 0 i)) ∨ ((gI h 49 0 i = 38 ∨ gI h 49 0 i = 124) ∧ x = cl (gI h 51 0 i))) || nd x) := ⟨_, fun _ => rfl⟩
    have up : ∀ x, nd x = true → nd' x = true := fun x e => by rw [end', e]; simp
    have back : ∀ x, nd' x = true → nd x = true ∨ x < i := fun x e => by
      rw [end'] at e
      simp only [Bool.or_eq_true, decide_eq_true_eq] at e
      rcases e with (⟨m, z⟩ | ⟨kk, z⟩) | e
      · right; rw [z]; exact pa m
      · right; rw [z]; exact pb' kk
      · left; exact e
    obtain ⟨U', eU'⟩ : ∃ U' : Nat → Bool, ∀ v, U' v = (UV (gI h 49 0 i) (gI h 50 0 i) v || U v) := ⟨_, fun _ => rfl⟩
    have old : ∀ t, i ≤ t → nd' t = true → t ≠ i → nd t = true ∧ i + 1 ≤ t := fun t h1 e ne => by
      rcases back t e with z | z
      · exact ⟨z, by omega⟩
      · omega
    have common : ∀ s', gI h3 11 0 62 = nI s' → s' + i ≤ nt + 1 → 1 ≤ s' → s ≤ s' → (∀ x, x < s' → inZ (gI h3 71 0 x) 1 999) → (∀ x, x < s → gI h3 71 0 x = gI h2 71 0 x) → (gI h 49 0 i = 122 → ∃ x, x < s' ∧ gI h3 71 0 x = if (999 : Int32) ≤ gI h 50 0 i then 999 else gI h 50 0 i + 1) → P (nI i - 1) h3 := by
      intro s' z1 z2 z3 z4 z5 z6 z7
      refine hP _ _ ⟨i, nd', U', s', by omega, rfl, A23, fun t ht => ?_, fun t e => up t (q0 t e), fun t e => ?_, fun t h1 h2 e => ?_, fun v hv => ?_, fun t h1 h2 e v hv uv => ?_, z1, z2, z3, z5, by rw [z6 0 (by omega)]; exact qlk0, fun t h1 h2 e k122 => ?_, fun v hv => by rw [A3.I 64 0 v]; exact q64 v hv⟩ (by first | exact hm h2 | exact hm2)
      · rw [r68, end', q68 t ht]
        by_cases z : ((gI h 49 0 i = 33 ∨ gI h 49 0 i = 38 ∨ gI h 49 0 i = 124) ∧ t = cl (gI h 50 0 i)) ∨ ((gI h 49 0 i = 38 ∨ gI h 49 0 i = 124) ∧ t = cl (gI h 51 0 i))
        · rw [if_pos z, decide_eq_true z]; rfl
        · rw [if_neg z, decide_eq_false z, Bool.false_or]
      · rcases back t e with z | z
        · exact qnt t z
        · omega
      · by_cases et : t = i
        · subst et
          refine ⟨fun m => ?_, fun kk => ?_⟩
          · rw [end', decide_eq_true (Or.inl ⟨m, rfl⟩)]; rfl
          · rw [end', decide_eq_true (Or.inr ⟨kk, rfl⟩)]; rfl
        · obtain ⟨o1, o2⟩ := old t h1 e et
          obtain ⟨c1, c2⟩ := qcl t o2 h2 o1
          exact ⟨fun m => up _ (c1 m), fun kk => up _ (c2 kk)⟩
      · rw [r65, eU', q65 v hv]
        cases UV (gI h 49 0 i) (gI h 50 0 i) v
        · rw [if_neg (by decide), Bool.false_or]
        · rw [if_pos rfl]; rfl
      · rw [eU']
        by_cases et : t = i
        · subst et; rw [uv]; rfl
        · obtain ⟨o1, o2⟩ := old t h1 e et
          rw [qU t o2 h2 o1 v hv uv]; simp
      · by_cases et : t = i
        · subst et; exact z7 k122
        · obtain ⟨o1, o2⟩ := old t h1 e et
          obtain ⟨x, hx, ex⟩ := qz t o2 h2 o1 k122
          exact ⟨x, by omega, by rw [z6 x hx]; exact ex⟩
    by_cases k122 : gI h 49 0 i = 122
    · obtain ⟨y1, y2, y3⟩ := rz k122
      have o : leafOK (gI h 49 0 i) (gI h 50 0 i) := StV_lf vv (by rw [k122]; unfold mk; decide)
      have oa : inN (gI h 50 0 i) 1000 := by
        rw [k122] at o
        unfold leafOK at o
        simpa using o
      obtain ⟨a, ha, ea⟩ := oa
      have ta := nI_toInt (n := a) (by omega)
      refine common (s + 1) y1 (by omega) (by omega) (by omega) (fun x hx => ?_) (fun x hx => y2 x (by omega)) (fun _ => ⟨s, by omega, y3⟩)
      by_cases ex : x = s
      · rw [ex, y3, ea]
        by_cases z : (999 : Int32) ≤ nI a
        · rw [if_pos z]; exact ⟨by decide, by decide⟩
        · rw [if_neg z, nI_1]
          rw [Int32.le_iff_toInt_le, ta, show (999 : Int32).toInt = 999 from rfl] at z
          refine ⟨?_, ?_⟩
          · rw [nI_toInt (by omega), show (1 : Int32).toInt = 1 from rfl]; omega
          · rw [nI_toInt (by omega), show (999 : Int32).toInt = 999 from rfl]; omega
      · rw [y2 x ex]; exact qlk x (by omega)
    · obtain ⟨y1, y2⟩ := rn k122
      exact common s y2 (by omega) qs1 (Nat.le_refl _) (fun x hx => by rw [y1]; exact qlk x hx) (fun x _ => by rw [y1]) (fun q => absurd q k122)
/-- is there a mail as it is wanted? -/
def WANT (h : Hp) (nt : Nat) (wH wF : Nat → Bool) (one other : Int32) : Prop := ∃ M, VM M ∧ GL nt (cv (gI h 49 0) (gI h 50 0) (gI h 51 0) M) (fun _ => true) wH wF one other
theorem some_w {nt : Nat} {nd0 wH wF : Nat → Bool} {h : Hp} {Q : Int32 → Hp → Prop} (T : TV (gI h 49 0) (gI h 50 0) (gI h 51 0) nt) (e19 : gI h 11 0 19 = nI nt) (h68 : ∀ t, t < 60 → gI h 68 0 t = bit01 (nd0 t)) (h0 : ∀ t, nd0 t = true → t < nt)
    (ew : ∀ t, t < nt → gI h 72 0 t = nI ((if wH t = true then 1 else 0) + (if wF t = true then 2 else 0))) (hw : ∀ t, wH t = true ∨ wF t = true → nd0 t = true) (ho : gI h 11 0 65 = -1 ∨ (inN (gI h 11 0 65) 60 ∧ inN (gI h 11 0 66) 60 ∧ nd0 (cl (gI h 11 0 65)) = true ∧ nd0 (cl (gI h 11 0 66)) = true))
    (f : ∀ r h', ag (wS [64, 65, 66, 67, 68, 69, 70, 71] [(11, 58), (11, 62)]) h h' → (r = 1 ∧ WANT h nt wH wF (gI h 11 0 65) (gI h 11 0 66) ∨ r = 0 ∧ ¬ WANT h nt wH wF (gI h 11 0 65) (gI h 11 0 66)) → Q r h') : wp_X11_isSome h Q := by
  have n60 := T.1
  unfold wp_X11_isSome
  refine gm_w T e19 h68 h0 (fun h1 nd sz um u A1 n0 n68 N G v64 => ?_)
  have e49 : gI h1 49 0 = gI h 49 0 := funext (fun x => A1.I 49 0 x)
  have e50 : gI h1 50 0 = gI h 50 0 := funext (fun x => A1.I 50 0 x)
  have e51 : gI h1 51 0 = gI h 51 0 := funext (fun x => A1.I 51 0 x)
  have e65 : gI h1 11 0 65 = gI h 11 0 65 := A1.I 11 0 65
  have e66 : gI h1 11 0 66 = gI h 11 0 66 := A1.I 11 0 66
  have B : MB h1 nt sz nd wH wF := by
    unfold MB
    rw [e49, e50, e51, e65, e66]
    refine ⟨T, by rw [A1.I 11 0 19]; exact e19, N, n68, fun t ht => by rw [A1.I 72 0 t]; exact ew t ht, G.2.2.2.2.2.2.1, fun q => ?_, ?_⟩
    · rcases ho with z | ⟨z1, z2, z3, z4⟩
      · exact absurd z q
      · exact ⟨⟨h0 _ z3, n0 _ z3⟩, h0 _ z4, n0 _ z4⟩
    · rcases ho with z | ⟨z1, z2, -⟩
      · exact Or.inl z
      · exact Or.inr ⟨z1, z2⟩
  have won : WON h1 nt nd wH wF ↔ WANT h nt wH wF (gI h 11 0 65) (gI h 11 0 66) := by
    unfold WON WANT
    rw [e49, e50, e51, e65, e66]
    constructor
    · rintro ⟨M, v, g1, g2⟩
      exact ⟨M, v, fun t ht _ => ⟨fun w => (g1 t ht (n0 t (hw t (Or.inl w)))).1 w, fun w => (g1 t ht (n0 t (hw t (Or.inr w)))).2 w⟩, g2⟩
    · rintro ⟨M, v, g1, g2⟩
      exact ⟨M, v, fun t ht _ => g1 t ht rfl, g2⟩
  have V1 : VAL (gI h1 64 0) sz := fun v hv => Or.inl (v64 v hv)
  refine ipo_w B V1 (fun r h2 A2 z => ?_)
  have AA : ag (wS [64, 65, 66, 67, 68, 69, 70, 71] [(11, 58), (11, 62)]) h h2 := (A1.mono (wS_mono (by decide) (by decide))).trans (A2.mono (wS_mono (by decide) (by decide)))
  rcases z with ⟨rfl, z⟩ | ⟨rfl, z⟩
  · rw [if_neg (by decide), A2.I 11 0 58, G.2.1]
    have g45 := G.1
    have fin : ∀ h3, ag (wS [64, 67, 69, 70] []) h1 h3 → gI h3 64 0 = gI h1 64 0 → (0 < um → gI h3 67 0 0 = 0) → wp_X11_isSome_b29 0 h3 Q := fun h3 A3 w64 w67 => by
      refine bt_w (at0 := 0) (c0 := fun _ => 0) B G A3 (Nat.zero_le _) ⟨fun j h1 h2 => ?_, fun j hj => by omega, by rw [w64]; exact V1, fun v hv _ => by rw [w64]; exact v64 v hv, fun f _ j h1 h2 _ => ?_⟩ (fun _ => by rw [w64]; exact z) (fun r h4 A4 z4 => f r h4 ?_ ?_)
      · have : j = 0 := by omega
        subst this
        exact ⟨w67 h2, Nat.zero_le _⟩
      · have : j = 0 := by omega
        rw [if_pos this]; exact Nat.zero_le _
      · exact (A1.mono (wS_mono (by decide) (by decide))).trans (A4.mono (wS_mono (by decide) (by decide)))
      · rw [← won]; exact z4
    by_cases u0 : um = 0
    · subst u0
      rw [if_pos (by decide)]
      exact fin h2 (A2.mono (wS_mono (by decide) (by decide))) (funext (fun x => A2.I 64 0 x)) (fun q => by omega)
    · rw [if_neg (fun q => by have := (nI_leI (b := 0) (by omega) (by omega)).mp q; omega)]
      refine ⟨vp_in_nI (n := 0) (by decide) (by decide), ?_⟩
      unfold LET
      rintro y rfl
      exact fin _ ((A2.mono (wS_mono (by decide) (by decide))).sI rfl) (funext (fun x => by rw [gI_o (by omega)]; exact A2.I 64 0 x)) (fun _ => by rw [z_cl, gI_e])
  · rw [if_pos rfl]
    refine f 0 h2 AA (Or.inr ⟨rfl, fun w => z ?_⟩)
    obtain ⟨M, v, g⟩ := won.mpr w
    have s61 : sz ≤ 61 := G.2.2.2.2.2.2.1
    refine pos_sound B.1 B.2.2.1 B.2.2.2.2.2.2.1 V1 s61 v g (fun x v hv ex hx => ?_)
    rw [v64 v hv] at ex
    have : dm sz v ≤ 61 := dm_61 s61
    exact absurd ex.symm (nI_nm1 (by omega))
