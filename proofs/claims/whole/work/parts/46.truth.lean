/-! the truth of all tests -/
def tstep (M : Nat → Int32) (f : Nat → Bool) (k a b : Int32) : Bool :=
  if k = 33 then !f (cl a) else if k = 38 then f (cl a) && f (cl b) else if k = 124 then f (cl a) || f (cl b) else fit M k a
def tvs (K A B M : Nat → Int32) : Nat → Nat → Bool
  | 0 => fun _ => false
  | n + 1 => fun t => if t = n then tstep M (tvs K A B M n) (K n) (A n) (B n) else tvs K A B M n t
theorem tvs_ge (K A B M : Nat → Int32) : ∀ n t, n ≤ t → tvs K A B M n t = false := by
  intro n
  induction n with
  | zero => intros; rfl
  | succ n ih =>
    intro t ht
    simp only [tvs]
    rw [if_neg (by omega)]
    exact ih t (by omega)
theorem hbJ_w {x : Int64} {a : Int32} {h : Hp} {Q : Int32 → Prop} {n : Nat} (ha : inN a n) (hn : n ≤ 64) : wp_X10_hasBit_ x a h Q = Q (bit01 (bJ x (cl a))) := by
  obtain ⟨j, hj, rfl⟩ := ha
  rw [show cl (nI j) = j from nI_clamp (by omega)]
  cases b : bJ x j
  · rw [hbJ_0 (by omega) b]; rfl
  · rw [hbJ_1 (by omega) b]; rfl
theorem bit01_0 (b : Bool) : (bit01 b = 0) ↔ b = false := by cases b <;> decide
theorem isTrueBy_w {t m : Nat} {fl : Int32} {x : Int64} {h : Hp} {Q : Int32 → Prop} (ht : t < 60) (v : StV (gI h 12 0 t) (gI h 13 0 t) (gI h 14 0 t) t) (hr : inN (gI h 2 m 1) 1024)
    (f : Q (bit01 (tstep (mC h m fl) (bJ x) (gI h 12 0 t) (gI h 13 0 t) (gI h 14 0 t)))) : wp_X9_isTrueBy (nI t) x m fl h Q := by
  unfold wp_X9_isTrueBy LET
  refine ⟨vp_in_nI ht (by decide), ?_⟩
  rw [nI_clamp (by omega)]
  rintro a rfl
  rcases v with v | ⟨k3, v1, v2⟩
  · obtain ⟨n1, n2, n3⟩ := leaf_k v
    rw [if_neg n1, if_neg n2, if_neg n3, fits_w v hr]
    unfold tstep at f
    rw [if_neg n1, if_neg n2, if_neg n3] at f
    exact f
  · have v1' : inN (gI h 13 0 t) t := v1
    by_cases k33 : gI h 12 0 t = 33
    · rw [if_pos k33, hbJ_w v1' (by omega)]
      unfold tstep at f
      rw [if_pos k33] at f
      cases b : bJ x (cl (gI h 13 0 t)) <;> simpa [b, bit01] using f
    · have v2' : inN (gI h 14 0 t) t := v2 k33
      by_cases k38 : gI h 12 0 t = 38
      · rw [if_neg k33, if_pos k38, hbJ_w v1' (by omega), hbJ_w v2' (by omega)]
        unfold tstep at f
        rw [if_neg k33, if_pos k38] at f
        cases b : bJ x (cl (gI h 13 0 t)) <;> cases b' : bJ x (cl (gI h 14 0 t)) <;> simpa [b, b', bit01] using f
      · have k124 : gI h 12 0 t = 124 := by rcases k3 with q | q | q; exact absurd q k33; exact absurd q k38; exact q
        rw [if_neg k33, if_neg k38, if_pos k124, hbJ_w v1' (by omega), hbJ_w v2' (by omega)]
        unfold tstep at f
        rw [if_neg k33, if_neg k38, if_pos k124] at f
        cases b : bJ x (cl (gI h 13 0 t)) <;> cases b' : bJ x (cl (gI h 14 0 t)) <;> simpa [b, b', bit01] using f
theorem tstep_ext {M : Nat → Int32} {f g : Nat → Bool} {k a b : Int32} {t : Nat} (v : StV k a b t) (e : ∀ x, x < t → f x = g x) (ht : t < 2 ^ 31) : tstep M f k a b = tstep M g k a b := by
  unfold tstep
  rcases v with v | ⟨k3, ⟨x, hx, ex⟩, v2⟩
  · obtain ⟨n1, n2, n3⟩ := leaf_k v
    rw [if_neg n1, if_neg n2, if_neg n3, if_neg n1, if_neg n2, if_neg n3]
  · have ec : cl a = x := by rw [ex]; exact nI_clamp (by omega)
    rw [ec, e x hx]
    by_cases k33 : k = 33
    · rw [if_pos k33, if_pos k33]
    · obtain ⟨y, hy, ey⟩ := v2 k33
      have ed : cl b = y := by rw [ey]; exact nI_clamp (by omega)
      rw [ed, e y hy]
abbrev tvC (h : Hp) (M : Nat → Int32) : Nat → Nat → Bool := tvs (gI h 12 0) (gI h 13 0) (gI h 14 0) M
theorem truthFor_w {nt m : Nat} {fl : Int32} {h : Hp} {Q : Int64 → Prop} (c : CT nt h) (hr : inN (gI h 2 m 1) 1024) (f : ∀ x, (∀ t, t < 64 → bJ x t = tvC h (mC h m fl) nt t) → Q x) : wp_X9_truthFor m fl h Q := by
  obtain ⟨c1, c2, c3, c4⟩ := c
  unfold wp_X9_truthFor wp_X9_truthFor_b5
  refine LFP2.by (I := fun x y => ∃ n, n ≤ nt ∧ y = nI n ∧ ∀ t, t < 64 → bJ x t = tvC h (mC h m fl) n t) (μ := fun _ y => 64 - y.toNatClampNeg) ⟨0, by omega, rfl, fun t _ => bJ_0 t⟩ ?_
  rintro x y ⟨n, hn, rfl, hx⟩ P hP
  unfold wp_X9_truthFor_b5F wp_X9_truthFor_b33 LET
  by_cases e : n = nt
  · subst e
    rw [c2, if_pos (nI_le (Nat.le_refl _) (by omega))]
    exact f x hx
  · rw [c2, if_neg (nI_ge (show n < nt by omega) (by omega))]
    have v := (c3 n (by omega)).1
    refine isTrueBy_w (by omega) v hr ?_
    rw [tstep_ext v (fun y hy => hx y (by omega)) (by omega)]
    have step : ∀ x', (∀ t, t < 64 → bJ x' t = tvC h (mC h m fl) (n + 1) t) → P x' (nI n + 1) := fun x' hx' => hP _ _ ⟨n + 1, by omega, nI_1 n, hx'⟩ (by rw [nI_1, nI_clamp (by omega), nI_clamp (by omega)]; omega)
    simp only [forall_eq]
    cases b : tstep (mC h m fl) (tvC h (mC h m fl) n) (gI h 12 0 n) (gI h 13 0 n) (gI h 14 0 n)
    · rw [if_pos (show bit01 false = 0 from rfl)]
      refine step x (fun t ht => ?_)
      rw [hx t ht]
      simp only [tvs]
      by_cases e : t = n
      · subst e
        rw [if_pos rfl, b]
        exact tvs_ge _ _ _ _ _ _ (Nat.le_refl _)
      · rw [if_neg e]
    · rw [if_neg (show ¬ bit01 true = 0 by decide)]
      refine step _ (fun t ht => ?_)
      rw [bJ_or, bJ_sh (by omega), hx t ht]
      simp only [tvs]
      by_cases e : t = n
      · subst e
        rw [if_pos rfl, b]
        simp
      · rw [if_neg e]
        simp [show ¬ n = t from fun q => e q.symm]
abbrev tvM (h : Hp) (M : Nat → Int32) : Nat → Nat → Bool := tvs (gI h 49 0) (gI h 50 0) (gI h 51 0) M
theorem b01_eq {b : Bool} : bit01 b = if b = true then 1 else 0 := rfl
theorem vnb (b : Bool) : vp_nar .boolean (bit01 b) = bit01 b := by
  cases b <;> decide +kernel
theorem ofm_0 {k a x : Int32} {h : Hp} {Q : Int32 → Prop} (k3 : k = 33 ∨ k = 38 ∨ k = 124) : wp_X11_ofMail k a x h Q = Q 0 := by
  unfold wp_X11_ofMail
  rcases k3 with rfl | rfl | rfl <;> simp
theorem hold_set {x1 x2 x3 : Int32} {n : Nat} {b : Bool} {h : Hp} {P : Int32 → Hp → Prop} {Q : Int32 → Hp → Prop} {v : Int32} (hn : n < 60) (hv : v = bit01 b) (f : P (nI (n + 1)) (sI h 52 0 n (bit01 b))) : wp_X11_holding_b202 x1 x2 x3 (nI n) (nI n) v h P Q := by
  unfold wp_X11_holding_b202 LET
  subst hv
  refine ⟨vp_in_nI hn (by decide), ?_⟩
  rw [vnb, nI_clamp (by omega), nI_1]
  simp only [forall_eq]
  exact f
theorem mM_ag {W : Nat → Nat → Bool} {h h' : Hp} (a : ag W h h') (c : ∀ j k, rMail j k = true → W j k = false) (m : Nat) (fl : Int32) : mM h' m fl = mM h m fl := by
  funext i
  unfold mM
  rw [a.I 33 0 m (c 33 m rfl), a.I 34 0 m (c 34 m rfl), a.I 35 0 m (c 35 m rfl), a.I 36 0 m (c 36 m rfl), a.I 37 0 m (c 37 m rfl), a.I 38 0 m (c 38 m rfl)]
theorem holding_w {t m : Nat} {fl : Int32} {h : Hp} {Q : Int32 → Hp → Prop} (ht : t < 60) (hm : m < 40) (hv : ∀ s, s ≤ t → StV (gI h 49 0 s) (gI h 50 0 s) (gI h 51 0 s) s) (hr : inN (gI h 34 0 m) 1024)
    (f : ∀ h', ag (wS [52] []) h h' → Q (bit01 (tvM h (mM h m fl) (t + 1) t)) h') : wp_X11_holding (nI t) (nI m) fl h Q := by
  unfold wp_X11_holding wp_X11_holding_b3
  refine LFP2.by (I := fun y h' => ag (wS [52] []) h h' ∧ ∃ n, n ≤ t + 1 ∧ y = nI n ∧ ∀ s, s < n → gI h' 52 0 s = bit01 (tvM h (mM h m fl) n s)) (μ := fun y _ => 64 - y.toNatClampNeg) ⟨ag.rfl, 0, by omega, rfl, fun s hs => absurd hs (by omega)⟩ ?_
  rintro y h' ⟨A, n, hn, rfl, hx⟩ P hP
  unfold wp_X11_holding_b3F
  by_cases e : n = t + 1
  · subst e
    rw [if_pos (nI_lt (by omega) (by omega))]
    refine ⟨vp_in_nI ht (by decide), ?_⟩
    rw [nI_clamp (by omega), hx t (by omega)]
    refine ⟨?_, f h' A⟩
    cases tvM h (mM h m fl) (t + 1) t <;> simp [bit01, isB]
  · rw [if_neg (nI_nlt (show n ≤ t by omega) (by omega))]
    refine ⟨vp_in_nI (by omega) (by decide), ?_⟩
    unfold LET
    rintro k rfl
    have v := hv n (by omega)
    have q1 : gI h' 49 0 n = gI h 49 0 n := A.I 49 0 n
    have q2 : gI h' 50 0 n = gI h 50 0 n := A.I 50 0 n
    have q3 : gI h' 51 0 n = gI h 51 0 n := A.I 51 0 n
    rw [nI_clamp (by omega), q1, q2]
    have step : ∀ b, b = tstep (mM h m fl) (tvM h (mM h m fl) n) (gI h 49 0 n) (gI h 50 0 n) (gI h 51 0 n) → P (nI (n + 1)) (sI h' 52 0 n (bit01 b)) := fun b hb => by
      refine hP _ _ ⟨A.sI rfl, n + 1, by omega, rfl, fun s hs => ?_⟩ (by rw [nI_clamp (by omega), nI_clamp (by omega)]; omega)
      rw [gI_sI]
      by_cases e : s = n
      · rw [if_pos ⟨rfl, rfl, e⟩]
        simp only [tvs]
        rw [if_pos e, hb]
      · rw [if_neg (fun q => e q.2.2)]
        simp only [tvs]
        rw [if_neg e]
        exact hx s (by omega)
    have mg : mM h' m fl = mM h m fl := mM_ag A (wS_dis (by decide)) m fl
    rcases v with v | ⟨k3, ⟨x, hx1, ex⟩, v2⟩
    · obtain ⟨n1, n2, n3⟩ := leaf_k v
      have leaf : ∀ b s0, s0 = bit01 b → b = fit (mM h m fl) (gI h 49 0 n) (gI h 50 0 n) → wp_X11_holding_b72 (nI t) (nI m) fl (nI n) (gI h 49 0 n) s0 h' P Q := fun b s0 e0 eb => by
        unfold wp_X11_holding_b72
        rw [if_neg n1, if_neg n2, if_neg n3]
        refine hold_set (by omega) e0 (step b ?_)
        unfold tstep
        rw [if_neg n1, if_neg n2, if_neg n3, eb]
      unfold wp_X11_holding_b67 wp_X11_holding_b71
      by_cases k1 : gI h 49 0 n = 97
      · rw [if_pos k1]
        exact leaf true 1 rfl (by rw [k1]; unfold fit; simp)
      by_cases k2 : gI h 49 0 n = 107
      · rw [if_neg k1, if_pos k2]
        have o : inN (gI h 50 0 n) 8 := by
          unfold leafOK at v
          simpa [k2] using v
        have fe : fit (mM h m fl) (gI h 49 0 n) (gI h 50 0 n) = bI fl (cl (gI h 50 0 n)) := by rw [k2]; unfold fit; simp [mM]
        cases b : bI fl (cl (gI h 50 0 n))
        · rw [if_neg (fun q => by rw [(sr_w o (by decide)).mp q] at b; cases b)]
          exact leaf false 0 rfl (by rw [fe, b])
        · rw [if_pos ((sr_w o (by decide)).mpr b)]
          exact leaf true 1 rfl (by rw [fe, b])
      · rw [if_neg k1, if_neg k2]
        refine ofm_w (fl := fl) hm v (by rw [A.I 34 0 m]; exact hr) k1 k2 ?_
        rw [mg]
        cases b : fit (mM h m fl) (gI h 49 0 n) (gI h 50 0 n)
        · rw [if_pos (show bit01 false = 0 from rfl)]
          exact leaf false 0 rfl b.symm
        · rw [if_neg (show ¬ bit01 true = 0 by decide)]
          exact leaf true 1 rfl b.symm
    · have n97 : gI h 49 0 n ≠ 97 := by rcases k3 with q | q | q <;> rw [q] <;> decide
      have n107 : gI h 49 0 n ≠ 107 := by rcases k3 with q | q | q <;> rw [q] <;> decide
      have w1 : gI h' 52 0 x = bit01 (tvM h (mM h m fl) n x) := hx x hx1
      have vx : vp_in (nI x) 60 := vp_in_nI (by omega) (by decide)
      have vn : vp_in (nI n) 60 := vp_in_nI (by omega) (by decide)
      have cx : cl (nI x) = x := nI_clamp (by omega)
      have z0 : ∀ b, (bit01 b = 0) = (b = false) := fun b => propext (bit01_0 b)
      rw [if_neg n97, if_neg n107, ofm_0 k3, if_pos rfl]
      unfold wp_X11_holding_b71 wp_X11_holding_b72 wp_X11_holding_b151 wp_X11_holding_b192
      simp only [nI_clamp (show n < 2 ^ 31 by omega), q1, q2, q3, ex, nI_clamp (show x < 2 ^ 31 by omega), vx, vn, true_and, w1, z0]
      by_cases k33 : gI h 49 0 n = 33
      · rw [if_pos k33]
        have ts : tstep (mM h m fl) (tvM h (mM h m fl) n) (gI h 49 0 n) (gI h 50 0 n) (gI h 51 0 n) = !tvM h (mM h m fl) n x := by unfold tstep; rw [if_pos k33, ex, cx]
        cases b : tvM h (mM h m fl) n x
        · rw [if_pos rfl]; exact hold_set (by omega) (b := true) rfl (step _ (by rw [ts, b]; rfl))
        · rw [if_neg (by decide)]; exact hold_set (by omega) (b := false) rfl (step _ (by rw [ts, b]; rfl))
      · obtain ⟨y, hy, ey⟩ := v2 k33
        have w2 : gI h' 52 0 y = bit01 (tvM h (mM h m fl) n y) := hx y hy
        have vy : vp_in (nI y) 60 := vp_in_nI (by omega) (by decide)
        have cy : cl (nI y) = y := nI_clamp (by omega)
        simp only [ey, nI_clamp (show y < 2 ^ 31 by omega), vy, true_and, w2, z0, if_neg k33]
        by_cases k38 : gI h 49 0 n = 38
        · rw [if_pos k38]
          have ts : tstep (mM h m fl) (tvM h (mM h m fl) n) (gI h 49 0 n) (gI h 50 0 n) (gI h 51 0 n) = (tvM h (mM h m fl) n x && tvM h (mM h m fl) n y) := by unfold tstep; rw [if_neg k33, if_pos k38, ex, cx, ey, cy]
          cases b : tvM h (mM h m fl) n x
          · rw [if_pos rfl]; exact hold_set (by omega) (b := false) rfl (step _ (by rw [ts, b]; rfl))
          · rw [if_neg (by decide)]
            cases b' : tvM h (mM h m fl) n y
            · rw [if_pos rfl]; exact hold_set (by omega) (b := false) rfl (step _ (by rw [ts, b, b']; rfl))
            · rw [if_neg (by decide)]; exact hold_set (by omega) (b := true) rfl (step _ (by rw [ts, b, b']; rfl))
        · have k124 : gI h 49 0 n = 124 := by rcases k3 with q | q | q; exact absurd q k33; exact absurd q k38; exact q
          rw [if_neg k38, if_pos k124]
          have ts : tstep (mM h m fl) (tvM h (mM h m fl) n) (gI h 49 0 n) (gI h 50 0 n) (gI h 51 0 n) = (tvM h (mM h m fl) n x || tvM h (mM h m fl) n y) := by unfold tstep; rw [if_neg k33, if_neg k38, if_pos k124, ex, cx, ey, cy]
          cases b : tvM h (mM h m fl) n x
          · rw [if_pos rfl]
            cases b' : tvM h (mM h m fl) n y
            · rw [if_pos rfl]; exact hold_set (by omega) (b := false) rfl (step _ (by rw [ts, b, b']; rfl))
            · rw [if_neg (by decide)]; exact hold_set (by omega) (b := true) rfl (step _ (by rw [ts, b, b']; rfl))
          · rw [if_neg (by decide)]; exact hold_set (by omega) (b := true) rfl (step _ (by rw [ts, b]; rfl))
