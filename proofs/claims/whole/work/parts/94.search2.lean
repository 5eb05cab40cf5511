/-! learn: what the model finds -/
def hy (h : Hp) (nm m : Nat) : Option Nat → Bool
  | none => true
  | some d => lHd h nm d m
theorem two_ok : ∀ N, N < 100 → 2 * nI N = nI (2 * N) := by decide +kernel
theorem nI_m1 {c : Nat} (hc : c < 2 ^ 31) : ¬ nI c = (-1 : Int32) := fun q => by
  have := nI_pos hc
  rw [q] at this
  exact this (by decide)
theorem b01_1 {b : Bool} : bit01 b = 1 ↔ b = true := by cases b <;> decide
theorem b01_0 {b : Bool} : bit01 b = 0 ↔ b = false := by cases b <;> decide
theorem b01_e {b c : Bool} : bit01 b = bit01 c ↔ b = c := by cases b <;> cases c <;> decide
section
variable {h h1 : Hp} {d nm : Nat} {b : Int32}
theorem cand_w (s : SMail d nm h) {h' : Hp} {c m N : Nat} {Q : Int32 → Prop} (hN : N ≤ 99) (hNz : N ≤ 59 + lZ h nm) (B : ag lX h h') (g : ∀ j, j < N → gI h' 73 0 j = lK h nm j ∧ gI h' 74 0 j = lA h nm j) (hc : c < 2 * N) (hm : m < nm) (f : Q (bit01 (lHd h nm c m))) : wp_X11_candidateHolds (nI c) (nI m) h' Q := by
  have n40 := s.1
  obtain ⟨o1, o2⟩ := half_ok c (by omega)
  obtain ⟨lf, k1, k2, -⟩ := cK_ok (lS h nm) (z := lZ h nm) (j := c / 2) (by omega)
  obtain ⟨V, E⟩ := s.2.2.2.1 m hm
  unfold wp_X11_candidateHolds
  rw [o1, o2]
  refine ⟨vp_in_nI (by omega) (by decide), ?_⟩
  rw [nI_clamp (by omega), (g _ (by omega)).1, (g _ (by omega)).2]
  refine ofm_w (fl := 0) (by omega) lf (by rw [B.I 34 0 m]; exact recv_ok V.2.1) k1 k2 ?_
  have mm : mM h' m 0 = mM h m 0 := by
    unfold mM
    simp only [fun k => B.I 33 0 k, fun k => B.I 34 0 k, fun k => B.I 35 0 k, fun k => B.I 36 0 k, fun k => B.I 37 0 k, fun k => B.I 38 0 k]
  rw [mm, show fit (mM h m 0) (lK h nm (c / 2)) (lA h nm (c / 2)) = lV h nm (c / 2) m from rfl]
  unfold wp_X11_candidateHolds_b32
  unfold lHd at f
  rcases Nat.mod_two_eq_zero_or_one c with q | q
  · rw [q] at f ⊢
    rw [if_pos (show nI 0 = 0 from rfl)]
    cases v : lV h nm (c / 2) m <;> rw [v] at f
    · rw [if_neg (by decide)]; exact f
    · rw [if_pos (by decide)]; exact f
  · rw [q] at f ⊢
    rw [if_neg (show ¬ nI 1 = (0 : Int32) by decide)]
    cases v : lV h nm (c / 2) m <;> rw [v] at f
    · rw [if_pos (by decide)]; exact f
    · rw [if_neg (by decide)]; exact f
theorem fitsM_w (s : SMail d nm h) {h' : Hp} {c N : Nat} {y : Option Nat} {Q : Int32 → Prop} (hN : N ≤ 99) (hNz : N ≤ 59 + lZ h nm) (B : ag lX h h') (g : ∀ j, j < N → gI h' 73 0 j = lK h nm j ∧ gI h' 74 0 j = lA h nm j) (hc : c < 2 * N) (hy' : ∀ e, y = some e → e < 2 * N)
    (f1 : (∀ m, m < nm → kM h m → (lHd h nm c m && hy h nm m y) = lP h b m) → Q 1) (f0 : ¬ (∀ m, m < nm → kM h m → (lHd h nm c m && hy h nm m y) = lP h b m) → Q 0) : wp_X11_fits (nI c) (yI id y) b h' Q := by
  obtain ⟨n40, c1, c2, sv, sd, sx⟩ := id s
  unfold wp_X11_fits wp_X11_fits_b3
  refine LFP1.by (I := fun x => ∃ n, n ≤ nm ∧ x = nI n ∧ ∀ m, m < n → kM h m → (lHd h nm c m && hy h nm m y) = lP h b m) (μ := fun x => 40 - x.toNatClampNeg) ⟨0, by omega, rfl, fun m hm => by omega⟩ ?_
  rintro x ⟨n, hn, rfl, w⟩ P hP
  unfold wp_X11_fits_b3F
  rw [show gI h' 11 0 2 = nI nm from by rw [B.I 11 0 2, c2]]
  by_cases q : n = nm
  · subst q
    rw [if_pos (nI_le (Nat.le_refl _) (by omega))]
    exact f1 w
  · rw [if_neg (nI_ge (show n < nm by omega) (by omega))]
    refine ⟨vp_in_nI (by omega) (by decide), ?_⟩
    rw [nI_clamp (by omega), B.I 39 0 n, B.I 40 0 n, B.I 41 0 n, B.I 43 0 n]
    have step : (kM h n → (lHd h nm c n && hy h nm n y) = lP h b n) → wp_X11_fits_b102 (nI c) (yI id y) b (nI n) h' P Q := by
      intro hv
      unfold wp_X11_fits_b102 LET
      rintro v rfl
      exact hP _ ⟨n + 1, by omega, nI_1 n, fun m hm k => by
        by_cases e : m = n
        · subst e; exact hv k
        · exact w m (by omega) k⟩ (by rw [nI_1, nI_clamp (by omega), nI_clamp (by omega)]; omega)
    have body : kM h n → ∀ s0, s0 = bit01 (lP h b n) → wp_X11_fits_b59 (nI c) (yI id y) b (nI n) s0 h' P Q := by
      rintro k s0 rfl
      have cmp : ∀ v, (lHd h nm c n && hy h nm n y) = v → wp_X11_fits_b91 (nI c) (yI id y) b (nI n) (bit01 (lP h b n)) (bit01 v) h' P Q := by
        intro v hv
        unfold wp_X11_fits_b91
        by_cases e : v = lP h b n
        · rw [if_pos (by rw [e])]
          exact step (fun _ => by rw [hv, e])
        · rw [if_neg (fun q => e (b01_e.mp q))]
          exact f0 (fun q => e (by rw [← hv]; exact q n (by omega) k))
      unfold wp_X11_fits_b59 wp_X11_fits_b90 wp_X11_fits_b86
      refine cand_w s hN hNz B g hc (by omega) ?_
      cases v : lHd h nm c n
      · rw [if_pos (show bit01 false = 0 from rfl)]
        exact cmp false (by rw [v]; rfl)
      · rw [if_neg (show ¬ bit01 true = 0 by decide)]
        cases y with
        | none =>
          rw [if_pos (show yI id none = -1 from rfl)]
          exact cmp true (by rw [v]; rfl)
        | some e =>
          have he := hy' e rfl
          rw [if_neg (show ¬ yI id (some e) = -1 from nI_m1 (c := e) (by omega))]
          refine cand_w (c := e) s hN hNz B g he (by omega) ?_
          cases v' : lHd h nm e n
          · rw [if_pos (show bit01 false = 0 from rfl)]
            exact cmp false (by rw [v]; exact v')
          · rw [if_neg (show ¬ bit01 true = 0 by decide)]
            exact cmp true (by rw [v]; exact v')
    by_cases k1 : gI h 39 0 n = 0
    · rw [if_pos k1]
      exact step (fun k => absurd k1 k.1)
    · rw [if_neg k1]
      by_cases k2 : gI h 40 0 n = 0
      · rw [if_pos k2]
        have k : kM h n := ⟨k1, k2⟩
        unfold wp_X11_fits_b58
        have no : ¬ (gI h 41 0 n = b ∧ gI h 43 0 n = b) → wp_X11_fits_b59 (nI c) (yI id y) b (nI n) 0 h' P Q := fun q => body k 0 (by
          rw [show lP h b n = false from decide_eq_false (fun w => q w.2)]; rfl)
        by_cases k3 : gI h 41 0 n = b
        · rw [if_pos k3]
          by_cases k4 : gI h 43 0 n = b
          · rw [if_pos k4]
            exact body k 1 (by rw [show lP h b n = true from decide_eq_true ⟨k, k3, k4⟩]; rfl)
          · rw [if_neg k4]
            exact no (fun q => k4 q.2)
        · rw [if_neg k3]
          exact no (fun q => k3 q.1)
      · rw [if_neg k2]
        exact step (fun k => absurd k.2 k2)
theorem f1_hy {c : Nat} : (∀ m, m < nm → kM h m → (lHd h nm c m && hy h nm m none) = lP h b m) ↔ F1 h nm b c := by
  unfold F1
  rw [← f1_iff]
  simp only [hy, Bool.and_true]
theorem f2_hy {c e : Nat} : (∀ m, m < nm → kM h m → (lHd h nm c m && hy h nm m (some e)) = lP h b m) ↔ F2 h nm b c e := by
  unfold F2
  rw [← f2_iff]
  simp only [hy]
theorem pairs_w (s : SMail d nm h) {h' : Hp} {N : Nat} {Q : Int32 → Hp → Prop} (hN : N ≤ 99) (hNz : N ≤ 59 + lZ h nm) (B : ag lX h h') (e67 : gI h' 11 0 67 = nI N) (g : ∀ j, j < N → gI h' 73 0 j = lK h nm j ∧ gI h' 74 0 j = lA h nm j)
    (f0 : (∀ c d, c < d → d < 2 * N → ¬ F2 h nm b c d) → wp_X11_learn_b200 (-1) (-1) h' Q)
    (f1 : ∀ c d, c < d → d < 2 * N → F2 h nm b c d → (∀ c' d', c' < c → c' < d' → d' < 2 * N → ¬ F2 h nm b c' d') → (∀ d', c < d' → d' < d → ¬ F2 h nm b c d') → wp_X11_learn_b200 (nI c) (nI d) h' Q) : wp_X11_learn_b127 b 1 (-1) (-1) 0 h' Q := by
  have tw := two_ok N (by omega)
  unfold wp_X11_learn_b127
  refine LFP4.by (I := fun x y z u => u = h' ∧ ∃ e, e ≤ 2 * N ∧ z = nI e ∧ ((x = -1 ∧ y = -1 ∧ ∀ c d, c < d → d < 2 * N → c < e → ¬ F2 h nm b c d) ∨ (∃ c d, x = nI c ∧ y = nI d ∧ c < d ∧ d < 2 * N ∧ F2 h nm b c d ∧ (∀ c' d', c' < c → c' < d' → d' < 2 * N → ¬ F2 h nm b c' d') ∧ (∀ d', c < d' → d' < d → ¬ F2 h nm b c d')))) (μ := fun _ _ z _ => 200 - z.toNatClampNeg) ⟨rfl, 0, by omega, rfl, Or.inl ⟨rfl, rfl, fun c d _ _ q => by omega⟩⟩ ?_
  rintro x y z u ⟨rfl, e, he, rfl, w⟩ P hP
  unfold wp_X11_learn_b127F
  rw [e67, tw]
  rcases w with ⟨rfl, rfl, no⟩ | ⟨c, d', rfl, rfl, h1, h2, h3, h4, h5⟩
  · by_cases q : e = 2 * N
    · subst q
      rw [if_pos (nI_le (Nat.le_refl _) (by omega))]
      exact f0 (fun c d h1 h2 => no c d h1 h2 (by omega))
    · rw [if_neg (nI_ge (show e < 2 * N by omega) (by omega)), if_pos rfl, if_neg z_10.mp]
      unfold LET
      simp only [forall_eq]
      unfold wp_X11_learn_b153
      refine LFP4.by (I := fun x y z v => v = u ∧ ∃ e', e < e' ∧ e' ≤ 2 * N ∧ z = nI e' ∧ ((x = -1 ∧ y = -1 ∧ ∀ d, e < d → d < e' → ¬ F2 h nm b e d) ∨ (∃ d, x = nI e ∧ y = nI d ∧ e < d ∧ d < 2 * N ∧ F2 h nm b e d ∧ (∀ d', e < d' → d' < d → ¬ F2 h nm b e d')))) (μ := fun _ _ z _ => 200 - z.toNatClampNeg) ⟨rfl, e + 1, by omega, by omega, nI_1 e, Or.inl ⟨rfl, rfl, fun d h1 h2 => by omega⟩⟩ ?_
      rintro x y z v ⟨rfl, e', he1, he2, rfl, w⟩ P' hP'
      unfold wp_X11_learn_b153F wp_X11_learn_b194 LET
      rw [e67, tw]
      simp only [forall_eq]
      rcases w with ⟨rfl, rfl, no'⟩ | ⟨d', rfl, rfl, h1, h2, h3, h4⟩
      · by_cases q' : e' = 2 * N
        · subst q'
          rw [if_pos (nI_le (Nat.le_refl _) (by omega))]
          refine hP _ _ _ _ ⟨rfl, e + 1, by omega, nI_1 e, Or.inl ⟨rfl, rfl, fun c2 d2 h1 h2 h3 => ?_⟩⟩ (by rw [nI_1, nI_clamp (by omega), nI_clamp (by omega)]; omega)
          by_cases l : c2 < e
          · exact no c2 d2 h1 h2 l
          · rw [show c2 = e by omega] at h1 ⊢
            exact no' d2 h1 h2
        · rw [if_neg (nI_ge (show e' < 2 * N by omega) (by omega)), if_pos rfl]
          refine fitsM_w (y := some e') s hN hNz B g (show e < 2 * N by omega) (fun w hw => by cases hw; omega) (fun t => ?_) (fun t => ?_)
          · rw [if_neg z_10.mp]
            unfold wp_X11_learn_b188 LET
            simp only [forall_eq]
            exact hP' _ _ _ _ ⟨rfl, e' + 1, by omega, by omega, nI_1 e', Or.inr ⟨e', rfl, rfl, he1, by omega, f2_hy.mp t, fun d2 h1 h2 => no' d2 h1 h2⟩⟩ (by rw [nI_1, nI_clamp (by omega), nI_clamp (by omega)]; omega)
          · rw [if_pos rfl]
            unfold wp_X11_learn_b188 LET
            simp only [forall_eq]
            refine hP' _ _ _ _ ⟨rfl, e' + 1, by omega, by omega, nI_1 e', Or.inl ⟨rfl, rfl, fun d2 h1 h2 => ?_⟩⟩ (by rw [nI_1, nI_clamp (by omega), nI_clamp (by omega)]; omega)
            by_cases l : d2 < e'
            · exact no' d2 h1 l
            · rw [show d2 = e' by omega]
              exact fun q => t (f2_hy.mpr q)
      · have out : P (nI e) (nI d') (nI e + 1) v := hP _ _ _ _ ⟨rfl, e + 1, by omega, nI_1 e, Or.inr ⟨e, d', rfl, rfl, h1, h2, h3, fun c2 d2 q1 q2 q3 => no c2 d2 q2 q3 q1, h4⟩⟩ (by rw [nI_1, nI_clamp (by omega), nI_clamp (by omega)]; omega)
        by_cases q' : nI (2 * N) ≤ nI e'
        · rw [if_pos q']
          exact out
        · rw [if_neg q', if_neg (nI_m1 (by omega))]
          exact out
  · have out := f1 c d' h1 h2 h3 h4 h5
    by_cases q' : nI (2 * N) ≤ nI e
    · rw [if_pos q']
      exact out
    · rw [if_neg q', if_neg (nI_m1 (by omega))]
      exact out
theorem search_w (s : SMail d nm h) {h' : Hp} {N : Nat} {Q : Int32 → Hp → Prop} (hN : N ≤ 99) (hNz : N ≤ 59 + lZ h nm) (B : ag lX h h') (e67 : gI h' 11 0 67 = nI N) (g : ∀ j, j < N → gI h' 73 0 j = lK h nm j ∧ gI h' 74 0 j = lA h nm j)
    (f0 : (∀ c, c < 2 * N → ¬ F1 h nm b c) → (∀ c d, c < d → d < 2 * N → ¬ F2 h nm b c d) → wp_X11_learn_b200 (-1) (-1) h' Q)
    (f1 : ∀ x y, LFd h nm b N x y → wp_X11_learn_b200 (nI x) (yI id y) h' Q) : wp_X11_learn_b80 b 1 (-1) (-1) 0 h' Q := by
  have tw := two_ok N (by omega)
  unfold wp_X11_learn_b80
  refine LFP3.by (I := fun x z u => u = h' ∧ ∃ e, e ≤ 2 * N ∧ z = nI e ∧ ((x = -1 ∧ ∀ c, c < e → ¬ F1 h nm b c) ∨ (∃ c, x = nI c ∧ c < 2 * N ∧ F1 h nm b c ∧ ∀ c', c' < c → ¬ F1 h nm b c'))) (μ := fun _ z _ => 200 - z.toNatClampNeg) ⟨rfl, 0, by omega, rfl, Or.inl ⟨rfl, fun c q => by omega⟩⟩ ?_
  rintro x z u ⟨rfl, e, he, rfl, w⟩ P hP
  unfold wp_X11_learn_b80F
  rw [e67, tw]
  rcases w with ⟨rfl, no⟩ | ⟨c, rfl, h1, h2, h3⟩
  · by_cases q : e = 2 * N
    · subst q
      rw [if_pos (nI_le (Nat.le_refl _) (by omega))]
      unfold wp_X11_learn_b124
      exact pairs_w s hN hNz B e67 g (fun no2 => f0 no no2) (fun c d' h1 h2 h3 h4 h5 => f1 c (some d') ⟨by omega, no, h1, h2, h3, h4, h5⟩)
    · rw [if_neg (nI_ge (show e < 2 * N by omega) (by omega)), if_pos rfl, if_neg z_10.mp]
      refine fitsM_w (y := none) s hN hNz B g (show e < 2 * N by omega) (fun w hw => by cases hw) (fun t => ?_) (fun t => ?_)
      · rw [if_neg z_10.mp]
        unfold wp_X11_learn_b117 LET
        simp only [forall_eq]
        exact hP _ _ _ ⟨rfl, e + 1, by omega, nI_1 e, Or.inr ⟨e, rfl, by omega, f1_hy.mp t, no⟩⟩ (by rw [nI_1, nI_clamp (by omega), nI_clamp (by omega)]; omega)
      · rw [if_pos rfl]
        unfold wp_X11_learn_b117 LET
        simp only [forall_eq]
        refine hP _ _ _ ⟨rfl, e + 1, by omega, nI_1 e, Or.inl ⟨rfl, fun c hc => ?_⟩⟩ (by rw [nI_1, nI_clamp (by omega), nI_clamp (by omega)]; omega)
        by_cases l : c < e
        · exact no c l
        · rw [show c = e by omega]
          exact fun q => t (f1_hy.mpr q)
  · have out : wp_X11_learn_b124 b 1 (nI c) (-1) u Q := by
      have f := f1 c none ⟨h1, h2, h3⟩
      unfold wp_X11_learn_b124 wp_X11_learn_b127
      refine LFP4.by (I := fun x y z v => v = u ∧ x = nI c ∧ y = -1) (μ := fun _ _ _ _ => 0) ⟨rfl, rfl, rfl⟩ ?_
      rintro x y z v ⟨rfl, rfl, rfl⟩ P2 -
      unfold wp_X11_learn_b127F
      by_cases q' : 2 * gI v 11 0 67 ≤ z
      · rw [if_pos q']
        exact f
      · rw [if_neg q', if_neg (nI_m1 (by omega))]
        exact f
    by_cases q' : nI (2 * N) ≤ nI e
    · rw [if_pos q']
      exact out
    · rw [if_neg q', if_neg (nI_m1 (by omega))]
      exact out
theorem LFd_u {N x x' : Nat} {y y' : Option Nat} (F : LFd h nm b N x y) (G : LFd h nm b N x' y') : x = x' ∧ y = y' := by
  obtain ⟨hx, F⟩ := F
  obtain ⟨hx', G⟩ := G
  cases y with
  | none =>
    cases y' with
    | none =>
      refine ⟨?_, rfl⟩
      rcases Nat.lt_trichotomy x x' with q | q | q
      · exact absurd F.1 (G.2 x q)
      · exact q
      · exact absurd G.1 (F.2 x' q)
    | some e => exact absurd F.1 (G.1 x hx)
  | some e =>
    cases y' with
    | none => exact absurd G.1 (F.1 x' hx')
    | some e' =>
      obtain ⟨-, a1, a2, a3, a4, a5⟩ := F
      obtain ⟨-, b1, b2, b3, b4, b5⟩ := G
      have ex : x = x' := by
        rcases Nat.lt_trichotomy x x' with q | q | q
        · exact absurd a3 (b4 x e q a1 a2)
        · exact q
        · exact absurd b3 (a4 x' e' q b1 b2)
      subst ex
      refine ⟨rfl, ?_⟩
      rcases Nat.lt_trichotomy e e' with q | q | q
      · exact absurd a3 (b5 e a1 q)
      · rw [q]
      · exact absurd b3 (a5 e' b1 q)
end
