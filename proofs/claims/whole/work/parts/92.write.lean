/-! learn: the tests that are written -/
def upT (T : Nat → Int32 × Int32 × Int32) (n : Nat) (v : Int32 × Int32 × Int32) : Nat → Int32 × Int32 × Int32 := fun t => if t = n then v else T t
def CS (n : Nat) (T : Nat → Int32 × Int32 × Int32) (h : Hp) : Prop := CT n h ∧ ∀ t, t < n → gI h 12 0 t = (T t).1 ∧ gI h 13 0 t = (T t).2.1 ∧ gI h 14 0 t = (T t).2.2
def MT (n : Nat) (T : Nat → Int32 × Int32 × Int32) (h : Hp) : Prop := gI h 11 0 19 = nI n ∧ ∀ t, t < n → gI h 49 0 t = (T t).1 ∧ gI h 50 0 t = (T t).2.1 ∧ gI h 51 0 t = (T t).2.2
def cW : Nat → Nat → Bool := wS [12, 13, 14] [(9, 3), (9, 4)]
def tW : Nat → Nat → Bool := wS [49, 50, 51] [(11, 19)]
theorem appC {n : Nat} {T : Nat → Int32 × Int32 × Int32} {h : Hp} {k a b : Int32} {Q : Int32 → Hp → Prop} (hn : n < 60) (C : CS n T h) (v : StV k a b n) (hk : vp_nar .char k = k)
    (f : ∀ h', CS (n + 1) (upT T n (k, a, b)) h' → ag cW h h' → Q (nI n) h') : wp_X9_append k a b h Q := by
  refine app_w hn C.1 v hk (fun h' c A g1 g2 g3 => f h' ⟨c, fun t ht => ?_⟩ A)
  rw [g1, g2, g3]
  unfold upT
  by_cases e : t = n
  · simp only [e, if_true, and_self]
  · simp only [e, if_false]
    exact C.2 t (by omega)
theorem appM {n : Nat} {T : Nat → Int32 × Int32 × Int32} {h : Hp} {k a b : Int32} {Q : Int32 → Hp → Prop} (hn : n < 60) (C : MT n T h) (hk : vp_nar .char k = k)
    (f : ∀ h', MT (n + 1) (upT T n (k, a, b)) h' → ag tW h h' → Q (nI n) h') : wp_X11_addsTest k a b h Q := by
  rw [ads_e hn C.1 hk]
  refine f _ ⟨by simp only [gI_sI, gI_sJ, gI_sR, gI_sD, gJ_sI, gJ_sJ, gJ_sR, gJ_sD, gR_sI, gR_sJ, gR_sR, gR_sD, gD_sI, gD_sJ, gD_sR, gD_sD, Nat.reduceEqDiff, false_and, and_false, true_and, and_true, and_self, reduceIte, if_true, if_false, ite_true, ite_false], fun t ht => ?_⟩ ((((ag.rfl.sI rfl).sI rfl).sI rfl).sI rfl)
  unfold upT
  by_cases e : t = n
  · simp only [gI_sI, gI_sJ, gI_sR, gI_sD, gJ_sI, gJ_sJ, gJ_sR, gJ_sD, gR_sI, gR_sJ, gR_sR, gR_sD, gD_sI, gD_sJ, gD_sR, gD_sD, Nat.reduceEqDiff, false_and, and_false, true_and, and_true, and_self, reduceIte, if_true, if_false, ite_true, ite_false, e]
  · simp only [gI_sI, gI_sJ, gI_sR, gI_sD, gJ_sI, gJ_sJ, gJ_sR, gJ_sD, gR_sI, gR_sJ, gR_sR, gR_sD, gD_sI, gD_sJ, gD_sR, gD_sD, Nat.reduceEqDiff, false_and, and_false, true_and, and_true, and_self, reduceIte, if_true, if_false, ite_true, ite_false, e]
    exact C.2 t (by omega)
section
variable (h0 : Hp) (nm : Nat)
def part3 (T : Nat → Int32 × Int32 × Int32) (n c : Nat) : Nat → Int32 × Int32 × Int32 := if c % 2 = 0 then upT T n (lK h0 nm (c / 2), lA h0 nm (c / 2), 0) else upT (upT T n (lK h0 nm (c / 2), lA h0 nm (c / 2), 0)) (n + 1) (33, nI n, 0)
def all3 (T : Nat → Int32 × Int32 × Int32) (n x : Nat) : Option Nat → Nat → Int32 × Int32 × Int32
  | none => part3 h0 nm T n x
  | some d => upT (part3 h0 nm (part3 h0 nm T n x) (n + 1 + x % 2) d) (n + 1 + x % 2 + 1 + d % 2) (38, nI (n + x % 2), nI (n + 1 + x % 2 + d % 2))
end
def need3 (x : Nat) : Option Nat → Nat
  | none => 1 + x % 2
  | some d => 1 + x % 2 + 1 + d % 2 + 1
section
variable {h0 : Hp} {nm : Nat} {b : Int32}
theorem partC {n c e : Nat} {T : Nat → Int32 × Int32 × Int32} {h : Hp} {Q : Int32 → Hp → Prop} (hn : n + 1 + c % 2 ≤ 60) (C : CS n T h) (hc : c / 2 < 59 + lZ h0 nm) (he : e < 99) (e1 : gI h 29 0 e = lK h0 nm (c / 2)) (e2 : gI h 30 0 e = lA h0 nm (c / 2)) (e3 : gI h 31 0 e = nI (c % 2))
    (f : ∀ h', CS (n + 1 + c % 2) (part3 h0 nm T n c) h' → ag cW h h' → Q (nI (n + c % 2)) h') : wp_X1_writePart (nI e) h Q := by
  obtain ⟨lf, -, -, nar⟩ := cK_ok (lS h0 nm) hc
  unfold wp_X1_writePart
  refine ⟨vp_in_nI he (by decide), ?_⟩
  rw [nI_clamp (by omega), e1, e2]
  refine appC (by omega) C (Or.inl lf) nar (fun h1 C1 A1 => ?_)
  rw [A1.I 31 0 e, e3]
  rcases Nat.mod_two_eq_zero_or_one c with q | q
  · rw [q, if_pos (show nI 0 = 0 from rfl)]
    have g := f h1
    unfold part3 at g
    rw [q, if_pos rfl] at g
    exact g C1 A1
  · rw [q, if_neg (show ¬ nI 1 = (0 : Int32) by decide)]
    refine appC (by omega) C1 (Or.inr ⟨Or.inl rfl, ⟨n, by omega, rfl⟩, fun q => absurd rfl q⟩) (by decide) (fun h2 C2 A2 => ?_)
    have g := f h2
    unfold part3 at g
    rw [q, if_neg (by decide)] at g
    exact g C2 (A1.trans A2)
theorem half_ok : ∀ c, c < 200 → nI c / 2 = nI (c / 2) ∧ nI c - nI (c / 2) * 2 = nI (c % 2) := by decide +kernel
theorem partM {n c : Nat} {T : Nat → Int32 × Int32 × Int32} {h : Hp} {Q : Int32 → Hp → Prop} (hn : n + 1 + c % 2 ≤ 60) (C : MT n T h) (hc : c / 2 < 59 + lZ h0 nm) (h200 : c < 200) (e1 : gI h 73 0 (c / 2) = lK h0 nm (c / 2)) (e2 : gI h 74 0 (c / 2) = lA h0 nm (c / 2))
    (f : ∀ h', MT (n + 1 + c % 2) (part3 h0 nm T n c) h' → ag tW h h' → Q (nI (n + c % 2)) h') : wp_X11_makes (nI c) h Q := by
  obtain ⟨lf, -, -, nar⟩ := cK_ok (lS h0 nm) hc
  obtain ⟨o1, o2⟩ := half_ok c h200
  unfold wp_X11_makes
  rw [o1, o2]
  refine ⟨vp_in_nI (by omega) (by decide), ?_⟩
  rw [nI_clamp (by omega), e1, e2]
  refine appM (by omega) C nar (fun h1 C1 A1 => ?_)
  rcases Nat.mod_two_eq_zero_or_one c with q | q
  · rw [q, if_pos (show nI 0 = 0 from rfl)]
    have g := f h1
    unfold part3 at g
    rw [q, if_pos rfl] at g
    exact g C1 A1
  · rw [q, if_neg (show ¬ nI 1 = (0 : Int32) by decide)]
    refine appM (by omega) C1 (by decide) (fun h2 C2 A2 => ?_)
    have g := f h2
    unfold part3 at g
    rw [q, if_neg (by decide)] at g
    exact g C2 (A1.trans A2)
theorem yI_none (f : Nat → Nat) : yI f none < 0 := by
  show (-1 : Int32) < 0
  decide
theorem nI_2 (n : Nat) : nI n + 2 = nI (n + 2) := by rw [← nI_1, ← nI_1, Int32.add_assoc]; rfl
theorem nI_3 (n : Nat) : nI n + 3 = nI (n + 3) := by rw [← nI_1, ← nI_2, Int32.add_assoc]; rfl
theorem yI_neg {f : Nat → Nat} {d : Nat} (hf : f d < 2 ^ 31) : ¬ yI f (some d) < 0 := nI_pos hf
theorem need_w {x N : Nat} {y : Option Nat} {h h' : Hp} {Q : Int32 → Prop} (hN : N ≤ 99) (F : LFd h nm b N x y) (hp : ∃ m, m < nm ∧ lP h b m = true) (L : LC h nm b N h') (e8 : gI h' 1 0 8 = nI (ct (lG h nm b) x)) (e9 : gI h' 1 0 9 = yI (ct (lG h nm b)) y) (f : Q (nI (need3 x y))) : wp_X1_testsNeeded h' Q := by
  obtain ⟨A, a1, a2, a3, a4⟩ := L
  have le := ct_pair (lG_x hp) N
  unfold wp_X1_testsNeeded
  obtain ⟨hx, F⟩ := F
  have gx : lG h nm b x = true := by
    cases y with
    | none => exact F.1.1
    | some d => exact F.2.2.2.1.1
  have lx := ct_hitlt gx hx
  obtain ⟨-, -, m3, -⟩ := a4 x hx gx
  rw [e8]
  refine ⟨vp_in_nI (by omega) (by decide), ?_⟩
  rw [nI_clamp (by omega), m3]
  have second : ∀ s0 n0, s0 = nI n0 → n0 = 1 + x % 2 → wp_X1_testsNeeded_b17 s0 h' Q := by
    rintro s0 n0 rfl rfl
    unfold wp_X1_testsNeeded_b17 wp_X1_testsNeeded_b43 LET
    cases y with
    | none =>
      rw [e9]
      rw [if_pos (yI_none _)]
      exact f
    | some d =>
      obtain ⟨-, hxd, hd, ⟨-, gd, -⟩, -⟩ := F
      have ld := ct_hitlt gd hd
      obtain ⟨-, -, n3, -⟩ := a4 d hd gd
      rw [show gI h' 1 0 9 = nI (ct (lG h nm b) d) from e9, if_neg (nI_pos (by omega))]
      refine ⟨vp_in_nI (by omega) (by decide), ?_⟩
      rw [nI_clamp (by omega), n3]
      rcases Nat.mod_two_eq_zero_or_one d with q | q
      · rw [q, if_pos (show nI 0 = 0 from rfl)]
        rintro v rfl
        rw [nI_2]
        simp only [need3] at f
        rw [q] at f
        exact f
      · rw [q, if_neg (show ¬ nI 1 = (0 : Int32) by decide)]
        rintro v rfl
        rw [nI_3]
        simp only [need3] at f
        rw [q] at f
        exact f
  rcases Nat.mod_two_eq_zero_or_one x with q | q
  · rw [q, if_pos (show nI 0 = 0 from rfl)]
    exact second 1 1 rfl (by omega)
  · rw [q, if_neg (show ¬ nI 1 = (0 : Int32) by decide)]
    exact second 2 2 rfl (by omega)
theorem write_w {x N n : Nat} {y : Option Nat} {h h' : Hp} {T : Nat → Int32 × Int32 × Int32} {Q : Int32 → Hp → Prop} (hN : N ≤ 99) (hNz : N ≤ 59 + lZ h nm) (F : LFd h nm b N x y) (hp : ∃ m, m < nm ∧ lP h b m = true) (L : LC h nm b N h') (e8 : gI h' 1 0 8 = nI (ct (lG h nm b) x)) (e9 : gI h' 1 0 9 = yI (ct (lG h nm b)) y) (C : CS n T h') (hn : n + need3 x y ≤ 60)
    (f : ∀ h2, CS (n + need3 x y) (all3 h nm T n x y) h2 → ag cW h' h2 → Q (nI (n + need3 x y - 1)) h2) : wp_X1_writeInto h' Q := by
  obtain ⟨A, a1, a2, a3, a4⟩ := L
  have le := ct_pair (lG_x hp) N
  unfold wp_X1_writeInto
  obtain ⟨hx, F⟩ := F
  have gx : lG h nm b x = true := by
    cases y with
    | none => exact F.1.1
    | some d => exact F.2.2.2.1.1
  have lx := ct_hitlt gx hx
  obtain ⟨m1, m2, m3, -⟩ := a4 x hx gx
  rw [e8]
  refine partC (h0 := h) (nm := nm) (c := x) (by cases y <;> simp only [need3] at hn <;> omega) C (by omega) (by omega) m1 m2 m3 (fun h2 C2 A2 => ?_)
  rw [A2.I 1 0 9]
  cases y with
  | none =>
    rw [e9]
    rw [if_pos (yI_none _)]
    have g := f h2
    simp only [need3, all3] at g
    rw [show n + (1 + x % 2) = n + 1 + x % 2 by omega, show n + 1 + x % 2 - 1 = n + x % 2 by omega] at g
    exact g C2 A2
  | some d =>
    obtain ⟨-, hxd, hd, ⟨-, gd, -⟩, -⟩ := F
    have ld := ct_hitlt gd hd
    obtain ⟨n1, n2, n3, -⟩ := a4 d hd gd
    simp only [need3] at hn
    rw [show gI h' 1 0 9 = nI (ct (lG h nm b) d) from e9, if_neg (nI_pos (by omega))]
    refine partC (h0 := h) (nm := nm) (c := d) (by omega) C2 (by omega) (by omega) (by rw [A2.I 29, n1]) (by rw [A2.I 30, n2]) (by rw [A2.I 31, n3]) (fun h3 C3 A3 => ?_)
    refine appC (by omega) C3 (Or.inr ⟨Or.inr (Or.inl rfl), ⟨n + x % 2, by omega, rfl⟩, fun _ => ⟨n + 1 + x % 2 + d % 2, by omega, rfl⟩⟩) (by decide) (fun h4 C4 A4 => ?_)
    have g := f h4
    simp only [need3, all3] at g
    rw [show n + (1 + x % 2 + 1 + d % 2 + 1) = n + 1 + x % 2 + 1 + d % 2 + 1 by omega, show n + 1 + x % 2 + 1 + d % 2 + 1 - 1 = n + 1 + x % 2 + 1 + d % 2 by omega] at g
    exact g C4 ((A2.trans A3).trans A4)
end
