/-! holds, goneShare, meanSize -/
theorem tvs_up (K A B M : Nat → Int32) : ∀ n t, t < n → tvs K A B M n t = tvs K A B M (t + 1) t := by
  intro n
  induction n with
  | zero => intro t ht; omega
  | succ n ih =>
    intro t ht
    by_cases e : t = n
    · subst e; rfl
    · rw [← ih t (by omega)]
      show (if t = n then _ else tvs K A B M n t) = _
      rw [if_neg e]
theorem tvs_ext {K A B M K' A' B' M' : Nat → Int32} {n : Nat} (e : ∀ t, t < n → K t = K' t ∧ A t = A' t ∧ B t = B' t) (g : ∀ k a, fit M k a = fit M' k a) : ∀ t, tvs K A B M n t = tvs K' A' B' M' n t := by
  induction n with
  | zero => intro t; rfl
  | succ n ih =>
    intro t
    have ih' := ih (fun t ht => e t (by omega))
    simp only [tvs]
    by_cases c : t = n
    · rw [if_pos c, if_pos c]
      obtain ⟨e1, e2, e3⟩ := e n (by omega)
      unfold tstep
      rw [e1, e2, e3, ih', ih', g]
    · rw [if_neg c, if_neg c, ih']
/-- what a test says of a mail with some flags -/
def tT (h : Hp) (m : Nat) (fl : Int32) (t : Nat) : Bool := tvM h (mM h m fl) (t + 1) t
theorem STest.tv {nt : Nat} {h : Hp} (s : STest nt h) {m : Nat} (e : SmE h m) (fl : Int32) {t : Nat} (ht : t < nt) : tvC h (mC h m fl) nt t = tT h m fl t := by
  unfold tT
  rw [show tvM h (mM h m fl) (t + 1) t = tvM h (mM h m fl) nt t from (tvs_up _ _ _ _ nt t ht).symm]
  exact tvs_ext (fun t ht => by obtain ⟨q1, q2, q3, -⟩ := s.2.2.2.1 t ht; exact ⟨q1, q2, q3⟩) (fun k a => mM_mC e) t
theorem recv_ok {x : Int32} (a : inZ x 1 1023) : inN x 1024 := (inN_iff (by decide)).mpr ⟨by have := a.1; rw [show (1 : Int32).toInt = 1 from rfl] at this; omega, by have := a.2; rw [show (1023 : Int32).toInt = 1023 from rfl] at this; omega⟩
theorem STest.vM {nt : Nat} {h : Hp} (s : STest nt h) {t : Nat} (ht : t < nt) : StV (gI h 49 0 t) (gI h 50 0 t) (gI h 51 0 t) t := by
  obtain ⟨q1, q2, q3, v, -⟩ := s.2.2.2.1 t ht
  rw [← q1, ← q2, ← q3]
  exact v
theorem c_holds {i : Nat} {h : Hp} (S : Sim i h) (p1 p2 : Int32) {K : Int32 → Int32 → Hp → Prop} (hK : SKB i K) :
    wp_L_holds p1 p2 h (fun r h1 => wp_X11_holds p1 p2 h1 (fun b h2 => K r b h2)) := by
  unfold wp_L_holds wp_X10_holds wp_X11_holds wp_X11_holds_b21 wp_X11_holds_b22 wp_L_holds_b16 LET
  obtain ⟨d, nm, nt, hd, s1, ⟨n40, e1, e2, s2, s2', s2''⟩, s3, s4, s5, s6, s7⟩ := id S
  obtain ⟨n60, u1, u2, -⟩ := id s5
  by_cases a1 : inN p1 nt
  case neg =>
    simp [rb_0 nt a1 u1 (by omega), it_0 u2 n60 a1, gI_sI, gI_sJ, gI_sR, gI_sD, gJ_sI, gJ_sJ, gJ_sR, gJ_sD, gR_sI, gR_sJ, gR_sR, gR_sD, gD_sI, gD_sJ, gD_sR, gD_sD]
    exact hK.go (h := h) (wS [75, 76] [(11, 0)]) (by repeat first | exact ag.rfl | refine ag.sI ?_ rfl | refine ag.sJ ?_ rfl | refine ag.sR ?_ rfl | refine ag.sD ?_ rfl) (fun A => S.quiet A) (by simp [gI_sI, gI_sJ, gI_sR, gI_sD, gJ_sI, gJ_sJ, gJ_sR, gJ_sD, gR_sI, gR_sJ, gR_sR, gR_sD, gD_sI, gD_sJ, gD_sR, gD_sD]) (fun q => by cases q)
  by_cases a2 : inN p2 nm
  case neg =>
    simp [rb_1 nt a1 u1 (by omega), rb_0 nm a2 e1 (by omega), it_1 u2 n60 a1, im_0 e2 n40 a2, gI_sI, gI_sJ, gI_sR, gI_sD, gJ_sI, gJ_sJ, gJ_sR, gJ_sD, gR_sI, gR_sJ, gR_sR, gR_sD, gD_sI, gD_sJ, gD_sR, gD_sD]
    exact hK.go (h := h) (wS [75, 76] [(11, 0)]) (by repeat first | exact ag.rfl | refine ag.sI ?_ rfl | refine ag.sJ ?_ rfl | refine ag.sR ?_ rfl | refine ag.sD ?_ rfl) (fun A => S.quiet A) (by simp [gI_sI, gI_sJ, gI_sR, gI_sD, gJ_sI, gJ_sJ, gJ_sR, gJ_sD, gR_sI, gR_sJ, gR_sR, gR_sD, gD_sI, gD_sJ, gD_sR, gD_sD]) (fun q => by cases q)
  obtain ⟨m, hm, rfl⟩ := id a2
  obtain ⟨t, ht, rfl⟩ := id a1
  have c3 : vp_in (nI m) 40 := vp_in_nI (by omega) (by decide)
  obtain ⟨⟨-, hr, -⟩, E⟩ := s2 m hm
  have hr' := recv_ok hr
  rw [rb_1 nt a1 u1 (by omega), rb_1 nm a2 e1 (by omega), nI_clamp (by omega)]
  refine ⟨c3, truthFor_w s5.ct (by rw [E.2.1]; exact hr') (fun x hx => ?_)⟩
  have key : ∀ b : Bool, tT h m (gI h 2 m 7) t = b → ∀ h2, ag (wS [75, 52] [(11, 0)]) h h2 → gI h2 11 0 0 = 0 → gJ h2 75 0 0 = (bit01 b).toInt64 → K 0 (bit01 b) h2 := fun b _ h2 A c o =>
    hK.go _ A (fun A => (S.stay A (wS_dis (by decide))).mono (by omega)) c (fun _ => ⟨by cases b; exact Or.inl rfl; exact Or.inr rfl, o⟩)
  have model : ∀ b : Bool, tT h m (gI h 2 m 7) t = b → ∀ v, v = (bit01 b).toInt64 → wp_X11_isTest (nI t) (sJ h 75 0 0 v) (fun r1 => if r1 = 0 then ∀ y, y = sI (sJ h 75 0 0 v) 11 0 0 1 → if gI y 11 0 0 = 0 then vp_in (nI m) 40 ∧ wp_X11_holding (nI t) (nI m) (gI y 42 0 m) y (fun r4 h5 => if r4 = 0 then K 0 0 h5 else K 0 1 h5) else K 0 0 y else wp_X11_isMail (nI m) (sJ h 75 0 0 v) (fun r3 => if r3 = 0 then ∀ y, y = sI (sJ h 75 0 0 v) 11 0 0 1 → if gI y 11 0 0 = 0 then vp_in (nI m) 40 ∧ wp_X11_holding (nI t) (nI m) (gI y 42 0 m) y (fun r4 h5 => if r4 = 0 then K 0 0 h5 else K 0 1 h5) else K 0 0 y else ∀ y, y = sI (sJ h 75 0 0 v) 11 0 0 0 → if gI y 11 0 0 = 0 then vp_in (nI m) 40 ∧ wp_X11_holding (nI t) (nI m) (gI y 42 0 m) y (fun r4 h5 => if r4 = 0 then K 0 0 h5 else K 0 1 h5) else K 0 0 y)) := by
    intro b hb v hv
    have f2 : gI (sJ h 75 0 0 v) 11 0 19 = nI nt := by simp only [gI_sI, gI_sJ, gI_sR, gI_sD, gJ_sI, gJ_sJ, gJ_sR, gJ_sD, gR_sI, gR_sJ, gR_sR, gR_sD, gD_sI, gD_sJ, gD_sR, gD_sD]; exact u2
    have f3 : gI (sJ h 75 0 0 v) 11 0 2 = nI nm := by simp only [gI_sI, gI_sJ, gI_sR, gI_sD, gJ_sI, gJ_sJ, gJ_sR, gJ_sD, gR_sI, gR_sJ, gR_sR, gR_sD, gD_sI, gD_sJ, gD_sR, gD_sD]; exact e2
    rw [it_1 f2 n60 a1, if_neg (by decide), im_1 f3 n40 a2, if_neg (by decide)]
    rintro y rfl
    rw [if_pos (by simp [gI_sI, gI_sJ, gI_sR, gI_sD, gJ_sI, gJ_sJ, gJ_sR, gJ_sD, gR_sI, gR_sJ, gR_sR, gR_sD, gD_sI, gD_sJ, gD_sR, gD_sD])]
    refine ⟨c3, holding_w (by omega) (by omega) (fun s hs => ?_) (by simp only [gI_sI, gI_sJ, gI_sR, gI_sD, gJ_sI, gJ_sJ, gJ_sR, gJ_sD, gR_sI, gR_sJ, gR_sR, gR_sD, gD_sI, gD_sJ, gD_sR, gD_sD]; simpa using hr') (fun h' A' => ?_)⟩
    · simp only [gI_sI, gI_sJ, gI_sR, gI_sD, gJ_sI, gJ_sJ, gJ_sR, gJ_sD, gR_sI, gR_sJ, gR_sR, gR_sD, gD_sI, gD_sJ, gD_sR, gD_sD, Nat.reduceEqDiff, false_and, and_false, true_and, and_true, and_self, reduceIte, if_true, if_false, ite_true, ite_false]
      exact s5.vM (by omega)
    · have A2 : ag (wS [75, 52] [(11, 0)]) h h' := (show ag (wS [75, 52] [(11, 0)]) h (sI (sJ h 75 0 0 v) 11 0 0 0) from (by repeat first | exact ag.rfl | refine ag.sI ?_ rfl | refine ag.sJ ?_ rfl | refine ag.sR ?_ rfl | refine ag.sD ?_ rfl)).trans (A'.mono (wS_mono (by decide) (by decide)))
      have c0 : gI h' 11 0 0 = 0 := by rw [A'.I 11 0 0]; simp [gI_sI, gI_sJ, gI_sR, gI_sD, gJ_sI, gJ_sJ, gJ_sR, gJ_sD, gR_sI, gR_sJ, gR_sR, gR_sD, gD_sI, gD_sJ, gD_sR, gD_sD]
      have o0 : gJ h' 75 0 0 = v := by rw [A'.J 75 0 0]; simp [gI_sI, gI_sJ, gI_sR, gI_sD, gJ_sI, gJ_sJ, gJ_sR, gJ_sD, gR_sI, gR_sJ, gR_sR, gR_sD, gD_sI, gD_sJ, gD_sR, gD_sD]
      have t0 : tvM (sI (sJ h 75 0 0 v) 11 0 0 0) (mM (sI (sJ h 75 0 0 v) 11 0 0 0) m (gI (sI (sJ h 75 0 0 v) 11 0 0 0) 42 0 m)) (t + 1) t = b := by
        have B : ag (wS [75] [(11, 0)]) h (sI (sJ h 75 0 0 v) 11 0 0 0) := (by repeat first | exact ag.rfl | refine ag.sI ?_ rfl | refine ag.sJ ?_ rfl | refine ag.sR ?_ rfl | refine ag.sD ?_ rfl)
        rw [mM_ag B (wS_dis (by decide))]
        rw [B.I 42 0 m, ← (s2' m (by omega)).2.2.2.2.2.1]
        exact hb
      rw [t0]
      have := key b hb h' A2 c0 (by rw [o0, hv])
      cases b
      · exact this
      · exact this
  have xt : bJ x t = tT h m (gI h 2 m 7) t := by rw [hx t (by omega)]; exact s5.tv E _ ht
  have m0 : bit01 (bJ x t) = bit01 (tT h m (gI h 2 m 7) t) := by rw [xt]
  rw [show wp_X10_hasBit_ x (nI t) h = fun Q => Q (bit01 (bJ x t)) from by
    funext Q
    rw [hbJ_w (n := 64) ⟨t, by omega, rfl⟩ (by decide), show cl (nI t) = t from nI_clamp (by omega)]]
  simp only [m0]
  cases b : tT h m (gI h 2 m 7) t
  · rw [if_pos (show bit01 false = 0 from rfl)]
    refine ⟨by simpa using z_in, ?_⟩
    rintro y rfl
    rw [z_cl]
    exact model false b _ rfl
  · rw [if_neg (show ¬ bit01 true = 0 by decide)]
    refine ⟨by simpa using z_in, ?_⟩
    rintro y rfl
    rw [z_cl]
    exact model true b _ rfl
/-! counting mails -/
def ct (f : Nat → Bool) : Nat → Nat
  | 0 => 0
  | n + 1 => ct f n + (if f n = true then 1 else 0)
theorem ct_le (f : Nat → Bool) : ∀ n, ct f n ≤ n := by
  intro n
  induction n with
  | zero => exact Nat.le_refl _
  | succ n ih => simp only [ct]; split <;> omega
theorem ct_ext {f g : Nat → Bool} : ∀ {n : Nat}, (∀ m, m < n → f m = g m) → ct f n = ct g n := by
  intro n
  induction n with
  | zero => intro _; rfl
  | succ n ih => intro h; simp only [ct]; rw [ih (fun m hm => h m (by omega)), h n (by omega)]
def SKF (i : Nat) (K : Int32 → UInt32 → Hp → Prop) : Prop := ∀ r b h, Sim (i + 1) h → gI h 11 0 0 = r → (r = 0 → gD h 76 0 0 = FP.f2d b ∧ vf_n64 (FP.f2d b) ∧ Op.cmpValue (FP.dcmp (FP.f2d b) (FP.f2d b)) .l = 0) → K r b h
def SKD (i : Nat) (K : Int32 → UInt64 → Hp → Prop) : Prop := ∀ r b h, Sim (i + 1) h → gI h 11 0 0 = r → (r = 0 → gD h 76 0 0 = b) → K r b h
theorem gsC {h : Hp} {nm : Nat} {Q : UInt32 → Prop} {Z : String → Prop} (e : gI h 3 0 6 = nI nm) (hn : nm ≤ 40)
    (f : if ct (fun m => decide (gI h 2 m 8 ≠ 0)) nm = 0 then Z "java/lang/ArithmeticException" else Q (FP.fdiv (FP.i2f (nI (ct (fun m => decide (gI h 2 m 9 ≠ 0)) nm))) (FP.i2f (nI (ct (fun m => decide (gI h 2 m 8 ≠ 0)) nm))))) : wp_X10_goneShare h Q Z := by
  unfold wp_X10_goneShare wp_X10_goneShare_b6
  refine LFP3.by (I := fun x y z => ∃ n, n ≤ nm ∧ z = nI n ∧ x = nI (ct (fun m => decide (gI h 2 m 8 ≠ 0)) n) ∧ y = nI (ct (fun m => decide (gI h 2 m 9 ≠ 0)) n)) (μ := fun _ _ z => 40 - z.toNatClampNeg) ⟨0, by omega, rfl, rfl, rfl⟩ ?_
  rintro x y z ⟨n, hn', rfl, rfl, rfl⟩ P hP
  have l1 := ct_le (fun m => decide (gI h 2 m 8 ≠ 0)) n
  have l2 := ct_le (fun m => decide (gI h 2 m 9 ≠ 0)) n
  unfold wp_X10_goneShare_b6F wp_X10_goneShare_b35 wp_X10_goneShare_b53 LET
  by_cases c : n = nm
  · subst c
    rw [e, if_pos (nI_le (Nat.le_refl _) (by omega))]
    by_cases z : ct (fun m => decide (gI h 2 m 8 ≠ 0)) n = 0
    · rw [if_pos z] at f
      rw [z, if_pos (show nI 0 = 0 from rfl)]
      exact f
    · rw [if_neg z] at f
      rw [if_neg (fun q => z (by have := (nI_eq (b := 0) (by omega) (by omega)).mp q; omega))]
      exact ⟨(gs_ok (by omega) (by omega) z).1, f⟩
  · rw [e, if_neg (nI_ge (show n < nm by omega) (by omega))]
    refine ⟨vp_in_nI (by omega) (by decide), ?_⟩
    rw [nI_clamp (by omega)]
    simp only [forall_eq]
    have step : ∀ v w, v = nI (ct (fun m => decide (gI h 2 m 8 ≠ 0)) (n + 1)) → w = nI (ct (fun m => decide (gI h 2 m 9 ≠ 0)) (n + 1)) → P v w (nI n + 1) := fun v w hv hw => hP _ _ _ ⟨n + 1, by omega, nI_1 n, hv, hw⟩ (by rw [nI_1, nI_clamp (by omega), nI_clamp (by omega)]; omega)
    have v40 : vp_in (nI n) 40 := vp_in_nI (by omega) (by decide)
    by_cases a : gI h 2 n 8 = 0 <;> by_cases b : gI h 2 n 9 = 0 <;> simp only [a, b, if_true, if_false, v40, true_and] <;> refine step _ _ ?_ ?_ <;> simp [ct, a, b, nI_1]
theorem gsM {h : Hp} {nm : Nat} {Q : UInt32 → Hp → Prop} (e : gI h 11 0 2 = nI nm) (hn : nm ≤ 40)
    (f : if ct (fun m => decide (gI h 39 0 m ≠ 0)) nm = 0 then Q 0 (sI h 11 0 0 1) else Q (FP.fdiv (FP.i2f (nI (ct (fun m => decide (gI h 39 0 m ≠ 0 ∧ gI h 40 0 m ≠ 0)) nm))) (FP.i2f (nI (ct (fun m => decide (gI h 39 0 m ≠ 0)) nm)))) (sI h 11 0 0 0)) : wp_X11_goneShare h Q := by
  unfold wp_X11_goneShare wp_X11_goneShare_b6
  refine LFP4.by (I := fun x y z h' => h' = h ∧ ∃ n, n ≤ nm ∧ z = nI n ∧ y = nI (ct (fun m => decide (gI h 39 0 m ≠ 0)) n) ∧ x = nI (ct (fun m => decide (gI h 39 0 m ≠ 0 ∧ gI h 40 0 m ≠ 0)) n)) (μ := fun _ _ z _ => 40 - z.toNatClampNeg) ⟨rfl, 0, by omega, rfl, rfl, rfl⟩ ?_
  rintro x y z h' ⟨rfl, n, hn', rfl, rfl, rfl⟩ P hP
  have l1 := ct_le (fun m => decide (gI h' 39 0 m ≠ 0)) n
  have l2 := ct_le (fun m => decide (gI h' 39 0 m ≠ 0 ∧ gI h' 40 0 m ≠ 0)) n
  unfold wp_X11_goneShare_b6F wp_X11_goneShare_b29 wp_X11_goneShare_b54 wp_X11_goneShare_b55 wp_X11_goneShare_b73 LET
  by_cases c : n = nm
  · subst c
    rw [e, if_pos (nI_le (Nat.le_refl _) (by omega))]
    by_cases z : ct (fun m => decide (gI h' 39 0 m ≠ 0)) n = 0
    · rw [if_pos z] at f
      rw [z, if_pos (show nI 0 = 0 from rfl)]
      rintro y rfl
      rw [if_neg (by simp [gI_sI, gI_sJ, gI_sR, gI_sD, gJ_sI, gJ_sJ, gJ_sR, gJ_sD, gR_sI, gR_sJ, gR_sR, gR_sD, gD_sI, gD_sJ, gD_sR, gD_sD])]
      exact f
    · rw [if_neg z] at f
      rw [if_neg (fun q => z (by have := (nI_eq (b := 0) (by omega) (by omega)).mp q; omega))]
      rintro y rfl
      rw [if_pos (by simp [gI_sI, gI_sJ, gI_sR, gI_sD, gJ_sI, gJ_sJ, gJ_sR, gJ_sD, gR_sI, gR_sJ, gR_sR, gR_sD, gD_sI, gD_sJ, gD_sR, gD_sD])]
      exact ⟨(gs_ok (by omega) (by omega) z).1, f⟩
  · rw [e, if_neg (nI_ge (show n < nm by omega) (by omega))]
    refine ⟨vp_in_nI (by omega) (by decide), ?_⟩
    rw [nI_clamp (by omega)]
    simp only [forall_eq]
    have step : ∀ v w, v = nI (ct (fun m => decide (gI h' 39 0 m ≠ 0)) (n + 1)) → w = nI (ct (fun m => decide (gI h' 39 0 m ≠ 0 ∧ gI h' 40 0 m ≠ 0)) (n + 1)) → P w v (nI n + 1) h' := fun v w hv hw => hP _ _ _ _ ⟨rfl, n + 1, by omega, nI_1 n, hv, hw⟩ (by rw [nI_1, nI_clamp (by omega), nI_clamp (by omega)]; omega)
    have v40 : vp_in (nI n) 40 := vp_in_nI (by omega) (by decide)
    by_cases a : gI h' 39 0 n = 0 <;> by_cases b : gI h' 40 0 n = 0 <;> simp only [a, b, if_true, if_false, v40, true_and] <;> refine step _ _ ?_ ?_ <;> simp [ct, a, b, nI_1]
theorem c_goneShare {i : Nat} {h : Hp} (S : Sim i h) {K : Int32 → UInt32 → Hp → Prop} (hK : SKF i K) :
    wp_L_goneShare h (fun r h1 => wp_X11_goneShare h1 (fun b h2 => K r b h2)) := by
  obtain ⟨d, nm, nt, hd, s1, ⟨n40, e1, e2, s2, s2', s2''⟩, s3, s4, s5, s6, s7⟩ := id S
  have x1 : ct (fun m => decide (gI h 2 m 8 ≠ 0)) nm = ct (fun m => decide (gI h 39 0 m ≠ 0)) nm := ct_ext (fun m hm => by rw [(s2' m (by omega)).1])
  have x2 : ct (fun m => decide (gI h 2 m 9 ≠ 0)) nm = ct (fun m => decide (gI h 39 0 m ≠ 0 ∧ gI h 40 0 m ≠ 0)) nm := ct_ext (fun m hm => by
    obtain ⟨q1, q2, q3, q4, q5, -⟩ := s2' m (by omega)
    rw [q2]
    by_cases a : gI h 39 0 m = 0
    · simp [a, q5 a]
    · simp [a])
  have l1 := ct_le (fun m => decide (gI h 39 0 m ≠ 0)) nm
  have l2 := ct_le (fun m => decide (gI h 39 0 m ≠ 0 ∧ gI h 40 0 m ≠ 0)) nm
  unfold wp_L_goneShare
  refine gsC e1 n40 ?_
  rw [x1, x2]
  by_cases z : ct (fun m => decide (gI h 39 0 m ≠ 0)) nm = 0
  · rw [if_pos z, if_pos rfl]
    refine gsM e2 n40 ?_
    rw [if_pos z]
    exact hK 1 0 _ (S.quiet ag.rfl.sI) (by simp [gI_sI, gI_sJ, gI_sR, gI_sD, gJ_sI, gJ_sJ, gJ_sR, gJ_sD, gR_sI, gR_sJ, gR_sR, gR_sD, gD_sI, gD_sJ, gD_sR, gD_sD]) (fun q => by cases q)
  · rw [if_neg z]
    have ok := (gs_ok (n := ct (fun m => decide (gI h 39 0 m ≠ 0 ∧ gI h 40 0 m ≠ 0)) nm) (by omega) (by omega) z).2
    refine ⟨ok, z_in ▸ trivial, ?_⟩
    unfold LET
    rintro y rfl
    refine gsM (nm := nm) (by simp only [gI_sI, gI_sJ, gI_sR, gI_sD, gJ_sI, gJ_sJ, gJ_sR, gJ_sD, gR_sI, gR_sJ, gR_sR, gR_sD, gD_sI, gD_sJ, gD_sR, gD_sD, Nat.reduceEqDiff, false_and, and_false, true_and, and_true, and_self, reduceIte, if_true, if_false, ite_true, ite_false]; exact e2) n40 ?_
    have g : ∀ j k v, gI (sD h 76 0 k v) j = gI h j := fun _ _ _ => rfl
    simp only [g]
    rw [if_neg z]
    refine hK 0 _ _ (S.quiet (by repeat first | exact ag.rfl | refine ag.sI ?_ rfl | refine ag.sJ ?_ rfl | refine ag.sR ?_ rfl | refine ag.sD ?_ rfl)) (by simp [gI_sI, gI_sJ, gI_sR, gI_sD, gJ_sI, gJ_sJ, gJ_sR, gJ_sD, gR_sI, gR_sJ, gR_sR, gR_sD, gD_sI, gD_sJ, gD_sR, gD_sD]) (fun _ => ⟨by simp [gI_sI, gI_sJ, gI_sR, gI_sD, gJ_sI, gJ_sJ, gJ_sR, gJ_sD, gR_sI, gR_sJ, gR_sR, gR_sD, gD_sI, gD_sJ, gD_sR, gD_sD, z_cl], ok, gs_cmp _ (by omega) _ (by omega) z⟩)
theorem msC {h : Hp} {b : Int32} {nm : Nat} {Q : UInt64 → Prop} {Z : String → Prop} (e : gI h 3 0 6 = nI nm) (hn : nm ≤ 40) (hb : inN b 8)
    (f : if ct (fun m => decide (kB h m ∧ gI h 2 m 6 = b)) nm = 0 then Z "java/lang/ArithmeticException" else Q (FP.ddiv (FP.i2d (sz (gB h b) nm)) (FP.i2d (nI (ct (fun m => decide (kB h m ∧ gI h 2 m 6 = b)) nm))))) : wp_X10_meanSize b h Q Z := by
  unfold wp_X10_meanSize wp_X10_meanSize_b10
  rw [rb8_1 hb]
  refine LFP2.by (I := fun x y => ∃ n, n ≤ nm ∧ y = nI n ∧ x = nI (ct (fun m => decide (kB h m ∧ gI h 2 m 6 = b)) n)) (μ := fun _ y => 40 - y.toNatClampNeg) ⟨0, by omega, rfl, rfl⟩ ?_
  rintro x y ⟨n, hn', rfl, rfl⟩ P hP
  have l1 := ct_le (fun m => decide (kB h m ∧ gI h 2 m 6 = b)) n
  unfold wp_X10_meanSize_b10F wp_X10_meanSize_b40 LET
  by_cases c : n = nm
  · subst c
    rw [e, if_pos (nI_le (Nat.le_refl _) (by omega))]
    by_cases z : ct (fun m => decide (kB h m ∧ gI h 2 m 6 = b)) n = 0
    · rw [if_pos z] at f
      rw [z, if_pos (show nI 0 = 0 from rfl)]
      exact f
    · rw [if_neg z] at f
      rw [if_neg (fun q => z (by have := (nI_eq (b := 0) (by omega) (by omega)).mp q; omega))]
      exact sizesIn_w e hn ⟨ms_ok (by omega) z, f⟩
  · rw [e, if_neg (nI_ge (show n < nm by omega) (by omega))]
    refine ⟨vp_in_nI (by omega) (by decide), ?_⟩
    rw [nI_clamp (by omega)]
    simp only [forall_eq]
    have step : ∀ v, v = nI (ct (fun m => decide (kB h m ∧ gI h 2 m 6 = b)) (n + 1)) → P v (nI n + 1) := fun v hv => hP _ _ ⟨n + 1, by omega, nI_1 n, hv⟩ (by rw [nI_1, nI_clamp (by omega), nI_clamp (by omega)]; omega)
    by_cases a : kB h n ∧ gI h 2 n 6 = b
    · rw [lie_1 a, if_neg (by decide)]
      refine step _ ?_
      rw [nI_1]
      simp only [ct, decide_eq_true a, if_true]
    · rw [lie_0 a, if_pos rfl]
      refine step _ ?_
      simp only [ct, decide_eq_false a, Bool.false_eq_true, if_false, Nat.add_zero]
def gN (h : Hp) (b : Int32) (m : Nat) : Int32 := if kM h m ∧ gI h 41 0 m = b then gI h 37 0 m else 0
theorem msM {h : Hp} {b : Int32} {nm : Nat} {Q : UInt64 → Hp → Prop} (e : gI h 11 0 2 = nI nm) (hn : nm ≤ 40)
    (f : inN b 8 → (if ct (fun m => decide (kM h m ∧ gI h 41 0 m = b)) nm = 0 then Q 0 (sI h 11 0 0 2) else Q (FP.ddiv (FP.i2d (sz (gN h b) nm)) (FP.i2d (nI (ct (fun m => decide (kM h m ∧ gI h 41 0 m = b)) nm)))) (sI h 11 0 0 0))) (f' : ¬ inN b 8 → Q 0 (sI h 11 0 0 1)) : wp_X11_meanSize b h Q := by
  unfold wp_X11_meanSize wp_X11_meanSize_b7
  refine LFP4.by (I := fun x y z h' => h' = h ∧ ∃ n, n ≤ nm ∧ z = nI n ∧ x = nI (ct (fun m => decide (kM h m ∧ gI h 41 0 m = b)) n) ∧ y = sz (gN h b) n) (μ := fun _ _ z _ => 40 - z.toNatClampNeg) ⟨rfl, 0, by omega, rfl, rfl, rfl⟩ ?_
  rintro x y z h' ⟨rfl, n, hn', rfl, rfl, rfl⟩ P hP
  have l1 := ct_le (fun m => decide (kM h' m ∧ gI h' 41 0 m = b)) n
  unfold wp_X11_meanSize_b7F wp_X11_meanSize_b32 wp_X11_meanSize_b56 wp_X11_meanSize_b88 LET
  by_cases c : n = nm
  · subst c
    rw [e, if_pos (nI_le (Nat.le_refl _) (by omega))]
    simp only [forall_eq]
    by_cases hb : inN b 8
    · have f := f hb
      rw [i8_1 hb, if_neg (by decide)]
      by_cases z : ct (fun m => decide (kM h' m ∧ gI h' 41 0 m = b)) n = 0
      · rw [if_pos z] at f
        rw [z, if_pos (show nI 0 = 0 from rfl), if_neg (by simp [gI_sI, gI_sJ, gI_sR, gI_sD, gJ_sI, gJ_sJ, gJ_sR, gJ_sD, gR_sI, gR_sJ, gR_sR, gR_sD, gD_sI, gD_sJ, gD_sR, gD_sD])]
        exact f
      · rw [if_neg z] at f
        rw [if_neg (fun q => z (by have := (nI_eq (b := 0) (by omega) (by omega)).mp q; omega)), if_pos (by simp [gI_sI, gI_sJ, gI_sR, gI_sD, gJ_sI, gJ_sJ, gJ_sR, gJ_sD, gR_sI, gR_sJ, gR_sR, gR_sD, gD_sI, gD_sJ, gD_sR, gD_sD])]
        exact ⟨ms_ok (by omega) z, f⟩
    · rw [i8_0 hb, if_pos rfl, if_neg (by simp [gI_sI, gI_sJ, gI_sR, gI_sD, gJ_sI, gJ_sJ, gJ_sR, gJ_sD, gR_sI, gR_sJ, gR_sR, gR_sD, gD_sI, gD_sJ, gD_sR, gD_sD])]
      exact f' hb
  · rw [e, if_neg (nI_ge (show n < nm by omega) (by omega)), nI_clamp (by omega)]
    simp only [forall_eq]
    have step : ∀ v w, v = nI (ct (fun m => decide (kM h' m ∧ gI h' 41 0 m = b)) (n + 1)) → w = sz (gN h' b) (n + 1) → P v w (nI n + 1) h' := fun v w hv hw => hP _ _ _ _ ⟨rfl, n + 1, by omega, nI_1 n, hv, hw⟩ (by rw [nI_1, nI_clamp (by omega), nI_clamp (by omega)]; omega)
    by_cases a : kM h' n ∧ gI h' 41 0 n = b
    · rw [isIn_1 (by omega) a, if_neg (by decide), isIn_1 (by omega) a, if_neg (by decide)]
      refine ⟨vp_in_nI (by omega) (by decide), step _ _ ?_ ?_⟩
      · rw [nI_1]
        simp only [ct, decide_eq_true a, if_true]
      · show _ = sz (gN h' b) n + (if kM h' n ∧ gI h' 41 0 n = b then gI h' 37 0 n else 0)
        rw [if_pos a]
    · rw [isIn_0 (by omega) a, if_pos rfl, isIn_0 (by omega) a, if_pos rfl]
      refine step _ _ ?_ ?_
      · simp only [ct, decide_eq_false a, Bool.false_eq_true, if_false, Nat.add_zero, Int32.add_zero]
      · show _ = sz (gN h' b) n + (if kM h' n ∧ gI h' 41 0 n = b then gI h' 37 0 n else 0)
        rw [if_neg a]
theorem kB_kM {h : Hp} {m : Nat} {b : Int32} (s : SmD h m) : (kB h m ∧ gI h 2 m 6 = b) ↔ (kM h m ∧ gI h 41 0 m = b) := by
  obtain ⟨x1, x2, x3, x4, x5, x6, x7⟩ := s
  simp only [kB, kM, x1, x2]
  refine and_congr_right (fun k => ?_)
  have k1 : gI h 39 0 m = 1 := by rcases x3 with q | q; exact absurd q k.1; exact q
  rw [(x7 k1 k.2).1]
theorem c_meanSize {i : Nat} {h : Hp} (S : Sim i h) (p1 : Int32) {K : Int32 → UInt64 → Hp → Prop} (hK : SKD i K) :
    wp_L_meanSize p1 h (fun r h1 => wp_X11_meanSize p1 h1 (fun b h2 => K r b h2)) := by
  obtain ⟨d, nm, nt, hd, s1, ⟨n40, e1, e2, s2, s2', s2''⟩, s3, s4, s5, s6, s7⟩ := id S
  unfold wp_L_meanSize
  by_cases a1 : inN p1 8
  case neg =>
    unfold wp_X10_meanSize
    rw [rb8_0 a1, if_pos rfl]
    refine msM e2 n40 (fun q => absurd q a1) (fun _ => ?_)
    exact hK 1 0 _ (S.quiet ag.rfl.sI) (by simp [gI_sI, gI_sJ, gI_sR, gI_sD, gJ_sI, gJ_sJ, gJ_sR, gJ_sD, gR_sI, gR_sJ, gR_sR, gR_sD, gD_sI, gD_sJ, gD_sR, gD_sD]) (fun q => by cases q)
  have x1 : ct (fun m => decide (kB h m ∧ gI h 2 m 6 = p1)) nm = ct (fun m => decide (kM h m ∧ gI h 41 0 m = p1)) nm := ct_ext (fun m hm => decide_eq_decide.mpr (kB_kM (s2' m (by omega))))
  have x2 : sz (gB h p1) nm = sz (gN h p1) nm := sz_ext (fun m hm => by
    unfold gB gN
    rw [(s2 m hm).2.2.2.2.2.1]
    simp only [kB_kM (s2' m (by omega))])
  refine msC e1 n40 a1 ?_
  rw [x1, x2]
  by_cases z : ct (fun m => decide (kM h m ∧ gI h 41 0 m = p1)) nm = 0
  · rw [if_pos z, if_neg (by decide), if_pos rfl]
    refine msM e2 n40 (fun _ => ?_) (fun q => absurd a1 q)
    rw [if_pos z]
    exact hK 2 0 _ (S.quiet ag.rfl.sI) (by simp [gI_sI, gI_sJ, gI_sR, gI_sD, gJ_sI, gJ_sJ, gJ_sR, gJ_sD, gR_sI, gR_sJ, gR_sR, gR_sD, gD_sI, gD_sJ, gD_sR, gD_sD]) (fun q => by cases q)
  · rw [if_neg z]
    refine ⟨z_in ▸ trivial, ?_⟩
    unfold LET
    rintro y rfl
    refine msM (nm := nm) (by simp only [gI_sI, gI_sJ, gI_sR, gI_sD, gJ_sI, gJ_sJ, gJ_sR, gJ_sD, gR_sI, gR_sJ, gR_sR, gR_sD, gD_sI, gD_sJ, gD_sR, gD_sD, Nat.reduceEqDiff, false_and, and_false, true_and, and_true, and_self, reduceIte, if_true, if_false, ite_true, ite_false]; exact e2) n40 (fun _ => ?_) (fun q => absurd a1 q)
    have g : ∀ k v, gI (sD h 76 0 k v) = gI h := fun _ _ => rfl
    have g' : ∀ k v, gN (sD h 76 0 k v) = gN h := fun _ _ => rfl
    simp only [kM, g, g']
    rw [if_neg z]
    refine hK 0 _ _ (S.quiet (by repeat first | exact ag.rfl | refine ag.sI ?_ rfl | refine ag.sJ ?_ rfl | refine ag.sR ?_ rfl | refine ag.sD ?_ rfl)) (by simp [gI_sI, gI_sJ, gI_sR, gI_sD, gJ_sI, gJ_sJ, gJ_sR, gJ_sD, gR_sI, gR_sJ, gR_sR, gR_sD, gD_sI, gD_sJ, gD_sR, gD_sD]) (fun _ => by simp [gI_sI, gI_sJ, gI_sR, gI_sD, gJ_sI, gJ_sJ, gJ_sR, gJ_sD, gR_sI, gR_sJ, gR_sR, gR_sD, gD_sI, gD_sJ, gD_sR, gD_sD, z_cl])
