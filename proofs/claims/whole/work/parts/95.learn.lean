/-! learn -/
section
variable {h h1 : Hp} {d nm : Nat} {b : Int32}
theorem none_w {h2 : Hp} {Q : Int32 → Hp → Prop} (f : wp_X11_learn_b200 (-1) (-1) h2 Q) : wp_X11_learn_b80 b 0 (-1) (-1) 0 h2 Q := by
  have out : wp_X11_learn_b124 b 0 (-1) (-1) h2 Q := by
    unfold wp_X11_learn_b124 wp_X11_learn_b127
    refine LFP4.by (I := fun x y z u => u = h2 ∧ x = -1 ∧ y = -1) (μ := fun _ _ _ _ => 0) ⟨rfl, rfl, rfl⟩ ?_
    rintro x y z u ⟨rfl, rfl, rfl⟩ P -
    unfold wp_X11_learn_b127F
    by_cases q : 2 * gI u 11 0 67 ≤ z
    · rw [if_pos q]; exact f
    · rw [if_neg q, if_pos rfl, if_pos rfl]; exact f
  unfold wp_X11_learn_b80
  refine LFP3.by (I := fun x z u => u = h2 ∧ x = -1) (μ := fun _ _ _ => 0) ⟨rfl, rfl⟩ ?_
  rintro x z u ⟨rfl, rfl⟩ P -
  unfold wp_X11_learn_b80F
  by_cases q : 2 * gI u 11 0 67 ≤ z
  · rw [if_pos q]; exact out
  · rw [if_neg q, if_pos rfl, if_pos rfl]; exact out
theorem model_w (s : SMail d nm h) (A1 : ag lX h h1) {Q : Int32 → Hp → Prop}
    (fz : (∀ m, m < nm → lP h b m = false) → ∀ h', MLo h h1 nm (59 + lZ h nm) h' → wp_X11_learn_b200 (-1) (-1) h' Q)
    (f0 : (∃ m, m < nm ∧ lP h b m = true) → (∀ c, c < 2 * (59 + lZ h nm) → ¬ F1 h nm b c) → (∀ c d, c < d → d < 2 * (59 + lZ h nm) → ¬ F2 h nm b c d) → ∀ h', MLo h h1 nm (59 + lZ h nm) h' → wp_X11_learn_b200 (-1) (-1) h' Q)
    (f1 : (∃ m, m < nm ∧ lP h b m = true) → ∀ x y, LFd h nm b (59 + lZ h nm) x y → ∀ h', MLo h h1 nm (59 + lZ h nm) h' → wp_X11_learn_b200 (nI x) (yI id y) h' Q) : wp_X11_learn_b25 b 0 0 h1 Q := by
  obtain ⟨n40, c1, c2, sv, sd, sx⟩ := id s
  have z40 : lZ h nm ≤ 40 := Nat.le_trans (lS_ct 999 (by decide)) n40
  unfold wp_X11_learn_b25
  refine LFP3.by (I := fun x y u => u = h1 ∧ ∃ n, n ≤ nm ∧ y = nI n ∧ ((x = 0 ∧ ∀ m, m < n → lP h b m = false) ∨ (x = 1 ∧ ∃ m, m < n ∧ lP h b m = true))) (μ := fun _ y _ => 40 - y.toNatClampNeg) ⟨rfl, 0, by omega, rfl, Or.inl ⟨rfl, fun m hm => by omega⟩⟩ ?_
  rintro x y u ⟨rfl, n, hn, rfl, w⟩ P hP
  unfold wp_X11_learn_b25F
  rw [show gI u 11 0 2 = nI nm from by rw [A1.I 11 0 2, c2]]
  by_cases c : n = nm
  · subst c
    rw [if_pos (nI_le (Nat.le_refl _) (by omega))]
    refine offers_w s A1 (fun h2 M => ?_)
    rcases w with ⟨rfl, w⟩ | ⟨rfl, w⟩
    · exact none_w (fz w h2 M)
    · exact search_w s (by omega) (Nat.le_refl _) (M.ag A1) M.2.1 M.2.2 (fun a1 a2 => f0 w a1 a2 h2 M) (fun x y F => f1 w x y F h2 M)
  · rw [if_neg (nI_ge (show n < nm by omega) (by omega))]
    have step : ∀ v, ((v = 0 ∧ ∀ m, m < n + 1 → lP h b m = false) ∨ (v = 1 ∧ ∃ m, m < n + 1 ∧ lP h b m = true)) → wp_X11_learn_b61 b (nI n) v u P Q := by
      intro v hv
      unfold wp_X11_learn_b61 LET
      rintro t rfl
      exact hP _ _ _ ⟨rfl, n + 1, by omega, nI_1 n, hv⟩ (by rw [nI_1, nI_clamp (by omega), nI_clamp (by omega)]; omega)
    unfold wp_X11_learn_b56 wp_X11_learn_b60
    rcases w with ⟨rfl, w⟩ | ⟨rfl, m, hm, w⟩
    · rw [if_pos rfl]
      have no : lP h b n = false → wp_X11_learn_b61 b (nI n) 0 u P Q := fun q => step 0 (Or.inl ⟨rfl, fun m hm => by
        by_cases e : m = n
        · subst e; exact q
        · exact w m (by omega)⟩)
      by_cases k : kM h n ∧ gI h 41 0 n = b
      · rw [isIn_1 (by omega) (by unfold kM; rw [A1.I 39 0 n, A1.I 40 0 n, A1.I 41 0 n]; exact k), if_neg z_10.mp]
        refine ⟨vp_in_nI (by omega) (by decide), ?_⟩
        rw [nI_clamp (by omega), A1.I 43 0 n]
        by_cases k4 : gI h 43 0 n = b
        · rw [if_pos k4]
          exact step 1 (Or.inr ⟨rfl, n, by omega, decide_eq_true ⟨k.1, k.2, k4⟩⟩)
        · rw [if_neg k4]
          exact no (decide_eq_false (fun q => k4 q.2.2))
      · rw [isIn_0 (by omega) (by unfold kM; rw [A1.I 39 0 n, A1.I 40 0 n, A1.I 41 0 n]; exact k), if_pos rfl]
        exact no (decide_eq_false (fun q => k ⟨q.1, q.2.1⟩))
    · rw [if_neg z_10.mp]
      exact step 1 (Or.inr ⟨rfl, m, by omega, w⟩)
end
theorem b200_none {h : Hp} {Q : Int32 → Hp → Prop} (f : Q 0 (sI h 11 0 0 2)) : wp_X11_learn_b200 (-1) (-1) h Q := by
  unfold wp_X11_learn_b200 wp_X11_fails LET
  rw [if_pos rfl]
  rintro y rfl
  exact f
theorem parts_w {c : Nat} {h : Hp} {Q : Int32 → Prop} (hc : c < 200) (f : Q (nI (1 + c % 2))) : wp_X11_parts (nI c) h Q := by
  obtain ⟨o1, o2⟩ := half_ok c hc
  unfold wp_X11_parts
  rw [if_neg (nI_m1 (by omega)), o1, o2, Int32.add_comm, nI_1, Nat.add_comm]
  exact f
theorem nI_plus (a b : Nat) : nI a + nI b = nI (a + b) := by
  induction b with
  | zero => rw [show nI 0 = (0 : Int32) from rfl, Int32.add_zero]; rfl
  | succ b ih => rw [← nI_1, ← Int32.add_assoc, ih, nI_1]; rfl
def s39 (nt x : Nat) : Option Nat → Nat
  | none => nt + 1 + x % 2
  | some e => nt + 1 + x % 2 + (1 + e % 2)
def t39 : Option Nat → Int32
  | none => 0
  | some _ => 1
def fW : Nat → Nat → Bool := wS [29, 30, 31, 32, 73, 74, 75, 76] [(1, 5), (1, 6), (1, 7), (1, 8), (1, 9), (11, 0), (11, 67)]
theorem c_learn {i : Nat} {h : Hp} (S : Sim i h) (p1 : Int32) {K : Int32 → Int32 → Hp → Prop} (hK : SK i K) :
    wp_L_learn p1 h (fun r h1 => wp_X11_learn p1 h1 (fun b h2 => K r b h2)) := by
  unfold wp_L_learn wp_X10_learn
  obtain ⟨d, nm, nt, hd, s1, s2, s3, s4, s5, s6, s7⟩ := id S
  obtain ⟨n60, u1, u2, u3, u4⟩ := id s5
  have z40 : lZ h nm ≤ 40 := Nat.le_trans (lS_ct 999 (by decide)) s2.1
  by_cases a1 : inN p1 8
  case neg =>
    rw [rb8_0 a1]
    simp only [gI_sI, gI_sJ, gI_sR, gI_sD, gJ_sI, gJ_sJ, gJ_sR, gJ_sD, gR_sI, gR_sJ, gR_sR, gR_sD, gD_sI, gD_sJ, gD_sR, gD_sD, Nat.reduceEqDiff, false_and, and_false, true_and, and_true, and_self, reduceIte, if_true, if_false, ite_true, ite_false, forall_eq, z_10, z_01, z_in, z_cl, z_as, String.reduceEq]
    unfold wp_X11_learn wp_X11_fails LET
    simp [i8_0 a1]
    exact hK.fail S 1 (by decide) (by exact ag.rfl.sI)
  rw [rb8_1 a1]
  have bad : ∀ (r : Int32) (h' h2 : Hp), ag fW h h' → ag oW (sI h' 11 0 0 0) h2 → r ≠ 0 → K r 0 (sI h2 11 0 0 r) := by
    intro r h' h2 A A2 r0
    exact hK.go (h := h) fW (((A.sI rfl).trans (A2.mono (wS_mono (by decide) (by decide)))).sI rfl) (fun C => (S.stay C (wS_dis (by decide))).mono (by omega)) (by simp only [gI_sI, gI_sJ, gI_sR, gI_sD, gJ_sI, gJ_sJ, gJ_sR, gJ_sD, gR_sI, gR_sJ, gR_sR, gR_sD, gD_sI, gD_sJ, gD_sR, gD_sD, Nat.reduceEqDiff, false_and, and_false, true_and, and_true, and_self, reduceIte, if_true, if_false, ite_true, ite_false]) (fun q => absurd q r0)
  have start : ∀ (r : Int32) (h' : Hp), wp_X11_learn_b25 p1 0 0 (sI h' 11 0 0 0) (fun b h2 => K r b h2) → wp_X11_learn p1 h' (fun b h2 => K r b h2) := by
    intro r h' f
    unfold wp_X11_learn LET
    rintro y rfl
    rw [i8_1 a1, if_neg z_10.mp]
    exact f
  refine finds_w s2 a1 (fun no h' A => ?_) (fun hp no no2 h' A => ?_) (fun hp x y F h' L e8 e9 => ?_)
  · rw [if_pos rfl]
    simp only [gI_sI, gI_sJ, gI_sR, gI_sD, gJ_sI, gJ_sJ, gJ_sR, gJ_sD, gR_sI, gR_sJ, gR_sR, gR_sD, gD_sI, gD_sJ, gD_sR, gD_sD, Nat.reduceEqDiff, false_and, and_false, true_and, and_true, and_self, reduceIte, if_true, if_false, ite_true, ite_false, forall_eq, z_10, z_01, z_in, z_cl, z_as, String.reduceEq]
    refine start 2 h' (model_w s2 ((A.mono (wS_mono (by decide) (by decide))).sI rfl) (fun _ h2 M => ?_) (fun hp => ?_) (fun hp => ?_))
    · exact b200_none (bad 2 h' h2 (A.mono (wS_mono (by decide) (by decide))) M.1 (by decide))
    · obtain ⟨m, hm, p⟩ := hp
      rw [no m hm] at p; cases p
    · obtain ⟨m, hm, p⟩ := hp
      rw [no m hm] at p; cases p
  · rw [if_pos rfl]
    simp only [gI_sI, gI_sJ, gI_sR, gI_sD, gJ_sI, gJ_sJ, gJ_sR, gJ_sD, gR_sI, gR_sJ, gR_sR, gR_sD, gD_sI, gD_sJ, gD_sR, gD_sD, Nat.reduceEqDiff, false_and, and_false, true_and, and_true, and_self, reduceIte, if_true, if_false, ite_true, ite_false, forall_eq, z_10, z_01, z_in, z_cl, z_as, String.reduceEq]
    refine start 2 h' (model_w s2 ((A.mono (wS_mono (by decide) (by decide))).sI rfl) (fun nz => ?_) (fun _ _ _ h2 M => ?_) (fun _ x y F => ?_))
    · obtain ⟨m, hm, p⟩ := hp
      rw [nz m hm] at p; cases p
    · exact b200_none (bad 2 h' h2 (A.mono (wS_mono (by decide) (by decide))) M.1 (by decide))
    · obtain ⟨hx, F⟩ := F
      cases y with
      | none => exact absurd F.1 (no x hx)
      | some e => exact absurd F.2.2.2.1 (no2 x e F.2.1 F.2.2.1)
  · rw [if_neg z_10.mp]
    refine need_w (by omega) F hp L e8 e9 ?_
    have x200 : x < 200 := by have := F.1; omega
    have y200 : ∀ e, y = some e → e < 200 := fun e q => by subst q; have := F.2.2.2.1; omega
    have A := L.1
    have model : ∀ (r : Int32) (h2 : Hp), ag lX h h2 → (∀ h3, MLo h (sI h2 11 0 0 0) nm (59 + lZ h nm) h3 → wp_X11_learn_b239 (nI x) (yI id y) (nI (s39 nt x y)) (t39 y) h3 (fun b h2 => K r b h2)) → wp_X11_learn p1 h2 (fun b h2 => K r b h2) := by
      intro r h2 A2 f
      refine start r h2 (model_w s2 (A2.sI rfl) (fun nz => ?_) (fun _ q1 q2 => ?_) (fun _ x' y' G h3 M => ?_))
      · obtain ⟨m, hm, p⟩ := hp
        rw [nz m hm] at p; cases p
      · obtain ⟨hx, F⟩ := F
        cases y with
        | none => exact absurd F.1 (q1 x hx)
        | some e => exact absurd F.2.2.2.1 (q2 x e F.2.1 F.2.2.1)
      · obtain ⟨rfl, rfl⟩ := LFd_u F G
        have g := f h3 M
        have e19 : gI h3 11 0 19 = nI nt := by rw [(M.ag (A2.sI rfl)).I 11 0 19, u2]
        unfold wp_X11_learn_b200
        rw [if_neg (nI_m1 (by omega))]
        refine parts_w x200 ?_
        rw [e19]
        cases y with
        | none =>
          unfold wp_X11_parts
          rw [if_pos (show yI id none = -1 from rfl)]
          dsimp only
          rw [if_pos (show yI id none = -1 from rfl), nI_plus, Int32.add_zero, ← Nat.add_assoc]
          exact g
        | some e =>
          have e200 := y200 e rfl
          refine parts_w e200 ?_
          rw [if_neg (show ¬ yI id (some e) = -1 from nI_m1 (c := e) (by omega)), nI_plus, nI_plus, ← Nat.add_assoc nt]
          exact g
    have sum : nI (s39 nt x y) + t39 y = nI (nt + need3 x y) := by
      cases y with
      | none => simp only [need3, s39, t39, Int32.add_zero]; rw [Nat.add_assoc]
      | some e => simp only [need3, s39, t39]; rw [nI_1, show nt + 1 + x % 2 + (1 + e % 2) + 1 = nt + (1 + x % 2 + 1 + e % 2 + 1) by omega]
    have nd : need3 x y < 10 := by cases y <;> simp only [need3] <;> omega
    unfold wp_X10_requireRoomForTests
    rw [A.I 9 0 4, u1, nI_plus]
    by_cases room : nt + need3 x y ≤ 60
    · rw [if_pos (show nI (nt + need3 x y) ≤ (60 : Int32) from nI_le (b := 60) room (by decide))]
      have C0 : CS nt (fun t => (gI h 12 0 t, gI h 13 0 t, gI h 14 0 t)) h' := ⟨s5.ct.ag A (wS_dis (by decide)), fun t ht => by rw [A.I 12 0 t, A.I 13 0 t, A.I 14 0 t]; exact ⟨rfl, rfl, rfl⟩⟩
      refine write_w (by omega) (Nat.le_refl _) F hp L e8 e9 C0 room (fun h2 C A2 => ?_)
      refine ⟨by simp only [z_in], ?_⟩
      rintro v rfl
      have A3 : ag lX h (sJ h2 75 0 (0 : Int32).toNatClampNeg (nI (nt + need3 x y - 1)).toInt64) := ((A.mono (wS_mono (by decide) (by decide))).trans (A2.mono (wS_mono (by decide) (by decide)))).sJ rfl
      refine model 0 _ A3 (fun h3 M => ?_)
      have B := M.ag (A3.sI rfl)
      have M0 : MT nt (fun t => (gI h 12 0 t, gI h 13 0 t, gI h 14 0 t)) h3 := ⟨by rw [B.I 11 0 19, u2], fun t ht => by
        obtain ⟨x1, x2, x3, -⟩ := u3 t ht
        rw [B.I 49 0 t, B.I 50 0 t, B.I 51 0 t]
        exact ⟨x1.symm, x2.symm, x3.symm⟩⟩
      unfold wp_X11_learn_b239
      rw [sum, if_pos (show nI (nt + need3 x y) ≤ (60 : Int32) from nI_le (b := 60) room (by decide))]
      have mo := M.1
      have last : ∀ h4, MT (nt + need3 x y) (all3 h nm (fun t => (gI h 12 0 t, gI h 13 0 t, gI h 14 0 t)) nt x y) h4 → ag tW h3 h4 → K 0 (nI (nt + need3 x y - 1)) h4 := by
        intro h4 T A4
        have A5 : ag (wS [49, 50, 51, 73, 74] [(11, 0), (11, 19), (11, 67)]) (sJ h2 75 0 (0 : Int32).toNatClampNeg (nI (nt + need3 x y - 1)).toInt64) h4 := ((ag.rfl.sI rfl).trans (mo.mono (wS_mono (by decide) (by decide)))).trans (A4.mono (wS_mono (by decide) (by decide)))
        have CTn : CT (nt + need3 x y) h4 := (show CT (nt + need3 x y) (sJ h2 75 0 (0 : Int32).toNatClampNeg (nI (nt + need3 x y - 1)).toInt64) from C.1.ag (W := wS [75] []) (ag.rfl.sJ rfl) (wS_dis (by decide))).ag A5 (wS_dis (by decide))
        refine hK.go (h := h) (wS [12, 13, 14, 29, 30, 31, 32, 49, 50, 51, 73, 74, 75, 76] [(1, 5), (1, 6), (1, 7), (1, 8), (1, 9), (9, 3), (9, 4), (11, 0), (11, 19), (11, 67)]) ((A3.mono (wS_mono (by decide) (by decide))).trans (A5.mono (wS_mono (by decide) (by decide)))) (fun D => ⟨d, nm, nt + need3 x y, by omega, s1.ag D (wS_dis (by decide)), s2.ag D (wS_dis (by decide)), s3.ag D (wS_dis (by decide)), (s4.mono (by omega) (by omega)).ag D (wS_dis (by decide)), ?_, (s6.mono (by omega)).ag D (wS_dis (by decide)), s7.ag D (wS_dis (by decide))⟩) ?_ (fun _ => ?_)
        · refine STest.of CTn T.1 (fun t ht => ?_)
          obtain ⟨y1, y2, y3⟩ := C.2 t ht
          obtain ⟨z1, z2, z3⟩ := T.2 t ht
          rw [A5.I 12 0 t, A5.I 13 0 t, A5.I 14 0 t, z1, z2, z3]
          exact ⟨y1, y2, y3⟩
        · rw [A4.I 11 0 0, mo.I 11 0 0]; simp only [gI_sI, gI_sJ, gI_sR, gI_sD, gJ_sI, gJ_sJ, gJ_sR, gJ_sD, gR_sI, gR_sJ, gR_sR, gR_sD, gD_sI, gD_sJ, gD_sR, gD_sD, Nat.reduceEqDiff, false_and, and_false, true_and, and_true, and_self, reduceIte, if_true, if_false, ite_true, ite_false]
        · rw [A5.J 75 0 0]; simp only [z_cl, gI_sI, gI_sJ, gI_sR, gI_sD, gJ_sI, gJ_sJ, gJ_sR, gJ_sD, gR_sI, gR_sJ, gR_sR, gR_sD, gD_sI, gD_sJ, gD_sR, gD_sD, Nat.reduceEqDiff, false_and, and_false, true_and, and_true, and_self, reduceIte, if_true, if_false, ite_true, ite_false]
      have k1 := M.2.2 (x / 2) (by have := F.1; omega)
      refine partM (h0 := h) (nm := nm) (by cases y <;> simp only [need3] at room <;> omega) M0 (by have := F.1; omega) x200 k1.1 k1.2 (fun h4 T4 A4 => ?_)
      cases y with
      | none =>
        rw [if_pos (show yI id none = -1 from rfl)]
        have g := last h4
        simp only [need3, all3] at g
        rw [show nt + (1 + x % 2) = nt + 1 + x % 2 by omega, show nt + 1 + x % 2 - 1 = nt + x % 2 by omega] at g
        exact g T4 A4
      | some e =>
        have e200 := y200 e rfl
        have he := F.2.2.2.1
        simp only [need3] at room
        rw [if_neg (show ¬ yI id (some e) = -1 from nI_m1 (c := e) (by omega))]
        have k2 := M.2.2 (e / 2) (by omega)
        refine partM (h0 := h) (nm := nm) (c := e) (by omega) T4 (by omega) e200 (by rw [A4.I 73 0 (e / 2)]; exact k2.1) (by rw [A4.I 74 0 (e / 2)]; exact k2.2) (fun h5 T5 A5 => ?_)
        refine appM (by omega) T5 (by decide) (fun h6 T6 A6 => ?_)
        have g := last h6
        simp only [need3, all3] at g
        rw [show nt + (1 + x % 2 + 1 + e % 2 + 1) = nt + 1 + x % 2 + 1 + e % 2 + 1 by omega, show nt + 1 + x % 2 + 1 + e % 2 + 1 - 1 = nt + 1 + x % 2 + 1 + e % 2 by omega] at g
        exact g T6 ((A4.trans A5).trans A6)
    · have nr : ¬ nI (nt + need3 x y) ≤ (60 : Int32) := nI_ge (b := nt + need3 x y) (a := 60) (by omega) (by omega)
      rw [if_neg nr]
      simp only [gI_sI, gI_sJ, gI_sR, gI_sD, gJ_sI, gJ_sJ, gJ_sR, gJ_sD, gR_sI, gR_sJ, gR_sR, gR_sD, gD_sI, gD_sJ, gD_sR, gD_sD, Nat.reduceEqDiff, false_and, and_false, true_and, and_true, and_self, reduceIte, if_true, if_false, ite_true, ite_false, forall_eq, z_10, z_01, z_in, z_cl, z_as, String.reduceEq]
      refine model 3 h' (A.mono (wS_mono (by decide) (by decide))) (fun h3 M => ?_)
      unfold wp_X11_learn_b239 wp_X11_fails LET
      rw [sum, if_neg nr]
      rintro v rfl
      exact bad 3 h' h3 (A.mono (wS_mono (by decide) (by decide))) M.1 (by decide)
