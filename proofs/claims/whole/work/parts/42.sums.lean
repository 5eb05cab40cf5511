/-! what lies in a box -/
def sz (g : Nat → Int32) : Nat → Int32
  | 0 => 0
  | n + 1 => sz g n + g n
theorem sz_ext {g g' : Nat → Int32} {n : Nat} (h : ∀ m, m < n → g m = g' m) : sz g n = sz g' n := by
  induction n with
  | zero => rfl
  | succ n ih => simp only [sz]; rw [ih (fun m hm => h m (by omega)), h n (by omega)]
/-- of the class: is it there, delivered and not gone -/
abbrev kB (h : Hp) (m : Nat) : Prop := gI h 2 m 8 ≠ 0 ∧ gI h 2 m 9 = 0
theorem kept_1 {h : Hp} {m : Nat} {Q : Int32 → Prop} (a : kB h m) : wp_X2_isKept m h Q = Q 1 := by
  unfold wp_X2_isKept
  rw [if_neg a.1, if_pos a.2]
theorem kept_0 {h : Hp} {m : Nat} {Q : Int32 → Prop} (a : ¬ kB h m) : wp_X2_isKept m h Q = Q 0 := by
  unfold wp_X2_isKept
  by_cases b : gI h 2 m 8 = 0
  · rw [if_pos b]
  · rw [if_neg b, if_neg (fun c => a ⟨b, c⟩)]
theorem lie_1 {h : Hp} {m : Nat} {b : Int32} {Q : Int32 → Prop} (a : kB h m ∧ gI h 2 m 6 = b) : wp_X2_liesIn m b h Q = Q 1 := by
  unfold wp_X2_liesIn
  rw [kept_1 a.1]
  simp only [z_10, if_false, a.2, if_true]
theorem lie_0 {h : Hp} {m : Nat} {b : Int32} {Q : Int32 → Prop} (a : ¬ (kB h m ∧ gI h 2 m 6 = b)) : wp_X2_liesIn m b h Q = Q 0 := by
  unfold wp_X2_liesIn
  by_cases c : kB h m
  · rw [kept_1 c]
    simp only [z_10, if_false]
    rw [if_neg (fun e => a ⟨c, e⟩)]
  · rw [kept_0 c]
    simp
theorem loop_le {n N : Nat} (hN : N < 2 ^ 31) (hn : n ≤ N) : (nI N ≤ nI n) ↔ n = N := by
  rw [nI_leI hN (by omega)]
  omega
def gB (h : Hp) (b : Int32) (m : Nat) : Int32 := if kB h m ∧ gI h 2 m 6 = b then gI h 2 m 4 else 0
theorem sizesIn_w {h : Hp} {b : Int32} {nm : Nat} {Q : Int32 → Prop} (e : gI h 3 0 6 = nI nm) (hn : nm ≤ 40) (f : Q (sz (gB h b) nm)) : wp_X3_sizesIn b h Q := by
  unfold wp_X3_sizesIn wp_X3_sizesIn_b4
  refine LFP2.by (I := fun x y => ∃ n, n ≤ nm ∧ y = nI n ∧ x = sz (gB h b) n) (μ := fun _ y => 40 - y.toNatClampNeg) ⟨0, by omega, rfl, rfl⟩ ?_
  rintro x y ⟨n, hn', rfl, rfl⟩ P hP
  unfold wp_X3_sizesIn_b4F wp_X3_sizesIn_b37 LET
  by_cases c : n = nm
  · subst c
    rw [e, if_pos (nI_le (Nat.le_refl _) (by omega))]
    exact f
  · rw [e, if_neg (nI_ge (show n < nm by omega) (by omega))]
    refine ⟨vp_in_nI (by omega) (by decide), ?_⟩
    rw [nI_clamp (by omega)]
    have step : ∀ v, v = sz (gB h b) (n + 1) → P v (nI n + 1) := fun v hv => hP _ _ ⟨n + 1, by omega, nI_1 n, hv⟩ (by rw [nI_1, nI_clamp (by omega), nI_clamp (by omega)]; omega)
    by_cases a : kB h n ∧ gI h 2 n 6 = b
    · rw [lie_1 a]
      simp only [z_10, if_false, forall_eq]
      exact step _ (by simp [sz, gB, a])
    · rw [lie_0 a]
      simp only [if_true, forall_eq]
      exact step _ (by simp [sz, gB, a])
/-- of the model -/
abbrev kM (h : Hp) (m : Nat) : Prop := gI h 39 0 m ≠ 0 ∧ gI h 40 0 m = 0
theorem isIn_1 {h : Hp} {m : Nat} {b : Int32} {Q : Int32 → Prop} (hm : m < 40) (a : kM h m ∧ gI h 41 0 m = b) : wp_X11_isIn (nI m) b h Q = Q 1 := by
  unfold wp_X11_isIn
  rw [nI_clamp (by omega), if_neg a.1.1, if_pos a.1.2, if_pos a.2]
  simp [vp_in_nI (show m < 40 from hm)]
theorem isIn_0 {h : Hp} {m : Nat} {b : Int32} {Q : Int32 → Prop} (hm : m < 40) (a : ¬ (kM h m ∧ gI h 41 0 m = b)) : wp_X11_isIn (nI m) b h Q = Q 0 := by
  unfold wp_X11_isIn
  rw [nI_clamp (by omega)]
  simp only [vp_in_nI (show m < 40 from hm) (by decide), true_and]
  by_cases c : gI h 39 0 m = 0
  · rw [if_pos c]
  · rw [if_neg c]
    by_cases c' : gI h 40 0 m = 0
    · rw [if_pos c', if_neg (fun e => a ⟨⟨c, c'⟩, e⟩)]
    · rw [if_neg c']
def gM (h : Hp) (b but : Int32) (m : Nat) : Int32 := if ¬ nI m = but ∧ kM h m ∧ gI h 41 0 m = b then gI h 37 0 m else 0
theorem filled_w {h : Hp} {b nm : Nat} {but : Int32} {Q : Int32 → Prop} (e : gI h 11 0 2 = nI nm) (hn : nm ≤ 40) (hb : b < 8) (f : Q (gI h 45 0 b + sz (gM h (nI b) but) nm)) : wp_X11_filled (nI b) but h Q := by
  unfold wp_X11_filled wp_X11_filled_b10 LET
  refine ⟨vp_in_nI hb (by decide), ?_⟩
  rintro v rfl
  rw [nI_clamp (by omega)]
  refine LFP2.by (I := fun x y => ∃ n, n ≤ nm ∧ y = nI n ∧ x = gI h 45 0 b + sz (gM h (nI b) but) n) (μ := fun _ y => 40 - y.toNatClampNeg) ⟨0, by omega, rfl, by simp [sz]⟩ ?_
  rintro x y ⟨n, hn', rfl, rfl⟩ P hP
  unfold wp_X11_filled_b10F wp_X11_filled_b46 wp_X11_filled_b47 LET
  by_cases c : n = nm
  · subst c
    rw [e, if_pos (nI_le (Nat.le_refl _) (by omega))]
    exact f
  · rw [e, if_neg (nI_ge (show n < nm by omega) (by omega))]
    rw [nI_clamp (by omega)]
    have step : ∀ v, v = gI h 45 0 b + sz (gM h (nI b) but) (n + 1) → P v (nI n + 1) := fun v hv => hP _ _ ⟨n + 1, by omega, nI_1 n, hv⟩ (by rw [nI_1, nI_clamp (by omega), nI_clamp (by omega)]; omega)
    simp only [forall_eq]
    by_cases d : nI n = but
    · rw [if_pos d]
      exact step _ (by simp [sz, gM, d])
    rw [if_neg d]
    by_cases a : kM h n ∧ gI h 41 0 n = nI b
    · rw [isIn_1 (by omega) a]
      simp only [z_10, if_false]
      exact ⟨vp_in_nI (by omega) (by decide), step _ (by simp [sz, gM, a, d, Int32.add_assoc])⟩
    · rw [isIn_0 (by omega) a]
      simp only [if_true]
      exact step _ (by simp [sz, gM, a])
theorem c_inBox {i : Nat} {h : Hp} (S : Sim i h) (p1 : Int32) {K : Int32 → Int32 → Hp → Prop} (hK : SK i K) :
    wp_L_inBox p1 h (fun r h1 => wp_X11_inBox p1 h1 (fun b h2 => K r b h2)) := by
  unfold wp_L_inBox wp_X10_inBox wp_X11_inBox wp_X11_fails LET
  obtain ⟨d, nm, nt, hd, s1, ⟨n40, e1, e2, s2, s2', s2''⟩, s3, s4, s5, s6, s7⟩ := id S
  by_cases a1 : inN p1 8
  case neg => simp [rb8_0 a1, i8_0 a1]; exact hK.fail S 1 (by decide) (by exact ag.rfl.sI)
  obtain ⟨b, hb, rfl⟩ := id a1
  simp only [rb8_1 a1, i8_1 a1, gI_sI, gI_sJ, gI_sR, gI_sD, gJ_sI, gJ_sJ, gJ_sR, gJ_sD, gR_sI, gR_sJ, gR_sR, gR_sD, gD_sI, gD_sJ, gD_sR, gD_sD, Nat.reduceEqDiff, false_and, and_false, true_and, and_true, and_self, reduceIte, if_true, if_false, ite_true, ite_false, forall_eq, z_10, z_01, z_in, z_cl, z_as]
  refine ⟨vp_in_nI hb (by decide), ?_⟩
  refine sizesIn_w e1 n40 ?_
  rw [nI_clamp (by omega)]
  refine filled_w (nm := nm) (by simp [gI_sI, gI_sJ, gI_sR, gI_sD, gJ_sI, gJ_sJ, gJ_sR, gJ_sD, gR_sI, gR_sJ, gR_sR, gR_sD, gD_sI, gD_sJ, gD_sR, gD_sD, e2]) n40 hb ?_
  refine hK.go (h := h) (wS [75, 76] [(11, 0)]) (by repeat first | exact ag.rfl | refine ag.sI ?_ rfl | refine ag.sJ ?_ rfl | refine ag.sR ?_ rfl | refine ag.sD ?_ rfl) (fun A => S.quiet A) (by simp [gI_sI, gI_sJ, gI_sR, gI_sD, gJ_sI, gJ_sJ, gJ_sR, gJ_sD, gR_sI, gR_sJ, gR_sR, gR_sD, gD_sI, gD_sJ, gD_sR, gD_sD]) (fun _ => ?_)
  simp only [gI_sI, gI_sJ, gI_sR, gI_sD, gJ_sI, gJ_sJ, gJ_sR, gJ_sD, gR_sI, gR_sJ, gR_sR, gR_sD, gD_sI, gD_sJ, gD_sR, gD_sD, Nat.reduceEqDiff, false_and, and_false, true_and, and_true, and_self, reduceIte, if_true, if_false, ite_true, ite_false]
  rw [(s3 b hb).2]
  congr 2
  refine sz_ext (fun m hm => ?_)
  obtain ⟨x1, x2, x3, x4, x5, x6, x7⟩ := s2' m (by omega)
  obtain ⟨-, y1, y2, y3, y4, y5, y6⟩ := s2 m hm
  have z1 : ¬ nI m = -1 := fun q => by
    have := congrArg Int32.toInt q
    rw [nI_toInt (by omega)] at this
    have : (m : Int) = -1 := this
    omega
  unfold gB gM
  simp only [kB, kM, gI_sI, gI_sJ, gI_sR, gI_sD, gJ_sI, gJ_sJ, gJ_sR, gJ_sD, gR_sI, gR_sJ, gR_sR, gR_sD, gD_sI, gD_sJ, gD_sR, gD_sD, Nat.reduceEqDiff, false_and, and_false, true_and, and_true, and_self, reduceIte, if_true, if_false, ite_true, ite_false, x1, x2, y5, z1, not_false_eq_true]
  by_cases k : gI h 39 0 m ≠ 0 ∧ gI h 40 0 m = 0
  · have k1 : gI h 39 0 m = 1 := by rcases x3 with q | q; exact absurd q k.1; exact q
    rw [(x7 k1 k.2).1]
  · simp only [k, gI_sI, gI_sJ, gI_sR, gI_sD, gJ_sI, gJ_sJ, gJ_sR, gJ_sD, gR_sI, gR_sJ, gR_sR, gR_sD, gD_sI, gD_sJ, gD_sR, gD_sD, Nat.reduceEqDiff, false_and, and_false, true_and, and_true, and_self, reduceIte, if_true, if_false, ite_true, ite_false]
