/-! taking up what follows -/
section
variable {h0 : Hp} {nt ac : Nat} {as : Nat → Nat}
def SO (h0 : Hp) (as : Nat → Nat) (ac : Nat) (H F : Int64) (M : Nat → Int32) : Prop := VM M ∧ ∀ i p, i < ac → pb H F p (as i) = true → cvh h0 M (as i) p = true
def ONLY (as : Nat → Nat) (ac : Nat) (H F : Int64) : Prop := ∀ q x, pb H F q x = true → isA as ac x
/-- all that stands once nothing more follows -/
def FULL (h0 : Hp) (as : Nat → Nat) (ac : Nat) (h : Hp) : Prop :=
  SSh (gI h 8 0) ∧ SEn (gI h 8 0) ∧ (∃ M, VM M ∧ InSk (gI h 8 0) M) ∧ (∀ i p, i < ac → pb (gJ h 4 0 4) (gJ h 4 0 5) p (as i) = true → skK (gI h0 12 0 (as i)) → SkF (gI h 8 0) (gI h0 12 0 (as i)) (gI h0 13 0 (as i)) p)
  ∧ WGH h0 as ac (gJ h 4 0 4) (gJ h 4 0 5) (gI h 8 0) (gJ h 4 0 6) (gJ h 4 0 7) (gJ h 4 0 8) (gJ h 4 0 9) ∧ (∀ i, i < ac → CLO h0 (gJ h 4 0 4) (gJ h 4 0 5) (as i)) ∧ (∀ q i, i < ac → pb (gJ h 4 0 4) (gJ h 4 0 5) q (as i) = true → pb (gJ h 4 0 6) (gJ h 4 0 7) q (as i) = true)
def nbits (H F : Int64) : Nat := ct (bJ H) 60 + ct (bJ F) 60
theorem cut_bits {x y : Int64} (h : x &&& (y ^^^ (-1)) = 0) {t : Nat} (ht : t < 64) (e : bJ x t = true) : bJ y t = true := by
  have : bJ (x &&& (y ^^^ (-1))) t = false := by rw [h, bJ_0]
  rw [bJ_andn ht, e] at this
  simpa using this
theorem cut_zero {x y : Int64} (h : ∀ t, t < 64 → bJ x t = true → bJ y t = true) : x &&& (y ^^^ (-1)) = 0 := bJ_ext (fun t ht => by
  rw [bJ_andn ht, bJ_0]
  cases e : bJ x t
  · rfl
  · rw [h t ht e]; rfl)
theorem grow {x y : Int64} (hm : ∀ t, bJ x t = true → bJ y t = true) (h60 : ∀ t, bJ y t = true → t < 60) (e : y ≠ x) : ct (bJ x) 60 < ct (bJ y) 60 := by
  have : ∃ t, t < 64 ∧ bJ x t = false ∧ bJ y t = true := by
    refine Classical.byContradiction (fun q => e (bJ_ext (fun t ht => ?_)))
    cases a : bJ x t
    · cases b : bJ y t
      · rfl
      · exact absurd ⟨t, ht, a, b⟩ q
    · rw [hm t a]
  obtain ⟨t, _, a, b⟩ := this
  exact ct_lt 60 (fun i _ => hm i) t (h60 t b) a b
theorem fo_w {p0 p1 : Int64} {h : Hp} {Q : Int32 → Hp → Prop} (T : TT h0 nt) (K : AK (gI h0 12 0) (gI h0 13 0) (gI h0 14 0) nt as ac) (a : AH h0 as ac h) (o : ONLY as ac p0 p1)
    (f0 : ∀ h', AH h0 as ac h' → (¬ ∃ M, SO h0 as ac p0 p1 M) → Q 0 h')
    (f1 : ∀ h', AH h0 as ac h' → (∀ q x, pb p0 p1 q x = true → pb (gJ h' 4 0 4) (gJ h' 4 0 5) q x = true) → ONLY as ac (gJ h' 4 0 4) (gJ h' 4 0 5) → (∀ M, SO h0 as ac p0 p1 M → SO h0 as ac (gJ h' 4 0 4) (gJ h' 4 0 5) M) → FULL h0 as ac h' → Q 1 h') : wp_X4_follow p0 p1 h Q := by
  have K' := K
  obtain ⟨k60, k1, k2, k3⟩ := K'
  have n60 := T.1.1
  unfold wp_X4_follow LET wp_X4_follow_b16
  simp only [forall_eq]
  refine LFP3.by (I := fun x y h1 => ∃ g n, x = bit01 g ∧ y = nI n ∧ n ≤ 121 ∧ AH h0 as ac h1 ∧ (∀ q x, pb p0 p1 q x = true → pb (gJ h1 4 0 4) (gJ h1 4 0 5) q x = true) ∧ ONLY as ac (gJ h1 4 0 4) (gJ h1 4 0 5) ∧ (∀ M, SO h0 as ac p0 p1 M → SO h0 as ac (gJ h1 4 0 4) (gJ h1 4 0 5) M) ∧ (g = true → n ≤ nbits (gJ h1 4 0 4) (gJ h1 4 0 5)) ∧ (g = false → FULL h0 as ac h1)) (μ := fun _ y _ => 122 - y.toNatClampNeg)
    ⟨true, 0, rfl, rfl, by omega, a.ag (by exact (by repeat first | exact ag.rfl | refine ag.sI ?_ rfl | refine ag.sJ ?_ rfl | refine ag.sR ?_ rfl | refine ag.sD ?_ rfl)), ?_, ?_, ?_, fun _ => by omega, fun q => by cases q⟩ ?_
  · intro q x e; simpa [gI_sI, gI_sJ, gI_sR, gI_sD, gJ_sI, gJ_sJ, gJ_sR, gJ_sD, gR_sI, gR_sJ, gR_sR, gR_sD, gD_sI, gD_sJ, gD_sR, gD_sD] using e
  · simp only [gI_sI, gI_sJ, gI_sR, gI_sD, gJ_sI, gJ_sJ, gJ_sR, gJ_sD, gR_sI, gR_sJ, gR_sR, gR_sD, gD_sI, gD_sJ, gD_sR, gD_sD, Nat.reduceEqDiff, false_and, and_false, true_and, and_true, and_self, reduceIte, if_true, if_false, ite_true, ite_false]; exact o
  · simp only [gI_sI, gI_sJ, gI_sR, gI_sD, gJ_sI, gJ_sJ, gJ_sR, gJ_sD, gR_sI, gR_sJ, gR_sR, gR_sD, gD_sI, gD_sJ, gD_sR, gD_sD, Nat.reduceEqDiff, false_and, and_false, true_and, and_true, and_self, reduceIte, if_true, if_false, ite_true, ite_false]; exact fun M s => s
  rintro x y h1 ⟨g, n, rfl, rfl, hn, A1, mono, only, sol, big, full⟩ P hP
  unfold wp_X4_follow_b16F LET
  cases g
  · rw [if_pos (show bit01 false = 0 from rfl)]
    exact f1 h1 A1 mono only sol (full rfl)
  rw [if_neg (show ¬ bit01 true = 0 by decide)]
  have big := big rfl
  have c120 : nbits (gJ h1 4 0 4) (gJ h1 4 0 5) ≤ 120 := by
    have := ct_le (bJ (gJ h1 4 0 4)) 60
    have := ct_le (bJ (gJ h1 4 0 5)) 60
    unfold nbits
    omega
  rw [if_neg (show ¬ (120 : Int32) < nI n from nI_nlt (a := 120) (show n ≤ 120 by omega) (by omega))]
  refine draw_w T.1 K A1 (fun h3 A3 S3 D3 I3 => ?_)
  have e34 : gJ h3 4 0 4 = gJ h1 4 0 4 := A3.J 4 0 4
  have e35 : gJ h3 4 0 5 = gJ h1 4 0 5 := A3.J 4 0 5
  have insk : ∀ M, SO h0 as ac (gJ h1 4 0 4) (gJ h1 4 0 5) M → InSk (gI h3 8 0) M := fun M s => I3 M s.1 (fun i p hi q sk => by
    have c := s.2 i p hi q
    rw [show cvh h0 M (as i) p = _ from cv_lf T.1 (k1 i hi) (skK_nmk sk) p, if_neg (fun q => by rw [q] at sk; unfold skK at sk; revert sk; decide)] at c
    simpa using c)
  refine hm_w S3 (fun h5 A5 S5 E5 same ex => ?_) (fun h5 A5 none => ?_)
  case refine_2 =>
    rw [if_pos rfl]
    refine f0 h5 ((A1.ag (A3.mono (wS_mono (by decide) (by decide)))).ag (A5.mono (wS_mono (by decide) (by decide)))) (fun ⟨M, s⟩ => ?_)
    have := sol M s
    exact none M this.1 (insk M this)
  rw [if_neg (by decide)]
  have B5 : AH h0 as ac h5 := (A1.ag (A3.mono (wS_mono (by decide) (by decide)))).ag (A5.mono (wS_mono (by decide) (by decide)))
  have e54 : gJ h5 4 0 4 = gJ h1 4 0 4 := by rw [A5.J 4 0 4, e34]
  have e55 : gJ h5 4 0 5 = gJ h1 4 0 5 := by rw [A5.J 4 0 5, e35]
  have insk5 : ∀ M, InSk (gI h3 8 0) M → InSk (gI h5 8 0) M := fun M s => by
    unfold InSk at s ⊢
    rw [same 0 (by decide) (by decide), same 1 (by decide) (by decide), same 2 (by decide) (by decide), same 3 (by decide) (by decide), same 4 (by decide) (by decide), same 5 (by decide) (by decide), same 6 (by decide) (by decide), same 7 (by decide) (by decide), same 10 (by decide) (by decide), same 11 (by decide) (by decide), same 12 (by decide) (by decide), same 13 (by decide) (by decide)]
    exact s
  have D5 : ∀ i p, i < ac → pb (gJ h1 4 0 4) (gJ h1 4 0 5) p (as i) = true → skK (gI h0 12 0 (as i)) → SkF (gI h5 8 0) (gI h0 12 0 (as i)) (gI h0 13 0 (as i)) p := fun i p hi q s => by
    have := D3 i p hi q s
    unfold SkF at this ⊢
    rw [same 0 (by decide) (by decide), same 1 (by decide) (by decide), same 2 (by decide) (by decide), same 3 (by decide) (by decide), same 4 (by decide) (by decide), same 5 (by decide) (by decide), same 6 (by decide) (by decide), same 7 (by decide) (by decide), same 10 (by decide) (by decide), same 11 (by decide) (by decide), same 12 (by decide) (by decide), same 13 (by decide) (by decide)]
    exact this
  refine weigh_w T.1 K B5 S5 (fun h7 A7 W7 => ?_)
  rw [e54, e55] at W7
  have B7 : AH h0 as ac h7 := B5.ag (A7.mono (wS_mono (by decide) (by decide)))
  have e74 : gJ h7 4 0 4 = gJ h1 4 0 4 := by rw [A7.J 4 0 4, e54]
  have e75 : gJ h7 4 0 5 = gJ h1 4 0 5 := by rw [A7.J 4 0 5, e55]
  have e78 : gI h7 8 0 = gI h5 8 0 := funext (fun k => A7.I 8 0 k)
  have may : ∀ M, SO h0 as ac (gJ h1 4 0 4) (gJ h1 4 0 5) M → ∀ i, i < ac → ∀ p, cvh h0 M (as i) p = true → pb (gJ h7 4 0 6) (gJ h7 4 0 7) p (as i) = true := fun M s => may_sol T K W7 S5 E5 s.1 (insk5 M (insk M s)) s.2
  have nosol : ∀ q x, x < 64 → pb (gJ h1 4 0 4) (gJ h1 4 0 5) q x = true → pb (gJ h7 4 0 6) (gJ h7 4 0 7) q x = false → ¬ ∃ M, SO h0 as ac p0 p1 M := fun q x _ e1 e2 ⟨M, s⟩ => by
    obtain ⟨i, hi, rfl⟩ := only q x e1
    have s' := sol M s
    rw [may M s' i hi q (s'.2 i q hi e1)] at e2
    cases e2
  rw [e74, e75]
  by_cases ch : gJ h1 4 0 4 &&& (gJ h7 4 0 6 ^^^ (-1)) = 0
  case neg =>
    rw [if_neg ch]
    refine f0 h7 B7 ?_
    have : ∃ t, t < 64 ∧ bJ (gJ h1 4 0 4) t = true ∧ bJ (gJ h7 4 0 6) t = false := by
      refine Classical.byContradiction (fun q => ch (cut_zero (fun t ht e => ?_)))
      cases b : bJ (gJ h7 4 0 6) t
      · exact absurd ⟨t, ht, e, b⟩ q
      · rfl
    obtain ⟨t, ht, b1, b2⟩ := this
    exact nosol true t ht b1 b2
  rw [if_pos ch]
  by_cases cf : gJ h1 4 0 5 &&& (gJ h7 4 0 7 ^^^ (-1)) = 0
  case neg =>
    rw [if_neg cf]
    refine f0 h7 B7 ?_
    have : ∃ t, t < 64 ∧ bJ (gJ h1 4 0 5) t = true ∧ bJ (gJ h7 4 0 7) t = false := by
      refine Classical.byContradiction (fun q => cf (cut_zero (fun t ht e => ?_)))
      cases b : bJ (gJ h7 4 0 7) t
      · exact absurd ⟨t, ht, e, b⟩ q
      · rfl
    obtain ⟨t, ht, b1, b2⟩ := this
    exact nosol false t ht b1 b2
  rw [if_pos cf]
  refine hand_w T K B7 (fun r h9 A9 m9 o9 c9 s9 r9 => ?_)
  rw [e74, e75] at m9 o9 s9 r9
  have B9 : AH h0 as ac h9 := B7.ag (A9.mono (wS_mono (by decide) (by decide)))
  have only9 : ONLY as ac (gJ h9 4 0 4) (gJ h9 4 0 5) := fun q x e => by
    rcases o9 q x e with e | e
    · exact only q x e
    · exact e
  have sol9 : ∀ M, SO h0 as ac p0 p1 M → SO h0 as ac (gJ h9 4 0 4) (gJ h9 4 0 5) M := fun M s => by
    have s' := sol M s
    exact ⟨s'.1, fun i p hi e => s9 M (fun i p hi c => may M s' i hi p c) (fun q i hi e => s'.2 i q hi e) p i hi e⟩
  simp only [forall_eq]
  rcases r9 with ⟨rfl, z1, z2⟩ | ⟨rfl, z⟩
  · rw [nI_1]
    refine hP _ _ _ ⟨false, n + 1, rfl, rfl, by omega, B9, fun q x e => m9 q x (mono q x e), only9, sol9, fun q => (by cases q), fun _ => ?_⟩ (by rw [nI_clamp (by omega), nI_clamp (by omega)]; omega)
    have e98 : gI h9 8 0 = gI h5 8 0 := by rw [← e78]; exact funext (fun k => A9.I 8 0 k)
    have e96 : gJ h9 4 0 6 = gJ h7 4 0 6 := A9.J 4 0 6
    have e97 : gJ h9 4 0 7 = gJ h7 4 0 7 := A9.J 4 0 7
    have e988 : gJ h9 4 0 8 = gJ h7 4 0 8 := A9.J 4 0 8
    have e99 : gJ h9 4 0 9 = gJ h7 4 0 9 := A9.J 4 0 9
    unfold FULL
    rw [e98, e96, e97, e988, e99, z1, z2]
    rw [z1, z2] at c9
    refine ⟨S5, E5, ex, D5, W7, c9, fun q i hi e => ?_⟩
    have hlt : as i < 64 := by have := k1 i hi; omega
    cases q
    · exact cut_bits cf hlt e
    · exact cut_bits ch hlt e
  · rw [nI_1]
    have b60 : ∀ q t, pb (gJ h9 4 0 4) (gJ h9 4 0 5) q t = true → t < 60 := fun q t e => by
      obtain ⟨i, hi, rfl⟩ := only9 q t e
      have := k1 i hi
      omega
    have gr : nbits (gJ h1 4 0 4) (gJ h1 4 0 5) < nbits (gJ h9 4 0 4) (gJ h9 4 0 5) := by
      unfold nbits
      have m1 := ct_mono (f := bJ (gJ h1 4 0 4)) (g := bJ (gJ h9 4 0 4)) 60 (fun i _ => m9 true i)
      have m2 := ct_mono (f := bJ (gJ h1 4 0 5)) (g := bJ (gJ h9 4 0 5)) 60 (fun i _ => m9 false i)
      by_cases q : gJ h9 4 0 4 = gJ h1 4 0 4
      · have q2 : gJ h9 4 0 5 ≠ gJ h1 4 0 5 := fun q2 => z ⟨q, q2⟩
        have := grow (m9 false) (b60 false) q2
        omega
      · have := grow (m9 true) (b60 true) q
        omega
    exact hP _ _ _ ⟨true, n + 1, rfl, rfl, by omega, B9, fun q x e => m9 q x (mono q x e), only9, sol9, fun _ => by omega, fun q => (by cases q)⟩ (by rw [nI_clamp (by omega), nI_clamp (by omega)]; omega)
/-- at the end each mail of the sketch will do -/
theorem full_sol {h : Hp} (T : TT h0 nt) (K : AK (gI h0 12 0) (gI h0 13 0) (gI h0 14 0) nt as ac) (f : FULL h0 as ac h) (sh : ∀ i, i < ac → SHUT h0 (gJ h 4 0 4) (gJ h 4 0 5) (gJ h 4 0 8) (gJ h 4 0 9) (as i)) : ∃ M, SO h0 as ac (gJ h 4 0 4) (gJ h 4 0 5) M := by
  have K' := K
  obtain ⟨k60, k1, k2, k3⟩ := K'
  obtain ⟨S, E, ⟨M, v, I⟩, D, W, C, ma⟩ := f
  refine ⟨M, v, ?_⟩
  intro i
  induction i using Nat.strongRecOn with
  | ind i ih =>
    intro p hi e
    have ht := k1 i hi
    have vv := T.1.2 (as i) ht
    by_cases m : mk (gI h0 12 0 (as i))
    · obtain ⟨ja, hja, eja⟩ := (k3 i hi).1 m
      obtain ⟨c1, c2⟩ := C i hi p e
      by_cases k33 : gI h0 12 0 (as i) = 33
      · have c1 := c1 k33
        rw [show cvh h0 M (as i) p = _ from cv_not T.1 ht k33 p]
        rw [← eja] at c1 ⊢
        exact ih ja hja _ (by omega) c1
      · have kk : gI h0 12 0 (as i) = 38 ∨ gI h0 12 0 (as i) = 124 := by rcases m with q | q; exact absurd q k33; exact q
        obtain ⟨jb, hjb, ejb⟩ := (k3 i hi).2 kk
        by_cases al : decide (gI h0 12 0 (as i) = 38) = p
        · obtain ⟨d1, d2⟩ := c2 kk al
          rw [show cvh h0 M (as i) p = _ from cv_and T.1 ht kk p al]
          rw [← eja] at d1 ⊢
          rw [← ejb] at d2 ⊢
          rw [show cv _ _ _ M (as ja) p = true from ih ja hja p (by omega) d1, show cv _ _ _ M (as jb) p = true from ih jb hjb p (by omega) d2]
          rfl
        · rcases sh i hi p kk al e with q | q | q
          · exact sure_ok T K W S E v I i hi p q
          · rw [show cvh h0 M (as i) p = _ from cv_or T.1 ht kk p al]
            rw [← eja] at q ⊢
            rw [show cv _ _ _ M (as ja) p = true from ih ja hja p (by omega) q]
            rfl
          · rw [show cvh h0 M (as i) p = _ from cv_or T.1 ht kk p al]
            rw [← ejb] at q ⊢
            rw [show cv _ _ _ M (as jb) p = true from ih jb hjb p (by omega) q]
            simp
    · have o := StV_lf vv m
      have mm := ma p i hi e
      rw [W.1 i p hi] at mm
      rw [show cvh h0 M (as i) p = _ from cv_lf T.1 ht m p]
      by_cases k7 : gI h0 12 0 (as i) = 107
      · rw [if_pos k7]
      rw [if_neg k7]
      by_cases k97 : gI h0 12 0 (as i) = 97
      · rw [k97, fit97]
        cases p
        · unfold cw lvM skM at mm
          rw [k97] at mm
          simp at mm
        · rfl
      have sk := nmk_skK o k7 k97
      have d := D i p hi e sk
      have n := not_ok S E ⟨M, I⟩ o sk d
      cases b : (fit M (gI h0 12 0 (as i)) (gI h0 13 0 (as i)) == p)
      · have : fit M (gI h0 12 0 (as i)) (gI h0 13 0 (as i)) = !p := by
          revert b
          cases fit M (gI h0 12 0 (as i)) (gI h0 13 0 (as i)) <;> cases p <;> decide
        rw [may_ok v S E I o sk this] at n
        cases n
      · rfl
end
