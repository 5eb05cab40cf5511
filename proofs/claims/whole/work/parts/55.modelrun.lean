/-! the model does it -/
def WM : Nat → Nat → Bool := wS [0, 2, 5, 17, 18, 19, 20, 25, 26, 27, 52, 58, 59, 60, 61, 62, 75, 76] [(11, 0), (11, 29), (11, 33), (11, 34), (11, 35), (11, 36), (11, 37), (11, 38), (11, 40), (11, 41), (11, 42), (11, 43), (11, 44), (11, 45)]
def WR : Nat → Nat → Bool := wS [52, 58, 59, 60, 61, 62] [(11, 29), (11, 33), (11, 34), (11, 35), (11, 36), (11, 37), (11, 38), (11, 40), (11, 41), (11, 42), (11, 43), (11, 44), (11, 45)]
def CG (c g o : Int32) : Prop := (c = 45 ∧ o = -1 ∧ g = 0) ∨ (c = 120 ∧ o = 8 ∧ g = 0) ∨ (c = 114 ∧ o = 9 ∧ g = 0) ∨ (c = 107 ∧ o = 0 ∧ g = 0) ∨ (c = 109 ∧ o = g ∧ inN g 8)
/-- the model's field for a number of σ -/
def mf (i : Nat) : Nat := if i = 1 then 35 else if i = 10 then 36 else if i = 7 then 37 else if i = 9 then 38 else i + 39
theorem mf_ne (i : Nat) (hi : i < 11) (j : Nat) (hj : j < 11) (i1 : 1 ≤ i) (i8 : i ≠ 8) (j1 : 1 ≤ j) (j8 : j ≠ 8) (e : i ≠ j) : mf i ≠ mf j := by
  have : ∀ i, i < 11 → ∀ j, j < 11 → (decide (1 ≤ i) && decide (i ≠ 8) && decide (1 ≤ j) && decide (j ≠ 8) && decide (i ≠ j) && decide (mf i = mf j)) = false := by decide +kernel
  intro q
  have := this i hi j hj
  simp [i1, i8, j1, j8, e, q] at this
theorem mf_W : ∀ i, i < 11 → 1 ≤ i → i ≠ 8 → WR 11 (mf i) = true := by decide +kernel
theorem mf_o (i : Nat) (hi : i < 11) (i1 : 1 ≤ i) (i8 : i ≠ 8) : mf i ≠ 29 ∧ mf i ≠ 33 ∧ mf i ≠ 34 ∧ mf i ≠ 40 ∧ mf i ≠ 0 := by
  have : ∀ i, i < 11 → (decide (1 ≤ i) && decide (i ≠ 8) && (decide (mf i = 29) || decide (mf i = 33) || decide (mf i = 34) || decide (mf i = 40) || decide (mf i = 0))) = false := by decide +kernel
  have := this i hi
  simpa [i1, i8, and_assoc] using this
def MS (h h0 : Hp) (σ : Nat → Int32) (h' : Hp) : Prop := (ag WM h h0 ∧ ag WR h0 h') ∧ (∀ i, i < 11 → 1 ≤ i → i ≠ 8 → gI h' 11 0 (mf i) = σ i) ∧ (∀ b, b < 8 → gI h' 61 0 b = σ (20 + b)) ∧ (∀ k, k < cl (σ 2) → gI h' 62 0 k = σ (100 + k)) ∧ CG (gI h' 11 0 33) (gI h' 11 0 34) (σ 0)
/-- where the model stands: deep and the frames -/
def SF (h h' : Hp) : Prop := gI h' 11 0 29 = gI h 11 0 29 ∧ ∀ j, gI h' 58 0 j = gI h 58 0 j ∧ gI h' 59 0 j = gI h 59 0 j ∧ gI h' 60 0 j = gI h 60 0 j
theorem SF.rfl {h : Hp} : SF h h := ⟨Eq.refl _, fun _ => ⟨Eq.refl _, Eq.refl _, Eq.refl _⟩⟩
theorem SF.trans {h h' h'' : Hp} (a : SF h h') (b : SF h' h'') : SF h h'' := ⟨b.1.trans a.1, fun j => ⟨(b.2 j).1.trans (a.2 j).1, (b.2 j).2.1.trans (a.2 j).2.1, (b.2 j).2.2.trans (a.2 j).2.2⟩⟩
theorem SF.f {h h' : Hp} (a : SF h h') {k : Nat} {v : Int32} (hk : k ≠ 29) : SF h (sI h' 11 0 k v) := ⟨by rw [gI_o (by omega)]; exact a.1, fun j => by rw [gI_o (by omega), gI_o (by omega), gI_o (by omega)]; exact a.2 j⟩
theorem SF.c {h h' : Hp} (a : SF h h') {j k : Nat} {v : Int32} (hj : 60 < j) : SF h (sI h' j 0 k v) := ⟨by rw [gI_o (by omega)]; exact a.1, fun j => by rw [gI_o (by omega), gI_o (by omega), gI_o (by omega)]; exact a.2 j⟩
section
variable {h h0 h' : Hp} {m nm nt : Nat} {σ : Nat → Int32}
theorem MS.loc {σ' : Nat → Int32} (s : MS h h0 σ h') (e : ∀ j, j ≠ 8 → j ≠ 11 → (j < 30 ∨ 38 ≤ j) → σ' j = σ j) : MS h h0 σ' h' := by
  obtain ⟨a, b, c, d, f⟩ := s
  refine ⟨a, fun i h1 h2 h3 => by rw [e i h3 (by omega) (by omega)]; exact b i h1 h2 h3, fun i hi => by rw [e _ (by omega) (by omega) (by omega)]; exact c i hi, fun k hk => ?_, by rw [e 0 (by omega) (by omega) (by omega)]; exact f⟩
  rw [e 2 (by omega) (by omega) (by omega)] at hk
  rw [e _ (by omega) (by omega) (by omega)]
  exact d k hk
theorem MS.s {i : Nat} {v : Int32} (s : MS h h0 σ h') (h1 : i < 11) (h2 : 1 ≤ i) (h3 : i ≠ 8) (h4 : i ≠ 2) : MS h h0 (up σ i v) (sI h' 11 0 (mf i) v) := by
  obtain ⟨a, b, c, d, f⟩ := s
  obtain ⟨o1, o2, o3, o4, o5⟩ := mf_o i h1 h2 h3
  refine ⟨⟨a.1, a.2.sI (mf_W i h1 h2 h3)⟩, fun j j1 j2 j3 => ?_, fun k hk => by rw [gI_o (by omega), up_n (by omega)]; exact c k hk, fun k hk => ?_, by rw [gI_o (by omega), gI_o (by omega), up_n (by omega)]; exact f⟩
  · by_cases e : j = i
    · subst e; rw [gI_e, up_e]
    · rw [gI_o (Or.inr (Or.inr (mf_ne j j1 i h1 j2 j3 h2 h3 e))), up_n e]; exact b j j1 j2 j3
  · rw [up_n (by omega)] at hk
    rw [gI_o (by omega), up_n (by omega)]; exact d k hk
theorem MS.did {code : Int32} {c : Nat} (s : MS h h0 σ h') (e : σ 2 = nI c) (hc : c < 200) : MS h h0 (xDid σ code) (sI (sI h' 62 0 c code) 11 0 41 (nI (c + 1))) := by
  obtain ⟨a, b, cc, d, f⟩ := s
  have ec : cl (nI c) = c := nI_clamp (by omega)
  have ec1 : cl (nI (c + 1)) = c + 1 := nI_clamp (by omega)
  have g : ∀ j, j ≠ 2 → j < 100 → xDid σ code j = σ j := fun j h1 h2 => by unfold xDid; rw [up_n h1, up_n (by omega)]
  have g2 : xDid σ code 2 = nI (c + 1) := by unfold xDid; rw [up_e, e, nI_1]
  refine ⟨⟨a.1, (a.2.sI rfl).sI rfl⟩, fun j j1 j2 j3 => ?_, fun k hk => by rw [gI_o (by omega), gI_o (by omega), g _ (by omega) (by omega)]; exact cc k hk, fun k hk => ?_, by rw [gI_o (by omega), gI_o (by omega), gI_o (by omega), gI_o (by omega), g _ (by omega) (by omega)]; exact f⟩
  · by_cases e2 : j = 2
    · subst e2; rw [show mf 2 = 41 from rfl, gI_e, g2]
    · have := mf_ne j j1 2 (by omega) j2 j3 (by omega) (by omega) e2
      rw [show mf 2 = 41 from rfl] at this
      rw [gI_o (Or.inr (Or.inr this)), gI_o (by omega), g j e2 (by omega)]; exact b j j1 j2 j3
  · rw [g2, ec1] at hk
    unfold xDid
    rw [gI_o (by omega), up_n (by omega), e, ec]
    by_cases e2 : k = c
    · subst e2; rw [gI_e, up_e]
    · rw [gI_o (by omega), up_n (by omega)]
      exact d k (by rw [e, ec]; omega)
theorem MS.cg {c g o : Int32} (s : MS h h0 σ h') (q : CG c g o) : MS h h0 (up σ 0 o) (sI (sI h' 11 0 33 c) 11 0 34 g) := by
  obtain ⟨a, b, cc, d, f⟩ := s
  refine ⟨⟨a.1, (a.2.sI (by decide +kernel)).sI (by decide +kernel)⟩, fun j j1 j2 j3 => ?_, fun k hk => by rw [gI_o (by omega), gI_o (by omega), up_n (by omega)]; exact cc k hk, fun k hk => ?_, by rw [gI_o (by omega), gI_e, gI_e, up_e]; exact q⟩
  · obtain ⟨o1, o2, o3, o4, o5⟩ := mf_o j j1 j2 j3
    rw [gI_o (by omega), gI_o (by omega), up_n (by omega)]; exact b j j1 j2 j3
  · rw [up_n (by omega)] at hk
    rw [gI_o (by omega), gI_o (by omega), up_n (by omega)]; exact d k hk
theorem MS.s61 {b : Nat} {v : Int32} (s : MS h h0 σ h') (hb : b < 8) : MS h h0 (up σ (20 + b) v) (sI h' 61 0 b v) := by
  obtain ⟨a, bb, c, d, f⟩ := s
  refine ⟨⟨a.1, a.2.sI rfl⟩, fun j j1 j2 j3 => by rw [gI_o (by omega), up_n (by omega)]; exact bb j j1 j2 j3, fun k hk => ?_, fun k hk => ?_, by rw [gI_o (by omega), gI_o (by omega), up_n (by omega)]; exact f⟩
  · by_cases e : k = b
    · subst e; rw [gI_e, up_e]
    · rw [gI_o (by omega), up_n (by omega)]; exact c k hk
  · rw [up_n (by omega)] at hk
    rw [gI_o (by omega), up_n (by omega)]; exact d k hk
/-- writing deep or a frame -/
theorem MS.fr {j k : Nat} {v : Int32} (s : MS h h0 σ h') (hj : (j = 11 ∧ k = 29) ∨ j = 58 ∨ j = 59 ∨ j = 60) : MS h h0 σ (sI h' j 0 k v) := by
  obtain ⟨a, b, c, d, f⟩ := s
  have hW : WR j k = true := by
    rcases hj with ⟨rfl, rfl⟩ | rfl | rfl | rfl
    · decide +kernel
    · rfl
    · rfl
    · rfl
  refine ⟨⟨a.1, a.2.sI hW⟩, fun i j1 j2 j3 => ?_, fun k hk => by rw [gI_o (by omega)]; exact c k hk, fun k hk => by rw [gI_o (by omega)]; exact d k hk, by rw [gI_o (by omega), gI_o (by omega)]; exact f⟩
  obtain ⟨o1, o2, o3, o4, o5⟩ := mf_o i j1 j2 j3
  rw [gI_o (by omega)]; exact b i j1 j2 j3
theorem MS.A (s : MS h h0 σ h') : ag WM h h' := s.1.1.trans (s.1.2.mono (wS_mono (by decide) (by decide)))
theorem MS.I (s : MS h h0 σ h') (j o k : Nat) (hj : WM j k = false := by rfl) : gI h' j o k = gI h j o k := s.A.I j o k hj
theorem mM_WM {fl : Int32} (s : ag WM h h') : mM h' m fl = mM h m fl := by
  funext i
  unfold mM
  rw [s.I 33 0 m, s.I 34 0 m, s.I 35 0 m, s.I 36 0 m, s.I 37 0 m, s.I 38 0 m]
theorem gM_ag (s : ag WM h h') (b but : Int32) : gM h' b but = gM h b but := by
  funext n
  unfold gM kM
  rw [s.I 39 0 n, s.I 40 0 n, s.I 41 0 n, s.I 37 0 n]
theorem fu_w {a : Int32} {Q : Int32 → Prop} (B : BF h m nm nt) (s : MS h h0 σ h') (w : XW h m nm σ) (ha : inN a 8) (f : Q (bit01 (xMuch h m a σ))) : wp_X11_isFull a (nI m) h' Q := by
  obtain ⟨d, i, hi, hd, s1, ⟨n40, e1, e2, s2, s2', s2''⟩, s3, s4, s5, s6, hm⟩ := B
  obtain ⟨w1, w2, w3, w4, w5⟩ := w
  obtain ⟨b, hb, rfl⟩ := ha
  have cb : cl (nI b) = b := nI_clamp (by omega)
  have vm : vp_in (nI m) 40 := vp_in_nI (by omega) (by decide)
  have hsz : gI h' 37 0 (nI m).toNatClampNeg = gI h 37 0 m := by rw [nI_clamp (by omega), s.I 37 0 m]
  have main : ∀ own, (b ≠ 0 → own = if σ 0 = nI b then gI h 37 0 m else 0) → wp_X11_isFull_b27 (nI b) (nI m) own h' Q := by
    intro own ho
    unfold wp_X11_isFull_b27
    unfold xMuch at f
    by_cases z : b = 0
    · subst z
      rw [if_pos (by decide)]
      have : (nI 0 ≠ (0 : Int32)) = False := by decide
      simp only [this, decide_false, Bool.false_and] at f
      exact f
    · rw [if_neg (fun q => z (by have := (nI_leI (b := 0) (by omega) (by omega)).mp q; omega))]
      have nz : (nI b ≠ 0) = True := eq_true (nI_ne (b := 0) (by omega) (by omega) z)
      simp only [nz, decide_true, Bool.true_and, cb] at f
      refine filled_w (nm := nm) (by rw [s.I 11 0 2, e2]) n40 hb ?_
      refine ⟨vp_in_nI hb (by decide), vm, ?_⟩
      rw [nI_clamp (show b < 2 ^ 31 by omega), hsz, s.I 44 0 b, s.I 45 0 b, gM_ag s.A, s.2.2.1 b hb, ho z]
      have e5 := w5 b (by omega) hb
      unfold xLo at e5
      rw [← e5]
      by_cases c : σ (30 + b) + gI h 37 0 m ≤ gI h 44 0 b <;> simpa [c, bit01] using f
  have m1 : ∀ b, b < 8 → ¬ (-1 : Int32) = nI b ∧ ¬ (8 : Int32) = nI b ∧ ¬ (9 : Int32) = nI b := by decide +kernel
  obtain ⟨n1, n8, n9⟩ := m1 b hb
  unfold wp_X11_isFull wp_X11_isFull_b26
  rcases s.2.2.2.2 with ⟨c, o, g⟩ | ⟨c, o, g⟩ | ⟨c, o, g⟩ | ⟨c, o, g⟩ | ⟨c, o, g⟩
  · rw [c, if_neg (by decide)]
    exact main 0 (fun _ => by rw [o, if_neg n1])
  · rw [c, if_neg (by decide)]
    exact main 0 (fun _ => by rw [o, if_neg n8])
  · rw [c, if_neg (by decide)]
    exact main 0 (fun _ => by rw [o, if_neg n9])
  · rw [c, if_neg (by decide)]
    exact main 0 (fun z => by rw [o, if_neg (show ¬ (0 : Int32) = nI b from nI_ne (a := 0) (by omega) (by omega) (Ne.symm z))])
  · rw [c, if_pos rfl]
    by_cases q : gI h' 11 0 34 = nI b
    · rw [if_pos q, hsz]
      exact ⟨vm, main _ (fun _ => by rw [o, if_pos q])⟩
    · rw [if_neg q]
      exact main 0 (fun _ => by rw [o, if_neg q])
theorem does_w {code : Int32} {Q : Int32 → Hp → Prop} (s : MS h h0 σ h') (w : XW h m nm σ) (f0 : σ 2 = 200 → ∀ h'', MS h h0 σ h'' → (∀ j, gI h'' 58 0 j = gI h' 58 0 j ∧ gI h'' 59 0 j = gI h' 59 0 j ∧ gI h'' 60 0 j = gI h' 60 0 j) → gI h'' 11 0 29 = -1 → Q 0 h'') (f1 : σ 2 ≠ 200 → ∀ h'', MS h h0 (xDid σ code) h'' → SF h' h'' → Q 1 h'') : wp_X11_does code h' Q := by
  obtain ⟨⟨c, hc, ec⟩, -⟩ := w
  have g : gI h' 11 0 41 = σ 2 := s.2.1 2 (by omega) (by omega) (by omega)
  unfold wp_X11_does LET
  rw [g, ec]
  rcases Nat.lt_or_ge c 200 with hlt | hge
  · have n200 : nI c ≠ 200 := nI_ne (b := 200) (by omega) (by omega) (by omega)
    rw [if_neg n200]
    refine ⟨vp_in_nI hlt (by decide), ?_⟩
    simp only [forall_eq]
    rw [nI_clamp (by omega), gI_o (by omega), g, ec, nI_1]
    exact f1 (by rw [ec]; exact n200) _ (s.did ec hlt) ((SF.rfl.c (by omega)).f (by omega))
  · have : c = 200 := by omega
    subst this
    rw [if_pos (show nI 200 = 200 from rfl)]
    simp only [forall_eq]
    exact f0 ec _ (s.fr (Or.inl ⟨rfl, rfl⟩)) (fun j => by rw [gI_o (by omega), gI_o (by omega), gI_o (by omega)]; exact ⟨rfl, rfl, rfl⟩) gI_e
end
