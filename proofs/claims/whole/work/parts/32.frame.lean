/-! what a relation reads, and when it stays -/
def disB (L : List Nat) (F : List (Nat × Nat)) (L' : List Nat) (F' : List (Nat × Nat)) : Bool := L.all (fun j => !L'.contains j && F'.all (fun p => p.1 != j)) && F.all (fun p => !L'.contains p.1 && !F'.contains p)
theorem wS_dis {L L' : List Nat} {F F' : List (Nat × Nat)} (h : disB L F L' F' = true) : ∀ j k, wS L F j k = true → wS L' F' j k = false := by
  intro j k q
  simp only [disB, Bool.and_eq_true, List.all_eq_true] at h
  simp only [wS, Bool.or_eq_true, List.contains_iff_mem] at q
  rw [← Bool.not_eq_true]
  simp only [wS, Bool.or_eq_true, List.contains_iff_mem]
  rcases q with q | q
  · have := h.1 j q
    rintro (e | e)
    · have := this.1
      simp [e] at this
    · have := this.2 (j, k) e
      simp at this
  · have := h.2 (j, k) q
    simp at this
    rintro (e | e)
    · exact this.1 e
    · exact this.2 e
def rDay : Nat → Nat → Bool := wS [] [(3, 7), (11, 1)]
def rMail : Nat → Nat → Bool := wS [2, 33, 34, 35, 36, 37, 38, 39, 40, 41, 42, 43] [(3, 6), (11, 2)]
def rBox : Nat → Nat → Bool := wS [16, 17, 44, 45] []
def rReply : Nat → Nat → Bool := wS [18, 19, 20, 46, 47, 48] []
def rTest : Nat → Nat → Bool := wS [12, 13, 14, 49, 50, 51] [(9, 3), (9, 4), (11, 19)]
def rScr : Nat → Nat → Bool := wS [6, 22, 23, 24, 53, 54, 55, 56, 57] [(7, 1)]
def rLast : Nat → Nat → Bool := wS [5, 26, 63] [(11, 47), (11, 48), (11, 49), (11, 50), (11, 51), (11, 52)]
section
variable {W : Nat → Nat → Bool} {h h' : Hp}
theorem SDay.ag {d : Nat} (s : SDay d h) (a : ag W h h') (c : ∀ j k, rDay j k = true → W j k = false) : SDay d h' := by
  unfold SDay
  rw [a.I 3 0 7 (c 3 7 rfl), a.I 11 0 1 (c 11 1 rfl)]
  exact s
theorem SMail.ag {d nm : Nat} (s : SMail d nm h) (a : ag W h h') (c : ∀ j k, rMail j k = true → W j k = false) : SMail d nm h' := by
  unfold SMail SmV SmE SmD
  simp only [a.I 3 0 6 (c 3 6 rfl), a.I 11 0 2 (c 11 2 rfl), fun o k => a.I 2 o k (c 2 k rfl), fun o k => a.I 33 o k (c 33 k rfl), fun o k => a.I 34 o k (c 34 k rfl), fun o k => a.I 35 o k (c 35 k rfl), fun o k => a.I 36 o k (c 36 k rfl), fun o k => a.I 37 o k (c 37 k rfl), fun o k => a.I 38 o k (c 38 k rfl), fun o k => a.I 39 o k (c 39 k rfl), fun o k => a.I 40 o k (c 40 k rfl), fun o k => a.I 41 o k (c 41 k rfl), fun o k => a.I 42 o k (c 42 k rfl), fun o k => a.I 43 o k (c 43 k rfl)]
  exact s
theorem SBox.ag (s : SBox h) (a : ag W h h') (c : ∀ j k, rBox j k = true → W j k = false) : SBox h' := by
  unfold SBox
  simp only [fun o k => a.I 16 o k (c 16 k rfl), fun o k => a.I 17 o k (c 17 k rfl), fun o k => a.I 44 o k (c 44 k rfl), fun o k => a.I 45 o k (c 45 k rfl)]
  exact s
theorem SReply.ag {i d : Nat} (s : SReply i d h) (a : ag W h h') (c : ∀ j k, rReply j k = true → W j k = false) : SReply i d h' := by
  unfold SReply
  simp only [fun o k => a.I 18 o k (c 18 k rfl), fun o k => a.I 19 o k (c 19 k rfl), fun o k => a.I 20 o k (c 20 k rfl), fun o k => a.I 46 o k (c 46 k rfl), fun o k => a.I 47 o k (c 47 k rfl), fun o k => a.I 48 o k (c 48 k rfl)]
  exact s
theorem STest.ag {nt : Nat} (s : STest nt h) (a : ag W h h') (c : ∀ j k, rTest j k = true → W j k = false) : STest nt h' := by
  unfold STest isSt
  simp only [a.J 9 0 3 (c 9 3 rfl), a.I 9 0 4 (c 9 4 rfl), a.I 11 0 19 (c 11 19 rfl), fun o k => a.I 12 o k (c 12 k rfl), fun o k => a.I 13 o k (c 13 k rfl), fun o k => a.I 14 o k (c 14 k rfl), fun o k => a.I 49 o k (c 49 k rfl), fun o k => a.I 50 o k (c 50 k rfl), fun o k => a.I 51 o k (c 51 k rfl)]
  exact s
theorem SScr.ag {nt : Nat} (s : SScr nt h) (a : ag W h h') (c : ∀ j k, rScr j k = true → W j k = false) : SScr nt h' := by
  unfold SScr SrE
  simp only [fun o => a.I 7 o 1 (c 7 1 rfl), fun o k => a.I 6 o k (c 6 k rfl), fun o k => a.R 22 o k (c 22 k rfl), fun o k => a.I 23 o k (c 23 k rfl), fun o k => a.I 24 o k (c 24 k rfl), fun o k => a.I 53 o k (c 53 k rfl), fun o k => a.I 54 o k (c 54 k rfl), fun o k => a.I 55 o k (c 55 k rfl), fun o k => a.I 56 o k (c 56 k rfl), fun o k => a.I 57 o k (c 57 k rfl)]
  exact s
theorem SLast.ag (s : SLast h) (a : ag W h h') (c : ∀ j k, rLast j k = true → W j k = false) : SLast h' := by
  unfold SLast
  simp only [fun o k => a.I 5 o k (c 5 k rfl), fun o k => a.I 26 o k (c 26 k rfl), fun o k => a.I 63 o k (c 63 k rfl), a.I 11 0 47 (c 11 47 rfl), a.I 11 0 48 (c 11 48 rfl), a.I 11 0 49 (c 11 49 rfl), a.I 11 0 50 (c 11 50 rfl), a.I 11 0 51 (c 11 51 rfl), a.I 11 0 52 (c 11 52 rfl)]
  exact s
end
theorem SMail.mono {d d' nm : Nat} {h : Hp} (s : SMail d nm h) (hd : d ≤ d') : SMail d' nm h := by
  obtain ⟨a, b, c, e, f⟩ := s
  refine ⟨a, b, c, fun m hm => ⟨?_, (e m hm).2⟩, f⟩
  obtain ⟨q1, q2, q3, q4, q5, x, hx, q6⟩ := (e m hm).1
  exact ⟨q1, q2, q3, q4, q5, x, by omega, q6⟩
theorem SReply.mono {i i' d d' : Nat} {h : Hp} (s : SReply i d h) (hi : i ≤ i') (hd : d ≤ d') : SReply i' d' h := by
  intro p hp
  obtain ⟨a, b, c, hc, e, f, g⟩ := s p hp
  refine ⟨a, b, c, by omega, e, f, fun q => ?_⟩
  obtain ⟨g1, x, hx, g2⟩ := g q
  exact ⟨g1, x, by omega, g2⟩
theorem Sim.mono {i i' : Nat} {h : Hp} (s : Sim i h) (hi : i ≤ i') : Sim i' h := by
  obtain ⟨d, nm, nt, hd, a, b, c, e, f⟩ := s
  exact ⟨d, nm, nt, by omega, a, b, c, e.mono hi (by omega), f⟩
def rAll : Nat → Nat → Bool := wS [2, 33, 34, 35, 36, 37, 38, 39, 40, 41, 42, 43, 16, 17, 44, 45, 18, 19, 20, 46, 47, 48, 12, 13, 14, 49, 50, 51, 6, 22, 23, 24, 53, 54, 55, 56, 57, 5, 26, 63] [(3, 6), (11, 2), (3, 7), (11, 1), (9, 3), (9, 4), (11, 19), (7, 1), (11, 47), (11, 48), (11, 49), (11, 50), (11, 51), (11, 52)]
theorem wS_sub {L L' : List Nat} {F F' : List (Nat × Nat)} (h : (L.all (fun j => L'.contains j) && F.all (fun p => L'.contains p.1 || F'.contains p)) = true) : ∀ j k, wS L F j k = true → wS L' F' j k = true := by
  intro j k q
  simp only [Bool.and_eq_true, List.all_eq_true] at h
  simp only [wS, Bool.or_eq_true, List.contains_iff_mem] at q ⊢
  rcases q with q | q
  · exact Or.inl (by simpa using h.1 j q)
  · have := h.2 (j, k) q
    simpa using this
theorem Sim.stay {W : Nat → Nat → Bool} {i : Nat} {h h' : Hp} (s : Sim i h) (a : ag W h h') (c : ∀ j k, rAll j k = true → W j k = false) : Sim i h' := by
  obtain ⟨d, nm, nt, hd, s1, s2, s3, s4, s5, s6, s7⟩ := s
  exact ⟨d, nm, nt, hd, s1.ag a (fun j k q => c j k (wS_sub (by decide) j k q)), s2.ag a (fun j k q => c j k (wS_sub (by decide) j k q)), s3.ag a (fun j k q => c j k (wS_sub (by decide) j k q)), s4.ag a (fun j k q => c j k (wS_sub (by decide) j k q)), s5.ag a (fun j k q => c j k (wS_sub (by decide) j k q)), s6.ag a (fun j k q => c j k (wS_sub (by decide) j k q)), s7.ag a (fun j k q => c j k (wS_sub (by decide) j k q))⟩
/-- the model's code and the law's out alone are written -/
theorem Sim.quiet {i : Nat} {h h' : Hp} (s : Sim i h) (a : ag (wS [75, 76] [(11, 0)]) h h') : Sim (i + 1) h' := (s.stay a (wS_dis (by decide))).mono (by omega)
