theorem qsub {a b c : Nat} (h1 : a ≤ b) (h2 : b ≤ c) : (b - a) + (c - b) = c - a := by omega
theorem qsub240 {a b c : Nat} (h1 : a ≤ b) (h2 : b ≤ c) : 240 * (b - a) + 240 * (c - b) = 240 * (c - a) := by omega
def rm_X2_init (n n1 : Nat) : Room := { frames := 1, cells := n1 - n, slots := 240 * (n1 - n), locals := 24 }
def wp_X2_init (n1 : Nat) (o0 : Nat) (n : Nat) (h : Hp) (Q : Hp → Prop) : Prop := n = n1 ∧ Q h
def rm_X8_init (n n1 : Nat) : Room := { frames := 1, cells := n1 - n, slots := 240 * (n1 - n), locals := 24 }
def wp_X8_init (n1 : Nat)  (n : Nat) (h : Hp) (Q : Hp → Prop) : Prop := n = n1 ∧ Q h
def rm_X5_init (n n1 : Nat) : Room := { frames := 1, cells := n1 - n, slots := 240 * (n1 - n), locals := 24 }
def wp_X5_init (n1 : Nat) (o0 : Nat) (n : Nat) (h : Hp) (Q : Hp → Prop) : Prop := ∃ e1 : Nat, lay n = (26, e1) ∧ e1 < 3 ∧ n + 1 < NT ∧ n + 1 ≤ n1 ∧ LET (zer h 26 e1) fun h2 => (n + 1) < NT ∧ LET (sR h2 5 o0 0 (e1 + 1)) fun h4 => ∃ e5 : Nat, lay (n + 1) = (27, e5) ∧ e5 < 3 ∧ (n + 1) + 1 < NT ∧ (n + 1) + 1 ≤ n1 ∧ LET (zer h4 27 e5) fun h6 => (n + 2) < NT ∧ LET (sR h6 5 o0 1 (e5 + 1)) fun h8 => (n + 2) = n1 ∧ Q h8
def rm_X6_init (n n1 : Nat) : Room := { frames := 1, cells := n1 - n, slots := 240 * (n1 - n), locals := 24 }
def wp_X6_init (n1 : Nat) (o0 : Nat) (n : Nat) (h : Hp) (Q : Hp → Prop) : Prop := ∃ e1 : Nat, lay n = (23, e1) ∧ e1 < 48 ∧ n + 1 < NT ∧ n + 1 ≤ n1 ∧ LET (zer h 23 e1) fun h2 => (n + 1) < NT ∧ LET (sR h2 6 o0 0 (e1 + 1)) fun h4 => ∃ e5 : Nat, lay (n + 1) = (24, e5) ∧ e5 < 48 ∧ (n + 1) + 1 < NT ∧ (n + 1) + 1 ≤ n1 ∧ LET (zer h4 24 e5) fun h6 => (n + 2) < NT ∧ LET (sR h6 6 o0 1 (e5 + 1)) fun h8 => (n + 2) = n1 ∧ Q h8
def rm_X7_init (n n1 : Nat) : Room := { frames := 2, cells := n1 - n, slots := 240 * (n1 - n), locals := 44 }
def wp_X7_init_b15F (n1 : Nat) (o0 : Nat) (Q : Hp → Prop) (P15 : Int32 → Nat → Hp → Prop) (x1 : Int32) (n : Nat) (h : Hp) : Prop := if (12 : Int32) ≤ x1 then (n = n1 ∧ Q h) else (gR h 7 o0 0 = o0 + 1 ∧ o0 < 4 ∧ adr 22 o0 < n ∧ ∃ e3 : Nat, lay n = (6, e3) ∧ e3 < 48 ∧ n + 1 < NT ∧ n + 1 ≤ n1 ∧ LET (zer h 6 e3) fun h4 => (n + 3) ≤ n1 ∧ wp_X6_init (n + 3) e3 (n + 1) h4 (fun h5 => vp_in x1 12 ∧ (n + 3) < NT ∧ LET (sR h5 22 o0 x1.toNatClampNeg (e3 + 1)) fun h9 => LET (x1 + 1) fun v10 => P15 v10 (n + 3) h9))
def wp_X7_init_b15 (n1 : Nat) (o0 : Nat) (x1 : Int32) (n : Nat) (h : Hp) (Q : Hp → Prop) : Prop := LFP3 (wp_X7_init_b15F n1 o0 Q) x1 n h
def wp_X7_init (n1 : Nat) (o0 : Nat) (n : Nat) (h : Hp) (Q : Hp → Prop) : Prop := ∃ e1 : Nat, lay n = (22, e1) ∧ e1 < 4 ∧ n + 1 < NT ∧ n + 1 ≤ n1 ∧ LET (zer h 22 e1) fun h2 => (n + 1) < NT ∧ LET (sR h2 7 o0 0 (e1 + 1)) fun h4 => wp_X7_init_b15 n1 o0 0 (n + 1) h4 Q
def rm_X9_init (n n1 : Nat) : Room := { frames := 1, cells := n1 - n, slots := 240 * (n1 - n), locals := 24 }
def wp_X9_init (n1 : Nat)  (n : Nat) (h : Hp) (Q : Hp → Prop) : Prop := lay n = (12, 0) ∧ n + 1 < NT ∧ n + 1 ≤ n1 ∧ LET (zer h 12 0) fun h2 => (n + 1) < NT ∧ LET (sR h2 9 0 0 (0 + 1)) fun h4 => lay (n + 1) = (13, 0) ∧ (n + 1) + 1 < NT ∧ (n + 1) + 1 ≤ n1 ∧ LET (zer h4 13 0) fun h6 => (n + 2) < NT ∧ LET (sR h6 9 0 1 (0 + 1)) fun h8 => lay (n + 2) = (14, 0) ∧ (n + 2) + 1 < NT ∧ (n + 2) + 1 ≤ n1 ∧ LET (zer h8 14 0) fun h10 => (n + 3) < NT ∧ LET (sR h10 9 0 2 (0 + 1)) fun h12 => (n + 3) = n1 ∧ Q h12
def rm_X3_init (n n1 : Nat) : Room := { frames := 2, cells := n1 - n, slots := 240 * (n1 - n), locals := 44 }
def wp_X3_init_b82F (n1 : Nat)  (Q : Hp → Prop) (P82 : Int32 → Nat → Hp → Prop) (x1 : Int32) (n : Nat) (h : Hp) : Prop := if (8 : Int32) ≤ x1 then (n = n1 ∧ Q h) else (gR h 3 0 1 = 0 + 1 ∧ 0 < 1 ∧ adr 16 0 < n ∧ vp_in x1 8 ∧ LET (sI h 16 0 x1.toNatClampNeg 2000) fun h4 => LET (x1 + 1) fun v5 => P82 v5 n h4)
def wp_X3_init_b82 (n1 : Nat) (x1 : Int32) (n : Nat) (h : Hp) (Q : Hp → Prop) : Prop := LFP3 (wp_X3_init_b82F n1  Q) x1 n h
def wp_X3_init_b55F (n1 : Nat)  (Q : Hp → Prop) (P55 : Int32 → Nat → Hp → Prop) (x1 : Int32) (n : Nat) (h : Hp) : Prop := if (40 : Int32) ≤ x1 then (wp_X3_init_b82 n1 0 n h Q) else (gR h 3 0 0 = 0 + 1 ∧ 0 < 1 ∧ adr 15 0 < n ∧ ∃ e3 : Nat, lay n = (2, e3) ∧ e3 < 41 ∧ n + 1 < NT ∧ n + 1 ≤ n1 ∧ LET (zer h 2 e3) fun h4 => (n + 1) ≤ n1 ∧ wp_X2_init (n + 1) e3 (n + 1) h4 (fun h5 => vp_in x1 40 ∧ (n + 1) < NT ∧ LET (sR h5 15 0 x1.toNatClampNeg (e3 + 1)) fun h9 => LET (x1 + 1) fun v10 => P55 v10 (n + 1) h9))
def wp_X3_init_b55 (n1 : Nat) (x1 : Int32) (n : Nat) (h : Hp) (Q : Hp → Prop) : Prop := LFP3 (wp_X3_init_b55F n1  Q) x1 n h
def wp_X3_init (n1 : Nat)  (n : Nat) (h : Hp) (Q : Hp → Prop) : Prop := lay n = (15, 0) ∧ n + 1 < NT ∧ n + 1 ≤ n1 ∧ LET (zer h 15 0) fun h2 => (n + 1) < NT ∧ LET (sR h2 3 0 0 (0 + 1)) fun h4 => lay (n + 1) = (16, 0) ∧ (n + 1) + 1 < NT ∧ (n + 1) + 1 ≤ n1 ∧ LET (zer h4 16 0) fun h6 => (n + 2) < NT ∧ LET (sR h6 3 0 1 (0 + 1)) fun h8 => lay (n + 2) = (17, 0) ∧ (n + 2) + 1 < NT ∧ (n + 2) + 1 ≤ n1 ∧ LET (zer h8 17 0) fun h10 => (n + 3) < NT ∧ LET (sR h10 3 0 2 (0 + 1)) fun h12 => lay (n + 3) = (18, 0) ∧ (n + 3) + 1 < NT ∧ (n + 3) + 1 ≤ n1 ∧ LET (zer h12 18 0) fun h14 => (n + 4) < NT ∧ LET (sR h14 3 0 3 (0 + 1)) fun h16 => lay (n + 4) = (19, 0) ∧ (n + 4) + 1 < NT ∧ (n + 4) + 1 ≤ n1 ∧ LET (zer h16 19 0) fun h18 => (n + 5) < NT ∧ LET (sR h18 3 0 4 (0 + 1)) fun h20 => lay (n + 5) = (20, 0) ∧ (n + 5) + 1 < NT ∧ (n + 5) + 1 ≤ n1 ∧ LET (zer h20 20 0) fun h22 => (n + 6) < NT ∧ LET (sR h22 3 0 5 (0 + 1)) fun h24 => wp_X3_init_b55 n1 0 (n + 6) h24 Q
def rm_X0_init (n n1 : Nat) : Room := { frames := 2, cells := n1 - n, slots := 240 * (n1 - n), locals := 44 }
def wp_X0_init (n1 : Nat)  (n : Nat) (h : Hp) (Q : Hp → Prop) : Prop := lay n = (25, 0) ∧ n + 1 < NT ∧ n + 1 ≤ n1 ∧ LET (zer h 25 0) fun h2 => (n + 1) < NT ∧ LET (sR h2 0 0 3 (0 + 1)) fun h4 => (n + 1) < NT ∧ LET (sR h4 0 0 0 (0 + 1)) fun h6 => (n + 1) < NT ∧ LET (sR h6 0 0 1 (0 + 1)) fun h8 => (n + 1) < NT ∧ LET (sR h8 0 0 2 (0 + 1)) fun h10 => ∃ e11 : Nat, lay (n + 1) = (5, e11) ∧ e11 < 3 ∧ (n + 1) + 1 < NT ∧ (n + 1) + 1 ≤ n1 ∧ LET (zer h10 5 e11) fun h12 => (n + 4) ≤ n1 ∧ wp_X5_init (n + 4) e11 (n + 2) h12 (fun h13 => LET (sR h13 0 0 4 (e11 + 1)) fun h15 => ∃ e16 : Nat, lay (n + 4) = (2, e16) ∧ e16 < 41 ∧ (n + 4) + 1 < NT ∧ (n + 4) + 1 ≤ n1 ∧ LET (zer h15 2 e16) fun h17 => (n + 5) ≤ n1 ∧ wp_X2_init (n + 5) e16 (n + 5) h17 (fun h18 => LET (sR h18 0 0 5 (e16 + 1)) fun h20 => (n + 5) = n1 ∧ Q h20))
def rm_X4_init (n n1 : Nat) : Room := { frames := 2, cells := n1 - n, slots := 240 * (n1 - n), locals := 44 }
def wp_X4_init (n1 : Nat)  (n : Nat) (h : Hp) (Q : Hp → Prop) : Prop := lay n = (8, 0) ∧ n + 1 < NT ∧ n + 1 ≤ n1 ∧ LET (zer h 8 0) fun h2 => (n + 1) ≤ n1 ∧ wp_X8_init (n + 1) (n + 1) h2 (fun h3 => (n + 1) < NT ∧ LET (sR h3 4 0 1 (0 + 1)) fun h6 => lay (n + 1) = (28, 0) ∧ (n + 1) + 1 < NT ∧ (n + 1) + 1 ≤ n1 ∧ LET (zer h6 28 0) fun h8 => (n + 2) < NT ∧ LET (sR h8 4 0 2 (0 + 1)) fun h10 => (n + 2) < NT ∧ LET (sR h10 4 0 0 (0 + 1)) fun h12 => (n + 2) = n1 ∧ Q h12)
def rm_X1_init (n n1 : Nat) : Room := { frames := 1, cells := n1 - n, slots := 240 * (n1 - n), locals := 24 }
def wp_X1_init (n1 : Nat)  (n : Nat) (h : Hp) (Q : Hp → Prop) : Prop := lay n = (29, 0) ∧ n + 1 < NT ∧ n + 1 ≤ n1 ∧ LET (zer h 29 0) fun h2 => (n + 1) < NT ∧ LET (sR h2 1 0 1 (0 + 1)) fun h4 => lay (n + 1) = (30, 0) ∧ (n + 1) + 1 < NT ∧ (n + 1) + 1 ≤ n1 ∧ LET (zer h4 30 0) fun h6 => (n + 2) < NT ∧ LET (sR h6 1 0 2 (0 + 1)) fun h8 => lay (n + 2) = (31, 0) ∧ (n + 2) + 1 < NT ∧ (n + 2) + 1 ≤ n1 ∧ LET (zer h8 31 0) fun h10 => (n + 3) < NT ∧ LET (sR h10 1 0 3 (0 + 1)) fun h12 => lay (n + 3) = (32, 0) ∧ (n + 3) + 1 < NT ∧ (n + 3) + 1 ≤ n1 ∧ LET (zer h12 32 0) fun h14 => (n + 4) < NT ∧ LET (sR h14 1 0 4 (0 + 1)) fun h16 => (n + 4) < NT ∧ LET (sR h16 1 0 0 (0 + 1)) fun h18 => (n + 4) = n1 ∧ Q h18
def rm_X10_init (n n1 : Nat) : Room := { frames := 3, cells := n1 - n, slots := 240 * (n1 - n), locals := 67 }
def wp_X10_init_b36F (n1 : Nat)  (Q : Hp → Prop) (P36 : Int32 → Nat → Hp → Prop) (x1 : Int32) (n : Nat) (h : Hp) : Prop := if (4 : Int32) ≤ x1 then (lay n = (0, 0) ∧ n + 1 < NT ∧ n + 1 ≤ n1 ∧ LET (zer h 0 0) fun h3 => gR h3 10 0 0 = 0 + 1 ∧ 0 < 1 ∧ adr 9 0 < (n + 1) ∧ gR h3 10 0 2 = 0 + 1 ∧ 0 < 1 ∧ adr 21 0 < (n + 1) ∧ gR h3 10 0 1 = 0 + 1 ∧ 0 < 1 ∧ adr 3 0 < (n + 1) ∧ (n + 6) ≤ n1 ∧ wp_X0_init (n + 6) (n + 1) h3 (fun h7 => (n + 6) < NT ∧ LET (sR h7 10 0 3 (0 + 1)) fun h10 => ∃ e11 : Nat, lay (n + 6) = (5, e11) ∧ e11 < 3 ∧ (n + 6) + 1 < NT ∧ (n + 6) + 1 ≤ n1 ∧ LET (zer h10 5 e11) fun h12 => (n + 9) ≤ n1 ∧ wp_X5_init (n + 9) e11 (n + 7) h12 (fun h13 => (n + 9) < NT ∧ LET (sR h13 10 0 4 (e11 + 1)) fun h16 => ∃ e17 : Nat, lay (n + 9) = (5, e17) ∧ e17 < 3 ∧ (n + 9) + 1 < NT ∧ (n + 9) + 1 ≤ n1 ∧ LET (zer h16 5 e17) fun h18 => (n + 12) ≤ n1 ∧ wp_X5_init (n + 12) e17 (n + 10) h18 (fun h19 => (n + 12) < NT ∧ LET (sR h19 10 0 5 (e17 + 1)) fun h22 => lay (n + 12) = (4, 0) ∧ (n + 12) + 1 < NT ∧ (n + 12) + 1 ≤ n1 ∧ LET (zer h22 4 0) fun h24 => gR h24 10 0 0 = 0 + 1 ∧ 0 < 1 ∧ adr 9 0 < (n + 13) ∧ (n + 15) ≤ n1 ∧ wp_X4_init (n + 15) (n + 13) h24 (fun h26 => (n + 15) < NT ∧ LET (sR h26 10 0 6 (0 + 1)) fun h29 => lay (n + 15) = (1, 0) ∧ (n + 15) + 1 < NT ∧ (n + 15) + 1 ≤ n1 ∧ LET (zer h29 1 0) fun h31 => gR h31 10 0 1 = 0 + 1 ∧ 0 < 1 ∧ adr 3 0 < (n + 16) ∧ (n + 20) ≤ n1 ∧ wp_X1_init (n + 20) (n + 16) h31 (fun h33 => (n + 20) < NT ∧ LET (sR h33 10 0 7 (0 + 1)) fun h36 => (n + 20) = n1 ∧ Q h36)))))) else (gR h 10 0 2 = 0 + 1 ∧ 0 < 1 ∧ adr 21 0 < n ∧ ∃ e38 : Nat, lay n = (7, e38) ∧ e38 < 4 ∧ n + 1 < NT ∧ n + 1 ≤ n1 ∧ LET (zer h 7 e38) fun h39 => (n + 38) ≤ n1 ∧ wp_X7_init (n + 38) e38 (n + 1) h39 (fun h40 => vp_in x1 4 ∧ (n + 38) < NT ∧ LET (sR h40 21 0 x1.toNatClampNeg (e38 + 1)) fun h44 => LET (x1 + 1) fun v45 => P36 v45 (n + 38) h44))
def wp_X10_init_b36 (n1 : Nat) (x1 : Int32) (n : Nat) (h : Hp) (Q : Hp → Prop) : Prop := LFP3 (wp_X10_init_b36F n1  Q) x1 n h
def wp_X10_init (n1 : Nat)  (n : Nat) (h : Hp) (Q : Hp → Prop) : Prop := lay n = (9, 0) ∧ n + 1 < NT ∧ n + 1 ≤ n1 ∧ LET (zer h 9 0) fun h2 => (n + 4) ≤ n1 ∧ wp_X9_init (n + 4) (n + 1) h2 (fun h3 => (n + 4) < NT ∧ LET (sR h3 10 0 0 (0 + 1)) fun h6 => lay (n + 4) = (3, 0) ∧ (n + 4) + 1 < NT ∧ (n + 4) + 1 ≤ n1 ∧ LET (zer h6 3 0) fun h8 => (n + 51) ≤ n1 ∧ wp_X3_init (n + 51) (n + 5) h8 (fun h9 => (n + 51) < NT ∧ LET (sR h9 10 0 1 (0 + 1)) fun h12 => lay (n + 51) = (21, 0) ∧ (n + 51) + 1 < NT ∧ (n + 51) + 1 ≤ n1 ∧ LET (zer h12 21 0) fun h14 => (n + 52) < NT ∧ LET (sR h14 10 0 2 (0 + 1)) fun h16 => wp_X10_init_b36 n1 0 (n + 52) h16 Q))
def rm_X11_init (n n1 : Nat) : Room := { frames := 1, cells := n1 - n, slots := 240 * (n1 - n), locals := 24 }
def wp_X11_init_b370F (n1 : Nat)  (Q : Hp → Prop) (P370 : Int32 → Nat → Hp → Prop) (x1 : Int32) (n : Nat) (h : Hp) : Prop := if (10 : Int32) ≤ x1 then (n = n1 ∧ Q h) else (gR h 11 0 16 = 0 + 1 ∧ 0 < 1 ∧ adr 46 0 < n ∧ vp_in x1 10 ∧ LET (sI h 46 0 x1.toNatClampNeg (-1)) fun h4 => LET (x1 + 1) fun v5 => P370 v5 n h4)
def wp_X11_init_b370 (n1 : Nat) (x1 : Int32) (n : Nat) (h : Hp) (Q : Hp → Prop) : Prop := LFP3 (wp_X11_init_b370F n1  Q) x1 n h
def wp_X11_init_b347F (n1 : Nat)  (Q : Hp → Prop) (P347 : Int32 → Nat → Hp → Prop) (x1 : Int32) (n : Nat) (h : Hp) : Prop := if (8 : Int32) ≤ x1 then (wp_X11_init_b370 n1 0 n h Q) else (gR h 11 0 14 = 0 + 1 ∧ 0 < 1 ∧ adr 44 0 < n ∧ vp_in x1 8 ∧ LET (sI h 44 0 x1.toNatClampNeg 2000) fun h4 => LET (x1 + 1) fun v5 => P347 v5 n h4)
def wp_X11_init_b347 (n1 : Nat) (x1 : Int32) (n : Nat) (h : Hp) (Q : Hp → Prop) : Prop := LFP3 (wp_X11_init_b347F n1  Q) x1 n h
set_option maxRecDepth 20000 in
def wp_X11_init (n1 : Nat)  (n : Nat) (h : Hp) (Q : Hp → Prop) : Prop := lay n = (33, 0) ∧ n + 1 < NT ∧ n + 1 ≤ n1 ∧ LET (zer h 33 0) fun h2 => (n + 1) < NT ∧ LET (sR h2 11 0 3 (0 + 1)) fun h4 => lay (n + 1) = (34, 0) ∧ (n + 1) + 1 < NT ∧ (n + 1) + 1 ≤ n1 ∧ LET (zer h4 34 0) fun h6 => (n + 2) < NT ∧ LET (sR h6 11 0 4 (0 + 1)) fun h8 => lay (n + 2) = (35, 0) ∧ (n + 2) + 1 < NT ∧ (n + 2) + 1 ≤ n1 ∧ LET (zer h8 35 0) fun h10 => (n + 3) < NT ∧ LET (sR h10 11 0 5 (0 + 1)) fun h12 => lay (n + 3) = (36, 0) ∧ (n + 3) + 1 < NT ∧ (n + 3) + 1 ≤ n1 ∧ LET (zer h12 36 0) fun h14 => (n + 4) < NT ∧ LET (sR h14 11 0 6 (0 + 1)) fun h16 => lay (n + 4) = (37, 0) ∧ (n + 4) + 1 < NT ∧ (n + 4) + 1 ≤ n1 ∧ LET (zer h16 37 0) fun h18 => (n + 5) < NT ∧ LET (sR h18 11 0 7 (0 + 1)) fun h20 => lay (n + 5) = (38, 0) ∧ (n + 5) + 1 < NT ∧ (n + 5) + 1 ≤ n1 ∧ LET (zer h20 38 0) fun h22 => (n + 6) < NT ∧ LET (sR h22 11 0 8 (0 + 1)) fun h24 => lay (n + 6) = (39, 0) ∧ (n + 6) + 1 < NT ∧ (n + 6) + 1 ≤ n1 ∧ LET (zer h24 39 0) fun h26 => (n + 7) < NT ∧ LET (sR h26 11 0 9 (0 + 1)) fun h28 => lay (n + 7) = (40, 0) ∧ (n + 7) + 1 < NT ∧ (n + 7) + 1 ≤ n1 ∧ LET (zer h28 40 0) fun h30 => (n + 8) < NT ∧ LET (sR h30 11 0 10 (0 + 1)) fun h32 => lay (n + 8) = (41, 0) ∧ (n + 8) + 1 < NT ∧ (n + 8) + 1 ≤ n1 ∧ LET (zer h32 41 0) fun h34 => (n + 9) < NT ∧ LET (sR h34 11 0 11 (0 + 1)) fun h36 => lay (n + 9) = (42, 0) ∧ (n + 9) + 1 < NT ∧ (n + 9) + 1 ≤ n1 ∧ LET (zer h36 42 0) fun h38 => (n + 10) < NT ∧ LET (sR h38 11 0 12 (0 + 1)) fun h40 => lay (n + 10) = (43, 0) ∧ (n + 10) + 1 < NT ∧ (n + 10) + 1 ≤ n1 ∧ LET (zer h40 43 0) fun h42 => (n + 11) < NT ∧ LET (sR h42 11 0 13 (0 + 1)) fun h44 => lay (n + 11) = (44, 0) ∧ (n + 11) + 1 < NT ∧ (n + 11) + 1 ≤ n1 ∧ LET (zer h44 44 0) fun h46 => (n + 12) < NT ∧ LET (sR h46 11 0 14 (0 + 1)) fun h48 => lay (n + 12) = (45, 0) ∧ (n + 12) + 1 < NT ∧ (n + 12) + 1 ≤ n1 ∧ LET (zer h48 45 0) fun h50 => (n + 13) < NT ∧ LET (sR h50 11 0 15 (0 + 1)) fun h52 => lay (n + 13) = (46, 0) ∧ (n + 13) + 1 < NT ∧ (n + 13) + 1 ≤ n1 ∧ LET (zer h52 46 0) fun h54 => (n + 14) < NT ∧ LET (sR h54 11 0 16 (0 + 1)) fun h56 => lay (n + 14) = (47, 0) ∧ (n + 14) + 1 < NT ∧ (n + 14) + 1 ≤ n1 ∧ LET (zer h56 47 0) fun h58 => (n + 15) < NT ∧ LET (sR h58 11 0 17 (0 + 1)) fun h60 => lay (n + 15) = (48, 0) ∧ (n + 15) + 1 < NT ∧ (n + 15) + 1 ≤ n1 ∧ LET (zer h60 48 0) fun h62 => (n + 16) < NT ∧ LET (sR h62 11 0 18 (0 + 1)) fun h64 => lay (n + 16) = (49, 0) ∧ (n + 16) + 1 < NT ∧ (n + 16) + 1 ≤ n1 ∧ LET (zer h64 49 0) fun h66 => (n + 17) < NT ∧ LET (sR h66 11 0 20 (0 + 1)) fun h68 => lay (n + 17) = (50, 0) ∧ (n + 17) + 1 < NT ∧ (n + 17) + 1 ≤ n1 ∧ LET (zer h68 50 0) fun h70 => (n + 18) < NT ∧ LET (sR h70 11 0 21 (0 + 1)) fun h72 => lay (n + 18) = (51, 0) ∧ (n + 18) + 1 < NT ∧ (n + 18) + 1 ≤ n1 ∧ LET (zer h72 51 0) fun h74 => (n + 19) < NT ∧ LET (sR h74 11 0 22 (0 + 1)) fun h76 => lay (n + 19) = (52, 0) ∧ (n + 19) + 1 < NT ∧ (n + 19) + 1 ≤ n1 ∧ LET (zer h76 52 0) fun h78 => (n + 20) < NT ∧ LET (sR h78 11 0 23 (0 + 1)) fun h80 => lay (n + 20) = (53, 0) ∧ (n + 20) + 1 < NT ∧ (n + 20) + 1 ≤ n1 ∧ LET (zer h80 53 0) fun h82 => (n + 21) < NT ∧ LET (sR h82 11 0 24 (0 + 1)) fun h84 => lay (n + 21) = (54, 0) ∧ (n + 21) + 1 < NT ∧ (n + 21) + 1 ≤ n1 ∧ LET (zer h84 54 0) fun h86 => (n + 22) < NT ∧ LET (sR h86 11 0 25 (0 + 1)) fun h88 => lay (n + 22) = (55, 0) ∧ (n + 22) + 1 < NT ∧ (n + 22) + 1 ≤ n1 ∧ LET (zer h88 55 0) fun h90 => (n + 23) < NT ∧ LET (sR h90 11 0 26 (0 + 1)) fun h92 => lay (n + 23) = (56, 0) ∧ (n + 23) + 1 < NT ∧ (n + 23) + 1 ≤ n1 ∧ LET (zer h92 56 0) fun h94 => (n + 24) < NT ∧ LET (sR h94 11 0 27 (0 + 1)) fun h96 => lay (n + 24) = (57, 0) ∧ (n + 24) + 1 < NT ∧ (n + 24) + 1 ≤ n1 ∧ LET (zer h96 57 0) fun h98 => (n + 25) < NT ∧ LET (sR h98 11 0 28 (0 + 1)) fun h100 => lay (n + 25) = (58, 0) ∧ (n + 25) + 1 < NT ∧ (n + 25) + 1 ≤ n1 ∧ LET (zer h100 58 0) fun h102 => (n + 26) < NT ∧ LET (sR h102 11 0 30 (0 + 1)) fun h104 => lay (n + 26) = (59, 0) ∧ (n + 26) + 1 < NT ∧ (n + 26) + 1 ≤ n1 ∧ LET (zer h104 59 0) fun h106 => (n + 27) < NT ∧ LET (sR h106 11 0 31 (0 + 1)) fun h108 => lay (n + 27) = (60, 0) ∧ (n + 27) + 1 < NT ∧ (n + 27) + 1 ≤ n1 ∧ LET (zer h108 60 0) fun h110 => (n + 28) < NT ∧ LET (sR h110 11 0 32 (0 + 1)) fun h112 => lay (n + 28) = (61, 0) ∧ (n + 28) + 1 < NT ∧ (n + 28) + 1 ≤ n1 ∧ LET (zer h112 61 0) fun h114 => (n + 29) < NT ∧ LET (sR h114 11 0 39 (0 + 1)) fun h116 => lay (n + 29) = (62, 0) ∧ (n + 29) + 1 < NT ∧ (n + 29) + 1 ≤ n1 ∧ LET (zer h116 62 0) fun h118 => (n + 30) < NT ∧ LET (sR h118 11 0 46 (0 + 1)) fun h120 => lay (n + 30) = (63, 0) ∧ (n + 30) + 1 < NT ∧ (n + 30) + 1 ≤ n1 ∧ LET (zer h120 63 0) fun h122 => (n + 31) < NT ∧ LET (sR h122 11 0 53 (0 + 1)) fun h124 => lay (n + 31) = (64, 0) ∧ (n + 31) + 1 < NT ∧ (n + 31) + 1 ≤ n1 ∧ LET (zer h124 64 0) fun h126 => (n + 32) < NT ∧ LET (sR h126 11 0 54 (0 + 1)) fun h128 => lay (n + 32) = (65, 0) ∧ (n + 32) + 1 < NT ∧ (n + 32) + 1 ≤ n1 ∧ LET (zer h128 65 0) fun h130 => (n + 33) < NT ∧ LET (sR h130 11 0 55 (0 + 1)) fun h132 => lay (n + 33) = (66, 0) ∧ (n + 33) + 1 < NT ∧ (n + 33) + 1 ≤ n1 ∧ LET (zer h132 66 0) fun h134 => (n + 34) < NT ∧ LET (sR h134 11 0 56 (0 + 1)) fun h136 => lay (n + 34) = (67, 0) ∧ (n + 34) + 1 < NT ∧ (n + 34) + 1 ≤ n1 ∧ LET (zer h136 67 0) fun h138 => (n + 35) < NT ∧ LET (sR h138 11 0 57 (0 + 1)) fun h140 => lay (n + 35) = (68, 0) ∧ (n + 35) + 1 < NT ∧ (n + 35) + 1 ≤ n1 ∧ LET (zer h140 68 0) fun h142 => (n + 36) < NT ∧ LET (sR h142 11 0 59 (0 + 1)) fun h144 => lay (n + 36) = (69, 0) ∧ (n + 36) + 1 < NT ∧ (n + 36) + 1 ≤ n1 ∧ LET (zer h144 69 0) fun h146 => (n + 37) < NT ∧ LET (sR h146 11 0 60 (0 + 1)) fun h148 => lay (n + 37) = (70, 0) ∧ (n + 37) + 1 < NT ∧ (n + 37) + 1 ≤ n1 ∧ LET (zer h148 70 0) fun h150 => (n + 38) < NT ∧ LET (sR h150 11 0 61 (0 + 1)) fun h152 => lay (n + 38) = (71, 0) ∧ (n + 38) + 1 < NT ∧ (n + 38) + 1 ≤ n1 ∧ LET (zer h152 71 0) fun h154 => (n + 39) < NT ∧ LET (sR h154 11 0 63 (0 + 1)) fun h156 => lay (n + 39) = (72, 0) ∧ (n + 39) + 1 < NT ∧ (n + 39) + 1 ≤ n1 ∧ LET (zer h156 72 0) fun h158 => (n + 40) < NT ∧ LET (sR h158 11 0 64 (0 + 1)) fun h160 => lay (n + 40) = (73, 0) ∧ (n + 40) + 1 < NT ∧ (n + 40) + 1 ≤ n1 ∧ LET (zer h160 73 0) fun h162 => (n + 41) < NT ∧ LET (sR h162 11 0 68 (0 + 1)) fun h164 => lay (n + 41) = (74, 0) ∧ (n + 41) + 1 < NT ∧ (n + 41) + 1 ≤ n1 ∧ LET (zer h164 74 0) fun h166 => (n + 42) < NT ∧ LET (sR h166 11 0 69 (0 + 1)) fun h168 => wp_X11_init_b347 n1 0 (n + 42) h168 Q
def wp_L_start (n1 : Nat) (h : Hp) (Q : Hp → Prop) : Prop := lay 0 = (10, 0) ∧ 0 + 1 < NT ∧ 0 + 1 ≤ n1 ∧ LET (zer h 10 0) fun h2 => 225 ≤ n1 ∧ wp_X10_init 225 1 h2 (fun h3 => lay 225 = (11, 0) ∧ 225 + 1 < NT ∧ 225 + 1 ≤ n1 ∧ LET (zer h3 11 0) fun h6 => 268 ≤ n1 ∧ wp_X11_init 268 226 h6 (fun h7 => lay 268 = (75, 0) ∧ (268 + 1 < NT ∨ (268 + 1 = NT ∧ St (zer h7 75 0))) ∧ 268 + 1 ≤ n1 ∧ LET (zer h7 75 0) fun h10 => lay 269 = (76, 0) ∧ (269 + 1 < NT ∨ (269 + 1 = NT ∧ St (zer h10 76 0))) ∧ 269 + 1 ≤ n1 ∧ LET (zer h10 76 0) fun h12 => Q h12))
set_option maxRecDepth 20000 in
theorem m_X2_init {l : Launch} (hl : l.stackTraces = false) (G : Gq) (n n1 : Nat) (o0 : Nat) (ho0 : o0 < 41) (hth : adr 2 o0 < n) (h : Hp) (Q : Hp → Prop) (hw : wp_X2_init n1 o0 n h Q) : MV l G yX2_init cX2_init 1 none (rm_X2_init n n1) n n1 h (fun r => [r 2 o0]) Q := by
  refine CV_of (L0 := (fun X => [some (rf X 2 o0)])) hl (by decide +kernel) rfl rfl (fun _ => Nat.le_of_ble_eq_true rfl) (fun _ => rfl) fun X hXl hXG E hin hE => ?_
  subst hXl; subst hXG
  have key : GC X n n h [some (rf X 2 o0)] 0 [] := ?_
  · simpa only [GC, Nat.sub_self, Nat.mul_zero] using key
  unfold wp_X2_init at hw
  obtain ⟨n0, e0⟩ : ∃ z, z = n := ⟨_, rfl⟩
  have hn0 : n0 ≤ n := Nat.le_of_eq e0
  have hth : adr 2 o0 < n0 := by rw [e0]; exact hth
  have E : EE X cX2_init RX2 1 1 24 (n1 - n0) (240 * (n1 - n0)) := by rw [e0]; exact E
  have hE : ENDv X cX2_init Q n1 (n1 - n0) (240 * (n1 - n0)) := by rw [e0]; exact hE
  have key : GC X n0 n h [some (rf X 2 o0)] 0 [] := ?_
  · rw [← e0]; rw [e0] at key ⊢; exact key
  refine r_aload_n E 2 o0 rfl dX2_init_0 ?_
  refine r_objInit E lo_X2_1 rfl (by decide) (by decide) dX2_init_1 ?_
  obtain ⟨e9, hw⟩ := hw
  have g := hE (n1 - n0) (240 * (n1 - n0)) h [some (rf X 2 o0)] 4 (Nat.le_refl _) (Nat.le_refl _) dX2_init_4 hw
  rw [← e9] at g
  exact g
set_option maxRecDepth 20000 in
theorem m_X8_init {l : Launch} (hl : l.stackTraces = false) (G : Gq) (n n1 : Nat)   (hth : adr 8 0 < n) (h : Hp) (Q : Hp → Prop) (hw : wp_X8_init n1  n h Q) : MV l G yX8_init cX8_init 1 none (rm_X8_init n n1) n n1 h (fun r => [r 8 0]) Q := by
  refine CV_of (L0 := (fun X => [some (rf X 8 0)])) hl (by decide +kernel) rfl rfl (fun _ => Nat.le_of_ble_eq_true rfl) (fun _ => rfl) fun X hXl hXG E hin hE => ?_
  subst hXl; subst hXG
  have key : GC X n n h [some (rf X 8 0)] 0 [] := ?_
  · simpa only [GC, Nat.sub_self, Nat.mul_zero] using key
  unfold wp_X8_init at hw
  obtain ⟨n0, e0⟩ : ∃ z, z = n := ⟨_, rfl⟩
  have hn0 : n0 ≤ n := Nat.le_of_eq e0
  have hth : adr 8 0 < n0 := by rw [e0]; exact hth
  have E : EE X cX8_init RX8 1 1 24 (n1 - n0) (240 * (n1 - n0)) := by rw [e0]; exact E
  have hE : ENDv X cX8_init Q n1 (n1 - n0) (240 * (n1 - n0)) := by rw [e0]; exact hE
  have key : GC X n0 n h [some (rf X 8 0)] 0 [] := ?_
  · rw [← e0]; rw [e0] at key ⊢; exact key
  refine r_aload_n E 8 0 rfl dX8_init_0 ?_
  refine r_objInit E lo_X8_3 rfl (by decide) (by decide) dX8_init_1 ?_
  obtain ⟨e9, hw⟩ := hw
  have g := hE (n1 - n0) (240 * (n1 - n0)) h [some (rf X 8 0)] 4 (Nat.le_refl _) (Nat.le_refl _) dX8_init_4 hw
  rw [← e9] at g
  exact g
set_option maxRecDepth 20000 in
theorem m_X5_init {l : Launch} (hl : l.stackTraces = false) (G : Gq) (n n1 : Nat) (o0 : Nat) (ho0 : o0 < 3) (hth : adr 5 o0 < n) (h : Hp) (Q : Hp → Prop) (hw : wp_X5_init n1 o0 n h Q) : MV l G yX5_init cX5_init 1 none (rm_X5_init n n1) n n1 h (fun r => [r 5 o0]) Q := by
  refine CV_of (L0 := (fun X => [some (rf X 5 o0)])) hl (by decide +kernel) rfl rfl (fun _ => Nat.le_of_ble_eq_true rfl) (fun _ => rfl) fun X hXl hXG E hin hE => ?_
  subst hXl; subst hXG
  have key : GC X n n h [some (rf X 5 o0)] 0 [] := ?_
  · simpa only [GC, Nat.sub_self, Nat.mul_zero] using key
  unfold wp_X5_init at hw
  obtain ⟨n0, e0⟩ : ∃ z, z = n := ⟨_, rfl⟩
  have hn0 : n0 ≤ n := Nat.le_of_eq e0
  have hth : adr 5 o0 < n0 := by rw [e0]; exact hth
  have E : EE X cX5_init RX5 1 1 24 (n1 - n0) (240 * (n1 - n0)) := by rw [e0]; exact E
  have hE : ENDv X cX5_init Q n1 (n1 - n0) (240 * (n1 - n0)) := by rw [e0]; exact hE
  have key : GC X n0 n h [some (rf X 5 o0)] 0 [] := ?_
  · rw [← e0]; rw [e0] at key ⊢; exact key
  refine r_aload_n E 5 o0 rfl dX5_init_0 ?_
  refine r_objInit E lo_X5_3 rfl (by decide) (by decide) dX5_init_1 ?_
  refine r_aload_n E 5 o0 rfl dX5_init_4 ?_
  refine r_sipush E 200 rfl dX5_init_5 ?_
  obtain ⟨e1, le1, be1, te1, me1, hw⟩ := hw
  have ue1 : n < NT := Nat.lt_of_succ_lt te1
  have ae1 := AL_adr le1 ue1
  refine r_newa_int E rfl rfl rfl (by decide) (by decide) (by decide) le1 hn0 (Or.inl te1) (Nat.sub_le_sub_right me1 n0) (Nat.mul_le_mul_left 240 (Nat.sub_le_sub_right me1 n0)) dX5_init_8 ?_
  refine GG_toph fun h2 hh2 => ?_
  replace hw := hw h2 hh2
  have fe1 : adr 26 e1 < n + 1 := Nat.lt_succ_of_le (Nat.le_of_eq ae1)
  obtain ⟨f3, hw⟩ := hw
  refine r_putRF E fd_X5_11 (t := e1) (j1 := 26) rfl rfl ⟨rfl, rfl⟩ f3 hin rfl ho0 (Nat.lt_of_lt_of_le hth (Nat.le_trans hn0 (Nat.le_add_right n 1))) rfl dX5_init_10 ?_
  refine GG_toph fun h4 hh4 => ?_
  replace hw := hw h4 hh4
  refine r_aload_n E 5 o0 rfl dX5_init_13 ?_
  refine r_bipush E 8 rfl dX5_init_14 ?_
  obtain ⟨e5, le5, be5, te5, me5, hw⟩ := hw
  have ue5 : (n + 1) < NT := Nat.lt_of_succ_lt te5
  have ae5 := AL_adr le5 ue5
  refine r_newa_int E rfl rfl rfl (by decide) (by decide) (by decide) le5 (Nat.le_trans hn0 (Nat.le_add_right n 1)) (Or.inl te5) (Nat.sub_le_sub_right me5 n0) (Nat.mul_le_mul_left 240 (Nat.sub_le_sub_right me5 n0)) dX5_init_16 ?_
  refine GG_toph fun h6 hh6 => ?_
  replace hw := hw h6 hh6
  have fe5 : adr 27 e5 < (n + 1) + 1 := Nat.lt_succ_of_le (Nat.le_of_eq ae5)
  obtain ⟨f7, hw⟩ := hw
  refine r_putRF E fd_X5_15 (t := e5) (j1 := 27) rfl rfl ⟨rfl, rfl⟩ f7 hin rfl ho0 (Nat.lt_of_lt_of_le hth (Nat.le_trans hn0 (Nat.le_add_right n 2))) rfl dX5_init_18 ?_
  refine GG_toph fun h8 hh8 => ?_
  replace hw := hw h8 hh8
  obtain ⟨e9, hw⟩ := hw
  have g := hE (n1 - n0) (240 * (n1 - n0)) h8 [some (rf X 5 o0)] 21 (Nat.le_refl _) (Nat.le_refl _) dX5_init_21 hw
  rw [← e9] at g
  exact g
set_option maxRecDepth 20000 in
theorem m_X6_init {l : Launch} (hl : l.stackTraces = false) (G : Gq) (n n1 : Nat) (o0 : Nat) (ho0 : o0 < 48) (hth : adr 6 o0 < n) (h : Hp) (Q : Hp → Prop) (hw : wp_X6_init n1 o0 n h Q) : MV l G yX6_init cX6_init 1 none (rm_X6_init n n1) n n1 h (fun r => [r 6 o0]) Q := by
  refine CV_of (L0 := (fun X => [some (rf X 6 o0)])) hl (by decide +kernel) rfl rfl (fun _ => Nat.le_of_ble_eq_true rfl) (fun _ => rfl) fun X hXl hXG E hin hE => ?_
  subst hXl; subst hXG
  have key : GC X n n h [some (rf X 6 o0)] 0 [] := ?_
  · simpa only [GC, Nat.sub_self, Nat.mul_zero] using key
  unfold wp_X6_init at hw
  obtain ⟨n0, e0⟩ : ∃ z, z = n := ⟨_, rfl⟩
  have hn0 : n0 ≤ n := Nat.le_of_eq e0
  have hth : adr 6 o0 < n0 := by rw [e0]; exact hth
  have E : EE X cX6_init RX6 1 1 24 (n1 - n0) (240 * (n1 - n0)) := by rw [e0]; exact E
  have hE : ENDv X cX6_init Q n1 (n1 - n0) (240 * (n1 - n0)) := by rw [e0]; exact hE
  have key : GC X n0 n h [some (rf X 6 o0)] 0 [] := ?_
  · rw [← e0]; rw [e0] at key ⊢; exact key
  refine r_aload_n E 6 o0 rfl dX6_init_0 ?_
  refine r_objInit E lo_X6_3 rfl (by decide) (by decide) dX6_init_1 ?_
  refine r_aload_n E 6 o0 rfl dX6_init_4 ?_
  refine r_iconst E 5 rfl dX6_init_5 ?_
  obtain ⟨e1, le1, be1, te1, me1, hw⟩ := hw
  have ue1 : n < NT := Nat.lt_of_succ_lt te1
  have ae1 := AL_adr le1 ue1
  refine r_newa_char E rfl rfl rfl (by decide) (by decide) (by decide) le1 hn0 (Or.inl te1) (Nat.sub_le_sub_right me1 n0) (Nat.mul_le_mul_left 240 (Nat.sub_le_sub_right me1 n0)) dX6_init_6 ?_
  refine GG_toph fun h2 hh2 => ?_
  replace hw := hw h2 hh2
  have fe1 : adr 23 e1 < n + 1 := Nat.lt_succ_of_le (Nat.le_of_eq ae1)
  obtain ⟨f3, hw⟩ := hw
  refine r_putRF E fd_X6_11 (t := e1) (j1 := 23) rfl rfl ⟨rfl, rfl⟩ f3 hin rfl ho0 (Nat.lt_of_lt_of_le hth (Nat.le_trans hn0 (Nat.le_add_right n 1))) rfl dX6_init_8 ?_
  refine GG_toph fun h4 hh4 => ?_
  replace hw := hw h4 hh4
  refine r_aload_n E 6 o0 rfl dX6_init_11 ?_
  refine r_iconst E 5 rfl dX6_init_12 ?_
  obtain ⟨e5, le5, be5, te5, me5, hw⟩ := hw
  have ue5 : (n + 1) < NT := Nat.lt_of_succ_lt te5
  have ae5 := AL_adr le5 ue5
  refine r_newa_int E rfl rfl rfl (by decide) (by decide) (by decide) le5 (Nat.le_trans hn0 (Nat.le_add_right n 1)) (Or.inl te5) (Nat.sub_le_sub_right me5 n0) (Nat.mul_le_mul_left 240 (Nat.sub_le_sub_right me5 n0)) dX6_init_13 ?_
  refine GG_toph fun h6 hh6 => ?_
  replace hw := hw h6 hh6
  have fe5 : adr 24 e5 < (n + 1) + 1 := Nat.lt_succ_of_le (Nat.le_of_eq ae5)
  obtain ⟨f7, hw⟩ := hw
  refine r_putRF E fd_X6_15 (t := e5) (j1 := 24) rfl rfl ⟨rfl, rfl⟩ f7 hin rfl ho0 (Nat.lt_of_lt_of_le hth (Nat.le_trans hn0 (Nat.le_add_right n 2))) rfl dX6_init_15 ?_
  refine GG_toph fun h8 hh8 => ?_
  replace hw := hw h8 hh8
  obtain ⟨e9, hw⟩ := hw
  have g := hE (n1 - n0) (240 * (n1 - n0)) h8 [some (rf X 6 o0)] 18 (Nat.le_refl _) (Nat.le_refl _) dX6_init_18 hw
  rw [← e9] at g
  exact g
set_option maxRecDepth 20000 in
theorem t_X7_init_b15F {X : Ctx} (n : Nat) (h : Hp) (o0 : Nat) (x1 : Int32) (ho0 : o0 < 4) (n0 n1 : Nat) (hn0 : n0 ≤ n) (hth : adr 7 o0 < n0) (hin : (xMe X).name = "<init>") (E : EE X cX7_init RX7 2 2 44 (n1 - n0) (240 * (n1 - n0))) {Q : Hp → Prop} (hE : ENDv X cX7_init Q n1 (n1 - n0) (240 * (n1 - n0))) (P15 : Int32 → Nat → Hp → Prop) (hP15 : ∀ (y1 : Int32) (n9 : Nat) (u : Hp), P15 y1 n9 u → n0 ≤ n9 → GC X n0 n9 u [some (rf X 7 o0), some (.int y1)] 15 []) (hw : wp_X7_init_b15F n1 o0 Q P15 x1 n h) : GC X n0 n h [some (rf X 7 o0), some (.int x1)] 15 [] := by
  unfold wp_X7_init_b15F at hw
  refine r_iload_n E x1 rfl dX7_init_15 ?_
  refine r_bipush E 12 rfl dX7_init_16 ?_
  refine r_icmp_ge E 40 (by decide) dX7_init_18 (fun c1 => ?_) (fun c1 => ?_)
  · have hw := ite_t hw c1
    obtain ⟨e9, hw⟩ := hw
    have g := hE (n1 - n0) (240 * (n1 - n0)) h [some (rf X 7 o0), some (.int x1)] 40 (Nat.le_refl _) (Nat.le_refl _) dX7_init_40 hw
    rw [← e9] at g
    exact g
  · have hw := ite_f hw c1
    refine r_aload_n E 7 o0 rfl dX7_init_21 ?_
    obtain ⟨vg2, bg2, lg2, hw⟩ := hw
    refine r_getR E fd_X7_11 (t := o0) (j1 := 22) rfl vg2 rfl ho0 (Nat.lt_of_lt_of_le hth hn0) dX7_init_22 ?_
    refine r_iload_n E x1 rfl dX7_init_25 ?_
    obtain ⟨e3, le3, be3, te3, me3, hw⟩ := hw
    have ue3 : n < NT := Nat.lt_of_succ_lt te3
    have ae3 := AL_adr le3 ue3
    refine r_new E cl_X7_9 li_6 (by decide) (by decide) le3 hn0 te3 (Nat.sub_le_sub_right me3 n0) (Nat.mul_le_mul_left 240 (Nat.sub_le_sub_right me3 n0)) dX7_init_26 ?_
    refine GG_toph fun h4 hh4 => ?_
    replace hw := hw h4 hh4
    have fe3 : adr 6 e3 < n + 1 := Nat.lt_succ_of_le (Nat.le_of_eq ae3)
    refine r_dup E rfl dX7_init_29 ?_
    obtain ⟨c6, hw⟩ := hw
    refine r_callINV E (m_X6_init (EE_st E) (GX X) (n + 1) (n + 3) e3 be3 (Nat.lt_of_lt_of_le fe3 (Nat.le_refl _)) h4 _ hw) lk_X7_15 (RM_mk (Nat.le_of_ble_eq_true rfl) (Nat.le_of_ble_eq_true rfl)) rfl rfl rfl rfl (Nat.le_of_ble_eq_true rfl) (k1 := (n + 3) - n0) (z1 := 240 * ((n + 3) - n0)) (qsub (Nat.le_trans hn0 (Nat.le_add_right n 1)) (Nat.add_le_add_left (by decide : 1 ≤ 3) n)) (qsub240 (Nat.le_trans hn0 (Nat.le_add_right n 1)) (Nat.add_le_add_left (by decide : 1 ≤ 3) n)) (Nat.sub_le_sub_right c6 n0) (Nat.mul_le_mul_left 240 (Nat.sub_le_sub_right c6 n0)) dX7_init_30 (fun h5 hw => ?_)
    obtain ⟨i7, hw⟩ := hw
    obtain ⟨f8, hw⟩ := hw
    refine r_aast E (t := e3) (j1 := 6) (ta := 5) rfl rfl (Nat.le_of_ble_eq_true rfl) rfl (Nat.le_of_ble_eq_true rfl) rfl rfl bg2 (Nat.lt_of_lt_of_le lg2 (Nat.add_le_add_left (by decide : 0 ≤ 3) n)) be3 (Nat.lt_of_lt_of_le fe3 (Nat.add_le_add_left (by decide : 1 ≤ 3) n)) i7 (Or.inl f8) dX7_init_33 ?_
    refine GG_toph fun h9 hh9 => ?_
    replace hw := hw h9 hh9
    obtain ⟨v10, hv10⟩ : ∃ y : Int32, y = x1 + 1 := ⟨_, rfl⟩
    replace hw := hw v10 hv10
    refine r_iinc E x1 v10 [some (rf X 7 o0), some (.int v10)] rfl (by rw [hv10]; rfl) (Nat.le_of_ble_eq_true rfl) rfl dX7_init_34 ?_
    refine r_goto E 15 (by decide) dX7_init_37 ?_
    exact GG_weak [true, true] rfl (hP15 _ _ _ hw (Nat.le_trans hn0 (Nat.le_add_right n 3)))
set_option maxRecDepth 20000 in
theorem t_X7_init_b15 {X : Ctx} (n : Nat) (h : Hp) (o0 : Nat) (x1 : Int32) (ho0 : o0 < 4) (n0 n1 : Nat) (hn0 : n0 ≤ n) (hth : adr 7 o0 < n0) (hin : (xMe X).name = "<init>") (E : EE X cX7_init RX7 2 2 44 (n1 - n0) (240 * (n1 - n0))) {Q : Hp → Prop} (hE : ENDv X cX7_init Q n1 (n1 - n0) (240 * (n1 - n0))) (hw : wp_X7_init_b15 n1 o0 x1 n h Q) : GC X n0 n h [some (rf X 7 o0), some (.int x1)] 15 [] :=
  hw (fun y1 n9 u => n0 ≤ n9 → GC X n0 n9 u [some (rf X 7 o0), some (.int y1)] 15 []) (fun y1 n9 u hq hn9 => t_X7_init_b15F n9 u o0 y1 ho0 n0 n1 hn9 hth hin E hE (fun y1 n9 u => n0 ≤ n9 → GC X n0 n9 u [some (rf X 7 o0), some (.int y1)] 15 []) (fun y1 n9 u q w => q w) hq) hn0
set_option maxRecDepth 20000 in
theorem m_X7_init {l : Launch} (hl : l.stackTraces = false) (G : Gq) (n n1 : Nat) (o0 : Nat) (ho0 : o0 < 4) (hth : adr 7 o0 < n) (h : Hp) (Q : Hp → Prop) (hw : wp_X7_init n1 o0 n h Q) : MV l G yX7_init cX7_init 2 none (rm_X7_init n n1) n n1 h (fun r => [r 7 o0]) Q := by
  refine CV_of (L0 := (fun X => [some (rf X 7 o0), none])) hl (by decide +kernel) rfl rfl (fun _ => Nat.le_of_ble_eq_true rfl) (fun _ => rfl) fun X hXl hXG E hin hE => ?_
  subst hXl; subst hXG
  have key : GC X n n h [some (rf X 7 o0), none] 0 [] := ?_
  · simpa only [GC, Nat.sub_self, Nat.mul_zero] using key
  unfold wp_X7_init at hw
  obtain ⟨n0, e0⟩ : ∃ z, z = n := ⟨_, rfl⟩
  have hn0 : n0 ≤ n := Nat.le_of_eq e0
  have hth : adr 7 o0 < n0 := by rw [e0]; exact hth
  have E : EE X cX7_init RX7 2 2 44 (n1 - n0) (240 * (n1 - n0)) := by rw [e0]; exact E
  have hE : ENDv X cX7_init Q n1 (n1 - n0) (240 * (n1 - n0)) := by rw [e0]; exact hE
  have key : GC X n0 n h [some (rf X 7 o0), none] 0 [] := ?_
  · rw [← e0]; rw [e0] at key ⊢; exact key
  refine r_aload_n E 7 o0 rfl dX7_init_0 ?_
  refine r_objInit E lo_X7_1 rfl (by decide) (by decide) dX7_init_1 ?_
  refine r_aload_n E 7 o0 rfl dX7_init_4 ?_
  refine r_bipush E 12 rfl dX7_init_5 ?_
  obtain ⟨e1, le1, be1, te1, me1, hw⟩ := hw
  have ue1 : n < NT := Nat.lt_of_succ_lt te1
  have ae1 := AL_adr le1 ue1
  refine r_newq_6 E cl_X7_9 rfl rfl rfl (by decide) (by decide) (by decide) le1 hn0 te1 (Nat.sub_le_sub_right me1 n0) (Nat.mul_le_mul_left 240 (Nat.sub_le_sub_right me1 n0)) dX7_init_7 ?_
  refine GG_toph fun h2 hh2 => ?_
  replace hw := hw h2 hh2
  have fe1 : adr 22 e1 < n + 1 := Nat.lt_succ_of_le (Nat.le_of_eq ae1)
  obtain ⟨f3, hw⟩ := hw
  refine r_putRF E fd_X7_11 (t := e1) (j1 := 22) rfl rfl ⟨rfl, rfl⟩ f3 hin rfl ho0 (Nat.lt_of_lt_of_le hth (Nat.le_trans hn0 (Nat.le_add_right n 1))) rfl dX7_init_10 ?_
  refine GG_toph fun h4 hh4 => ?_
  replace hw := hw h4 hh4
  refine r_iconst E 0 rfl dX7_init_13 ?_
  refine r_istore_n E [some (rf X 7 o0), some (.int 0)] rfl (Nat.le_of_ble_eq_true rfl) rfl dX7_init_14 ?_
  exact GG_weak [true, true] rfl (t_X7_init_b15 (n + 1) h4 o0 0 ho0 n0 n1 (Nat.le_trans hn0 (Nat.le_add_right n 1)) hth hin E hE  hw)
set_option maxRecDepth 20000 in
theorem m_X9_init {l : Launch} (hl : l.stackTraces = false) (G : Gq) (n n1 : Nat)   (hth : adr 9 0 < n) (h : Hp) (Q : Hp → Prop) (hw : wp_X9_init n1  n h Q) : MV l G yX9_init cX9_init 1 none (rm_X9_init n n1) n n1 h (fun r => [r 9 0]) Q := by
  refine CV_of (L0 := (fun X => [some (rf X 9 0)])) hl (by decide +kernel) rfl rfl (fun _ => Nat.le_of_ble_eq_true rfl) (fun _ => rfl) fun X hXl hXG E hin hE => ?_
  subst hXl; subst hXG
  have key : GC X n n h [some (rf X 9 0)] 0 [] := ?_
  · simpa only [GC, Nat.sub_self, Nat.mul_zero] using key
  unfold wp_X9_init at hw
  obtain ⟨n0, e0⟩ : ∃ z, z = n := ⟨_, rfl⟩
  have hn0 : n0 ≤ n := Nat.le_of_eq e0
  have hth : adr 9 0 < n0 := by rw [e0]; exact hth
  have E : EE X cX9_init RX9 1 1 24 (n1 - n0) (240 * (n1 - n0)) := by rw [e0]; exact E
  have hE : ENDv X cX9_init Q n1 (n1 - n0) (240 * (n1 - n0)) := by rw [e0]; exact hE
  have key : GC X n0 n h [some (rf X 9 0)] 0 [] := ?_
  · rw [← e0]; rw [e0] at key ⊢; exact key
  refine r_aload_n E 9 0 rfl dX9_init_0 ?_
  refine r_objInit E lo_X9_3 rfl (by decide) (by decide) dX9_init_1 ?_
  refine r_aload_n E 9 0 rfl dX9_init_4 ?_
  refine r_bipush E 60 rfl dX9_init_5 ?_
  obtain ⟨le1, te1, me1, hw⟩ := hw
  have ue1 : n < NT := Nat.lt_of_succ_lt te1
  have ae1 := AL_adr le1 ue1
  refine r_newa_char E rfl rfl rfl (by decide) (by decide) (by decide) le1 hn0 (Or.inl te1) (Nat.sub_le_sub_right me1 n0) (Nat.mul_le_mul_left 240 (Nat.sub_le_sub_right me1 n0)) dX9_init_7 ?_
  refine GG_toph fun h2 hh2 => ?_
  replace hw := hw h2 hh2
  have fe1 : adr 12 0 < n + 1 := Nat.lt_succ_of_le (Nat.le_of_eq ae1)
  obtain ⟨f3, hw⟩ := hw
  refine r_putRF E fd_X9_11 (t := 0) (j1 := 12) rfl rfl ⟨rfl, rfl⟩ f3 hin rfl (Nat.le_of_ble_eq_true rfl) (Nat.lt_of_lt_of_le hth (Nat.le_trans hn0 (Nat.le_add_right n 1))) rfl dX9_init_9 ?_
  refine GG_toph fun h4 hh4 => ?_
  replace hw := hw h4 hh4
  refine r_aload_n E 9 0 rfl dX9_init_12 ?_
  refine r_bipush E 60 rfl dX9_init_13 ?_
  obtain ⟨le5, te5, me5, hw⟩ := hw
  have ue5 : (n + 1) < NT := Nat.lt_of_succ_lt te5
  have ae5 := AL_adr le5 ue5
  refine r_newa_int E rfl rfl rfl (by decide) (by decide) (by decide) le5 (Nat.le_trans hn0 (Nat.le_add_right n 1)) (Or.inl te5) (Nat.sub_le_sub_right me5 n0) (Nat.mul_le_mul_left 240 (Nat.sub_le_sub_right me5 n0)) dX9_init_15 ?_
  refine GG_toph fun h6 hh6 => ?_
  replace hw := hw h6 hh6
  have fe5 : adr 13 0 < (n + 1) + 1 := Nat.lt_succ_of_le (Nat.le_of_eq ae5)
  obtain ⟨f7, hw⟩ := hw
  refine r_putRF E fd_X9_15 (t := 0) (j1 := 13) rfl rfl ⟨rfl, rfl⟩ f7 hin rfl (Nat.le_of_ble_eq_true rfl) (Nat.lt_of_lt_of_le hth (Nat.le_trans hn0 (Nat.le_add_right n 2))) rfl dX9_init_17 ?_
  refine GG_toph fun h8 hh8 => ?_
  replace hw := hw h8 hh8
  refine r_aload_n E 9 0 rfl dX9_init_20 ?_
  refine r_bipush E 60 rfl dX9_init_21 ?_
  obtain ⟨le9, te9, me9, hw⟩ := hw
  have ue9 : (n + 2) < NT := Nat.lt_of_succ_lt te9
  have ae9 := AL_adr le9 ue9
  refine r_newa_int E rfl rfl rfl (by decide) (by decide) (by decide) le9 (Nat.le_trans hn0 (Nat.le_add_right n 2)) (Or.inl te9) (Nat.sub_le_sub_right me9 n0) (Nat.mul_le_mul_left 240 (Nat.sub_le_sub_right me9 n0)) dX9_init_23 ?_
  refine GG_toph fun h10 hh10 => ?_
  replace hw := hw h10 hh10
  have fe9 : adr 14 0 < (n + 2) + 1 := Nat.lt_succ_of_le (Nat.le_of_eq ae9)
  obtain ⟨f11, hw⟩ := hw
  refine r_putRF E fd_X9_19 (t := 0) (j1 := 14) rfl rfl ⟨rfl, rfl⟩ f11 hin rfl (Nat.le_of_ble_eq_true rfl) (Nat.lt_of_lt_of_le hth (Nat.le_trans hn0 (Nat.le_add_right n 3))) rfl dX9_init_25 ?_
  refine GG_toph fun h12 hh12 => ?_
  replace hw := hw h12 hh12
  obtain ⟨e9, hw⟩ := hw
  have g := hE (n1 - n0) (240 * (n1 - n0)) h12 [some (rf X 9 0)] 28 (Nat.le_refl _) (Nat.le_refl _) dX9_init_28 hw
  rw [← e9] at g
  exact g
set_option maxRecDepth 20000 in
theorem t_X3_init_b82F {X : Ctx} (n : Nat) (h : Hp) (x1 : Int32)  (n0 n1 : Nat) (hn0 : n0 ≤ n) (hth : adr 3 0 < n0) (hin : (xMe X).name = "<init>") (E : EE X cX3_init RX3 2 2 44 (n1 - n0) (240 * (n1 - n0))) {Q : Hp → Prop} (hE : ENDv X cX3_init Q n1 (n1 - n0) (240 * (n1 - n0))) (P82 : Int32 → Nat → Hp → Prop) (hP82 : ∀ (y1 : Int32) (n9 : Nat) (u : Hp), P82 y1 n9 u → n0 ≤ n9 → GC X n0 n9 u [some (rf X 3 0), some (.int y1)] 82 []) (hw : wp_X3_init_b82F n1  Q P82 x1 n h) : GC X n0 n h [some (rf X 3 0), some (.int x1)] 82 [] := by
  unfold wp_X3_init_b82F at hw
  refine r_iload_n E x1 rfl dX3_init_82 ?_
  refine r_bipush E 8 rfl dX3_init_83 ?_
  refine r_icmp_ge E 103 (by decide) dX3_init_85 (fun c1 => ?_) (fun c1 => ?_)
  · have hw := ite_t hw c1
    obtain ⟨e9, hw⟩ := hw
    have g := hE (n1 - n0) (240 * (n1 - n0)) h [some (rf X 3 0), some (.int x1)] 103 (Nat.le_refl _) (Nat.le_refl _) dX3_init_103 hw
    rw [← e9] at g
    exact g
  · have hw := ite_f hw c1
    refine r_aload_n E 3 0 rfl dX3_init_88 ?_
    obtain ⟨vg2, bg2, lg2, hw⟩ := hw
    refine r_getR E fd_X3_17 (t := 0) (j1 := 16) rfl vg2 rfl (Nat.le_of_ble_eq_true rfl) (Nat.lt_of_lt_of_le hth hn0) dX3_init_89 ?_
    refine r_iload_n E x1 rfl dX3_init_92 ?_
    refine r_sipush E 2000 rfl dX3_init_93 ?_
    obtain ⟨i3, hw⟩ := hw
    refine r_iast E rfl rfl rfl bg2 (Nat.lt_of_lt_of_le lg2 (Nat.le_refl _)) i3 dX3_init_96 ?_
    refine GG_toph fun h4 hh4 => ?_
    replace hw := hw h4 hh4
    obtain ⟨v5, hv5⟩ : ∃ y : Int32, y = x1 + 1 := ⟨_, rfl⟩
    replace hw := hw v5 hv5
    refine r_iinc E x1 v5 [some (rf X 3 0), some (.int v5)] rfl (by rw [hv5]; rfl) (Nat.le_of_ble_eq_true rfl) rfl dX3_init_97 ?_
    refine r_goto E 82 (by decide) dX3_init_100 ?_
    exact GG_weak [true, true] rfl (hP82 _ _ _ hw hn0)
set_option maxRecDepth 20000 in
theorem t_X3_init_b82 {X : Ctx} (n : Nat) (h : Hp) (x1 : Int32)  (n0 n1 : Nat) (hn0 : n0 ≤ n) (hth : adr 3 0 < n0) (hin : (xMe X).name = "<init>") (E : EE X cX3_init RX3 2 2 44 (n1 - n0) (240 * (n1 - n0))) {Q : Hp → Prop} (hE : ENDv X cX3_init Q n1 (n1 - n0) (240 * (n1 - n0))) (hw : wp_X3_init_b82 n1 x1 n h Q) : GC X n0 n h [some (rf X 3 0), some (.int x1)] 82 [] :=
  hw (fun y1 n9 u => n0 ≤ n9 → GC X n0 n9 u [some (rf X 3 0), some (.int y1)] 82 []) (fun y1 n9 u hq hn9 => t_X3_init_b82F n9 u y1  n0 n1 hn9 hth hin E hE (fun y1 n9 u => n0 ≤ n9 → GC X n0 n9 u [some (rf X 3 0), some (.int y1)] 82 []) (fun y1 n9 u q w => q w) hq) hn0
set_option maxRecDepth 20000 in
theorem t_X3_init_b55F {X : Ctx} (n : Nat) (h : Hp) (x1 : Int32)  (n0 n1 : Nat) (hn0 : n0 ≤ n) (hth : adr 3 0 < n0) (hin : (xMe X).name = "<init>") (E : EE X cX3_init RX3 2 2 44 (n1 - n0) (240 * (n1 - n0))) {Q : Hp → Prop} (hE : ENDv X cX3_init Q n1 (n1 - n0) (240 * (n1 - n0))) (P55 : Int32 → Nat → Hp → Prop) (hP55 : ∀ (y1 : Int32) (n9 : Nat) (u : Hp), P55 y1 n9 u → n0 ≤ n9 → GC X n0 n9 u [some (rf X 3 0), some (.int y1)] 55 []) (hw : wp_X3_init_b55F n1  Q P55 x1 n h) : GC X n0 n h [some (rf X 3 0), some (.int x1)] 55 [] := by
  unfold wp_X3_init_b55F at hw
  refine r_iload_n E x1 rfl dX3_init_55 ?_
  refine r_bipush E 40 rfl dX3_init_56 ?_
  refine r_icmp_ge E 80 (by decide) dX3_init_58 (fun c1 => ?_) (fun c1 => ?_)
  · have hw := ite_t hw c1
    refine r_iconst E 0 rfl dX3_init_80 ?_
    refine r_istore_n E [some (rf X 3 0), some (.int 0)] rfl (Nat.le_of_ble_eq_true rfl) rfl dX3_init_81 ?_
    exact GG_weak [true, true] rfl (t_X3_init_b82 n h 0 n0 n1 hn0 hth hin E hE  hw)
  · have hw := ite_f hw c1
    refine r_aload_n E 3 0 rfl dX3_init_61 ?_
    obtain ⟨vg2, bg2, lg2, hw⟩ := hw
    refine r_getR E fd_X3_13 (t := 0) (j1 := 15) rfl vg2 rfl (Nat.le_of_ble_eq_true rfl) (Nat.lt_of_lt_of_le hth hn0) dX3_init_62 ?_
    refine r_iload_n E x1 rfl dX3_init_65 ?_
    obtain ⟨e3, le3, be3, te3, me3, hw⟩ := hw
    have ue3 : n < NT := Nat.lt_of_succ_lt te3
    have ae3 := AL_adr le3 ue3
    refine r_new E cl_X3_11 li_2 (by decide) (by decide) le3 hn0 te3 (Nat.sub_le_sub_right me3 n0) (Nat.mul_le_mul_left 240 (Nat.sub_le_sub_right me3 n0)) dX3_init_66 ?_
    refine GG_toph fun h4 hh4 => ?_
    replace hw := hw h4 hh4
    have fe3 : adr 2 e3 < n + 1 := Nat.lt_succ_of_le (Nat.le_of_eq ae3)
    refine r_dup E rfl dX3_init_69 ?_
    obtain ⟨c6, hw⟩ := hw
    refine r_callINV E (m_X2_init (EE_st E) (GX X) (n + 1) (n + 1) e3 be3 (Nat.lt_of_lt_of_le fe3 (Nat.le_refl _)) h4 _ hw) lk_X3_33 (RM_mk (Nat.le_of_ble_eq_true rfl) (Nat.le_of_ble_eq_true rfl)) rfl rfl rfl rfl (Nat.le_of_ble_eq_true rfl) (k1 := (n + 1) - n0) (z1 := 240 * ((n + 1) - n0)) (qsub (Nat.le_trans hn0 (Nat.le_add_right n 1)) (Nat.le_refl _)) (qsub240 (Nat.le_trans hn0 (Nat.le_add_right n 1)) (Nat.le_refl _)) (Nat.sub_le_sub_right c6 n0) (Nat.mul_le_mul_left 240 (Nat.sub_le_sub_right c6 n0)) dX3_init_70 (fun h5 hw => ?_)
    obtain ⟨i7, hw⟩ := hw
    obtain ⟨f8, hw⟩ := hw
    refine r_aast E (t := e3) (j1 := 2) (ta := 4) rfl rfl (Nat.le_of_ble_eq_true rfl) rfl (Nat.le_of_ble_eq_true rfl) rfl rfl bg2 (Nat.lt_of_lt_of_le lg2 (Nat.add_le_add_left (by decide : 0 ≤ 1) n)) be3 (Nat.lt_of_lt_of_le fe3 (Nat.le_refl _)) i7 (Or.inl f8) dX3_init_73 ?_
    refine GG_toph fun h9 hh9 => ?_
    replace hw := hw h9 hh9
    obtain ⟨v10, hv10⟩ : ∃ y : Int32, y = x1 + 1 := ⟨_, rfl⟩
    replace hw := hw v10 hv10
    refine r_iinc E x1 v10 [some (rf X 3 0), some (.int v10)] rfl (by rw [hv10]; rfl) (Nat.le_of_ble_eq_true rfl) rfl dX3_init_74 ?_
    refine r_goto E 55 (by decide) dX3_init_77 ?_
    exact GG_weak [true, true] rfl (hP55 _ _ _ hw (Nat.le_trans hn0 (Nat.le_add_right n 1)))
set_option maxRecDepth 20000 in
theorem t_X3_init_b55 {X : Ctx} (n : Nat) (h : Hp) (x1 : Int32)  (n0 n1 : Nat) (hn0 : n0 ≤ n) (hth : adr 3 0 < n0) (hin : (xMe X).name = "<init>") (E : EE X cX3_init RX3 2 2 44 (n1 - n0) (240 * (n1 - n0))) {Q : Hp → Prop} (hE : ENDv X cX3_init Q n1 (n1 - n0) (240 * (n1 - n0))) (hw : wp_X3_init_b55 n1 x1 n h Q) : GC X n0 n h [some (rf X 3 0), some (.int x1)] 55 [] :=
  hw (fun y1 n9 u => n0 ≤ n9 → GC X n0 n9 u [some (rf X 3 0), some (.int y1)] 55 []) (fun y1 n9 u hq hn9 => t_X3_init_b55F n9 u y1  n0 n1 hn9 hth hin E hE (fun y1 n9 u => n0 ≤ n9 → GC X n0 n9 u [some (rf X 3 0), some (.int y1)] 55 []) (fun y1 n9 u q w => q w) hq) hn0
set_option maxRecDepth 20000 in
theorem m_X3_init {l : Launch} (hl : l.stackTraces = false) (G : Gq) (n n1 : Nat)   (hth : adr 3 0 < n) (h : Hp) (Q : Hp → Prop) (hw : wp_X3_init n1  n h Q) : MV l G yX3_init cX3_init 2 none (rm_X3_init n n1) n n1 h (fun r => [r 3 0]) Q := by
  refine CV_of (L0 := (fun X => [some (rf X 3 0), none])) hl (by decide +kernel) rfl rfl (fun _ => Nat.le_of_ble_eq_true rfl) (fun _ => rfl) fun X hXl hXG E hin hE => ?_
  subst hXl; subst hXG
  have key : GC X n n h [some (rf X 3 0), none] 0 [] := ?_
  · simpa only [GC, Nat.sub_self, Nat.mul_zero] using key
  unfold wp_X3_init at hw
  obtain ⟨n0, e0⟩ : ∃ z, z = n := ⟨_, rfl⟩
  have hn0 : n0 ≤ n := Nat.le_of_eq e0
  have hth : adr 3 0 < n0 := by rw [e0]; exact hth
  have E : EE X cX3_init RX3 2 2 44 (n1 - n0) (240 * (n1 - n0)) := by rw [e0]; exact E
  have hE : ENDv X cX3_init Q n1 (n1 - n0) (240 * (n1 - n0)) := by rw [e0]; exact hE
  have key : GC X n0 n h [some (rf X 3 0), none] 0 [] := ?_
  · rw [← e0]; rw [e0] at key ⊢; exact key
  refine r_aload_n E 3 0 rfl dX3_init_0 ?_
  refine r_objInit E lo_X3_3 rfl (by decide) (by decide) dX3_init_1 ?_
  refine r_aload_n E 3 0 rfl dX3_init_4 ?_
  refine r_bipush E 40 rfl dX3_init_5 ?_
  obtain ⟨le1, te1, me1, hw⟩ := hw
  have ue1 : n < NT := Nat.lt_of_succ_lt te1
  have ae1 := AL_adr le1 ue1
  refine r_newq_2 E cl_X3_11 rfl rfl rfl (by decide) (by decide) (by decide) le1 hn0 te1 (Nat.sub_le_sub_right me1 n0) (Nat.mul_le_mul_left 240 (Nat.sub_le_sub_right me1 n0)) dX3_init_7 ?_
  refine GG_toph fun h2 hh2 => ?_
  replace hw := hw h2 hh2
  have fe1 : adr 15 0 < n + 1 := Nat.lt_succ_of_le (Nat.le_of_eq ae1)
  obtain ⟨f3, hw⟩ := hw
  refine r_putRF E fd_X3_13 (t := 0) (j1 := 15) rfl rfl ⟨rfl, rfl⟩ f3 hin rfl (Nat.le_of_ble_eq_true rfl) (Nat.lt_of_lt_of_le hth (Nat.le_trans hn0 (Nat.le_add_right n 1))) rfl dX3_init_10 ?_
  refine GG_toph fun h4 hh4 => ?_
  replace hw := hw h4 hh4
  refine r_aload_n E 3 0 rfl dX3_init_13 ?_
  refine r_bipush E 8 rfl dX3_init_14 ?_
  obtain ⟨le5, te5, me5, hw⟩ := hw
  have ue5 : (n + 1) < NT := Nat.lt_of_succ_lt te5
  have ae5 := AL_adr le5 ue5
  refine r_newa_int E rfl rfl rfl (by decide) (by decide) (by decide) le5 (Nat.le_trans hn0 (Nat.le_add_right n 1)) (Or.inl te5) (Nat.sub_le_sub_right me5 n0) (Nat.mul_le_mul_left 240 (Nat.sub_le_sub_right me5 n0)) dX3_init_16 ?_
  refine GG_toph fun h6 hh6 => ?_
  replace hw := hw h6 hh6
  have fe5 : adr 16 0 < (n + 1) + 1 := Nat.lt_succ_of_le (Nat.le_of_eq ae5)
  obtain ⟨f7, hw⟩ := hw
  refine r_putRF E fd_X3_17 (t := 0) (j1 := 16) rfl rfl ⟨rfl, rfl⟩ f7 hin rfl (Nat.le_of_ble_eq_true rfl) (Nat.lt_of_lt_of_le hth (Nat.le_trans hn0 (Nat.le_add_right n 2))) rfl dX3_init_18 ?_
  refine GG_toph fun h8 hh8 => ?_
  replace hw := hw h8 hh8
  refine r_aload_n E 3 0 rfl dX3_init_21 ?_
  refine r_bipush E 8 rfl dX3_init_22 ?_
  obtain ⟨le9, te9, me9, hw⟩ := hw
  have ue9 : (n + 2) < NT := Nat.lt_of_succ_lt te9
  have ae9 := AL_adr le9 ue9
  refine r_newa_int E rfl rfl rfl (by decide) (by decide) (by decide) le9 (Nat.le_trans hn0 (Nat.le_add_right n 2)) (Or.inl te9) (Nat.sub_le_sub_right me9 n0) (Nat.mul_le_mul_left 240 (Nat.sub_le_sub_right me9 n0)) dX3_init_24 ?_
  refine GG_toph fun h10 hh10 => ?_
  replace hw := hw h10 hh10
  have fe9 : adr 17 0 < (n + 2) + 1 := Nat.lt_succ_of_le (Nat.le_of_eq ae9)
  obtain ⟨f11, hw⟩ := hw
  refine r_putRF E fd_X3_21 (t := 0) (j1 := 17) rfl rfl ⟨rfl, rfl⟩ f11 hin rfl (Nat.le_of_ble_eq_true rfl) (Nat.lt_of_lt_of_le hth (Nat.le_trans hn0 (Nat.le_add_right n 3))) rfl dX3_init_26 ?_
  refine GG_toph fun h12 hh12 => ?_
  replace hw := hw h12 hh12
  refine r_aload_n E 3 0 rfl dX3_init_29 ?_
  refine r_bipush E 10 rfl dX3_init_30 ?_
  obtain ⟨le13, te13, me13, hw⟩ := hw
  have ue13 : (n + 3) < NT := Nat.lt_of_succ_lt te13
  have ae13 := AL_adr le13 ue13
  refine r_newa_int E rfl rfl rfl (by decide) (by decide) (by decide) le13 (Nat.le_trans hn0 (Nat.le_add_right n 3)) (Or.inl te13) (Nat.sub_le_sub_right me13 n0) (Nat.mul_le_mul_left 240 (Nat.sub_le_sub_right me13 n0)) dX3_init_32 ?_
  refine GG_toph fun h14 hh14 => ?_
  replace hw := hw h14 hh14
  have fe13 : adr 18 0 < (n + 3) + 1 := Nat.lt_succ_of_le (Nat.le_of_eq ae13)
  obtain ⟨f15, hw⟩ := hw
  refine r_putRF E fd_X3_24 (t := 0) (j1 := 18) rfl rfl ⟨rfl, rfl⟩ f15 hin rfl (Nat.le_of_ble_eq_true rfl) (Nat.lt_of_lt_of_le hth (Nat.le_trans hn0 (Nat.le_add_right n 4))) rfl dX3_init_34 ?_
  refine GG_toph fun h16 hh16 => ?_
  replace hw := hw h16 hh16
  refine r_aload_n E 3 0 rfl dX3_init_37 ?_
  refine r_bipush E 10 rfl dX3_init_38 ?_
  obtain ⟨le17, te17, me17, hw⟩ := hw
  have ue17 : (n + 4) < NT := Nat.lt_of_succ_lt te17
  have ae17 := AL_adr le17 ue17
  refine r_newa_int E rfl rfl rfl (by decide) (by decide) (by decide) le17 (Nat.le_trans hn0 (Nat.le_add_right n 4)) (Or.inl te17) (Nat.sub_le_sub_right me17 n0) (Nat.mul_le_mul_left 240 (Nat.sub_le_sub_right me17 n0)) dX3_init_40 ?_
  refine GG_toph fun h18 hh18 => ?_
  replace hw := hw h18 hh18
  have fe17 : adr 19 0 < (n + 4) + 1 := Nat.lt_succ_of_le (Nat.le_of_eq ae17)
  obtain ⟨f19, hw⟩ := hw
  refine r_putRF E fd_X3_27 (t := 0) (j1 := 19) rfl rfl ⟨rfl, rfl⟩ f19 hin rfl (Nat.le_of_ble_eq_true rfl) (Nat.lt_of_lt_of_le hth (Nat.le_trans hn0 (Nat.le_add_right n 5))) rfl dX3_init_42 ?_
  refine GG_toph fun h20 hh20 => ?_
  replace hw := hw h20 hh20
  refine r_aload_n E 3 0 rfl dX3_init_45 ?_
  refine r_bipush E 10 rfl dX3_init_46 ?_
  obtain ⟨le21, te21, me21, hw⟩ := hw
  have ue21 : (n + 5) < NT := Nat.lt_of_succ_lt te21
  have ae21 := AL_adr le21 ue21
  refine r_newa_int E rfl rfl rfl (by decide) (by decide) (by decide) le21 (Nat.le_trans hn0 (Nat.le_add_right n 5)) (Or.inl te21) (Nat.sub_le_sub_right me21 n0) (Nat.mul_le_mul_left 240 (Nat.sub_le_sub_right me21 n0)) dX3_init_48 ?_
  refine GG_toph fun h22 hh22 => ?_
  replace hw := hw h22 hh22
  have fe21 : adr 20 0 < (n + 5) + 1 := Nat.lt_succ_of_le (Nat.le_of_eq ae21)
  obtain ⟨f23, hw⟩ := hw
  refine r_putRF E fd_X3_30 (t := 0) (j1 := 20) rfl rfl ⟨rfl, rfl⟩ f23 hin rfl (Nat.le_of_ble_eq_true rfl) (Nat.lt_of_lt_of_le hth (Nat.le_trans hn0 (Nat.le_add_right n 6))) rfl dX3_init_50 ?_
  refine GG_toph fun h24 hh24 => ?_
  replace hw := hw h24 hh24
  refine r_iconst E 0 rfl dX3_init_53 ?_
  refine r_istore_n E [some (rf X 3 0), some (.int 0)] rfl (Nat.le_of_ble_eq_true rfl) rfl dX3_init_54 ?_
  exact GG_weak [true, true] rfl (t_X3_init_b55 (n + 6) h24 0 n0 n1 (Nat.le_trans hn0 (Nat.le_add_right n 6)) hth hin E hE  hw)
set_option maxRecDepth 20000 in
theorem m_X0_init {l : Launch} (hl : l.stackTraces = false) (G : Gq) (n n1 : Nat)   (hth : adr 0 0 < n) (h : Hp) (Q : Hp → Prop) (hw : wp_X0_init n1  n h Q) : MV l G yX0_init cX0_init 4 none (rm_X0_init n n1) n n1 h (fun r => [r 0 0, r 9 0, r 21 0, r 3 0]) Q := by
  refine CV_of (L0 := (fun X => [some (rf X 0 0), some (rf X 9 0), some (rf X 21 0), some (rf X 3 0)])) hl (by decide +kernel) rfl rfl (fun _ => Nat.le_of_ble_eq_true rfl) (fun _ => rfl) fun X hXl hXG E hin hE => ?_
  subst hXl; subst hXG
  have key : GC X n n h [some (rf X 0 0), some (rf X 9 0), some (rf X 21 0), some (rf X 3 0)] 0 [] := ?_
  · simpa only [GC, Nat.sub_self, Nat.mul_zero] using key
  unfold wp_X0_init at hw
  obtain ⟨n0, e0⟩ : ∃ z, z = n := ⟨_, rfl⟩
  have hn0 : n0 ≤ n := Nat.le_of_eq e0
  have hth : adr 0 0 < n0 := by rw [e0]; exact hth
  have E : EE X cX0_init RX0 4 2 44 (n1 - n0) (240 * (n1 - n0)) := by rw [e0]; exact E
  have hE : ENDv X cX0_init Q n1 (n1 - n0) (240 * (n1 - n0)) := by rw [e0]; exact hE
  have key : GC X n0 n h [some (rf X 0 0), some (rf X 9 0), some (rf X 21 0), some (rf X 3 0)] 0 [] := ?_
  · rw [← e0]; rw [e0] at key ⊢; exact key
  refine r_aload_n E 0 0 rfl dX0_init_0 ?_
  refine r_objInit E lo_X0_3 rfl (by decide) (by decide) dX0_init_1 ?_
  refine r_aload_n E 0 0 rfl dX0_init_4 ?_
  refine r_bipush E 8 rfl dX0_init_5 ?_
  obtain ⟨le1, te1, me1, hw⟩ := hw
  have ue1 : n < NT := Nat.lt_of_succ_lt te1
  have ae1 := AL_adr le1 ue1
  refine r_newa_int E rfl rfl rfl (by decide) (by decide) (by decide) le1 hn0 (Or.inl te1) (Nat.sub_le_sub_right me1 n0) (Nat.mul_le_mul_left 240 (Nat.sub_le_sub_right me1 n0)) dX0_init_7 ?_
  refine GG_toph fun h2 hh2 => ?_
  replace hw := hw h2 hh2
  have fe1 : adr 25 0 < n + 1 := Nat.lt_succ_of_le (Nat.le_of_eq ae1)
  obtain ⟨f3, hw⟩ := hw
  refine r_putRF E fd_X0_9 (t := 0) (j1 := 25) rfl rfl ⟨rfl, rfl⟩ f3 hin rfl (Nat.le_of_ble_eq_true rfl) (Nat.lt_of_lt_of_le hth (Nat.le_trans hn0 (Nat.le_add_right n 1))) rfl dX0_init_9 ?_
  refine GG_toph fun h4 hh4 => ?_
  replace hw := hw h4 hh4
  refine r_aload_n E 0 0 rfl dX0_init_12 ?_
  refine r_aload_n E 9 0 rfl dX0_init_13 ?_
  obtain ⟨f5, hw⟩ := hw
  refine r_putRF E fd_X0_15 (t := 0) (j1 := 9) rfl rfl ⟨rfl, rfl⟩ f5 hin rfl (Nat.le_of_ble_eq_true rfl) (Nat.lt_of_lt_of_le hth (Nat.le_trans hn0 (Nat.le_add_right n 1))) rfl dX0_init_14 ?_
  refine GG_toph fun h6 hh6 => ?_
  replace hw := hw h6 hh6
  refine r_aload_n E 0 0 rfl dX0_init_17 ?_
  refine r_aload_n E 21 0 rfl dX0_init_18 ?_
  obtain ⟨f7, hw⟩ := hw
  refine r_putRF E fd_X0_19 (t := 0) (j1 := 21) rfl rfl ⟨rfl, rfl⟩ f7 hin rfl (Nat.le_of_ble_eq_true rfl) (Nat.lt_of_lt_of_le hth (Nat.le_trans hn0 (Nat.le_add_right n 1))) rfl dX0_init_19 ?_
  refine GG_toph fun h8 hh8 => ?_
  replace hw := hw h8 hh8
  refine r_aload_n E 0 0 rfl dX0_init_22 ?_
  refine r_aload_n E 3 0 rfl dX0_init_23 ?_
  obtain ⟨f9, hw⟩ := hw
  refine r_putRF E fd_X0_23 (t := 0) (j1 := 3) rfl rfl ⟨rfl, rfl⟩ f9 hin rfl (Nat.le_of_ble_eq_true rfl) (Nat.lt_of_lt_of_le hth (Nat.le_trans hn0 (Nat.le_add_right n 1))) rfl dX0_init_24 ?_
  refine GG_toph fun h10 hh10 => ?_
  replace hw := hw h10 hh10
  refine r_aload_n E 0 0 rfl dX0_init_27 ?_
  obtain ⟨e11, le11, be11, te11, me11, hw⟩ := hw
  have ue11 : (n + 1) < NT := Nat.lt_of_succ_lt te11
  have ae11 := AL_adr le11 ue11
  refine r_new E cl_X0_27 li_5 (by decide) (by decide) le11 (Nat.le_trans hn0 (Nat.le_add_right n 1)) te11 (Nat.sub_le_sub_right me11 n0) (Nat.mul_le_mul_left 240 (Nat.sub_le_sub_right me11 n0)) dX0_init_28 ?_
  refine GG_toph fun h12 hh12 => ?_
  replace hw := hw h12 hh12
  have fe11 : adr 5 e11 < (n + 1) + 1 := Nat.lt_succ_of_le (Nat.le_of_eq ae11)
  refine r_dup E rfl dX0_init_31 ?_
  obtain ⟨c14, hw⟩ := hw
  refine r_callINV E (m_X5_init (EE_st E) (GX X) (n + 2) (n + 4) e11 be11 (Nat.lt_of_lt_of_le fe11 (Nat.le_refl _)) h12 _ hw) lk_X0_29 (RM_mk (Nat.le_of_ble_eq_true rfl) (Nat.le_of_ble_eq_true rfl)) rfl rfl rfl rfl (Nat.le_of_ble_eq_true rfl) (k1 := (n + 4) - n0) (z1 := 240 * ((n + 4) - n0)) (qsub (Nat.le_trans hn0 (Nat.le_add_right n 2)) (Nat.add_le_add_left (by decide : 2 ≤ 4) n)) (qsub240 (Nat.le_trans hn0 (Nat.le_add_right n 2)) (Nat.add_le_add_left (by decide : 2 ≤ 4) n)) (Nat.sub_le_sub_right c14 n0) (Nat.mul_le_mul_left 240 (Nat.sub_le_sub_right c14 n0)) dX0_init_32 (fun h13 hw => ?_)
  refine r_putR E fd_X0_30 (t := e11) (j1 := 5) rfl rfl ⟨rfl, rfl⟩ rfl (Nat.le_of_ble_eq_true rfl) (Nat.lt_of_lt_of_le hth (Nat.le_trans hn0 (Nat.le_add_right n 4))) rfl dX0_init_35 ?_
  refine GG_toph fun h15 hh15 => ?_
  replace hw := hw h15 hh15
  refine r_aload_n E 0 0 rfl dX0_init_38 ?_
  obtain ⟨e16, le16, be16, te16, me16, hw⟩ := hw
  have ue16 : (n + 4) < NT := Nat.lt_of_succ_lt te16
  have ae16 := AL_adr le16 ue16
  refine r_new E cl_X0_34 li_2 (by decide) (by decide) le16 (Nat.le_trans hn0 (Nat.le_add_right n 4)) te16 (Nat.sub_le_sub_right me16 n0) (Nat.mul_le_mul_left 240 (Nat.sub_le_sub_right me16 n0)) dX0_init_39 ?_
  refine GG_toph fun h17 hh17 => ?_
  replace hw := hw h17 hh17
  have fe16 : adr 2 e16 < (n + 4) + 1 := Nat.lt_succ_of_le (Nat.le_of_eq ae16)
  refine r_dup E rfl dX0_init_42 ?_
  obtain ⟨c19, hw⟩ := hw
  refine r_callINV E (m_X2_init (EE_st E) (GX X) (n + 5) (n + 5) e16 be16 (Nat.lt_of_lt_of_le fe16 (Nat.le_refl _)) h17 _ hw) lk_X0_36 (RM_mk (Nat.le_of_ble_eq_true rfl) (Nat.le_of_ble_eq_true rfl)) rfl rfl rfl rfl (Nat.le_of_ble_eq_true rfl) (k1 := (n + 5) - n0) (z1 := 240 * ((n + 5) - n0)) (qsub (Nat.le_trans hn0 (Nat.le_add_right n 5)) (Nat.le_refl _)) (qsub240 (Nat.le_trans hn0 (Nat.le_add_right n 5)) (Nat.le_refl _)) (Nat.sub_le_sub_right c19 n0) (Nat.mul_le_mul_left 240 (Nat.sub_le_sub_right c19 n0)) dX0_init_43 (fun h18 hw => ?_)
  refine r_putR E fd_X0_37 (t := e16) (j1 := 2) rfl rfl ⟨rfl, rfl⟩ rfl (Nat.le_of_ble_eq_true rfl) (Nat.lt_of_lt_of_le hth (Nat.le_trans hn0 (Nat.le_add_right n 5))) rfl dX0_init_46 ?_
  refine GG_toph fun h20 hh20 => ?_
  replace hw := hw h20 hh20
  obtain ⟨e9, hw⟩ := hw
  have g := hE (n1 - n0) (240 * (n1 - n0)) h20 [some (rf X 0 0), some (rf X 9 0), some (rf X 21 0), some (rf X 3 0)] 49 (Nat.le_refl _) (Nat.le_refl _) dX0_init_49 hw
  rw [← e9] at g
  exact g
set_option maxRecDepth 20000 in
theorem m_X4_init {l : Launch} (hl : l.stackTraces = false) (G : Gq) (n n1 : Nat)   (hth : adr 4 0 < n) (h : Hp) (Q : Hp → Prop) (hw : wp_X4_init n1  n h Q) : MV l G yX4_init cX4_init 2 none (rm_X4_init n n1) n n1 h (fun r => [r 4 0, r 9 0]) Q := by
  refine CV_of (L0 := (fun X => [some (rf X 4 0), some (rf X 9 0)])) hl (by decide +kernel) rfl rfl (fun _ => Nat.le_of_ble_eq_true rfl) (fun _ => rfl) fun X hXl hXG E hin hE => ?_
  subst hXl; subst hXG
  have key : GC X n n h [some (rf X 4 0), some (rf X 9 0)] 0 [] := ?_
  · simpa only [GC, Nat.sub_self, Nat.mul_zero] using key
  unfold wp_X4_init at hw
  obtain ⟨n0, e0⟩ : ∃ z, z = n := ⟨_, rfl⟩
  have hn0 : n0 ≤ n := Nat.le_of_eq e0
  have hth : adr 4 0 < n0 := by rw [e0]; exact hth
  have E : EE X cX4_init RX4 2 2 44 (n1 - n0) (240 * (n1 - n0)) := by rw [e0]; exact E
  have hE : ENDv X cX4_init Q n1 (n1 - n0) (240 * (n1 - n0)) := by rw [e0]; exact hE
  have key : GC X n0 n h [some (rf X 4 0), some (rf X 9 0)] 0 [] := ?_
  · rw [← e0]; rw [e0] at key ⊢; exact key
  refine r_aload_n E 4 0 rfl dX4_init_0 ?_
  refine r_objInit E lo_X4_1 rfl (by decide) (by decide) dX4_init_1 ?_
  refine r_aload_n E 4 0 rfl dX4_init_4 ?_
  obtain ⟨le1, te1, me1, hw⟩ := hw
  have ue1 : n < NT := Nat.lt_of_succ_lt te1
  have ae1 := AL_adr le1 ue1
  refine r_new E cl_X4_7 li_8 (by decide) (by decide) le1 hn0 te1 (Nat.sub_le_sub_right me1 n0) (Nat.mul_le_mul_left 240 (Nat.sub_le_sub_right me1 n0)) dX4_init_5 ?_
  refine GG_toph fun h2 hh2 => ?_
  replace hw := hw h2 hh2
  have fe1 : adr 8 0 < n + 1 := Nat.lt_succ_of_le (Nat.le_of_eq ae1)
  refine r_dup E rfl dX4_init_8 ?_
  obtain ⟨c4, hw⟩ := hw
  refine r_callINV E (m_X8_init (EE_st E) (GX X) (n + 1) (n + 1)  (Nat.lt_of_lt_of_le fe1 (Nat.le_refl _)) h2 _ hw) lk_X4_9 (RM_mk (Nat.le_of_ble_eq_true rfl) (Nat.le_of_ble_eq_true rfl)) rfl rfl rfl rfl (Nat.le_of_ble_eq_true rfl) (k1 := (n + 1) - n0) (z1 := 240 * ((n + 1) - n0)) (qsub (Nat.le_trans hn0 (Nat.le_add_right n 1)) (Nat.le_refl _)) (qsub240 (Nat.le_trans hn0 (Nat.le_add_right n 1)) (Nat.le_refl _)) (Nat.sub_le_sub_right c4 n0) (Nat.mul_le_mul_left 240 (Nat.sub_le_sub_right c4 n0)) dX4_init_9 (fun h3 hw => ?_)
  obtain ⟨f5, hw⟩ := hw
  refine r_putRF E fd_X4_10 (t := 0) (j1 := 8) rfl rfl ⟨rfl, rfl⟩ f5 hin rfl (Nat.le_of_ble_eq_true rfl) (Nat.lt_of_lt_of_le hth (Nat.le_trans hn0 (Nat.le_add_right n 1))) rfl dX4_init_12 ?_
  refine GG_toph fun h6 hh6 => ?_
  replace hw := hw h6 hh6
  refine r_aload_n E 4 0 rfl dX4_init_15 ?_
  refine r_bipush E 60 rfl dX4_init_16 ?_
  obtain ⟨le7, te7, me7, hw⟩ := hw
  have ue7 : (n + 1) < NT := Nat.lt_of_succ_lt te7
  have ae7 := AL_adr le7 ue7
  refine r_newa_int E rfl rfl rfl (by decide) (by decide) (by decide) le7 (Nat.le_trans hn0 (Nat.le_add_right n 1)) (Or.inl te7) (Nat.sub_le_sub_right me7 n0) (Nat.mul_le_mul_left 240 (Nat.sub_le_sub_right me7 n0)) dX4_init_18 ?_
  refine GG_toph fun h8 hh8 => ?_
  replace hw := hw h8 hh8
  have fe7 : adr 28 0 < (n + 1) + 1 := Nat.lt_succ_of_le (Nat.le_of_eq ae7)
  obtain ⟨f9, hw⟩ := hw
  refine r_putRF E fd_X4_18 (t := 0) (j1 := 28) rfl rfl ⟨rfl, rfl⟩ f9 hin rfl (Nat.le_of_ble_eq_true rfl) (Nat.lt_of_lt_of_le hth (Nat.le_trans hn0 (Nat.le_add_right n 2))) rfl dX4_init_20 ?_
  refine GG_toph fun h10 hh10 => ?_
  replace hw := hw h10 hh10
  refine r_aload_n E 4 0 rfl dX4_init_23 ?_
  refine r_aload_n E 9 0 rfl dX4_init_24 ?_
  obtain ⟨f11, hw⟩ := hw
  refine r_putRF E fd_X4_22 (t := 0) (j1 := 9) rfl rfl ⟨rfl, rfl⟩ f11 hin rfl (Nat.le_of_ble_eq_true rfl) (Nat.lt_of_lt_of_le hth (Nat.le_trans hn0 (Nat.le_add_right n 2))) rfl dX4_init_25 ?_
  refine GG_toph fun h12 hh12 => ?_
  replace hw := hw h12 hh12
  obtain ⟨e9, hw⟩ := hw
  have g := hE (n1 - n0) (240 * (n1 - n0)) h12 [some (rf X 4 0), some (rf X 9 0)] 28 (Nat.le_refl _) (Nat.le_refl _) dX4_init_28 hw
  rw [← e9] at g
  exact g
set_option maxRecDepth 20000 in
theorem m_X1_init {l : Launch} (hl : l.stackTraces = false) (G : Gq) (n n1 : Nat)   (hth : adr 1 0 < n) (h : Hp) (Q : Hp → Prop) (hw : wp_X1_init n1  n h Q) : MV l G yX1_init cX1_init 2 none (rm_X1_init n n1) n n1 h (fun r => [r 1 0, r 3 0]) Q := by
  refine CV_of (L0 := (fun X => [some (rf X 1 0), some (rf X 3 0)])) hl (by decide +kernel) rfl rfl (fun _ => Nat.le_of_ble_eq_true rfl) (fun _ => rfl) fun X hXl hXG E hin hE => ?_
  subst hXl; subst hXG
  have key : GC X n n h [some (rf X 1 0), some (rf X 3 0)] 0 [] := ?_
  · simpa only [GC, Nat.sub_self, Nat.mul_zero] using key
  unfold wp_X1_init at hw
  obtain ⟨n0, e0⟩ : ∃ z, z = n := ⟨_, rfl⟩
  have hn0 : n0 ≤ n := Nat.le_of_eq e0
  have hth : adr 1 0 < n0 := by rw [e0]; exact hth
  have E : EE X cX1_init RX1 2 1 24 (n1 - n0) (240 * (n1 - n0)) := by rw [e0]; exact E
  have hE : ENDv X cX1_init Q n1 (n1 - n0) (240 * (n1 - n0)) := by rw [e0]; exact hE
  have key : GC X n0 n h [some (rf X 1 0), some (rf X 3 0)] 0 [] := ?_
  · rw [← e0]; rw [e0] at key ⊢; exact key
  refine r_aload_n E 1 0 rfl dX1_init_0 ?_
  refine r_objInit E lo_X1_5 rfl (by decide) (by decide) dX1_init_1 ?_
  refine r_aload_n E 1 0 rfl dX1_init_4 ?_
  refine r_bipush E 99 rfl dX1_init_5 ?_
  obtain ⟨le1, te1, me1, hw⟩ := hw
  have ue1 : n < NT := Nat.lt_of_succ_lt te1
  have ae1 := AL_adr le1 ue1
  refine r_newa_char E rfl rfl rfl (by decide) (by decide) (by decide) le1 hn0 (Or.inl te1) (Nat.sub_le_sub_right me1 n0) (Nat.mul_le_mul_left 240 (Nat.sub_le_sub_right me1 n0)) dX1_init_7 ?_
  refine GG_toph fun h2 hh2 => ?_
  replace hw := hw h2 hh2
  have fe1 : adr 29 0 < n + 1 := Nat.lt_succ_of_le (Nat.le_of_eq ae1)
  obtain ⟨f3, hw⟩ := hw
  refine r_putRF E fd_X1_13 (t := 0) (j1 := 29) rfl rfl ⟨rfl, rfl⟩ f3 hin rfl (Nat.le_of_ble_eq_true rfl) (Nat.lt_of_lt_of_le hth (Nat.le_trans hn0 (Nat.le_add_right n 1))) rfl dX1_init_9 ?_
  refine GG_toph fun h4 hh4 => ?_
  replace hw := hw h4 hh4
  refine r_aload_n E 1 0 rfl dX1_init_12 ?_
  refine r_bipush E 99 rfl dX1_init_13 ?_
  obtain ⟨le5, te5, me5, hw⟩ := hw
  have ue5 : (n + 1) < NT := Nat.lt_of_succ_lt te5
  have ae5 := AL_adr le5 ue5
  refine r_newa_int E rfl rfl rfl (by decide) (by decide) (by decide) le5 (Nat.le_trans hn0 (Nat.le_add_right n 1)) (Or.inl te5) (Nat.sub_le_sub_right me5 n0) (Nat.mul_le_mul_left 240 (Nat.sub_le_sub_right me5 n0)) dX1_init_15 ?_
  refine GG_toph fun h6 hh6 => ?_
  replace hw := hw h6 hh6
  have fe5 : adr 30 0 < (n + 1) + 1 := Nat.lt_succ_of_le (Nat.le_of_eq ae5)
  obtain ⟨f7, hw⟩ := hw
  refine r_putRF E fd_X1_17 (t := 0) (j1 := 30) rfl rfl ⟨rfl, rfl⟩ f7 hin rfl (Nat.le_of_ble_eq_true rfl) (Nat.lt_of_lt_of_le hth (Nat.le_trans hn0 (Nat.le_add_right n 2))) rfl dX1_init_17 ?_
  refine GG_toph fun h8 hh8 => ?_
  replace hw := hw h8 hh8
  refine r_aload_n E 1 0 rfl dX1_init_20 ?_
  refine r_bipush E 99 rfl dX1_init_21 ?_
  obtain ⟨le9, te9, me9, hw⟩ := hw
  have ue9 : (n + 2) < NT := Nat.lt_of_succ_lt te9
  have ae9 := AL_adr le9 ue9
  refine r_newa_boolean E rfl rfl rfl (by decide) (by decide) (by decide) le9 (Nat.le_trans hn0 (Nat.le_add_right n 2)) (Or.inl te9) (Nat.sub_le_sub_right me9 n0) (Nat.mul_le_mul_left 240 (Nat.sub_le_sub_right me9 n0)) dX1_init_23 ?_
  refine GG_toph fun h10 hh10 => ?_
  replace hw := hw h10 hh10
  have fe9 : adr 31 0 < (n + 2) + 1 := Nat.lt_succ_of_le (Nat.le_of_eq ae9)
  obtain ⟨f11, hw⟩ := hw
  refine r_putRF E fd_X1_21 (t := 0) (j1 := 31) rfl rfl ⟨rfl, rfl⟩ f11 hin rfl (Nat.le_of_ble_eq_true rfl) (Nat.lt_of_lt_of_le hth (Nat.le_trans hn0 (Nat.le_add_right n 3))) rfl dX1_init_25 ?_
  refine GG_toph fun h12 hh12 => ?_
  replace hw := hw h12 hh12
  refine r_aload_n E 1 0 rfl dX1_init_28 ?_
  refine r_bipush E 99 rfl dX1_init_29 ?_
  obtain ⟨le13, te13, me13, hw⟩ := hw
  have ue13 : (n + 3) < NT := Nat.lt_of_succ_lt te13
  have ae13 := AL_adr le13 ue13
  refine r_newa_long E rfl rfl rfl (by decide) (by decide) (by decide) le13 (Nat.le_trans hn0 (Nat.le_add_right n 3)) (Or.inl te13) (Nat.sub_le_sub_right me13 n0) (Nat.mul_le_mul_left 240 (Nat.sub_le_sub_right me13 n0)) dX1_init_31 ?_
  refine GG_toph fun h14 hh14 => ?_
  replace hw := hw h14 hh14
  have fe13 : adr 32 0 < (n + 3) + 1 := Nat.lt_succ_of_le (Nat.le_of_eq ae13)
  obtain ⟨f15, hw⟩ := hw
  refine r_putRF E fd_X1_25 (t := 0) (j1 := 32) rfl rfl ⟨rfl, rfl⟩ f15 hin rfl (Nat.le_of_ble_eq_true rfl) (Nat.lt_of_lt_of_le hth (Nat.le_trans hn0 (Nat.le_add_right n 4))) rfl dX1_init_33 ?_
  refine GG_toph fun h16 hh16 => ?_
  replace hw := hw h16 hh16
  refine r_aload_n E 1 0 rfl dX1_init_36 ?_
  refine r_aload_n E 3 0 rfl dX1_init_37 ?_
  obtain ⟨f17, hw⟩ := hw
  refine r_putRF E fd_X1_29 (t := 0) (j1 := 3) rfl rfl ⟨rfl, rfl⟩ f17 hin rfl (Nat.le_of_ble_eq_true rfl) (Nat.lt_of_lt_of_le hth (Nat.le_trans hn0 (Nat.le_add_right n 4))) rfl dX1_init_38 ?_
  refine GG_toph fun h18 hh18 => ?_
  replace hw := hw h18 hh18
  obtain ⟨e9, hw⟩ := hw
  have g := hE (n1 - n0) (240 * (n1 - n0)) h18 [some (rf X 1 0), some (rf X 3 0)] 41 (Nat.le_refl _) (Nat.le_refl _) dX1_init_41 hw
  rw [← e9] at g
  exact g
set_option maxRecDepth 20000 in
theorem t_X10_init_b36F {X : Ctx} (n : Nat) (h : Hp) (x1 : Int32)  (n0 n1 : Nat) (hn0 : n0 ≤ n) (hth : adr 10 0 < n0) (hin : (xMe X).name = "<init>") (E : EE X cX10_init RX10 2 3 67 (n1 - n0) (240 * (n1 - n0))) {Q : Hp → Prop} (hE : ENDv X cX10_init Q n1 (n1 - n0) (240 * (n1 - n0))) (P36 : Int32 → Nat → Hp → Prop) (hP36 : ∀ (y1 : Int32) (n9 : Nat) (u : Hp), P36 y1 n9 u → n0 ≤ n9 → GC X n0 n9 u [some (rf X 10 0), some (.int y1)] 36 []) (hw : wp_X10_init_b36F n1  Q P36 x1 n h) : GC X n0 n h [some (rf X 10 0), some (.int x1)] 36 [] := by
  unfold wp_X10_init_b36F at hw
  refine r_iload_n E x1 rfl dX10_init_36 ?_
  refine r_iconst E 4 rfl dX10_init_37 ?_
  refine r_icmp_ge E 60 (by decide) dX10_init_38 (fun c1 => ?_) (fun c1 => ?_)
  · have hw := ite_t hw c1
    refine r_aload_n E 10 0 rfl dX10_init_60 ?_
    obtain ⟨le2, te2, me2, hw⟩ := hw
    have ue2 : n < NT := Nat.lt_of_succ_lt te2
    have ae2 := AL_adr le2 ue2
    refine r_new E cl_X10_30 li_0 (by decide) (by decide) le2 hn0 te2 (Nat.sub_le_sub_right me2 n0) (Nat.mul_le_mul_left 240 (Nat.sub_le_sub_right me2 n0)) dX10_init_61 ?_
    refine GG_toph fun h3 hh3 => ?_
    replace hw := hw h3 hh3
    have fe2 : adr 0 0 < n + 1 := Nat.lt_succ_of_le (Nat.le_of_eq ae2)
    refine r_dup E rfl dX10_init_64 ?_
    refine r_aload_n E 10 0 rfl dX10_init_65 ?_
    obtain ⟨vg4, bg4, lg4, hw⟩ := hw
    refine r_getR E fd_X10_10 (t := 0) (j1 := 9) rfl vg4 rfl (Nat.le_of_ble_eq_true rfl) (Nat.lt_of_lt_of_le hth (Nat.le_trans hn0 (Nat.le_add_right n 1))) dX10_init_66 ?_
    refine r_aload_n E 10 0 rfl dX10_init_69 ?_
    obtain ⟨vg5, bg5, lg5, hw⟩ := hw
    refine r_getR E fd_X10_25 (t := 0) (j1 := 21) rfl vg5 rfl (Nat.le_of_ble_eq_true rfl) (Nat.lt_of_lt_of_le hth (Nat.le_trans hn0 (Nat.le_add_right n 1))) dX10_init_70 ?_
    refine r_aload_n E 10 0 rfl dX10_init_73 ?_
    obtain ⟨vg6, bg6, lg6, hw⟩ := hw
    refine r_getR E fd_X10_19 (t := 0) (j1 := 3) rfl vg6 rfl (Nat.le_of_ble_eq_true rfl) (Nat.lt_of_lt_of_le hth (Nat.le_trans hn0 (Nat.le_add_right n 1))) dX10_init_74 ?_
    obtain ⟨c8, hw⟩ := hw
    refine r_callIV E (m_X0_init (EE_st E) (GX X) (n + 1) (n + 6)  (Nat.lt_of_lt_of_le fe2 (Nat.le_refl _)) h3 _ hw) lk_X10_32 (RM_mk (Nat.le_of_ble_eq_true rfl) (Nat.le_of_ble_eq_true rfl)) rfl rfl rfl rfl (Nat.le_of_ble_eq_true rfl) (k1 := (n + 6) - n0) (z1 := 240 * ((n + 6) - n0)) (qsub (Nat.le_trans hn0 (Nat.le_add_right n 1)) (Nat.add_le_add_left (by decide : 1 ≤ 6) n)) (qsub240 (Nat.le_trans hn0 (Nat.le_add_right n 1)) (Nat.add_le_add_left (by decide : 1 ≤ 6) n)) (Nat.sub_le_sub_right c8 n0) (Nat.mul_le_mul_left 240 (Nat.sub_le_sub_right c8 n0)) dX10_init_77 (fun h7 hw => ?_)
    obtain ⟨f9, hw⟩ := hw
    refine r_putRF E fd_X10_35 (t := 0) (j1 := 0) rfl rfl ⟨rfl, rfl⟩ f9 hin rfl (Nat.le_of_ble_eq_true rfl) (Nat.lt_of_lt_of_le hth (Nat.le_trans hn0 (Nat.le_add_right n 6))) rfl dX10_init_80 ?_
    refine GG_toph fun h10 hh10 => ?_
    replace hw := hw h10 hh10
    refine r_aload_n E 10 0 rfl dX10_init_83 ?_
    obtain ⟨e11, le11, be11, te11, me11, hw⟩ := hw
    have ue11 : (n + 6) < NT := Nat.lt_of_succ_lt te11
    have ae11 := AL_adr le11 ue11
    refine r_new E cl_X10_39 li_5 (by decide) (by decide) le11 (Nat.le_trans hn0 (Nat.le_add_right n 6)) te11 (Nat.sub_le_sub_right me11 n0) (Nat.mul_le_mul_left 240 (Nat.sub_le_sub_right me11 n0)) dX10_init_84 ?_
    refine GG_toph fun h12 hh12 => ?_
    replace hw := hw h12 hh12
    have fe11 : adr 5 e11 < (n + 6) + 1 := Nat.lt_succ_of_le (Nat.le_of_eq ae11)
    refine r_dup E rfl dX10_init_87 ?_
    obtain ⟨c14, hw⟩ := hw
    refine r_callINV E (m_X5_init (EE_st E) (GX X) (n + 7) (n + 9) e11 be11 (Nat.lt_of_lt_of_le fe11 (Nat.le_refl _)) h12 _ hw) lk_X10_41 (RM_mk (Nat.le_of_ble_eq_true rfl) (Nat.le_of_ble_eq_true rfl)) rfl rfl rfl rfl (Nat.le_of_ble_eq_true rfl) (k1 := (n + 9) - n0) (z1 := 240 * ((n + 9) - n0)) (qsub (Nat.le_trans hn0 (Nat.le_add_right n 7)) (Nat.add_le_add_left (by decide : 7 ≤ 9) n)) (qsub240 (Nat.le_trans hn0 (Nat.le_add_right n 7)) (Nat.add_le_add_left (by decide : 7 ≤ 9) n)) (Nat.sub_le_sub_right c14 n0) (Nat.mul_le_mul_left 240 (Nat.sub_le_sub_right c14 n0)) dX10_init_88 (fun h13 hw => ?_)
    obtain ⟨f15, hw⟩ := hw
    refine r_putRF E fd_X10_42 (t := e11) (j1 := 5) rfl rfl ⟨rfl, rfl⟩ f15 hin rfl (Nat.le_of_ble_eq_true rfl) (Nat.lt_of_lt_of_le hth (Nat.le_trans hn0 (Nat.le_add_right n 9))) rfl dX10_init_91 ?_
    refine GG_toph fun h16 hh16 => ?_
    replace hw := hw h16 hh16
    refine r_aload_n E 10 0 rfl dX10_init_94 ?_
    obtain ⟨e17, le17, be17, te17, me17, hw⟩ := hw
    have ue17 : (n + 9) < NT := Nat.lt_of_succ_lt te17
    have ae17 := AL_adr le17 ue17
    refine r_new E cl_X10_39 li_5 (by decide) (by decide) le17 (Nat.le_trans hn0 (Nat.le_add_right n 9)) te17 (Nat.sub_le_sub_right me17 n0) (Nat.mul_le_mul_left 240 (Nat.sub_le_sub_right me17 n0)) dX10_init_95 ?_
    refine GG_toph fun h18 hh18 => ?_
    replace hw := hw h18 hh18
    have fe17 : adr 5 e17 < (n + 9) + 1 := Nat.lt_succ_of_le (Nat.le_of_eq ae17)
    refine r_dup E rfl dX10_init_98 ?_
    obtain ⟨c20, hw⟩ := hw
    refine r_callINV E (m_X5_init (EE_st E) (GX X) (n + 10) (n + 12) e17 be17 (Nat.lt_of_lt_of_le fe17 (Nat.le_refl _)) h18 _ hw) lk_X10_41 (RM_mk (Nat.le_of_ble_eq_true rfl) (Nat.le_of_ble_eq_true rfl)) rfl rfl rfl rfl (Nat.le_of_ble_eq_true rfl) (k1 := (n + 12) - n0) (z1 := 240 * ((n + 12) - n0)) (qsub (Nat.le_trans hn0 (Nat.le_add_right n 10)) (Nat.add_le_add_left (by decide : 10 ≤ 12) n)) (qsub240 (Nat.le_trans hn0 (Nat.le_add_right n 10)) (Nat.add_le_add_left (by decide : 10 ≤ 12) n)) (Nat.sub_le_sub_right c20 n0) (Nat.mul_le_mul_left 240 (Nat.sub_le_sub_right c20 n0)) dX10_init_99 (fun h19 hw => ?_)
    obtain ⟨f21, hw⟩ := hw
    refine r_putRF E fd_X10_46 (t := e17) (j1 := 5) rfl rfl ⟨rfl, rfl⟩ f21 hin rfl (Nat.le_of_ble_eq_true rfl) (Nat.lt_of_lt_of_le hth (Nat.le_trans hn0 (Nat.le_add_right n 12))) rfl dX10_init_102 ?_
    refine GG_toph fun h22 hh22 => ?_
    replace hw := hw h22 hh22
    refine r_aload_n E 10 0 rfl dX10_init_105 ?_
    obtain ⟨le23, te23, me23, hw⟩ := hw
    have ue23 : (n + 12) < NT := Nat.lt_of_succ_lt te23
    have ae23 := AL_adr le23 ue23
    refine r_new E cl_X10_49 li_4 (by decide) (by decide) le23 (Nat.le_trans hn0 (Nat.le_add_right n 12)) te23 (Nat.sub_le_sub_right me23 n0) (Nat.mul_le_mul_left 240 (Nat.sub_le_sub_right me23 n0)) dX10_init_106 ?_
    refine GG_toph fun h24 hh24 => ?_
    replace hw := hw h24 hh24
    have fe23 : adr 4 0 < (n + 12) + 1 := Nat.lt_succ_of_le (Nat.le_of_eq ae23)
    refine r_dup E rfl dX10_init_109 ?_
    refine r_aload_n E 10 0 rfl dX10_init_110 ?_
    obtain ⟨vg25, bg25, lg25, hw⟩ := hw
    refine r_getR E fd_X10_10 (t := 0) (j1 := 9) rfl vg25 rfl (Nat.le_of_ble_eq_true rfl) (Nat.lt_of_lt_of_le hth (Nat.le_trans hn0 (Nat.le_add_right n 13))) dX10_init_111 ?_
    obtain ⟨c27, hw⟩ := hw
    refine r_callIV E (m_X4_init (EE_st E) (GX X) (n + 13) (n + 15)  (Nat.lt_of_lt_of_le fe23 (Nat.le_refl _)) h24 _ hw) lk_X10_51 (RM_mk (Nat.le_of_ble_eq_true rfl) (Nat.le_of_ble_eq_true rfl)) rfl rfl rfl rfl (Nat.le_of_ble_eq_true rfl) (k1 := (n + 15) - n0) (z1 := 240 * ((n + 15) - n0)) (qsub (Nat.le_trans hn0 (Nat.le_add_right n 13)) (Nat.add_le_add_left (by decide : 13 ≤ 15) n)) (qsub240 (Nat.le_trans hn0 (Nat.le_add_right n 13)) (Nat.add_le_add_left (by decide : 13 ≤ 15) n)) (Nat.sub_le_sub_right c27 n0) (Nat.mul_le_mul_left 240 (Nat.sub_le_sub_right c27 n0)) dX10_init_114 (fun h26 hw => ?_)
    obtain ⟨f28, hw⟩ := hw
    refine r_putRF E fd_X10_54 (t := 0) (j1 := 4) rfl rfl ⟨rfl, rfl⟩ f28 hin rfl (Nat.le_of_ble_eq_true rfl) (Nat.lt_of_lt_of_le hth (Nat.le_trans hn0 (Nat.le_add_right n 15))) rfl dX10_init_117 ?_
    refine GG_toph fun h29 hh29 => ?_
    replace hw := hw h29 hh29
    refine r_aload_n E 10 0 rfl dX10_init_120 ?_
    obtain ⟨le30, te30, me30, hw⟩ := hw
    have ue30 : (n + 15) < NT := Nat.lt_of_succ_lt te30
    have ae30 := AL_adr le30 ue30
    refine r_new E cl_X10_58 li_1 (by decide) (by decide) le30 (Nat.le_trans hn0 (Nat.le_add_right n 15)) te30 (Nat.sub_le_sub_right me30 n0) (Nat.mul_le_mul_left 240 (Nat.sub_le_sub_right me30 n0)) dX10_init_121 ?_
    refine GG_toph fun h31 hh31 => ?_
    replace hw := hw h31 hh31
    have fe30 : adr 1 0 < (n + 15) + 1 := Nat.lt_succ_of_le (Nat.le_of_eq ae30)
    refine r_dup E rfl dX10_init_124 ?_
    refine r_aload_n E 10 0 rfl dX10_init_125 ?_
    obtain ⟨vg32, bg32, lg32, hw⟩ := hw
    refine r_getR E fd_X10_19 (t := 0) (j1 := 3) rfl vg32 rfl (Nat.le_of_ble_eq_true rfl) (Nat.lt_of_lt_of_le hth (Nat.le_trans hn0 (Nat.le_add_right n 16))) dX10_init_126 ?_
    obtain ⟨c34, hw⟩ := hw
    refine r_callIV E (m_X1_init (EE_st E) (GX X) (n + 16) (n + 20)  (Nat.lt_of_lt_of_le fe30 (Nat.le_refl _)) h31 _ hw) lk_X10_60 (RM_mk (Nat.le_of_ble_eq_true rfl) (Nat.le_of_ble_eq_true rfl)) rfl rfl rfl rfl (Nat.le_of_ble_eq_true rfl) (k1 := (n + 20) - n0) (z1 := 240 * ((n + 20) - n0)) (qsub (Nat.le_trans hn0 (Nat.le_add_right n 16)) (Nat.add_le_add_left (by decide : 16 ≤ 20) n)) (qsub240 (Nat.le_trans hn0 (Nat.le_add_right n 16)) (Nat.add_le_add_left (by decide : 16 ≤ 20) n)) (Nat.sub_le_sub_right c34 n0) (Nat.mul_le_mul_left 240 (Nat.sub_le_sub_right c34 n0)) dX10_init_129 (fun h33 hw => ?_)
    obtain ⟨f35, hw⟩ := hw
    refine r_putRF E fd_X10_63 (t := 0) (j1 := 1) rfl rfl ⟨rfl, rfl⟩ f35 hin rfl (Nat.le_of_ble_eq_true rfl) (Nat.lt_of_lt_of_le hth (Nat.le_trans hn0 (Nat.le_add_right n 20))) rfl dX10_init_132 ?_
    refine GG_toph fun h36 hh36 => ?_
    replace hw := hw h36 hh36
    obtain ⟨e9, hw⟩ := hw
    have g := hE (n1 - n0) (240 * (n1 - n0)) h36 [some (rf X 10 0), some (.int x1)] 135 (Nat.le_refl _) (Nat.le_refl _) dX10_init_135 hw
    rw [← e9] at g
    exact g
  · have hw := ite_f hw c1
    refine r_aload_n E 10 0 rfl dX10_init_41 ?_
    obtain ⟨vg37, bg37, lg37, hw⟩ := hw
    refine r_getR E fd_X10_25 (t := 0) (j1 := 21) rfl vg37 rfl (Nat.le_of_ble_eq_true rfl) (Nat.lt_of_lt_of_le hth hn0) dX10_init_42 ?_
    refine r_iload_n E x1 rfl dX10_init_45 ?_
    obtain ⟨e38, le38, be38, te38, me38, hw⟩ := hw
    have ue38 : n < NT := Nat.lt_of_succ_lt te38
    have ae38 := AL_adr le38 ue38
    refine r_new E cl_X10_23 li_7 (by decide) (by decide) le38 hn0 te38 (Nat.sub_le_sub_right me38 n0) (Nat.mul_le_mul_left 240 (Nat.sub_le_sub_right me38 n0)) dX10_init_46 ?_
    refine GG_toph fun h39 hh39 => ?_
    replace hw := hw h39 hh39
    have fe38 : adr 7 e38 < n + 1 := Nat.lt_succ_of_le (Nat.le_of_eq ae38)
    refine r_dup E rfl dX10_init_49 ?_
    obtain ⟨c41, hw⟩ := hw
    refine r_callIV E (m_X7_init (EE_st E) (GX X) (n + 1) (n + 38) e38 be38 (Nat.lt_of_lt_of_le fe38 (Nat.le_refl _)) h39 _ hw) lk_X10_29 (RM_mk (Nat.le_of_ble_eq_true rfl) (Nat.le_of_ble_eq_true rfl)) rfl rfl rfl rfl (Nat.le_of_ble_eq_true rfl) (k1 := (n + 38) - n0) (z1 := 240 * ((n + 38) - n0)) (qsub (Nat.le_trans hn0 (Nat.le_add_right n 1)) (Nat.add_le_add_left (by decide : 1 ≤ 38) n)) (qsub240 (Nat.le_trans hn0 (Nat.le_add_right n 1)) (Nat.add_le_add_left (by decide : 1 ≤ 38) n)) (Nat.sub_le_sub_right c41 n0) (Nat.mul_le_mul_left 240 (Nat.sub_le_sub_right c41 n0)) dX10_init_50 (fun h40 hw => ?_)
    obtain ⟨i42, hw⟩ := hw
    obtain ⟨f43, hw⟩ := hw
    refine r_aast E (t := e38) (j1 := 7) (ta := 6) rfl rfl (Nat.le_of_ble_eq_true rfl) rfl (Nat.le_of_ble_eq_true rfl) rfl rfl bg37 (Nat.lt_of_lt_of_le lg37 (Nat.add_le_add_left (by decide : 0 ≤ 38) n)) be38 (Nat.lt_of_lt_of_le fe38 (Nat.add_le_add_left (by decide : 1 ≤ 38) n)) i42 (Or.inl f43) dX10_init_53 ?_
    refine GG_toph fun h44 hh44 => ?_
    replace hw := hw h44 hh44
    obtain ⟨v45, hv45⟩ : ∃ y : Int32, y = x1 + 1 := ⟨_, rfl⟩
    replace hw := hw v45 hv45
    refine r_iinc E x1 v45 [some (rf X 10 0), some (.int v45)] rfl (by rw [hv45]; rfl) (Nat.le_of_ble_eq_true rfl) rfl dX10_init_54 ?_
    refine r_goto E 36 (by decide) dX10_init_57 ?_
    exact GG_weak [true, true] rfl (hP36 _ _ _ hw (Nat.le_trans hn0 (Nat.le_add_right n 38)))
set_option maxRecDepth 20000 in
theorem t_X10_init_b36 {X : Ctx} (n : Nat) (h : Hp) (x1 : Int32)  (n0 n1 : Nat) (hn0 : n0 ≤ n) (hth : adr 10 0 < n0) (hin : (xMe X).name = "<init>") (E : EE X cX10_init RX10 2 3 67 (n1 - n0) (240 * (n1 - n0))) {Q : Hp → Prop} (hE : ENDv X cX10_init Q n1 (n1 - n0) (240 * (n1 - n0))) (hw : wp_X10_init_b36 n1 x1 n h Q) : GC X n0 n h [some (rf X 10 0), some (.int x1)] 36 [] :=
  hw (fun y1 n9 u => n0 ≤ n9 → GC X n0 n9 u [some (rf X 10 0), some (.int y1)] 36 []) (fun y1 n9 u hq hn9 => t_X10_init_b36F n9 u y1  n0 n1 hn9 hth hin E hE (fun y1 n9 u => n0 ≤ n9 → GC X n0 n9 u [some (rf X 10 0), some (.int y1)] 36 []) (fun y1 n9 u q w => q w) hq) hn0
set_option maxRecDepth 20000 in
theorem m_X10_init {l : Launch} (hl : l.stackTraces = false) (G : Gq) (n n1 : Nat)   (hth : adr 10 0 < n) (h : Hp) (Q : Hp → Prop) (hw : wp_X10_init n1  n h Q) : MV l G yX10_init cX10_init 2 none (rm_X10_init n n1) n n1 h (fun r => [r 10 0]) Q := by
  refine CV_of (L0 := (fun X => [some (rf X 10 0), none])) hl (by decide +kernel) rfl rfl (fun _ => Nat.le_of_ble_eq_true rfl) (fun _ => rfl) fun X hXl hXG E hin hE => ?_
  subst hXl; subst hXG
  have key : GC X n n h [some (rf X 10 0), none] 0 [] := ?_
  · simpa only [GC, Nat.sub_self, Nat.mul_zero] using key
  unfold wp_X10_init at hw
  obtain ⟨n0, e0⟩ : ∃ z, z = n := ⟨_, rfl⟩
  have hn0 : n0 ≤ n := Nat.le_of_eq e0
  have hth : adr 10 0 < n0 := by rw [e0]; exact hth
  have E : EE X cX10_init RX10 2 3 67 (n1 - n0) (240 * (n1 - n0)) := by rw [e0]; exact E
  have hE : ENDv X cX10_init Q n1 (n1 - n0) (240 * (n1 - n0)) := by rw [e0]; exact hE
  have key : GC X n0 n h [some (rf X 10 0), none] 0 [] := ?_
  · rw [← e0]; rw [e0] at key ⊢; exact key
  refine r_aload_n E 10 0 rfl dX10_init_0 ?_
  refine r_objInit E lo_X10_1 rfl (by decide) (by decide) dX10_init_1 ?_
  refine r_aload_n E 10 0 rfl dX10_init_4 ?_
  obtain ⟨le1, te1, me1, hw⟩ := hw
  have ue1 : n < NT := Nat.lt_of_succ_lt te1
  have ae1 := AL_adr le1 ue1
  refine r_new E cl_X10_7 li_9 (by decide) (by decide) le1 hn0 te1 (Nat.sub_le_sub_right me1 n0) (Nat.mul_le_mul_left 240 (Nat.sub_le_sub_right me1 n0)) dX10_init_5 ?_
  refine GG_toph fun h2 hh2 => ?_
  replace hw := hw h2 hh2
  have fe1 : adr 9 0 < n + 1 := Nat.lt_succ_of_le (Nat.le_of_eq ae1)
  refine r_dup E rfl dX10_init_8 ?_
  obtain ⟨c4, hw⟩ := hw
  refine r_callINV E (m_X9_init (EE_st E) (GX X) (n + 1) (n + 4)  (Nat.lt_of_lt_of_le fe1 (Nat.le_refl _)) h2 _ hw) lk_X10_9 (RM_mk (Nat.le_of_ble_eq_true rfl) (Nat.le_of_ble_eq_true rfl)) rfl rfl rfl rfl (Nat.le_of_ble_eq_true rfl) (k1 := (n + 4) - n0) (z1 := 240 * ((n + 4) - n0)) (qsub (Nat.le_trans hn0 (Nat.le_add_right n 1)) (Nat.add_le_add_left (by decide : 1 ≤ 4) n)) (qsub240 (Nat.le_trans hn0 (Nat.le_add_right n 1)) (Nat.add_le_add_left (by decide : 1 ≤ 4) n)) (Nat.sub_le_sub_right c4 n0) (Nat.mul_le_mul_left 240 (Nat.sub_le_sub_right c4 n0)) dX10_init_9 (fun h3 hw => ?_)
  obtain ⟨f5, hw⟩ := hw
  refine r_putRF E fd_X10_10 (t := 0) (j1 := 9) rfl rfl ⟨rfl, rfl⟩ f5 hin rfl (Nat.le_of_ble_eq_true rfl) (Nat.lt_of_lt_of_le hth (Nat.le_trans hn0 (Nat.le_add_right n 4))) rfl dX10_init_12 ?_
  refine GG_toph fun h6 hh6 => ?_
  replace hw := hw h6 hh6
  refine r_aload_n E 10 0 rfl dX10_init_15 ?_
  obtain ⟨le7, te7, me7, hw⟩ := hw
  have ue7 : (n + 4) < NT := Nat.lt_of_succ_lt te7
  have ae7 := AL_adr le7 ue7
  refine r_new E cl_X10_16 li_3 (by decide) (by decide) le7 (Nat.le_trans hn0 (Nat.le_add_right n 4)) te7 (Nat.sub_le_sub_right me7 n0) (Nat.mul_le_mul_left 240 (Nat.sub_le_sub_right me7 n0)) dX10_init_16 ?_
  refine GG_toph fun h8 hh8 => ?_
  replace hw := hw h8 hh8
  have fe7 : adr 3 0 < (n + 4) + 1 := Nat.lt_succ_of_le (Nat.le_of_eq ae7)
  refine r_dup E rfl dX10_init_19 ?_
  obtain ⟨c10, hw⟩ := hw
  refine r_callIV E (m_X3_init (EE_st E) (GX X) (n + 5) (n + 51)  (Nat.lt_of_lt_of_le fe7 (Nat.le_refl _)) h8 _ hw) lk_X10_18 (RM_mk (Nat.le_of_ble_eq_true rfl) (Nat.le_of_ble_eq_true rfl)) rfl rfl rfl rfl (Nat.le_of_ble_eq_true rfl) (k1 := (n + 51) - n0) (z1 := 240 * ((n + 51) - n0)) (qsub (Nat.le_trans hn0 (Nat.le_add_right n 5)) (Nat.add_le_add_left (by decide : 5 ≤ 51) n)) (qsub240 (Nat.le_trans hn0 (Nat.le_add_right n 5)) (Nat.add_le_add_left (by decide : 5 ≤ 51) n)) (Nat.sub_le_sub_right c10 n0) (Nat.mul_le_mul_left 240 (Nat.sub_le_sub_right c10 n0)) dX10_init_20 (fun h9 hw => ?_)
  obtain ⟨f11, hw⟩ := hw
  refine r_putRF E fd_X10_19 (t := 0) (j1 := 3) rfl rfl ⟨rfl, rfl⟩ f11 hin rfl (Nat.le_of_ble_eq_true rfl) (Nat.lt_of_lt_of_le hth (Nat.le_trans hn0 (Nat.le_add_right n 51))) rfl dX10_init_23 ?_
  refine GG_toph fun h12 hh12 => ?_
  replace hw := hw h12 hh12
  refine r_aload_n E 10 0 rfl dX10_init_26 ?_
  refine r_iconst E 4 rfl dX10_init_27 ?_
  obtain ⟨le13, te13, me13, hw⟩ := hw
  have ue13 : (n + 51) < NT := Nat.lt_of_succ_lt te13
  have ae13 := AL_adr le13 ue13
  refine r_newq_7 E cl_X10_23 rfl rfl rfl (by decide) (by decide) (by decide) le13 (Nat.le_trans hn0 (Nat.le_add_right n 51)) te13 (Nat.sub_le_sub_right me13 n0) (Nat.mul_le_mul_left 240 (Nat.sub_le_sub_right me13 n0)) dX10_init_28 ?_
  refine GG_toph fun h14 hh14 => ?_
  replace hw := hw h14 hh14
  have fe13 : adr 21 0 < (n + 51) + 1 := Nat.lt_succ_of_le (Nat.le_of_eq ae13)
  obtain ⟨f15, hw⟩ := hw
  refine r_putRF E fd_X10_25 (t := 0) (j1 := 21) rfl rfl ⟨rfl, rfl⟩ f15 hin rfl (Nat.le_of_ble_eq_true rfl) (Nat.lt_of_lt_of_le hth (Nat.le_trans hn0 (Nat.le_add_right n 52))) rfl dX10_init_31 ?_
  refine GG_toph fun h16 hh16 => ?_
  replace hw := hw h16 hh16
  refine r_iconst E 0 rfl dX10_init_34 ?_
  refine r_istore_n E [some (rf X 10 0), some (.int 0)] rfl (Nat.le_of_ble_eq_true rfl) rfl dX10_init_35 ?_
  exact GG_weak [true, true] rfl (t_X10_init_b36 (n + 52) h16 0 n0 n1 (Nat.le_trans hn0 (Nat.le_add_right n 52)) hth hin E hE  hw)
set_option maxRecDepth 20000 in
theorem t_X11_init_b370F {X : Ctx} (n : Nat) (h : Hp) (x1 : Int32)  (n0 n1 : Nat) (hn0 : n0 ≤ n) (hth : adr 11 0 < n0) (hin : (xMe X).name = "<init>") (E : EE X cX11_init RX11 2 1 24 (n1 - n0) (240 * (n1 - n0))) {Q : Hp → Prop} (hE : ENDv X cX11_init Q n1 (n1 - n0) (240 * (n1 - n0))) (P370 : Int32 → Nat → Hp → Prop) (hP370 : ∀ (y1 : Int32) (n9 : Nat) (u : Hp), P370 y1 n9 u → n0 ≤ n9 → GC X n0 n9 u [some (rf X 11 0), some (.int y1)] 370 []) (hw : wp_X11_init_b370F n1  Q P370 x1 n h) : GC X n0 n h [some (rf X 11 0), some (.int x1)] 370 [] := by
  unfold wp_X11_init_b370F at hw
  refine r_iload_n E x1 rfl dX11_init_370 ?_
  refine r_bipush E 10 rfl dX11_init_371 ?_
  refine r_icmp_ge E 389 (by decide) dX11_init_373 (fun c1 => ?_) (fun c1 => ?_)
  · have hw := ite_t hw c1
    obtain ⟨e9, hw⟩ := hw
    have g := hE (n1 - n0) (240 * (n1 - n0)) h [some (rf X 11 0), some (.int x1)] 389 (Nat.le_refl _) (Nat.le_refl _) dX11_init_389 hw
    rw [← e9] at g
    exact g
  · have hw := ite_f hw c1
    refine r_aload_n E 11 0 rfl dX11_init_376 ?_
    obtain ⟨vg2, bg2, lg2, hw⟩ := hw
    refine r_getR E fd_X11_50 (t := 0) (j1 := 46) rfl vg2 rfl (Nat.le_of_ble_eq_true rfl) (Nat.lt_of_lt_of_le hth hn0) dX11_init_377 ?_
    refine r_iload_n E x1 rfl dX11_init_380 ?_
    refine r_iconst E (-1) rfl dX11_init_381 ?_
    obtain ⟨i3, hw⟩ := hw
    refine r_iast E rfl rfl rfl bg2 (Nat.lt_of_lt_of_le lg2 (Nat.le_refl _)) i3 dX11_init_382 ?_
    refine GG_toph fun h4 hh4 => ?_
    replace hw := hw h4 hh4
    obtain ⟨v5, hv5⟩ : ∃ y : Int32, y = x1 + 1 := ⟨_, rfl⟩
    replace hw := hw v5 hv5
    refine r_iinc E x1 v5 [some (rf X 11 0), some (.int v5)] rfl (by rw [hv5]; rfl) (Nat.le_of_ble_eq_true rfl) rfl dX11_init_383 ?_
    refine r_goto E 370 (by decide) dX11_init_386 ?_
    exact GG_weak [true, true] rfl (hP370 _ _ _ hw hn0)
set_option maxRecDepth 20000 in
theorem t_X11_init_b370 {X : Ctx} (n : Nat) (h : Hp) (x1 : Int32)  (n0 n1 : Nat) (hn0 : n0 ≤ n) (hth : adr 11 0 < n0) (hin : (xMe X).name = "<init>") (E : EE X cX11_init RX11 2 1 24 (n1 - n0) (240 * (n1 - n0))) {Q : Hp → Prop} (hE : ENDv X cX11_init Q n1 (n1 - n0) (240 * (n1 - n0))) (hw : wp_X11_init_b370 n1 x1 n h Q) : GC X n0 n h [some (rf X 11 0), some (.int x1)] 370 [] :=
  hw (fun y1 n9 u => n0 ≤ n9 → GC X n0 n9 u [some (rf X 11 0), some (.int y1)] 370 []) (fun y1 n9 u hq hn9 => t_X11_init_b370F n9 u y1  n0 n1 hn9 hth hin E hE (fun y1 n9 u => n0 ≤ n9 → GC X n0 n9 u [some (rf X 11 0), some (.int y1)] 370 []) (fun y1 n9 u q w => q w) hq) hn0
set_option maxRecDepth 20000 in
theorem t_X11_init_b347F {X : Ctx} (n : Nat) (h : Hp) (x1 : Int32)  (n0 n1 : Nat) (hn0 : n0 ≤ n) (hth : adr 11 0 < n0) (hin : (xMe X).name = "<init>") (E : EE X cX11_init RX11 2 1 24 (n1 - n0) (240 * (n1 - n0))) {Q : Hp → Prop} (hE : ENDv X cX11_init Q n1 (n1 - n0) (240 * (n1 - n0))) (P347 : Int32 → Nat → Hp → Prop) (hP347 : ∀ (y1 : Int32) (n9 : Nat) (u : Hp), P347 y1 n9 u → n0 ≤ n9 → GC X n0 n9 u [some (rf X 11 0), some (.int y1)] 347 []) (hw : wp_X11_init_b347F n1  Q P347 x1 n h) : GC X n0 n h [some (rf X 11 0), some (.int x1)] 347 [] := by
  unfold wp_X11_init_b347F at hw
  refine r_iload_n E x1 rfl dX11_init_347 ?_
  refine r_bipush E 8 rfl dX11_init_348 ?_
  refine r_icmp_ge E 368 (by decide) dX11_init_350 (fun c1 => ?_) (fun c1 => ?_)
  · have hw := ite_t hw c1
    refine r_iconst E 0 rfl dX11_init_368 ?_
    refine r_istore_n E [some (rf X 11 0), some (.int 0)] rfl (Nat.le_of_ble_eq_true rfl) rfl dX11_init_369 ?_
    exact GG_weak [true, true] rfl (t_X11_init_b370 n h 0 n0 n1 hn0 hth hin E hE  hw)
  · have hw := ite_f hw c1
    refine r_aload_n E 11 0 rfl dX11_init_353 ?_
    obtain ⟨vg2, bg2, lg2, hw⟩ := hw
    refine r_getR E fd_X11_44 (t := 0) (j1 := 44) rfl vg2 rfl (Nat.le_of_ble_eq_true rfl) (Nat.lt_of_lt_of_le hth hn0) dX11_init_354 ?_
    refine r_iload_n E x1 rfl dX11_init_357 ?_
    refine r_sipush E 2000 rfl dX11_init_358 ?_
    obtain ⟨i3, hw⟩ := hw
    refine r_iast E rfl rfl rfl bg2 (Nat.lt_of_lt_of_le lg2 (Nat.le_refl _)) i3 dX11_init_361 ?_
    refine GG_toph fun h4 hh4 => ?_
    replace hw := hw h4 hh4
    obtain ⟨v5, hv5⟩ : ∃ y : Int32, y = x1 + 1 := ⟨_, rfl⟩
    replace hw := hw v5 hv5
    refine r_iinc E x1 v5 [some (rf X 11 0), some (.int v5)] rfl (by rw [hv5]; rfl) (Nat.le_of_ble_eq_true rfl) rfl dX11_init_362 ?_
    refine r_goto E 347 (by decide) dX11_init_365 ?_
    exact GG_weak [true, true] rfl (hP347 _ _ _ hw hn0)
set_option maxRecDepth 20000 in
theorem t_X11_init_b347 {X : Ctx} (n : Nat) (h : Hp) (x1 : Int32)  (n0 n1 : Nat) (hn0 : n0 ≤ n) (hth : adr 11 0 < n0) (hin : (xMe X).name = "<init>") (E : EE X cX11_init RX11 2 1 24 (n1 - n0) (240 * (n1 - n0))) {Q : Hp → Prop} (hE : ENDv X cX11_init Q n1 (n1 - n0) (240 * (n1 - n0))) (hw : wp_X11_init_b347 n1 x1 n h Q) : GC X n0 n h [some (rf X 11 0), some (.int x1)] 347 [] :=
  hw (fun y1 n9 u => n0 ≤ n9 → GC X n0 n9 u [some (rf X 11 0), some (.int y1)] 347 []) (fun y1 n9 u hq hn9 => t_X11_init_b347F n9 u y1  n0 n1 hn9 hth hin E hE (fun y1 n9 u => n0 ≤ n9 → GC X n0 n9 u [some (rf X 11 0), some (.int y1)] 347 []) (fun y1 n9 u q w => q w) hq) hn0
set_option maxHeartbeats 40000000 in
set_option maxRecDepth 20000 in
theorem m_X11_init {l : Launch} (hl : l.stackTraces = false) (G : Gq) (n n1 : Nat)   (hth : adr 11 0 < n) (h : Hp) (Q : Hp → Prop) (hw : wp_X11_init n1  n h Q) : MV l G yX11_init cX11_init 2 none (rm_X11_init n n1) n n1 h (fun r => [r 11 0]) Q := by
  refine CV_of (L0 := (fun X => [some (rf X 11 0), none])) hl (by decide +kernel) rfl rfl (fun _ => Nat.le_of_ble_eq_true rfl) (fun _ => rfl) fun X hXl hXG E hin hE => ?_
  subst hXl; subst hXG
  have key : GC X n n h [some (rf X 11 0), none] 0 [] := ?_
  · simpa only [GC, Nat.sub_self, Nat.mul_zero] using key
  unfold wp_X11_init at hw
  obtain ⟨n0, e0⟩ : ∃ z, z = n := ⟨_, rfl⟩
  have hn0 : n0 ≤ n := Nat.le_of_eq e0
  have hth : adr 11 0 < n0 := by rw [e0]; exact hth
  have E : EE X cX11_init RX11 2 1 24 (n1 - n0) (240 * (n1 - n0)) := by rw [e0]; exact E
  have hE : ENDv X cX11_init Q n1 (n1 - n0) (240 * (n1 - n0)) := by rw [e0]; exact hE
  have key : GC X n0 n h [some (rf X 11 0), none] 0 [] := ?_
  · rw [← e0]; rw [e0] at key ⊢; exact key
  refine r_aload_n E 11 0 rfl dX11_init_0 ?_
  refine r_objInit E lo_X11_1 rfl (by decide) (by decide) dX11_init_1 ?_
  refine r_aload_n E 11 0 rfl dX11_init_4 ?_
  refine r_bipush E 40 rfl dX11_init_5 ?_
  obtain ⟨le1, te1, me1, hw⟩ := hw
  have ue1 : n < NT := Nat.lt_of_succ_lt te1
  have ae1 := AL_adr le1 ue1
  refine r_newa_int E rfl rfl rfl (by decide) (by decide) (by decide) le1 hn0 (Or.inl te1) (Nat.sub_le_sub_right me1 n0) (Nat.mul_le_mul_left 240 (Nat.sub_le_sub_right me1 n0)) dX11_init_7 ?_
  refine GG_toph fun h2 hh2 => ?_
  replace hw := hw h2 hh2
  have fe1 : adr 33 0 < n + 1 := Nat.lt_succ_of_le (Nat.le_of_eq ae1)
  obtain ⟨f3, hw⟩ := hw
  refine r_putRF E fd_X11_7 (t := 0) (j1 := 33) rfl rfl ⟨rfl, rfl⟩ f3 hin rfl (Nat.le_of_ble_eq_true rfl) (Nat.lt_of_lt_of_le hth (Nat.le_trans hn0 (Nat.le_add_right n 1))) rfl dX11_init_9 ?_
  refine GG_toph fun h4 hh4 => ?_
  replace hw := hw h4 hh4
  refine r_aload_n E 11 0 rfl dX11_init_12 ?_
  refine r_bipush E 40 rfl dX11_init_13 ?_
  obtain ⟨le5, te5, me5, hw⟩ := hw
  have ue5 : (n + 1) < NT := Nat.lt_of_succ_lt te5
  have ae5 := AL_adr le5 ue5
  refine r_newa_int E rfl rfl rfl (by decide) (by decide) (by decide) le5 (Nat.le_trans hn0 (Nat.le_add_right n 1)) (Or.inl te5) (Nat.sub_le_sub_right me5 n0) (Nat.mul_le_mul_left 240 (Nat.sub_le_sub_right me5 n0)) dX11_init_15 ?_
  refine GG_toph fun h6 hh6 => ?_
  replace hw := hw h6 hh6
  have fe5 : adr 34 0 < (n + 1) + 1 := Nat.lt_succ_of_le (Nat.le_of_eq ae5)
  obtain ⟨f7, hw⟩ := hw
  refine r_putRF E fd_X11_13 (t := 0) (j1 := 34) rfl rfl ⟨rfl, rfl⟩ f7 hin rfl (Nat.le_of_ble_eq_true rfl) (Nat.lt_of_lt_of_le hth (Nat.le_trans hn0 (Nat.le_add_right n 2))) rfl dX11_init_17 ?_
  refine GG_toph fun h8 hh8 => ?_
  replace hw := hw h8 hh8
  refine r_aload_n E 11 0 rfl dX11_init_20 ?_
  refine r_bipush E 40 rfl dX11_init_21 ?_
  obtain ⟨le9, te9, me9, hw⟩ := hw
  have ue9 : (n + 2) < NT := Nat.lt_of_succ_lt te9
  have ae9 := AL_adr le9 ue9
  refine r_newa_int E rfl rfl rfl (by decide) (by decide) (by decide) le9 (Nat.le_trans hn0 (Nat.le_add_right n 2)) (Or.inl te9) (Nat.sub_le_sub_right me9 n0) (Nat.mul_le_mul_left 240 (Nat.sub_le_sub_right me9 n0)) dX11_init_23 ?_
  refine GG_toph fun h10 hh10 => ?_
  replace hw := hw h10 hh10
  have fe9 : adr 35 0 < (n + 2) + 1 := Nat.lt_succ_of_le (Nat.le_of_eq ae9)
  obtain ⟨f11, hw⟩ := hw
  refine r_putRF E fd_X11_16 (t := 0) (j1 := 35) rfl rfl ⟨rfl, rfl⟩ f11 hin rfl (Nat.le_of_ble_eq_true rfl) (Nat.lt_of_lt_of_le hth (Nat.le_trans hn0 (Nat.le_add_right n 3))) rfl dX11_init_25 ?_
  refine GG_toph fun h12 hh12 => ?_
  replace hw := hw h12 hh12
  refine r_aload_n E 11 0 rfl dX11_init_28 ?_
  refine r_bipush E 40 rfl dX11_init_29 ?_
  obtain ⟨le13, te13, me13, hw⟩ := hw
  have ue13 : (n + 3) < NT := Nat.lt_of_succ_lt te13
  have ae13 := AL_adr le13 ue13
  refine r_newa_int E rfl rfl rfl (by decide) (by decide) (by decide) le13 (Nat.le_trans hn0 (Nat.le_add_right n 3)) (Or.inl te13) (Nat.sub_le_sub_right me13 n0) (Nat.mul_le_mul_left 240 (Nat.sub_le_sub_right me13 n0)) dX11_init_31 ?_
  refine GG_toph fun h14 hh14 => ?_
  replace hw := hw h14 hh14
  have fe13 : adr 36 0 < (n + 3) + 1 := Nat.lt_succ_of_le (Nat.le_of_eq ae13)
  obtain ⟨f15, hw⟩ := hw
  refine r_putRF E fd_X11_19 (t := 0) (j1 := 36) rfl rfl ⟨rfl, rfl⟩ f15 hin rfl (Nat.le_of_ble_eq_true rfl) (Nat.lt_of_lt_of_le hth (Nat.le_trans hn0 (Nat.le_add_right n 4))) rfl dX11_init_33 ?_
  refine GG_toph fun h16 hh16 => ?_
  replace hw := hw h16 hh16
  refine r_aload_n E 11 0 rfl dX11_init_36 ?_
  refine r_bipush E 40 rfl dX11_init_37 ?_
  obtain ⟨le17, te17, me17, hw⟩ := hw
  have ue17 : (n + 4) < NT := Nat.lt_of_succ_lt te17
  have ae17 := AL_adr le17 ue17
  refine r_newa_int E rfl rfl rfl (by decide) (by decide) (by decide) le17 (Nat.le_trans hn0 (Nat.le_add_right n 4)) (Or.inl te17) (Nat.sub_le_sub_right me17 n0) (Nat.mul_le_mul_left 240 (Nat.sub_le_sub_right me17 n0)) dX11_init_39 ?_
  refine GG_toph fun h18 hh18 => ?_
  replace hw := hw h18 hh18
  have fe17 : adr 37 0 < (n + 4) + 1 := Nat.lt_succ_of_le (Nat.le_of_eq ae17)
  obtain ⟨f19, hw⟩ := hw
  refine r_putRF E fd_X11_22 (t := 0) (j1 := 37) rfl rfl ⟨rfl, rfl⟩ f19 hin rfl (Nat.le_of_ble_eq_true rfl) (Nat.lt_of_lt_of_le hth (Nat.le_trans hn0 (Nat.le_add_right n 5))) rfl dX11_init_41 ?_
  refine GG_toph fun h20 hh20 => ?_
  replace hw := hw h20 hh20
  refine r_aload_n E 11 0 rfl dX11_init_44 ?_
  refine r_bipush E 40 rfl dX11_init_45 ?_
  obtain ⟨le21, te21, me21, hw⟩ := hw
  have ue21 : (n + 5) < NT := Nat.lt_of_succ_lt te21
  have ae21 := AL_adr le21 ue21
  refine r_newa_int E rfl rfl rfl (by decide) (by decide) (by decide) le21 (Nat.le_trans hn0 (Nat.le_add_right n 5)) (Or.inl te21) (Nat.sub_le_sub_right me21 n0) (Nat.mul_le_mul_left 240 (Nat.sub_le_sub_right me21 n0)) dX11_init_47 ?_
  refine GG_toph fun h22 hh22 => ?_
  replace hw := hw h22 hh22
  have fe21 : adr 38 0 < (n + 5) + 1 := Nat.lt_succ_of_le (Nat.le_of_eq ae21)
  obtain ⟨f23, hw⟩ := hw
  refine r_putRF E fd_X11_25 (t := 0) (j1 := 38) rfl rfl ⟨rfl, rfl⟩ f23 hin rfl (Nat.le_of_ble_eq_true rfl) (Nat.lt_of_lt_of_le hth (Nat.le_trans hn0 (Nat.le_add_right n 6))) rfl dX11_init_49 ?_
  refine GG_toph fun h24 hh24 => ?_
  replace hw := hw h24 hh24
  refine r_aload_n E 11 0 rfl dX11_init_52 ?_
  refine r_bipush E 40 rfl dX11_init_53 ?_
  obtain ⟨le25, te25, me25, hw⟩ := hw
  have ue25 : (n + 6) < NT := Nat.lt_of_succ_lt te25
  have ae25 := AL_adr le25 ue25
  refine r_newa_boolean E rfl rfl rfl (by decide) (by decide) (by decide) le25 (Nat.le_trans hn0 (Nat.le_add_right n 6)) (Or.inl te25) (Nat.sub_le_sub_right me25 n0) (Nat.mul_le_mul_left 240 (Nat.sub_le_sub_right me25 n0)) dX11_init_55 ?_
  refine GG_toph fun h26 hh26 => ?_
  replace hw := hw h26 hh26
  have fe25 : adr 39 0 < (n + 6) + 1 := Nat.lt_succ_of_le (Nat.le_of_eq ae25)
  obtain ⟨f27, hw⟩ := hw
  refine r_putRF E fd_X11_28 (t := 0) (j1 := 39) rfl rfl ⟨rfl, rfl⟩ f27 hin rfl (Nat.le_of_ble_eq_true rfl) (Nat.lt_of_lt_of_le hth (Nat.le_trans hn0 (Nat.le_add_right n 7))) rfl dX11_init_57 ?_
  refine GG_toph fun h28 hh28 => ?_
  replace hw := hw h28 hh28
  refine r_aload_n E 11 0 rfl dX11_init_60 ?_
  refine r_bipush E 40 rfl dX11_init_61 ?_
  obtain ⟨le29, te29, me29, hw⟩ := hw
  have ue29 : (n + 7) < NT := Nat.lt_of_succ_lt te29
  have ae29 := AL_adr le29 ue29
  refine r_newa_boolean E rfl rfl rfl (by decide) (by decide) (by decide) le29 (Nat.le_trans hn0 (Nat.le_add_right n 7)) (Or.inl te29) (Nat.sub_le_sub_right me29 n0) (Nat.mul_le_mul_left 240 (Nat.sub_le_sub_right me29 n0)) dX11_init_63 ?_
  refine GG_toph fun h30 hh30 => ?_
  replace hw := hw h30 hh30
  have fe29 : adr 40 0 < (n + 7) + 1 := Nat.lt_succ_of_le (Nat.le_of_eq ae29)
  obtain ⟨f31, hw⟩ := hw
  refine r_putRF E fd_X11_32 (t := 0) (j1 := 40) rfl rfl ⟨rfl, rfl⟩ f31 hin rfl (Nat.le_of_ble_eq_true rfl) (Nat.lt_of_lt_of_le hth (Nat.le_trans hn0 (Nat.le_add_right n 8))) rfl dX11_init_65 ?_
  refine GG_toph fun h32 hh32 => ?_
  replace hw := hw h32 hh32
  refine r_aload_n E 11 0 rfl dX11_init_68 ?_
  refine r_bipush E 40 rfl dX11_init_69 ?_
  obtain ⟨le33, te33, me33, hw⟩ := hw
  have ue33 : (n + 8) < NT := Nat.lt_of_succ_lt te33
  have ae33 := AL_adr le33 ue33
  refine r_newa_int E rfl rfl rfl (by decide) (by decide) (by decide) le33 (Nat.le_trans hn0 (Nat.le_add_right n 8)) (Or.inl te33) (Nat.sub_le_sub_right me33 n0) (Nat.mul_le_mul_left 240 (Nat.sub_le_sub_right me33 n0)) dX11_init_71 ?_
  refine GG_toph fun h34 hh34 => ?_
  replace hw := hw h34 hh34
  have fe33 : adr 41 0 < (n + 8) + 1 := Nat.lt_succ_of_le (Nat.le_of_eq ae33)
  obtain ⟨f35, hw⟩ := hw
  refine r_putRF E fd_X11_35 (t := 0) (j1 := 41) rfl rfl ⟨rfl, rfl⟩ f35 hin rfl (Nat.le_of_ble_eq_true rfl) (Nat.lt_of_lt_of_le hth (Nat.le_trans hn0 (Nat.le_add_right n 9))) rfl dX11_init_73 ?_
  refine GG_toph fun h36 hh36 => ?_
  replace hw := hw h36 hh36
  refine r_aload_n E 11 0 rfl dX11_init_76 ?_
  refine r_bipush E 40 rfl dX11_init_77 ?_
  obtain ⟨le37, te37, me37, hw⟩ := hw
  have ue37 : (n + 9) < NT := Nat.lt_of_succ_lt te37
  have ae37 := AL_adr le37 ue37
  refine r_newa_int E rfl rfl rfl (by decide) (by decide) (by decide) le37 (Nat.le_trans hn0 (Nat.le_add_right n 9)) (Or.inl te37) (Nat.sub_le_sub_right me37 n0) (Nat.mul_le_mul_left 240 (Nat.sub_le_sub_right me37 n0)) dX11_init_79 ?_
  refine GG_toph fun h38 hh38 => ?_
  replace hw := hw h38 hh38
  have fe37 : adr 42 0 < (n + 9) + 1 := Nat.lt_succ_of_le (Nat.le_of_eq ae37)
  obtain ⟨f39, hw⟩ := hw
  refine r_putRF E fd_X11_38 (t := 0) (j1 := 42) rfl rfl ⟨rfl, rfl⟩ f39 hin rfl (Nat.le_of_ble_eq_true rfl) (Nat.lt_of_lt_of_le hth (Nat.le_trans hn0 (Nat.le_add_right n 10))) rfl dX11_init_81 ?_
  refine GG_toph fun h40 hh40 => ?_
  replace hw := hw h40 hh40
  refine r_aload_n E 11 0 rfl dX11_init_84 ?_
  refine r_bipush E 40 rfl dX11_init_85 ?_
  obtain ⟨le41, te41, me41, hw⟩ := hw
  have ue41 : (n + 10) < NT := Nat.lt_of_succ_lt te41
  have ae41 := AL_adr le41 ue41
  refine r_newa_int E rfl rfl rfl (by decide) (by decide) (by decide) le41 (Nat.le_trans hn0 (Nat.le_add_right n 10)) (Or.inl te41) (Nat.sub_le_sub_right me41 n0) (Nat.mul_le_mul_left 240 (Nat.sub_le_sub_right me41 n0)) dX11_init_87 ?_
  refine GG_toph fun h42 hh42 => ?_
  replace hw := hw h42 hh42
  have fe41 : adr 43 0 < (n + 10) + 1 := Nat.lt_succ_of_le (Nat.le_of_eq ae41)
  obtain ⟨f43, hw⟩ := hw
  refine r_putRF E fd_X11_41 (t := 0) (j1 := 43) rfl rfl ⟨rfl, rfl⟩ f43 hin rfl (Nat.le_of_ble_eq_true rfl) (Nat.lt_of_lt_of_le hth (Nat.le_trans hn0 (Nat.le_add_right n 11))) rfl dX11_init_89 ?_
  refine GG_toph fun h44 hh44 => ?_
  replace hw := hw h44 hh44
  refine r_aload_n E 11 0 rfl dX11_init_92 ?_
  refine r_bipush E 8 rfl dX11_init_93 ?_
  obtain ⟨le45, te45, me45, hw⟩ := hw
  have ue45 : (n + 11) < NT := Nat.lt_of_succ_lt te45
  have ae45 := AL_adr le45 ue45
  refine r_newa_int E rfl rfl rfl (by decide) (by decide) (by decide) le45 (Nat.le_trans hn0 (Nat.le_add_right n 11)) (Or.inl te45) (Nat.sub_le_sub_right me45 n0) (Nat.mul_le_mul_left 240 (Nat.sub_le_sub_right me45 n0)) dX11_init_95 ?_
  refine GG_toph fun h46 hh46 => ?_
  replace hw := hw h46 hh46
  have fe45 : adr 44 0 < (n + 11) + 1 := Nat.lt_succ_of_le (Nat.le_of_eq ae45)
  obtain ⟨f47, hw⟩ := hw
  refine r_putRF E fd_X11_44 (t := 0) (j1 := 44) rfl rfl ⟨rfl, rfl⟩ f47 hin rfl (Nat.le_of_ble_eq_true rfl) (Nat.lt_of_lt_of_le hth (Nat.le_trans hn0 (Nat.le_add_right n 12))) rfl dX11_init_97 ?_
  refine GG_toph fun h48 hh48 => ?_
  replace hw := hw h48 hh48
  refine r_aload_n E 11 0 rfl dX11_init_100 ?_
  refine r_bipush E 8 rfl dX11_init_101 ?_
  obtain ⟨le49, te49, me49, hw⟩ := hw
  have ue49 : (n + 12) < NT := Nat.lt_of_succ_lt te49
  have ae49 := AL_adr le49 ue49
  refine r_newa_int E rfl rfl rfl (by decide) (by decide) (by decide) le49 (Nat.le_trans hn0 (Nat.le_add_right n 12)) (Or.inl te49) (Nat.sub_le_sub_right me49 n0) (Nat.mul_le_mul_left 240 (Nat.sub_le_sub_right me49 n0)) dX11_init_103 ?_
  refine GG_toph fun h50 hh50 => ?_
  replace hw := hw h50 hh50
  have fe49 : adr 45 0 < (n + 12) + 1 := Nat.lt_succ_of_le (Nat.le_of_eq ae49)
  obtain ⟨f51, hw⟩ := hw
  refine r_putRF E fd_X11_47 (t := 0) (j1 := 45) rfl rfl ⟨rfl, rfl⟩ f51 hin rfl (Nat.le_of_ble_eq_true rfl) (Nat.lt_of_lt_of_le hth (Nat.le_trans hn0 (Nat.le_add_right n 13))) rfl dX11_init_105 ?_
  refine GG_toph fun h52 hh52 => ?_
  replace hw := hw h52 hh52
  refine r_aload_n E 11 0 rfl dX11_init_108 ?_
  refine r_bipush E 10 rfl dX11_init_109 ?_
  obtain ⟨le53, te53, me53, hw⟩ := hw
  have ue53 : (n + 13) < NT := Nat.lt_of_succ_lt te53
  have ae53 := AL_adr le53 ue53
  refine r_newa_int E rfl rfl rfl (by decide) (by decide) (by decide) le53 (Nat.le_trans hn0 (Nat.le_add_right n 13)) (Or.inl te53) (Nat.sub_le_sub_right me53 n0) (Nat.mul_le_mul_left 240 (Nat.sub_le_sub_right me53 n0)) dX11_init_111 ?_
  refine GG_toph fun h54 hh54 => ?_
  replace hw := hw h54 hh54
  have fe53 : adr 46 0 < (n + 13) + 1 := Nat.lt_succ_of_le (Nat.le_of_eq ae53)
  obtain ⟨f55, hw⟩ := hw
  refine r_putRF E fd_X11_50 (t := 0) (j1 := 46) rfl rfl ⟨rfl, rfl⟩ f55 hin rfl (Nat.le_of_ble_eq_true rfl) (Nat.lt_of_lt_of_le hth (Nat.le_trans hn0 (Nat.le_add_right n 14))) rfl dX11_init_113 ?_
  refine GG_toph fun h56 hh56 => ?_
  replace hw := hw h56 hh56
  refine r_aload_n E 11 0 rfl dX11_init_116 ?_
  refine r_bipush E 10 rfl dX11_init_117 ?_
  obtain ⟨le57, te57, me57, hw⟩ := hw
  have ue57 : (n + 14) < NT := Nat.lt_of_succ_lt te57
  have ae57 := AL_adr le57 ue57
  refine r_newa_int E rfl rfl rfl (by decide) (by decide) (by decide) le57 (Nat.le_trans hn0 (Nat.le_add_right n 14)) (Or.inl te57) (Nat.sub_le_sub_right me57 n0) (Nat.mul_le_mul_left 240 (Nat.sub_le_sub_right me57 n0)) dX11_init_119 ?_
  refine GG_toph fun h58 hh58 => ?_
  replace hw := hw h58 hh58
  have fe57 : adr 47 0 < (n + 14) + 1 := Nat.lt_succ_of_le (Nat.le_of_eq ae57)
  obtain ⟨f59, hw⟩ := hw
  refine r_putRF E fd_X11_53 (t := 0) (j1 := 47) rfl rfl ⟨rfl, rfl⟩ f59 hin rfl (Nat.le_of_ble_eq_true rfl) (Nat.lt_of_lt_of_le hth (Nat.le_trans hn0 (Nat.le_add_right n 15))) rfl dX11_init_121 ?_
  refine GG_toph fun h60 hh60 => ?_
  replace hw := hw h60 hh60
  refine r_aload_n E 11 0 rfl dX11_init_124 ?_
  refine r_bipush E 10 rfl dX11_init_125 ?_
  obtain ⟨le61, te61, me61, hw⟩ := hw
  have ue61 : (n + 15) < NT := Nat.lt_of_succ_lt te61
  have ae61 := AL_adr le61 ue61
  refine r_newa_int E rfl rfl rfl (by decide) (by decide) (by decide) le61 (Nat.le_trans hn0 (Nat.le_add_right n 15)) (Or.inl te61) (Nat.sub_le_sub_right me61 n0) (Nat.mul_le_mul_left 240 (Nat.sub_le_sub_right me61 n0)) dX11_init_127 ?_
  refine GG_toph fun h62 hh62 => ?_
  replace hw := hw h62 hh62
  have fe61 : adr 48 0 < (n + 15) + 1 := Nat.lt_succ_of_le (Nat.le_of_eq ae61)
  obtain ⟨f63, hw⟩ := hw
  refine r_putRF E fd_X11_56 (t := 0) (j1 := 48) rfl rfl ⟨rfl, rfl⟩ f63 hin rfl (Nat.le_of_ble_eq_true rfl) (Nat.lt_of_lt_of_le hth (Nat.le_trans hn0 (Nat.le_add_right n 16))) rfl dX11_init_129 ?_
  refine GG_toph fun h64 hh64 => ?_
  replace hw := hw h64 hh64
  refine r_aload_n E 11 0 rfl dX11_init_132 ?_
  refine r_bipush E 60 rfl dX11_init_133 ?_
  obtain ⟨le65, te65, me65, hw⟩ := hw
  have ue65 : (n + 16) < NT := Nat.lt_of_succ_lt te65
  have ae65 := AL_adr le65 ue65
  refine r_newa_char E rfl rfl rfl (by decide) (by decide) (by decide) le65 (Nat.le_trans hn0 (Nat.le_add_right n 16)) (Or.inl te65) (Nat.sub_le_sub_right me65 n0) (Nat.mul_le_mul_left 240 (Nat.sub_le_sub_right me65 n0)) dX11_init_135 ?_
  refine GG_toph fun h66 hh66 => ?_
  replace hw := hw h66 hh66
  have fe65 : adr 49 0 < (n + 16) + 1 := Nat.lt_succ_of_le (Nat.le_of_eq ae65)
  obtain ⟨f67, hw⟩ := hw
  refine r_putRF E fd_X11_59 (t := 0) (j1 := 49) rfl rfl ⟨rfl, rfl⟩ f67 hin rfl (Nat.le_of_ble_eq_true rfl) (Nat.lt_of_lt_of_le hth (Nat.le_trans hn0 (Nat.le_add_right n 17))) rfl dX11_init_137 ?_
  refine GG_toph fun h68 hh68 => ?_
  replace hw := hw h68 hh68
  refine r_aload_n E 11 0 rfl dX11_init_140 ?_
  refine r_bipush E 60 rfl dX11_init_141 ?_
  obtain ⟨le69, te69, me69, hw⟩ := hw
  have ue69 : (n + 17) < NT := Nat.lt_of_succ_lt te69
  have ae69 := AL_adr le69 ue69
  refine r_newa_int E rfl rfl rfl (by decide) (by decide) (by decide) le69 (Nat.le_trans hn0 (Nat.le_add_right n 17)) (Or.inl te69) (Nat.sub_le_sub_right me69 n0) (Nat.mul_le_mul_left 240 (Nat.sub_le_sub_right me69 n0)) dX11_init_143 ?_
  refine GG_toph fun h70 hh70 => ?_
  replace hw := hw h70 hh70
  have fe69 : adr 50 0 < (n + 17) + 1 := Nat.lt_succ_of_le (Nat.le_of_eq ae69)
  obtain ⟨f71, hw⟩ := hw
  refine r_putRF E fd_X11_63 (t := 0) (j1 := 50) rfl rfl ⟨rfl, rfl⟩ f71 hin rfl (Nat.le_of_ble_eq_true rfl) (Nat.lt_of_lt_of_le hth (Nat.le_trans hn0 (Nat.le_add_right n 18))) rfl dX11_init_145 ?_
  refine GG_toph fun h72 hh72 => ?_
  replace hw := hw h72 hh72
  refine r_aload_n E 11 0 rfl dX11_init_148 ?_
  refine r_bipush E 60 rfl dX11_init_149 ?_
  obtain ⟨le73, te73, me73, hw⟩ := hw
  have ue73 : (n + 18) < NT := Nat.lt_of_succ_lt te73
  have ae73 := AL_adr le73 ue73
  refine r_newa_int E rfl rfl rfl (by decide) (by decide) (by decide) le73 (Nat.le_trans hn0 (Nat.le_add_right n 18)) (Or.inl te73) (Nat.sub_le_sub_right me73 n0) (Nat.mul_le_mul_left 240 (Nat.sub_le_sub_right me73 n0)) dX11_init_151 ?_
  refine GG_toph fun h74 hh74 => ?_
  replace hw := hw h74 hh74
  have fe73 : adr 51 0 < (n + 18) + 1 := Nat.lt_succ_of_le (Nat.le_of_eq ae73)
  obtain ⟨f75, hw⟩ := hw
  refine r_putRF E fd_X11_66 (t := 0) (j1 := 51) rfl rfl ⟨rfl, rfl⟩ f75 hin rfl (Nat.le_of_ble_eq_true rfl) (Nat.lt_of_lt_of_le hth (Nat.le_trans hn0 (Nat.le_add_right n 19))) rfl dX11_init_153 ?_
  refine GG_toph fun h76 hh76 => ?_
  replace hw := hw h76 hh76
  refine r_aload_n E 11 0 rfl dX11_init_156 ?_
  refine r_bipush E 60 rfl dX11_init_157 ?_
  obtain ⟨le77, te77, me77, hw⟩ := hw
  have ue77 : (n + 19) < NT := Nat.lt_of_succ_lt te77
  have ae77 := AL_adr le77 ue77
  refine r_newa_boolean E rfl rfl rfl (by decide) (by decide) (by decide) le77 (Nat.le_trans hn0 (Nat.le_add_right n 19)) (Or.inl te77) (Nat.sub_le_sub_right me77 n0) (Nat.mul_le_mul_left 240 (Nat.sub_le_sub_right me77 n0)) dX11_init_159 ?_
  refine GG_toph fun h78 hh78 => ?_
  replace hw := hw h78 hh78
  have fe77 : adr 52 0 < (n + 19) + 1 := Nat.lt_succ_of_le (Nat.le_of_eq ae77)
  obtain ⟨f79, hw⟩ := hw
  refine r_putRF E fd_X11_69 (t := 0) (j1 := 52) rfl rfl ⟨rfl, rfl⟩ f79 hin rfl (Nat.le_of_ble_eq_true rfl) (Nat.lt_of_lt_of_le hth (Nat.le_trans hn0 (Nat.le_add_right n 20))) rfl dX11_init_161 ?_
  refine GG_toph fun h80 hh80 => ?_
  replace hw := hw h80 hh80
  refine r_aload_n E 11 0 rfl dX11_init_164 ?_
  refine r_iconst E 4 rfl dX11_init_165 ?_
  obtain ⟨le81, te81, me81, hw⟩ := hw
  have ue81 : (n + 20) < NT := Nat.lt_of_succ_lt te81
  have ae81 := AL_adr le81 ue81
  refine r_newa_int E rfl rfl rfl (by decide) (by decide) (by decide) le81 (Nat.le_trans hn0 (Nat.le_add_right n 20)) (Or.inl te81) (Nat.sub_le_sub_right me81 n0) (Nat.mul_le_mul_left 240 (Nat.sub_le_sub_right me81 n0)) dX11_init_166 ?_
  refine GG_toph fun h82 hh82 => ?_
  replace hw := hw h82 hh82
  have fe81 : adr 53 0 < (n + 20) + 1 := Nat.lt_succ_of_le (Nat.le_of_eq ae81)
  obtain ⟨f83, hw⟩ := hw
  refine r_putRF E fd_X11_72 (t := 0) (j1 := 53) rfl rfl ⟨rfl, rfl⟩ f83 hin rfl (Nat.le_of_ble_eq_true rfl) (Nat.lt_of_lt_of_le hth (Nat.le_trans hn0 (Nat.le_add_right n 21))) rfl dX11_init_168 ?_
  refine GG_toph fun h84 hh84 => ?_
  replace hw := hw h84 hh84
  refine r_aload_n E 11 0 rfl dX11_init_171 ?_
  refine r_bipush E 48 rfl dX11_init_172 ?_
  obtain ⟨le85, te85, me85, hw⟩ := hw
  have ue85 : (n + 21) < NT := Nat.lt_of_succ_lt te85
  have ae85 := AL_adr le85 ue85
  refine r_newa_int E rfl rfl rfl (by decide) (by decide) (by decide) le85 (Nat.le_trans hn0 (Nat.le_add_right n 21)) (Or.inl te85) (Nat.sub_le_sub_right me85 n0) (Nat.mul_le_mul_left 240 (Nat.sub_le_sub_right me85 n0)) dX11_init_174 ?_
  refine GG_toph fun h86 hh86 => ?_
  replace hw := hw h86 hh86
  have fe85 : adr 54 0 < (n + 21) + 1 := Nat.lt_succ_of_le (Nat.le_of_eq ae85)
  obtain ⟨f87, hw⟩ := hw
  refine r_putRF E fd_X11_75 (t := 0) (j1 := 54) rfl rfl ⟨rfl, rfl⟩ f87 hin rfl (Nat.le_of_ble_eq_true rfl) (Nat.lt_of_lt_of_le hth (Nat.le_trans hn0 (Nat.le_add_right n 22))) rfl dX11_init_176 ?_
  refine GG_toph fun h88 hh88 => ?_
  replace hw := hw h88 hh88
  refine r_aload_n E 11 0 rfl dX11_init_179 ?_
  refine r_bipush E 48 rfl dX11_init_180 ?_
  obtain ⟨le89, te89, me89, hw⟩ := hw
  have ue89 : (n + 22) < NT := Nat.lt_of_succ_lt te89
  have ae89 := AL_adr le89 ue89
  refine r_newa_int E rfl rfl rfl (by decide) (by decide) (by decide) le89 (Nat.le_trans hn0 (Nat.le_add_right n 22)) (Or.inl te89) (Nat.sub_le_sub_right me89 n0) (Nat.mul_le_mul_left 240 (Nat.sub_le_sub_right me89 n0)) dX11_init_182 ?_
  refine GG_toph fun h90 hh90 => ?_
  replace hw := hw h90 hh90
  have fe89 : adr 55 0 < (n + 22) + 1 := Nat.lt_succ_of_le (Nat.le_of_eq ae89)
  obtain ⟨f91, hw⟩ := hw
  refine r_putRF E fd_X11_78 (t := 0) (j1 := 55) rfl rfl ⟨rfl, rfl⟩ f91 hin rfl (Nat.le_of_ble_eq_true rfl) (Nat.lt_of_lt_of_le hth (Nat.le_trans hn0 (Nat.le_add_right n 23))) rfl dX11_init_184 ?_
  refine GG_toph fun h92 hh92 => ?_
  replace hw := hw h92 hh92
  refine r_aload_n E 11 0 rfl dX11_init_187 ?_
  refine r_sipush E 240 rfl dX11_init_188 ?_
  obtain ⟨le93, te93, me93, hw⟩ := hw
  have ue93 : (n + 23) < NT := Nat.lt_of_succ_lt te93
  have ae93 := AL_adr le93 ue93
  refine r_newa_char E rfl rfl rfl (by decide) (by decide) (by decide) le93 (Nat.le_trans hn0 (Nat.le_add_right n 23)) (Or.inl te93) (Nat.sub_le_sub_right me93 n0) (Nat.mul_le_mul_left 240 (Nat.sub_le_sub_right me93 n0)) dX11_init_191 ?_
  refine GG_toph fun h94 hh94 => ?_
  replace hw := hw h94 hh94
  have fe93 : adr 56 0 < (n + 23) + 1 := Nat.lt_succ_of_le (Nat.le_of_eq ae93)
  obtain ⟨f95, hw⟩ := hw
  refine r_putRF E fd_X11_81 (t := 0) (j1 := 56) rfl rfl ⟨rfl, rfl⟩ f95 hin rfl (Nat.le_of_ble_eq_true rfl) (Nat.lt_of_lt_of_le hth (Nat.le_trans hn0 (Nat.le_add_right n 24))) rfl dX11_init_193 ?_
  refine GG_toph fun h96 hh96 => ?_
  replace hw := hw h96 hh96
  refine r_aload_n E 11 0 rfl dX11_init_196 ?_
  refine r_sipush E 240 rfl dX11_init_197 ?_
  obtain ⟨le97, te97, me97, hw⟩ := hw
  have ue97 : (n + 24) < NT := Nat.lt_of_succ_lt te97
  have ae97 := AL_adr le97 ue97
  refine r_newa_int E rfl rfl rfl (by decide) (by decide) (by decide) le97 (Nat.le_trans hn0 (Nat.le_add_right n 24)) (Or.inl te97) (Nat.sub_le_sub_right me97 n0) (Nat.mul_le_mul_left 240 (Nat.sub_le_sub_right me97 n0)) dX11_init_200 ?_
  refine GG_toph fun h98 hh98 => ?_
  replace hw := hw h98 hh98
  have fe97 : adr 57 0 < (n + 24) + 1 := Nat.lt_succ_of_le (Nat.le_of_eq ae97)
  obtain ⟨f99, hw⟩ := hw
  refine r_putRF E fd_X11_84 (t := 0) (j1 := 57) rfl rfl ⟨rfl, rfl⟩ f99 hin rfl (Nat.le_of_ble_eq_true rfl) (Nat.lt_of_lt_of_le hth (Nat.le_trans hn0 (Nat.le_add_right n 25))) rfl dX11_init_202 ?_
  refine GG_toph fun h100 hh100 => ?_
  replace hw := hw h100 hh100
  refine r_aload_n E 11 0 rfl dX11_init_205 ?_
  refine r_bipush E 6 rfl dX11_init_206 ?_
  obtain ⟨le101, te101, me101, hw⟩ := hw
  have ue101 : (n + 25) < NT := Nat.lt_of_succ_lt te101
  have ae101 := AL_adr le101 ue101
  refine r_newa_int E rfl rfl rfl (by decide) (by decide) (by decide) le101 (Nat.le_trans hn0 (Nat.le_add_right n 25)) (Or.inl te101) (Nat.sub_le_sub_right me101 n0) (Nat.mul_le_mul_left 240 (Nat.sub_le_sub_right me101 n0)) dX11_init_208 ?_
  refine GG_toph fun h102 hh102 => ?_
  replace hw := hw h102 hh102
  have fe101 : adr 58 0 < (n + 25) + 1 := Nat.lt_succ_of_le (Nat.le_of_eq ae101)
  obtain ⟨f103, hw⟩ := hw
  refine r_putRF E fd_X11_87 (t := 0) (j1 := 58) rfl rfl ⟨rfl, rfl⟩ f103 hin rfl (Nat.le_of_ble_eq_true rfl) (Nat.lt_of_lt_of_le hth (Nat.le_trans hn0 (Nat.le_add_right n 26))) rfl dX11_init_210 ?_
  refine GG_toph fun h104 hh104 => ?_
  replace hw := hw h104 hh104
  refine r_aload_n E 11 0 rfl dX11_init_213 ?_
  refine r_bipush E 6 rfl dX11_init_214 ?_
  obtain ⟨le105, te105, me105, hw⟩ := hw
  have ue105 : (n + 26) < NT := Nat.lt_of_succ_lt te105
  have ae105 := AL_adr le105 ue105
  refine r_newa_int E rfl rfl rfl (by decide) (by decide) (by decide) le105 (Nat.le_trans hn0 (Nat.le_add_right n 26)) (Or.inl te105) (Nat.sub_le_sub_right me105 n0) (Nat.mul_le_mul_left 240 (Nat.sub_le_sub_right me105 n0)) dX11_init_216 ?_
  refine GG_toph fun h106 hh106 => ?_
  replace hw := hw h106 hh106
  have fe105 : adr 59 0 < (n + 26) + 1 := Nat.lt_succ_of_le (Nat.le_of_eq ae105)
  obtain ⟨f107, hw⟩ := hw
  refine r_putRF E fd_X11_90 (t := 0) (j1 := 59) rfl rfl ⟨rfl, rfl⟩ f107 hin rfl (Nat.le_of_ble_eq_true rfl) (Nat.lt_of_lt_of_le hth (Nat.le_trans hn0 (Nat.le_add_right n 27))) rfl dX11_init_218 ?_
  refine GG_toph fun h108 hh108 => ?_
  replace hw := hw h108 hh108
  refine r_aload_n E 11 0 rfl dX11_init_221 ?_
  refine r_bipush E 6 rfl dX11_init_222 ?_
  obtain ⟨le109, te109, me109, hw⟩ := hw
  have ue109 : (n + 27) < NT := Nat.lt_of_succ_lt te109
  have ae109 := AL_adr le109 ue109
  refine r_newa_int E rfl rfl rfl (by decide) (by decide) (by decide) le109 (Nat.le_trans hn0 (Nat.le_add_right n 27)) (Or.inl te109) (Nat.sub_le_sub_right me109 n0) (Nat.mul_le_mul_left 240 (Nat.sub_le_sub_right me109 n0)) dX11_init_224 ?_
  refine GG_toph fun h110 hh110 => ?_
  replace hw := hw h110 hh110
  have fe109 : adr 60 0 < (n + 27) + 1 := Nat.lt_succ_of_le (Nat.le_of_eq ae109)
  obtain ⟨f111, hw⟩ := hw
  refine r_putRF E fd_X11_93 (t := 0) (j1 := 60) rfl rfl ⟨rfl, rfl⟩ f111 hin rfl (Nat.le_of_ble_eq_true rfl) (Nat.lt_of_lt_of_le hth (Nat.le_trans hn0 (Nat.le_add_right n 28))) rfl dX11_init_226 ?_
  refine GG_toph fun h112 hh112 => ?_
  replace hw := hw h112 hh112
  refine r_aload_n E 11 0 rfl dX11_init_229 ?_
  refine r_bipush E 8 rfl dX11_init_230 ?_
  obtain ⟨le113, te113, me113, hw⟩ := hw
  have ue113 : (n + 28) < NT := Nat.lt_of_succ_lt te113
  have ae113 := AL_adr le113 ue113
  refine r_newa_int E rfl rfl rfl (by decide) (by decide) (by decide) le113 (Nat.le_trans hn0 (Nat.le_add_right n 28)) (Or.inl te113) (Nat.sub_le_sub_right me113 n0) (Nat.mul_le_mul_left 240 (Nat.sub_le_sub_right me113 n0)) dX11_init_232 ?_
  refine GG_toph fun h114 hh114 => ?_
  replace hw := hw h114 hh114
  have fe113 : adr 61 0 < (n + 28) + 1 := Nat.lt_succ_of_le (Nat.le_of_eq ae113)
  obtain ⟨f115, hw⟩ := hw
  refine r_putRF E fd_X11_96 (t := 0) (j1 := 61) rfl rfl ⟨rfl, rfl⟩ f115 hin rfl (Nat.le_of_ble_eq_true rfl) (Nat.lt_of_lt_of_le hth (Nat.le_trans hn0 (Nat.le_add_right n 29))) rfl dX11_init_234 ?_
  refine GG_toph fun h116 hh116 => ?_
  replace hw := hw h116 hh116
  refine r_aload_n E 11 0 rfl dX11_init_237 ?_
  refine r_sipush E 200 rfl dX11_init_238 ?_
  obtain ⟨le117, te117, me117, hw⟩ := hw
  have ue117 : (n + 29) < NT := Nat.lt_of_succ_lt te117
  have ae117 := AL_adr le117 ue117
  refine r_newa_int E rfl rfl rfl (by decide) (by decide) (by decide) le117 (Nat.le_trans hn0 (Nat.le_add_right n 29)) (Or.inl te117) (Nat.sub_le_sub_right me117 n0) (Nat.mul_le_mul_left 240 (Nat.sub_le_sub_right me117 n0)) dX11_init_241 ?_
  refine GG_toph fun h118 hh118 => ?_
  replace hw := hw h118 hh118
  have fe117 : adr 62 0 < (n + 29) + 1 := Nat.lt_succ_of_le (Nat.le_of_eq ae117)
  obtain ⟨f119, hw⟩ := hw
  refine r_putRF E fd_X11_99 (t := 0) (j1 := 62) rfl rfl ⟨rfl, rfl⟩ f119 hin rfl (Nat.le_of_ble_eq_true rfl) (Nat.lt_of_lt_of_le hth (Nat.le_trans hn0 (Nat.le_add_right n 30))) rfl dX11_init_243 ?_
  refine GG_toph fun h120 hh120 => ?_
  replace hw := hw h120 hh120
  refine r_aload_n E 11 0 rfl dX11_init_246 ?_
  refine r_sipush E 200 rfl dX11_init_247 ?_
  obtain ⟨le121, te121, me121, hw⟩ := hw
  have ue121 : (n + 30) < NT := Nat.lt_of_succ_lt te121
  have ae121 := AL_adr le121 ue121
  refine r_newa_int E rfl rfl rfl (by decide) (by decide) (by decide) le121 (Nat.le_trans hn0 (Nat.le_add_right n 30)) (Or.inl te121) (Nat.sub_le_sub_right me121 n0) (Nat.mul_le_mul_left 240 (Nat.sub_le_sub_right me121 n0)) dX11_init_250 ?_
  refine GG_toph fun h122 hh122 => ?_
  replace hw := hw h122 hh122
  have fe121 : adr 63 0 < (n + 30) + 1 := Nat.lt_succ_of_le (Nat.le_of_eq ae121)
  obtain ⟨f123, hw⟩ := hw
  refine r_putRF E fd_X11_102 (t := 0) (j1 := 63) rfl rfl ⟨rfl, rfl⟩ f123 hin rfl (Nat.le_of_ble_eq_true rfl) (Nat.lt_of_lt_of_le hth (Nat.le_trans hn0 (Nat.le_add_right n 31))) rfl dX11_init_252 ?_
  refine GG_toph fun h124 hh124 => ?_
  replace hw := hw h124 hh124
  refine r_aload_n E 11 0 rfl dX11_init_255 ?_
  refine r_bipush E 45 rfl dX11_init_256 ?_
  obtain ⟨le125, te125, me125, hw⟩ := hw
  have ue125 : (n + 31) < NT := Nat.lt_of_succ_lt te125
  have ae125 := AL_adr le125 ue125
  refine r_newa_int E rfl rfl rfl (by decide) (by decide) (by decide) le125 (Nat.le_trans hn0 (Nat.le_add_right n 31)) (Or.inl te125) (Nat.sub_le_sub_right me125 n0) (Nat.mul_le_mul_left 240 (Nat.sub_le_sub_right me125 n0)) dX11_init_258 ?_
  refine GG_toph fun h126 hh126 => ?_
  replace hw := hw h126 hh126
  have fe125 : adr 64 0 < (n + 31) + 1 := Nat.lt_succ_of_le (Nat.le_of_eq ae125)
  obtain ⟨f127, hw⟩ := hw
  refine r_putRF E fd_X11_105 (t := 0) (j1 := 64) rfl rfl ⟨rfl, rfl⟩ f127 hin rfl (Nat.le_of_ble_eq_true rfl) (Nat.lt_of_lt_of_le hth (Nat.le_trans hn0 (Nat.le_add_right n 32))) rfl dX11_init_260 ?_
  refine GG_toph fun h128 hh128 => ?_
  replace hw := hw h128 hh128
  refine r_aload_n E 11 0 rfl dX11_init_263 ?_
  refine r_bipush E 45 rfl dX11_init_264 ?_
  obtain ⟨le129, te129, me129, hw⟩ := hw
  have ue129 : (n + 32) < NT := Nat.lt_of_succ_lt te129
  have ae129 := AL_adr le129 ue129
  refine r_newa_boolean E rfl rfl rfl (by decide) (by decide) (by decide) le129 (Nat.le_trans hn0 (Nat.le_add_right n 32)) (Or.inl te129) (Nat.sub_le_sub_right me129 n0) (Nat.mul_le_mul_left 240 (Nat.sub_le_sub_right me129 n0)) dX11_init_266 ?_
  refine GG_toph fun h130 hh130 => ?_
  replace hw := hw h130 hh130
  have fe129 : adr 65 0 < (n + 32) + 1 := Nat.lt_succ_of_le (Nat.le_of_eq ae129)
  obtain ⟨f131, hw⟩ := hw
  refine r_putRF E fd_X11_108 (t := 0) (j1 := 65) rfl rfl ⟨rfl, rfl⟩ f131 hin rfl (Nat.le_of_ble_eq_true rfl) (Nat.lt_of_lt_of_le hth (Nat.le_trans hn0 (Nat.le_add_right n 33))) rfl dX11_init_268 ?_
  refine GG_toph fun h132 hh132 => ?_
  replace hw := hw h132 hh132
  refine r_aload_n E 11 0 rfl dX11_init_271 ?_
  refine r_bipush E 45 rfl dX11_init_272 ?_
  obtain ⟨le133, te133, me133, hw⟩ := hw
  have ue133 : (n + 33) < NT := Nat.lt_of_succ_lt te133
  have ae133 := AL_adr le133 ue133
  refine r_newa_int E rfl rfl rfl (by decide) (by decide) (by decide) le133 (Nat.le_trans hn0 (Nat.le_add_right n 33)) (Or.inl te133) (Nat.sub_le_sub_right me133 n0) (Nat.mul_le_mul_left 240 (Nat.sub_le_sub_right me133 n0)) dX11_init_274 ?_
  refine GG_toph fun h134 hh134 => ?_
  replace hw := hw h134 hh134
  have fe133 : adr 66 0 < (n + 33) + 1 := Nat.lt_succ_of_le (Nat.le_of_eq ae133)
  obtain ⟨f135, hw⟩ := hw
  refine r_putRF E fd_X11_111 (t := 0) (j1 := 66) rfl rfl ⟨rfl, rfl⟩ f135 hin rfl (Nat.le_of_ble_eq_true rfl) (Nat.lt_of_lt_of_le hth (Nat.le_trans hn0 (Nat.le_add_right n 34))) rfl dX11_init_276 ?_
  refine GG_toph fun h136 hh136 => ?_
  replace hw := hw h136 hh136
  refine r_aload_n E 11 0 rfl dX11_init_279 ?_
  refine r_bipush E 45 rfl dX11_init_280 ?_
  obtain ⟨le137, te137, me137, hw⟩ := hw
  have ue137 : (n + 34) < NT := Nat.lt_of_succ_lt te137
  have ae137 := AL_adr le137 ue137
  refine r_newa_int E rfl rfl rfl (by decide) (by decide) (by decide) le137 (Nat.le_trans hn0 (Nat.le_add_right n 34)) (Or.inl te137) (Nat.sub_le_sub_right me137 n0) (Nat.mul_le_mul_left 240 (Nat.sub_le_sub_right me137 n0)) dX11_init_282 ?_
  refine GG_toph fun h138 hh138 => ?_
  replace hw := hw h138 hh138
  have fe137 : adr 67 0 < (n + 34) + 1 := Nat.lt_succ_of_le (Nat.le_of_eq ae137)
  obtain ⟨f139, hw⟩ := hw
  refine r_putRF E fd_X11_114 (t := 0) (j1 := 67) rfl rfl ⟨rfl, rfl⟩ f139 hin rfl (Nat.le_of_ble_eq_true rfl) (Nat.lt_of_lt_of_le hth (Nat.le_trans hn0 (Nat.le_add_right n 35))) rfl dX11_init_284 ?_
  refine GG_toph fun h140 hh140 => ?_
  replace hw := hw h140 hh140
  refine r_aload_n E 11 0 rfl dX11_init_287 ?_
  refine r_bipush E 60 rfl dX11_init_288 ?_
  obtain ⟨le141, te141, me141, hw⟩ := hw
  have ue141 : (n + 35) < NT := Nat.lt_of_succ_lt te141
  have ae141 := AL_adr le141 ue141
  refine r_newa_boolean E rfl rfl rfl (by decide) (by decide) (by decide) le141 (Nat.le_trans hn0 (Nat.le_add_right n 35)) (Or.inl te141) (Nat.sub_le_sub_right me141 n0) (Nat.mul_le_mul_left 240 (Nat.sub_le_sub_right me141 n0)) dX11_init_290 ?_
  refine GG_toph fun h142 hh142 => ?_
  replace hw := hw h142 hh142
  have fe141 : adr 68 0 < (n + 35) + 1 := Nat.lt_succ_of_le (Nat.le_of_eq ae141)
  obtain ⟨f143, hw⟩ := hw
  refine r_putRF E fd_X11_117 (t := 0) (j1 := 68) rfl rfl ⟨rfl, rfl⟩ f143 hin rfl (Nat.le_of_ble_eq_true rfl) (Nat.lt_of_lt_of_le hth (Nat.le_trans hn0 (Nat.le_add_right n 36))) rfl dX11_init_292 ?_
  refine GG_toph fun h144 hh144 => ?_
  replace hw := hw h144 hh144
  refine r_aload_n E 11 0 rfl dX11_init_295 ?_
  refine r_bipush E 60 rfl dX11_init_296 ?_
  obtain ⟨le145, te145, me145, hw⟩ := hw
  have ue145 : (n + 36) < NT := Nat.lt_of_succ_lt te145
  have ae145 := AL_adr le145 ue145
  refine r_newa_boolean E rfl rfl rfl (by decide) (by decide) (by decide) le145 (Nat.le_trans hn0 (Nat.le_add_right n 36)) (Or.inl te145) (Nat.sub_le_sub_right me145 n0) (Nat.mul_le_mul_left 240 (Nat.sub_le_sub_right me145 n0)) dX11_init_298 ?_
  refine GG_toph fun h146 hh146 => ?_
  replace hw := hw h146 hh146
  have fe145 : adr 69 0 < (n + 36) + 1 := Nat.lt_succ_of_le (Nat.le_of_eq ae145)
  obtain ⟨f147, hw⟩ := hw
  refine r_putRF E fd_X11_120 (t := 0) (j1 := 69) rfl rfl ⟨rfl, rfl⟩ f147 hin rfl (Nat.le_of_ble_eq_true rfl) (Nat.lt_of_lt_of_le hth (Nat.le_trans hn0 (Nat.le_add_right n 37))) rfl dX11_init_300 ?_
  refine GG_toph fun h148 hh148 => ?_
  replace hw := hw h148 hh148
  refine r_aload_n E 11 0 rfl dX11_init_303 ?_
  refine r_bipush E 60 rfl dX11_init_304 ?_
  obtain ⟨le149, te149, me149, hw⟩ := hw
  have ue149 : (n + 37) < NT := Nat.lt_of_succ_lt te149
  have ae149 := AL_adr le149 ue149
  refine r_newa_boolean E rfl rfl rfl (by decide) (by decide) (by decide) le149 (Nat.le_trans hn0 (Nat.le_add_right n 37)) (Or.inl te149) (Nat.sub_le_sub_right me149 n0) (Nat.mul_le_mul_left 240 (Nat.sub_le_sub_right me149 n0)) dX11_init_306 ?_
  refine GG_toph fun h150 hh150 => ?_
  replace hw := hw h150 hh150
  have fe149 : adr 70 0 < (n + 37) + 1 := Nat.lt_succ_of_le (Nat.le_of_eq ae149)
  obtain ⟨f151, hw⟩ := hw
  refine r_putRF E fd_X11_123 (t := 0) (j1 := 70) rfl rfl ⟨rfl, rfl⟩ f151 hin rfl (Nat.le_of_ble_eq_true rfl) (Nat.lt_of_lt_of_le hth (Nat.le_trans hn0 (Nat.le_add_right n 38))) rfl dX11_init_308 ?_
  refine GG_toph fun h152 hh152 => ?_
  replace hw := hw h152 hh152
  refine r_aload_n E 11 0 rfl dX11_init_311 ?_
  refine r_bipush E 61 rfl dX11_init_312 ?_
  obtain ⟨le153, te153, me153, hw⟩ := hw
  have ue153 : (n + 38) < NT := Nat.lt_of_succ_lt te153
  have ae153 := AL_adr le153 ue153
  refine r_newa_int E rfl rfl rfl (by decide) (by decide) (by decide) le153 (Nat.le_trans hn0 (Nat.le_add_right n 38)) (Or.inl te153) (Nat.sub_le_sub_right me153 n0) (Nat.mul_le_mul_left 240 (Nat.sub_le_sub_right me153 n0)) dX11_init_314 ?_
  refine GG_toph fun h154 hh154 => ?_
  replace hw := hw h154 hh154
  have fe153 : adr 71 0 < (n + 38) + 1 := Nat.lt_succ_of_le (Nat.le_of_eq ae153)
  obtain ⟨f155, hw⟩ := hw
  refine r_putRF E fd_X11_126 (t := 0) (j1 := 71) rfl rfl ⟨rfl, rfl⟩ f155 hin rfl (Nat.le_of_ble_eq_true rfl) (Nat.lt_of_lt_of_le hth (Nat.le_trans hn0 (Nat.le_add_right n 39))) rfl dX11_init_316 ?_
  refine GG_toph fun h156 hh156 => ?_
  replace hw := hw h156 hh156
  refine r_aload_n E 11 0 rfl dX11_init_319 ?_
  refine r_bipush E 60 rfl dX11_init_320 ?_
  obtain ⟨le157, te157, me157, hw⟩ := hw
  have ue157 : (n + 39) < NT := Nat.lt_of_succ_lt te157
  have ae157 := AL_adr le157 ue157
  refine r_newa_int E rfl rfl rfl (by decide) (by decide) (by decide) le157 (Nat.le_trans hn0 (Nat.le_add_right n 39)) (Or.inl te157) (Nat.sub_le_sub_right me157 n0) (Nat.mul_le_mul_left 240 (Nat.sub_le_sub_right me157 n0)) dX11_init_322 ?_
  refine GG_toph fun h158 hh158 => ?_
  replace hw := hw h158 hh158
  have fe157 : adr 72 0 < (n + 39) + 1 := Nat.lt_succ_of_le (Nat.le_of_eq ae157)
  obtain ⟨f159, hw⟩ := hw
  refine r_putRF E fd_X11_129 (t := 0) (j1 := 72) rfl rfl ⟨rfl, rfl⟩ f159 hin rfl (Nat.le_of_ble_eq_true rfl) (Nat.lt_of_lt_of_le hth (Nat.le_trans hn0 (Nat.le_add_right n 40))) rfl dX11_init_324 ?_
  refine GG_toph fun h160 hh160 => ?_
  replace hw := hw h160 hh160
  refine r_aload_n E 11 0 rfl dX11_init_327 ?_
  refine r_sipush E 200 rfl dX11_init_328 ?_
  obtain ⟨le161, te161, me161, hw⟩ := hw
  have ue161 : (n + 40) < NT := Nat.lt_of_succ_lt te161
  have ae161 := AL_adr le161 ue161
  refine r_newa_char E rfl rfl rfl (by decide) (by decide) (by decide) le161 (Nat.le_trans hn0 (Nat.le_add_right n 40)) (Or.inl te161) (Nat.sub_le_sub_right me161 n0) (Nat.mul_le_mul_left 240 (Nat.sub_le_sub_right me161 n0)) dX11_init_331 ?_
  refine GG_toph fun h162 hh162 => ?_
  replace hw := hw h162 hh162
  have fe161 : adr 73 0 < (n + 40) + 1 := Nat.lt_succ_of_le (Nat.le_of_eq ae161)
  obtain ⟨f163, hw⟩ := hw
  refine r_putRF E fd_X11_132 (t := 0) (j1 := 73) rfl rfl ⟨rfl, rfl⟩ f163 hin rfl (Nat.le_of_ble_eq_true rfl) (Nat.lt_of_lt_of_le hth (Nat.le_trans hn0 (Nat.le_add_right n 41))) rfl dX11_init_333 ?_
  refine GG_toph fun h164 hh164 => ?_
  replace hw := hw h164 hh164
  refine r_aload_n E 11 0 rfl dX11_init_336 ?_
  refine r_sipush E 200 rfl dX11_init_337 ?_
  obtain ⟨le165, te165, me165, hw⟩ := hw
  have ue165 : (n + 41) < NT := Nat.lt_of_succ_lt te165
  have ae165 := AL_adr le165 ue165
  refine r_newa_int E rfl rfl rfl (by decide) (by decide) (by decide) le165 (Nat.le_trans hn0 (Nat.le_add_right n 41)) (Or.inl te165) (Nat.sub_le_sub_right me165 n0) (Nat.mul_le_mul_left 240 (Nat.sub_le_sub_right me165 n0)) dX11_init_340 ?_
  refine GG_toph fun h166 hh166 => ?_
  replace hw := hw h166 hh166
  have fe165 : adr 74 0 < (n + 41) + 1 := Nat.lt_succ_of_le (Nat.le_of_eq ae165)
  obtain ⟨f167, hw⟩ := hw
  refine r_putRF E fd_X11_135 (t := 0) (j1 := 74) rfl rfl ⟨rfl, rfl⟩ f167 hin rfl (Nat.le_of_ble_eq_true rfl) (Nat.lt_of_lt_of_le hth (Nat.le_trans hn0 (Nat.le_add_right n 42))) rfl dX11_init_342 ?_
  refine GG_toph fun h168 hh168 => ?_
  replace hw := hw h168 hh168
  refine r_iconst E 0 rfl dX11_init_345 ?_
  refine r_istore_n E [some (rf X 11 0), some (.int 0)] rfl (Nat.le_of_ble_eq_true rfl) rfl dX11_init_346 ?_
  exact GG_weak [true, true] rfl (t_X11_init_b347 (n + 42) h168 0 n0 n1 (Nat.le_trans hn0 (Nat.le_add_right n 42)) hth hin E hE  hw)
set_option maxHeartbeats 40000000 in
set_option maxRecDepth 20000 in
theorem t_L_start {X : Ctx} (h : Hp) (bs n1 : Nat) (hn1 : n1 = 270) (hNT : NT = 270) (E : EE X cL_law RL 9 1024 50000 300000 3000000) {Q : Hp → Prop} (hE : ∀ u, Q u → GC X 0 270 u [some (.ref bs), some (rf X 10 0), some (rf X 11 0), some (rf X 75 0), some (rf X 76 0), some (.int 0), none, none, none] 28 []) (hw : wp_L_start n1 h Q) : GC X 0 0 h [some (.ref bs), none, none, none, none, none, none, none, none] 0 [] := by
  unfold wp_L_start at hw
  obtain ⟨le1, te1, me1, hw⟩ := hw
  have ue1 : 0 < NT := Nat.lt_of_succ_lt te1
  have ae1 := AL_adr le1 ue1
  refine r_new E cl_L_8 li_10 (by decide) (by decide) le1 (Nat.zero_le _) te1 (by decide) (by decide) dL_law_0 ?_
  refine GG_toph fun h2 hh2 => ?_
  replace hw := hw h2 hh2
  have fe1 : adr 10 0 < 0 + 1 := Nat.lt_succ_of_le (Nat.le_of_eq ae1)
  refine r_dup E rfl dL_law_3 ?_
  obtain ⟨c4, hw⟩ := hw
  refine r_callIV E (m_X10_init (EE_st E) (GX X) 1 225  (Nat.lt_of_lt_of_le fe1 (by decide)) h2 _ hw) lk_L_104 (RM_mk (Nat.le_of_ble_eq_true rfl) (Nat.le_of_ble_eq_true rfl)) rfl rfl rfl rfl (Nat.le_of_ble_eq_true rfl) (k1 := 225 - 0) (z1 := 240 * (225 - 0)) (qsub (Nat.zero_le _) (by decide)) (qsub240 (Nat.zero_le _) (by decide)) (by decide) (by decide) dL_law_4 (fun h3 hw => ?_)
  refine r_astore_n E [some (.ref bs), some (rf X 10 0), none, none, none, none, none, none, none] rfl (Nat.le_of_ble_eq_true rfl) rfl dL_law_7 ?_
  obtain ⟨le5, te5, me5, hw⟩ := hw
  have ue5 : 225 < NT := Nat.lt_of_succ_lt te5
  have ae5 := AL_adr le5 ue5
  refine r_new E cl_L_105 li_11 (by decide) (by decide) le5 (Nat.zero_le _) te5 (by decide) (by decide) dL_law_8 ?_
  refine GG_toph fun h6 hh6 => ?_
  replace hw := hw h6 hh6
  have fe5 : adr 11 0 < 225 + 1 := Nat.lt_succ_of_le (Nat.le_of_eq ae5)
  refine r_dup E rfl dL_law_11 ?_
  obtain ⟨c8, hw⟩ := hw
  refine r_callIV E (m_X11_init (EE_st E) (GX X) 226 268  (Nat.lt_of_lt_of_le fe5 (by decide)) h6 _ hw) lk_L_107 (RM_mk (Nat.le_of_ble_eq_true rfl) (Nat.le_of_ble_eq_true rfl)) rfl rfl rfl rfl (Nat.le_of_ble_eq_true rfl) (k1 := 268 - 0) (z1 := 240 * (268 - 0)) (qsub (Nat.zero_le _) (by decide)) (qsub240 (Nat.zero_le _) (by decide)) (by decide) (by decide) dL_law_12 (fun h7 hw => ?_)
  refine r_astore_n E [some (.ref bs), some (rf X 10 0), some (rf X 11 0), none, none, none, none, none, none] rfl (Nat.le_of_ble_eq_true rfl) rfl dL_law_15 ?_
  refine r_iconst E 1 rfl dL_law_16 ?_
  obtain ⟨le9, te9, me9, hw⟩ := hw
  have ue9 : 268 < NT := te9.elim (fun w => Nat.lt_of_succ_lt w) (fun w => Nat.lt_of_succ_le (Nat.le_of_eq w.1))
  have ae9 := AL_adr le9 ue9
  refine r_newa_long E rfl rfl rfl (by decide) (by decide) (by decide) le9 (Nat.zero_le _) te9 (by decide) (by decide) dL_law_17 ?_
  refine GG_toph fun h10 hh10 => ?_
  replace hw := hw h10 hh10
  have fe9 : adr 75 0 < 268 + 1 := Nat.lt_succ_of_le (Nat.le_of_eq ae9)
  refine r_astore_n E [some (.ref bs), some (rf X 10 0), some (rf X 11 0), some (rf X 75 0), none, none, none, none, none] rfl (Nat.le_of_ble_eq_true rfl) rfl dL_law_19 ?_
  refine r_iconst E 1 rfl dL_law_20 ?_
  obtain ⟨le11, te11, me11, hw⟩ := hw
  have ue11 : 269 < NT := te11.elim (fun w => Nat.lt_of_succ_lt w) (fun w => Nat.lt_of_succ_le (Nat.le_of_eq w.1))
  have ae11 := AL_adr le11 ue11
  refine r_newa_double E rfl rfl rfl (by decide) (by decide) (by decide) le11 (Nat.zero_le _) te11 (by decide) (by decide) dL_law_21 ?_
  refine GG_toph fun h12 hh12 => ?_
  replace hw := hw h12 hh12
  have fe11 : adr 76 0 < 269 + 1 := Nat.lt_succ_of_le (Nat.le_of_eq ae11)
  refine r_astore E [some (.ref bs), some (rf X 10 0), some (rf X 11 0), some (rf X 75 0), some (rf X 76 0), none, none, none, none] (Nat.le_of_ble_eq_true rfl) rfl dL_law_23 ?_
  refine r_iconst E 0 rfl dL_law_25 ?_
  refine r_istore E [some (.ref bs), some (rf X 10 0), some (rf X 11 0), some (rf X 75 0), some (rf X 76 0), some (.int 0), none, none, none] (Nat.le_of_ble_eq_true rfl) rfl dL_law_26 ?_
  exact hE _ hw
