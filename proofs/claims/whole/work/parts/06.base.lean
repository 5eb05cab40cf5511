/-! the abstract heap: ints (booleans, chars), longs, references (number of the object + 1, 0 for null), doubles; by clause, object, field or index -/
abbrev Hp : Type := (Nat → Nat → Nat → Int32) × (Nat → Nat → Nat → Int64) × (Nat → Nat → Nat → Nat) × (Nat → Nat → Nat → UInt64)
def gI (h : Hp) (j o k : Nat) : Int32 := h.1 j o k
def gJ (h : Hp) (j o k : Nat) : Int64 := h.2.1 j o k
def gR (h : Hp) (j o k : Nat) : Nat := h.2.2.1 j o k
def gD (h : Hp) (j o k : Nat) : UInt64 := h.2.2.2 j o k
def up3 {α : Type} (f : Nat → Nat → Nat → α) (j o k : Nat) (v : α) : Nat → Nat → Nat → α := fun j' o' k' => if j' = j ∧ o' = o ∧ k' = k then v else f j' o' k'
def sI (h : Hp) (j o k : Nat) (v : Int32) : Hp := (up3 h.1 j o k v, h.2.1, h.2.2.1, h.2.2.2)
def sJ (h : Hp) (j o k : Nat) (v : Int64) : Hp := (h.1, up3 h.2.1 j o k v, h.2.2.1, h.2.2.2)
def sR (h : Hp) (j o k : Nat) (v : Nat) : Hp := (h.1, h.2.1, up3 h.2.2.1 j o k v, h.2.2.2)
def sD (h : Hp) (j o k : Nat) (v : UInt64) : Hp := (h.1, h.2.1, h.2.2.1, up3 h.2.2.2 j o k v)
/-- a fresh cell: all zero -/
def zer (h : Hp) (j o : Nat) : Hp := (fun j' o' k' => if j' = j ∧ o' = o then 0 else h.1 j' o' k', fun j' o' k' => if j' = j ∧ o' = o then 0 else h.2.1 j' o' k', fun j' o' k' => if j' = j ∧ o' = o then 0 else h.2.2.1 j' o' k', fun j' o' k' => if j' = j ∧ o' = o then 0 else h.2.2.2 j' o' k')
theorem up3_s {α : Type} {f : Nat → Nat → Nat → α} {j o k : Nat} {v : α} : up3 f j o k v j o k = v := by simp [up3]
theorem up3_ne {α : Type} {f : Nat → Nat → Nat → α} {j o k j' o' k' : Nat} {v : α} (h : ¬ (j' = j ∧ o' = o ∧ k' = k)) : up3 f j o k v j' o' k' = f j' o' k' := by simp [up3, h]
/-! cells -/
def ro (b j k r : Nat) : Option Nat := match r with
  | 0 => none
  | o + 1 => some (b + adr (rtab j k) o)
def fv (b : Nat) (h : Hp) (j o k : Nat) : Value := match ftab j k with
  | 0 => .int (gI h j o k)
  | 1 => .long (gJ h j o k)
  | _ => va_rf (ro b j k (gR h j o k))
def cellE (b : Nat) (cy : Nat → ClassId) (h : Hp) (j o : Nat) : va_E := match ktab j with
  | 0 => .inr (j, (List.range (ntab j)).map (fv b h j o))
  | 1 => .inl (cy (atab j), ntab j, .inl (gI h j o))
  | 2 => .inl (cy (atab j), ntab j, .inr (.inl (gJ h j o)))
  | 3 => .inl (cy (atab j), ntab j, .inr (.inr (.inr (.inr (fun k => ro b j 0 (gR h j o k))))))
  | _ => .inl (cy (atab j), ntab j, .inr (.inr (.inr (.inl (gD h j o)))))
def kCl : List vw_C := (List.range 12).map (fun j => (fCs j, fT j, ntab j))
def wl (b : Nat) (cy : Nat → ClassId) (n : Nat) (h : Hp) : va_W := (List.range n).map (fun k => (b + k, cellE b cy h (lay k).1 (lay k).2))
def tysL (cy : Nat → ClassId) : List (ClassId × FieldType) := (List.range 8).map (fun t => (cy t, atyL.getD t .int))
/-- the references that never change stand as the layout has them -/
def St (h : Hp) : Prop := ∀ j o k, o < nobj j → k < ntab j → srf j o k ≠ 0 → gR h j o k = srf j o k
theorem nobj_lt {j o : Nat} (h : o < nobj j) : j < 77 := by
  rcases Nat.lt_or_ge j 77 with q | q
  · exact q
  · have : nobj j = 0 := by
      unfold nobj
      rw [List.getD_eq_getElem?_getD, List.getElem?_eq_none (show nobjL.length ≤ j from q)]
      rfl
    omega
theorem lay_adr0 : ∀ j, j < 77 → ∀ o, o < nobj j → lay (adr j o) = (j, o) ∧ adr j o < NT := by decide +kernel
theorem lay_adr {j o : Nat} (h : o < nobj j) : lay (adr j o) = (j, o) := (lay_adr0 j (nobj_lt h) o h).1
theorem adr_lt {j o : Nat} (h : o < nobj j) : adr j o < NT := (lay_adr0 j (nobj_lt h) o h).2
theorem adr_lay : ∀ k, k < NT → adr (lay k).1 (lay k).2 = k ∧ (lay k).2 < nobj (lay k).1 := by decide +kernel
theorem wl_len {b : Nat} {cy : Nat → ClassId} {n : Nat} {h : Hp} : (wl b cy n h).length = n := by simp [wl]
theorem wl_at {b : Nat} {cy : Nat → ClassId} {n : Nat} {h : Hp} {k : Nat} (hk : k < n) : (wl b cy n h)[k]? = some (b + k, cellE b cy h (lay k).1 (lay k).2) := by simp [wl, hk]
theorem wl_get {b : Nat} {cy : Nat → ClassId} {n : Nat} {h : Hp} {j o : Nat} (ho : o < nobj j) (hn : adr j o < n) : (wl b cy n h)[adr j o]? = some (b + adr j o, cellE b cy h j o) := by
  rw [wl_at hn, lay_adr ho]
theorem wl_ext {b : Nat} {cy : Nat → ClassId} {n : Nat} {h h' : Hp} {j o : Nat} (hN : n ≤ NT) (ho : o < nobj j) (hn : adr j o < n)
    (hs : ∀ j' o', ¬ (j' = j ∧ o' = o) → cellE b cy h' j' o' = cellE b cy h j' o') : (wl b cy n h).set (adr j o) (b + adr j o, cellE b cy h' j o) = wl b cy n h' := by
  apply List.ext_getElem?
  intro k
  by_cases hk : k = adr j o
  · subst hk
    rw [List.getElem?_set_self (by rw [wl_len]; exact hn), wl_get ho hn]
  · rw [List.getElem?_set_ne (Ne.symm hk)]
    rcases Nat.lt_or_ge k n with q | q
    · rw [wl_at q, wl_at q, hs _ _ (fun e => hk (by rw [← (adr_lay k (by omega)).1, e.1, e.2]))]
    · rw [List.getElem?_eq_none (by rw [wl_len]; exact q), List.getElem?_eq_none (by rw [wl_len]; exact q)]
theorem wl_push {b : Nat} {cy : Nat → ClassId} {n : Nat} {h h' : Hp} (hN : n < NT) (hs : ∀ j' o', ¬ (j' = (lay n).1 ∧ o' = (lay n).2) → cellE b cy h' j' o' = cellE b cy h j' o') :
    wl b cy (n + 1) h' = wl b cy n h ++ [(b + n, cellE b cy h' (lay n).1 (lay n).2)] := by
  unfold wl
  rw [List.range_succ, List.map_append]
  congr 1
  apply List.map_congr_left
  intro k hk
  have hk' : k < n := List.mem_range.mp hk
  rw [hs _ _ (fun e => by
    have h1 := (adr_lay k (by omega)).1
    have h2 := (adr_lay n hN).1
    rw [e.1, e.2, h2] at h1
    omega)]
theorem wl_D {b : Nat} {cy : Nat → ClassId} {n : Nat} {h : Hp} : va_D (fun q => b ≤ q) (wl b cy n h) := by
  have key : ∀ (k : Nat) (q : Nat × va_E), (wl b cy n h)[k]? = some q → q.1 = b + k := by
    intro k q hk
    have hl : k < n := by
      have := (List.getElem?_eq_some_iff.mp hk).1
      rwa [wl_len] at this
    rw [wl_at hl] at hk
    cases hk
    rfl
  refine ⟨fun i j p q hi hj hpq => ?_, fun k q hk => ?_⟩
  · have h1 := key i p hi
    have h2 := key j q hj
    omega
  · have := key k q hk
    show b ≤ q.1
    omega
/-! what an update changes -/
theorem fv_at {b : Nat} {h h' : Hp} {j o k : Nat} (hI : gI h' j o k = gI h j o k) (hJ : gJ h' j o k = gJ h j o k) (hR : gR h' j o k = gR h j o k) : fv b h' j o k = fv b h j o k := by
  unfold fv
  rw [hI, hJ, hR]
theorem cellE_ext {b : Nat} {cy : Nat → ClassId} {h h' : Hp} {j o : Nat} (hI : ∀ k, gI h' j o k = gI h j o k) (hJ : ∀ k, gJ h' j o k = gJ h j o k) (hR : ∀ k, gR h' j o k = gR h j o k) (hD : ∀ k, gD h' j o k = gD h j o k) : cellE b cy h' j o = cellE b cy h j o := by
  have e1 : gI h' j o = gI h j o := funext hI
  have e2 : gJ h' j o = gJ h j o := funext hJ
  have e4 : gD h' j o = gD h j o := funext hD
  have e5 : fv b h' j o = fv b h j o := funext fun k => fv_at (hI k) (hJ k) (hR k)
  unfold cellE
  rw [e1, e2, e4, e5]
  simp only [hR]
theorem cell_sI {b : Nat} {cy : Nat → ClassId} {h : Hp} {j o k : Nat} {v : Int32} (j' o' : Nat) (hne : ¬ (j' = j ∧ o' = o)) : cellE b cy (sI h j o k v) j' o' = cellE b cy h j' o' :=
  cellE_ext (fun k' => up3_ne (fun e => hne ⟨e.1, e.2.1⟩)) (fun _ => rfl) (fun _ => rfl) (fun _ => rfl)
theorem cell_sJ {b : Nat} {cy : Nat → ClassId} {h : Hp} {j o k : Nat} {v : Int64} (j' o' : Nat) (hne : ¬ (j' = j ∧ o' = o)) : cellE b cy (sJ h j o k v) j' o' = cellE b cy h j' o' :=
  cellE_ext (fun _ => rfl) (fun k' => up3_ne (fun e => hne ⟨e.1, e.2.1⟩)) (fun _ => rfl) (fun _ => rfl)
theorem cell_sR {b : Nat} {cy : Nat → ClassId} {h : Hp} {j o k : Nat} {v : Nat} (j' o' : Nat) (hne : ¬ (j' = j ∧ o' = o)) : cellE b cy (sR h j o k v) j' o' = cellE b cy h j' o' :=
  cellE_ext (fun _ => rfl) (fun _ => rfl) (fun k' => up3_ne (fun e => hne ⟨e.1, e.2.1⟩)) (fun _ => rfl)
theorem cell_sD {b : Nat} {cy : Nat → ClassId} {h : Hp} {j o k : Nat} {v : UInt64} (j' o' : Nat) (hne : ¬ (j' = j ∧ o' = o)) : cellE b cy (sD h j o k v) j' o' = cellE b cy h j' o' :=
  cellE_ext (fun _ => rfl) (fun _ => rfl) (fun _ => rfl) (fun k' => up3_ne (fun e => hne ⟨e.1, e.2.1⟩))
theorem cell_zer {b : Nat} {cy : Nat → ClassId} {h : Hp} {j o : Nat} (j' o' : Nat) (hne : ¬ (j' = j ∧ o' = o)) : cellE b cy (zer h j o) j' o' = cellE b cy h j' o' :=
  cellE_ext (fun _ => if_neg hne) (fun _ => if_neg hne) (fun _ => if_neg hne) (fun _ => if_neg hne)
theorem range_set {α : Type} (f g : Nat → α) (n k : Nat) (hg : ∀ i, i ≠ k → g i = f i) : ((List.range n).map f).set k (g k) = (List.range n).map g := by
  apply List.ext_getElem?
  intro i
  by_cases hi : i = k
  · subst hi
    by_cases hn : i < n
    · rw [List.getElem?_set_self (by simpa using hn)]
      simp [hn]
    · rw [List.getElem?_eq_none (by simpa using hn), List.getElem?_eq_none (by simpa using hn)]
  · rw [List.getElem?_set_ne (Ne.symm hi)]
    simp only [List.getElem?_map]
    by_cases hn : i < n
    · simp [hn, hg i hi]
    · simp [hn]
theorem cell_o {b : Nat} {cy : Nat → ClassId} {h : Hp} {j o : Nat} (hk : ktab j = 0) : cellE b cy h j o = .inr (j, (List.range (ntab j)).map (fv b h j o)) := by simp only [cellE, hk]
theorem cell_i {b : Nat} {cy : Nat → ClassId} {h : Hp} {j o : Nat} (hk : ktab j = 1) : cellE b cy h j o = .inl (cy (atab j), ntab j, .inl (gI h j o)) := by simp only [cellE, hk]
theorem cell_l {b : Nat} {cy : Nat → ClassId} {h : Hp} {j o : Nat} (hk : ktab j = 2) : cellE b cy h j o = .inl (cy (atab j), ntab j, .inr (.inl (gJ h j o))) := by simp only [cellE, hk]
theorem cell_q {b : Nat} {cy : Nat → ClassId} {h : Hp} {j o : Nat} (hk : ktab j = 3) : cellE b cy h j o = .inl (cy (atab j), ntab j, .inr (.inr (.inr (.inr (fun k => ro b j 0 (gR h j o k)))))) := by simp only [cellE, hk]
theorem cell_d {b : Nat} {cy : Nat → ClassId} {h : Hp} {j o : Nat} (hk : ktab j = 4) : cellE b cy h j o = .inl (cy (atab j), ntab j, .inr (.inr (.inr (.inl (gD h j o))))) := by simp only [cellE, hk]
theorem kCl_at {j : Nat} (hj : j < 12) : kCl[j]? = some (fCs j, fT j, ntab j) := by simp [kCl, hj]
theorem tys_at {cy : Nat → ClassId} {t : Nat} (ht : t < 8) : (tysL cy)[t]? = some (cy t, atyL.getD t .int) := by simp [tysL, ht]
