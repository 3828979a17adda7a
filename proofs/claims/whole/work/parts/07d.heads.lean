/-! whom a place joins -/
def tp (D : Nat → Nat) : Nat → Nat
  | 0 => 0
  | k + 1 => if tp D k < D k then D k else tp D k
theorem tp_ge (D : Nat → Nat) : ∀ k i, i < k → D i ≤ tp D k := by
  intro k
  induction k with
  | zero => intro i h; omega
  | succ k ih =>
    intro i h
    simp only [tp]
    by_cases e : i = k
    · subst e
      split <;> omega
    · have := ih i (by omega)
      split <;> omega
theorem tp_le {D : Nat → Nat} {B : Nat} : ∀ k, (∀ i, i < k → D i ≤ B) → tp D k ≤ B := by
  intro k
  induction k with
  | zero => intro _; exact Nat.zero_le _
  | succ k ih =>
    intro h
    simp only [tp]
    have h1 := h k (by omega)
    have h2 := ih (fun i hi => h i (by omega))
    split <;> omega
def hr (n : Nat) (D : Nat → Nat) (d : Nat → Nat → Nat) (i j : Nat) : Nat := tp D n - D i + d i j
abbrev bt (n : Nat) (D : Nat → Nat) (F : Nat → Int32) (d : Nat → Nat → Nat) (j i b : Nat) : Prop := hr n D d i j < hr n D d b j ∨ hr n D d i j = hr n D d b j ∧ ((F i).toInt < (F b).toInt ∨ (F i).toInt = (F b).toInt ∧ i < b)
def hdk (n : Nat) (D : Nat → Nat) (F : Nat → Int32) (d : Nat → Nat → Nat) (j : Nat) : Nat → Nat
  | 0 => j
  | k + 1 => if bt n D F d j k (hdk n D F d j k) then k else hdk n D F d j k
theorem hdk_lt {n : Nat} {D : Nat → Nat} {F : Nat → Int32} {d : Nat → Nat → Nat} {j : Nat} (hj : j < n) : ∀ k, k ≤ n → hdk n D F d j k < n := by
  intro k
  induction k with
  | zero => intro _; exact hj
  | succ k ih =>
    intro h
    simp only [hdk]
    have := ih (by omega)
    split <;> omega
theorem hdk_le {n : Nat} {D : Nat → Nat} {F : Nat → Int32} {d : Nat → Nat → Nat} {j : Nat} : ∀ k, hr n D d (hdk n D F d j k) j ≤ hr n D d j j := by
  intro k
  induction k with
  | zero => exact Nat.le_refl _
  | succ k ih =>
    simp only [hdk]
    split
    · rename_i h
      rcases h with h | h
      · omega
      · omega
    · exact ih
theorem hdk_min {n : Nat} {D : Nat → Nat} {F : Nat → Int32} {d : Nat → Nat → Nat} {j : Nat} : ∀ k i, (i < k ∨ i = j) → i ≠ hdk n D F d j k → bt n D F d j (hdk n D F d j k) i := by
  intro k
  induction k with
  | zero => intro i h hne; exact absurd (show i = hdk n D F d j 0 by simp only [hdk]; omega) hne
  | succ k ih =>
    intro i h hne
    by_cases e : bt n D F d j k (hdk n D F d j k)
    · have e1 : hdk n D F d j (k + 1) = k := by
        simp only [hdk]
        rw [if_pos e]
      rw [e1] at hne ⊢
      by_cases e2 : i = hdk n D F d j k
      · rw [e2]
        exact e
      · have h3 := ih i (by omega) e2
        unfold bt at e h3 ⊢
        omega
    · have e1 : hdk n D F d j (k + 1) = hdk n D F d j k := by
        simp only [hdk]
        rw [if_neg e]
      rw [e1] at hne ⊢
      by_cases e2 : i < k ∨ i = j
      · exact ih i e2 hne
      · have e3 : i = k := by omega
        subst e3
        unfold bt at e ⊢
        omega
/-- the head of j -/
def hh (n : Nat) (D : Nat → Nat) (F : Nat → Int32) (d : Nat → Nat → Nat) (j : Nat) : Nat := hdk n D F d j n
theorem hh_lt {n : Nat} {D : Nat → Nat} {F : Nat → Int32} {d : Nat → Nat → Nat} {j : Nat} (hj : j < n) : hh n D F d j < n := hdk_lt hj n (Nat.le_refl n)
theorem hh_min {n : Nat} {D : Nat → Nat} {F : Nat → Int32} {d : Nat → Nat → Nat} {j i : Nat} (hi : i < n) (hne : i ≠ hh n D F d j) : bt n D F d j (hh n D F d j) i := hdk_min n i (Or.inl hi) hne
theorem hh_is {n : Nat} {D : Nat → Nat} {F : Nat → Int32} {d : Nat → Nat → Nat} {j i : Nat} (hj : j < n) (hi : i < n) (h : ∀ b, b < n → b ≠ i → bt n D F d j i b) : hh n D F d j = i := by
  by_cases e : hh n D F d j = i
  · exact e
  · have h1 := h _ (hh_lt hj) e
    have h2 := hh_min (n := n) (D := D) (F := F) (d := d) (j := j) hi (fun q => e q.symm)
    unfold bt at h1 h2
    omega
/-- who is joined joins itself -/
theorem hh_hh {n : Nat} {D : Nat → Nat} {F : Nat → Int32} {d : Nat → Nat → Nat} (hz : ∀ i, d i i = 0) (ht : ∀ t, t < n → ∀ i j, d i j ≤ d i t + d t j) {j : Nat} (hj : j < n) : hh n D F d (hh n D F d j) = hh n D F d j := by
  have hi := hh_lt (n := n) (D := D) (F := F) (d := d) hj
  generalize hie : hh n D F d j = i at hi ⊢
  have hh' := hh_lt (n := n) (D := D) (F := F) (d := d) hi
  by_cases e : hh n D F d i = i
  · exact e
  · have h1 := hh_min (n := n) (D := D) (F := F) (d := d) (j := i) hi (fun q => e q.symm)
    have h2 := hh_min (n := n) (D := D) (F := F) (d := d) (j := j) hh' (fun q => e (q.trans hie))
    rw [hie] at h2
    generalize hh n D F d i = h at h1 h2 hh' e
    have h3 := ht i hi h j
    have h4 := hz i
    unfold bt hr at h1 h2
    omega
theorem hh_used {n : Nat} {D : Nat → Nat} {F : Nat → Int32} {d : Nat → Nat → Nat} (hz : ∀ i, d i i = 0) (ht : ∀ t, t < n → ∀ i j, d i j ≤ d i t + d t j) {i : Nat} (hi : i < n) : (∃ j, j < n ∧ hh n D F d j = i) ↔ hh n D F d i = i := by
  constructor
  · rintro ⟨j, hj, rfl⟩
    exact hh_hh hz ht hj
  · intro h
    exact ⟨i, hi, h⟩
