/-! plain facts: numbers, loops, shortest ways -/
theorem gd_t {α : Type} {b : Bool} {x : Option α} (h : b = true) : gd b x = x := if_pos h
theorem ck_n {j n : Nat} (h : j < n) (hn : n < 2 ^ 31) : ck (nI j) n = true := in_ck (vp_in_nI h hn)
theorem gk_n {α : Type} {j n : Nat} {x : Option α} (h : j < n) (hn : n < 2 ^ 31) : gd (ck (nI j) n) x = x := gd_t (ck_n h hn)
theorem ix_a (i j : Nat) : nI i * 16 + nI j = nI (16 * i + j) := by
  rw [show (16 : Int32) = nI 16 from rfl, pk_mul, nI_add, Nat.mul_comm]
theorem ix_b (i j : Nat) : 16 * nI i + nI j = nI (16 * i + j) := by
  rw [show (16 : Int32) = nI 16 from rfl, pk_mul, nI_add]
theorem ix_d (i : Nat) : 256 + nI i = nI (256 + i) := by
  rw [show (256 : Int32) = nI 256 from rfl, nI_add]
theorem ix_f (i : Nat) : 272 + nI i = nI (272 + i) := by
  rw [show (272 : Int32) = nI 272 from rfl, nI_add]
/-- a loop, by what holds at each turn -/
theorem it_inv {σ τ : Type} {b : σ → Option (σ ⊕ τ)} (I : Nat → σ → Prop) (J : τ → Prop) (n : Nat)
    (hs : ∀ i s, i < n → I i s → (∃ s2, b s = some (.inl s2) ∧ I (i + 1) s2) ∨ ∃ t, b s = some (.inr t) ∧ J t)
    (hx : ∀ s, I n s → ∃ t, b s = some (.inr t) ∧ J t) {F : Nat} {s : σ} (h0 : I 0 s) (hF : n < F) : ∃ t, it b F s = some t ∧ J t := by
  have key : ∀ (k i F : Nat) (s : σ), i + k = n → k < F → I i s → ∃ t, it b F s = some t ∧ J t := by
    intro k
    induction k with
    | zero =>
      intro i F s h1 h2 h3
      obtain ⟨t, h4, h5⟩ := hx s (by rw [← h1]; exact h3)
      cases F with
      | zero => omega
      | succ F => exact ⟨t, by rw [it, h4]; rfl, h5⟩
    | succ k ih =>
      intro i F s h1 h2 h3
      cases F with
      | zero => omega
      | succ F =>
        rcases hs i s (by omega) h3 with ⟨s2, h4, h5⟩ | ⟨t, h4, h5⟩
        · obtain ⟨t, h6, h7⟩ := ih (i + 1) F s2 (by omega) (by omega) h5
          exact ⟨t, by rw [it, h4]; exact h6, h7⟩
        · exact ⟨t, by rw [it, h4]; rfl, h5⟩
  exact key n 0 F s (by omega) hF h0
/-- a loop that goes through all turns: its state by the turn's number -/
theorem it_run {σ τ : Type} {b : σ → Option (σ ⊕ τ)} (S : Nat → σ) (n : Nat) (t : τ) (hs : ∀ i, i < n → b (S i) = some (.inl (S (i + 1)))) (hx : b (S n) = some (.inr t)) {F : Nat} (hF : n < F) : it b F (S 0) = some t := by
  obtain ⟨t2, h1, h2⟩ := it_inv (b := b) (fun i s => s = S i) (fun x => x = t) n (fun i s hi e => Or.inl ⟨S (i + 1), by rw [e]; exact hs i hi, rfl⟩) (fun s e => ⟨t, by rw [e]; exact hx, rfl⟩) (F := F) (s := S 0) rfl hF
  rw [h1, h2]
/-- one that ends at turn m -/
theorem it_stop {σ τ : Type} {b : σ → Option (σ ⊕ τ)} (S : Nat → σ) (m : Nat) (t : τ) (hs : ∀ i, i < m → b (S i) = some (.inl (S (i + 1)))) (hx : b (S m) = some (.inr t)) {F : Nat} (hF : m < F) : it b F (S 0) = some t := it_run S m t hs hx hF
/-! shortest ways: L has how long links are, 16 to a row -/
def d0 (L : Nat → Nat) (i j : Nat) : Nat := if i = j then 0 else if L (16 * i + j) = 0 then 1000000 else L (16 * i + j)
def fw (L : Nat → Nat) : Nat → Nat → Nat → Nat
  | 0, i, j => d0 L i j
  | k + 1, i, j => if fw L k i k + fw L k k j < fw L k i j then fw L k i k + fw L k k j else fw L k i j
theorem fw_ii (L : Nat → Nat) (k i : Nat) : fw L k i i = 0 := by
  induction k with
  | zero => simp [fw, d0]
  | succ k ih => simp [fw, ih]
theorem fw_mono (L : Nat → Nat) (k i j : Nat) : fw L (k + 1) i j ≤ fw L k i j := by
  simp only [fw]
  split <;> omega
theorem fw_via (L : Nat → Nat) (k i j : Nat) : fw L (k + 1) i j ≤ fw L k i k + fw L k k j := by
  simp only [fw]
  split <;> omega
theorem fw_cases (L : Nat → Nat) (k i j : Nat) : fw L (k + 1) i j = fw L k i j ∨ fw L (k + 1) i j = fw L k i k + fw L k k j := by
  simp only [fw]
  split
  · exact Or.inr rfl
  · exact Or.inl rfl
theorem fw_d0 (L : Nat → Nat) (k i j : Nat) : fw L k i j ≤ d0 L i j := by
  induction k with
  | zero => exact Nat.le_refl _
  | succ k ih => exact Nat.le_trans (fw_mono L k i j) ih
theorem d0_le {L : Nat → Nat} {i j : Nat} (h : L (16 * i + j) ≤ 9) : d0 L i j ≤ 1000000 := by
  unfold d0
  split
  · omega
  · split <;> omega
theorem fw_row (L : Nat → Nat) (k i : Nat) : fw L (k + 1) i k = fw L k i k := by
  have := fw_ii L k k
  simp only [fw]
  split <;> omega
theorem fw_col (L : Nat → Nat) (k j : Nat) : fw L (k + 1) k j = fw L k k j := by
  have := fw_ii L k k
  simp only [fw]
  split <;> omega
theorem fw_tri (L : Nat → Nat) : ∀ (k t : Nat), t < k → ∀ i j, fw L k i j ≤ fw L k i t + fw L k t j := by
  intro k
  induction k with
  | zero => intro t h; omega
  | succ k ih =>
    intro t h i j
    by_cases e : t = k
    · subst e
      rw [fw_row, fw_col]
      exact fw_via L t i j
    · have hk := ih t (by omega)
      have h1 := fw_via L k i j
      have h2 := fw_mono L k i j
      rcases fw_cases L k i t with a | a <;> rcases fw_cases L k t j with b | b <;> rw [a, b]
      · have := hk i j
        omega
      · have := hk i k
        omega
      · have := hk k j
        omega
      · omega
/-- the last link of a shortest way -/
theorem fw_last {L : Nat → Nat} {n : Nat} : ∀ (k : Nat), k ≤ n → ∀ i j, i < n → i ≠ j → fw L k i j < 1000000 → ∃ p, p < n ∧ L (16 * p + j) ≠ 0 ∧ fw L k i p + L (16 * p + j) ≤ fw L k i j := by
  intro k
  induction k with
  | zero =>
    intro _ i j hi hij h
    refine ⟨i, hi, ?_, ?_⟩
    · intro e
      simp [fw, d0, hij, e] at h
    · have e : L (16 * i + j) ≠ 0 := by
        intro e
        simp [fw, d0, hij, e] at h
      simp [fw, d0, hij, e]
  | succ k ih =>
    intro hk i j hi hij h
    have hm : ∀ p, fw L (k + 1) i p ≤ fw L k i p := fun p => fw_mono L k i p
    rcases fw_cases L k i j with a | a
    · rw [a] at h ⊢
      obtain ⟨p, h1, h2, h3⟩ := ih (by omega) i j hi hij h
      exact ⟨p, h1, h2, by have := hm p; omega⟩
    · rw [a] at h ⊢
      by_cases e : k = j
      · subst e
        rw [fw_ii] at h ⊢
        obtain ⟨p, h1, h2, h3⟩ := ih (by omega) i k hi hij (by omega)
        exact ⟨p, h1, h2, by have := hm p; omega⟩
      · obtain ⟨p, h1, h2, h3⟩ := ih (by omega) k j (by omega) e (by omega)
        exact ⟨p, h1, h2, by have := fw_via L k i p; omega⟩
