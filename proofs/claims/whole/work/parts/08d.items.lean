/-! the items of a text -/
theorem it_inl {σ τ : Type} {b : σ → Option (σ ⊕ τ)} {n : Nat} {s s2 : σ} (h : b s = some (.inl s2)) : it b (n + 1) s = it b n s2 := by
  rw [it, h]
  rfl
theorem it_inr {σ τ : Type} {b : σ → Option (σ ⊕ τ)} {n : Nat} {s : σ} {t : τ} (h : b s = some (.inr t)) : it b (n + 1) s = some t := by
  rw [it, h]
  rfl
abbrev en (k : Nat) (tl : Nat → Nat) (q : Nat) : Nat := q + nf k tl q
abbrev vn (k : Nat) (tl : Nat → Nat) (q : Nat) : Nat := vl tl q (nf k tl q)
/-- a number, and this letter behind it -/
abbrev nc (k : Nat) (tl : Nat → Nat) (q c : Nat) : Prop := nf k tl q ≠ 0 ∧ isS k tl (en k tl q) c
theorem C_bn {k : Nat} {tl : Nat → Nat} {sg tx : Nat → Int32} (hk : k ≤ 200) (hs : ∀ j, j < k → sg j = nI (tl j) ∧ tx j = nI (tl j) ∧ 32 ≤ tl j ∧ tl j ≤ 126) {q j : Nat} (hq : q ≤ 300) (hj : j < 3) (nums : Nat → Int32) : Rd_behindNumber nums (nI k) sg (nI q) (nI j) = some (if nf k tl q = 0 then -4 else nI (en k tl q), upd nums j (nI (vn k tl q))) := by
  have h1 := (nf_is k tl q).1
  unfold Rd_behindNumber
  rw [C_num hk hs hq]
  simp only [Option.bind_some, gk_n hj (show 3 < 2 ^ 31 by decide), nI_clamp (show j < 2 ^ 31 by omega), nI_add]
  by_cases e : nf k tl q = 0
  · rw [if_pos (show nI (nf k tl q) = 0 by rw [e]; rfl), if_pos e]
  · rw [if_neg (nI_ne0 (by omega) (by omega)), if_neg e]
theorem C_bs {k : Nat} {tl : Nat → Nat} {sg tx : Nat → Int32} (hk : k ≤ 200) (hs : ∀ j, j < k → sg j = nI (tl j) ∧ tx j = nI (tl j) ∧ 32 ≤ tl j ∧ tl j ≤ 126) {q j N : Nat} (hq : q ≤ 300) (hj : j < N) (hN : N ≤ 3) (nums : Nat → Int32) : Rd_behindItem_L17 (nI k) sg (nI N) (nI q, nI j, nums) = if nc k tl q (if j + 1 = N then 59 else 44) then some (.inl (nI (en k tl q + 1), nI (j + 1), upd nums j (nI (vn k tl q)))) else some (.inr (.inr (-4, upd nums j (nI (vn k tl q))))) := by
  have h1 := (nf_is k tl q).1
  have h0 : en k tl q = q + nf k tl q := rfl
  have h2 : (if nI j = nI N - 1 then some (59 : Int32) else some 44) = some (nI (if j + 1 = N then 59 else 44)) := by
    rw [show nI N - 1 = nI (N - 1) from pk_sub (a := N) (b := 1) (by omega)]
    by_cases e : j + 1 = N
    · rw [if_pos ((nI_eq (by omega) (by omega)).mpr (by omega)), if_pos e]
      rfl
    · rw [if_neg (fun w => e (by have := (nI_eq (by omega) (by omega)).mp w; omega)), if_neg e]
      rfl
  have h3 : (if j + 1 = N then 59 else 44) < 2 ^ 30 := by split <;> decide
  simp only [Rd_behindItem_L17, if_neg (nI_ge hj (show N < 2 ^ 31 by omega)), C_bn hk hs hq (show j < 3 by omega), Option.bind_some]
  by_cases e : nf k tl q = 0
  · rw [if_pos e, if_pos rfl, if_neg (fun w => w.1 e)]
  · rw [if_neg e, if_neg (nI_n4 (by omega)), Le_a hk hs (by omega), Option.bind_some, h2, Option.bind_some]
    by_cases e2 : isS k tl (en k tl q) (if j + 1 = N then 59 else 44)
    · rw [if_pos ((sp_c hs h3).mpr e2), if_pos ⟨e, e2⟩, nI_1, nI_1]
    · rw [if_neg (fun w => e2 ((sp_c hs h3).mp w)), if_neg (fun w => e2 w.2)]
theorem C_be {k N x : Nat} {sg nums : Nat → Int32} (hN : N ≤ 3) : Rd_behindItem_L17 (nI k) sg (nI N) (nI x, nI N, nums) = some (.inr (.inl (nI x, nums))) := by
  simp only [Rd_behindItem_L17, if_pos (nI_le (Nat.le_refl N) (show N < 2 ^ 31 by omega))]
theorem B1_ok {k : Nat} {tl : Nat → Nat} {sg tx : Nat → Int32} (hk : k ≤ 200) (hs : ∀ j, j < k → sg j = nI (tl j) ∧ tx j = nI (tl j) ∧ 32 ≤ tl j ∧ tl j ≤ 126) {p : Nat} (hp : p < k) (hn : Rd_numbersNeeded (nI (tl p)) = some (nI 1)) (nums : Nat → Int32) (c1 : nc k tl (p + 1) 59) : Rd_behindItem nums (nI k) sg (nI p) = some (nI (en k tl (p + 1) + 1), (upd nums 0 (nI (vn k tl (p + 1))))) := by
  unfold Rd_behindItem
  rw [Le_a hk hs (by omega), Option.bind_some, if_pos hp, hn, Option.bind_some, nI_1]
  have g0 : Rd_behindItem_L17 (nI k) sg (nI 1) (nI (p + 1), nI 0, nums) = some (.inl (nI (en k tl (p + 1) + 1), nI 1, (upd nums 0 (nI (vn k tl (p + 1)))))) := by
    rw [C_bs hk hs (by omega) (by decide) (by decide)]
    exact if_pos c1
  have hl : it (Rd_behindItem_L17 (nI k) sg (nI 1)) 4096 (nI (p + 1), 0, nums) = some (.inl (nI (en k tl (p + 1) + 1), (upd nums 0 (nI (vn k tl (p + 1)))))) := (it_inl (n := 4095) g0).trans (it_inr (n := 4094) (C_be (by decide)))
  rw [hl, Option.bind_some]
  dsimp only
  rw [if_neg (show ¬ nI 1 = 0 by decide)]
theorem B1_no {k : Nat} {tl : Nat → Nat} {sg tx : Nat → Int32} (hk : k ≤ 200) (hs : ∀ j, j < k → sg j = nI (tl j) ∧ tx j = nI (tl j) ∧ 32 ≤ tl j ∧ tl j ≤ 126) {p : Nat} (hp : p < k) (hn : Rd_numbersNeeded (nI (tl p)) = some (nI 1)) (nums : Nat → Int32) (hc : ¬ (nc k tl (p + 1) 59)) : ∃ u, Rd_behindItem nums (nI k) sg (nI p) = some (-4, u) := by
  unfold Rd_behindItem
  rw [Le_a hk hs (by omega), Option.bind_some, if_pos hp, hn, Option.bind_some, nI_1]
  by_cases c1 : nc k tl (p + 1) 59
  · have g0 : Rd_behindItem_L17 (nI k) sg (nI 1) (nI (p + 1), nI 0, nums) = some (.inl (nI (en k tl (p + 1) + 1), nI 1, (upd nums 0 (nI (vn k tl (p + 1)))))) := by
      rw [C_bs hk hs (by omega) (by decide) (by decide)]
      exact if_pos c1
    exact absurd c1 hc
  · have g0 : Rd_behindItem_L17 (nI k) sg (nI 1) (nI (p + 1), nI 0, nums) = some (.inr (.inr (-4, (upd nums 0 (nI (vn k tl (p + 1))))))) := by
      rw [C_bs hk hs (by omega) (by decide) (by decide)]
      exact if_neg c1
    have hl : it (Rd_behindItem_L17 (nI k) sg (nI 1)) 4096 (nI (p + 1), 0, nums) = some (.inr (-4, (upd nums 0 (nI (vn k tl (p + 1)))))) := it_inr (n := 4095) g0
    rw [hl]
    exact ⟨_, rfl⟩
theorem B2_ok {k : Nat} {tl : Nat → Nat} {sg tx : Nat → Int32} (hk : k ≤ 200) (hs : ∀ j, j < k → sg j = nI (tl j) ∧ tx j = nI (tl j) ∧ 32 ≤ tl j ∧ tl j ≤ 126) {p : Nat} (hp : p < k) (hn : Rd_numbersNeeded (nI (tl p)) = some (nI 2)) (nums : Nat → Int32) (c1 : nc k tl (p + 1) 44) (c2 : nc k tl (en k tl (p + 1) + 1) 59) : Rd_behindItem nums (nI k) sg (nI p) = some (nI (en k tl (en k tl (p + 1) + 1) + 1), (upd (upd nums 0 (nI (vn k tl (p + 1)))) 1 (nI (vn k tl (en k tl (p + 1) + 1))))) := by
  unfold Rd_behindItem
  rw [Le_a hk hs (by omega), Option.bind_some, if_pos hp, hn, Option.bind_some, nI_1]
  have g0 : Rd_behindItem_L17 (nI k) sg (nI 2) (nI (p + 1), nI 0, nums) = some (.inl (nI (en k tl (p + 1) + 1), nI 1, (upd nums 0 (nI (vn k tl (p + 1)))))) := by
    rw [C_bs hk hs (by omega) (by decide) (by decide)]
    exact if_pos c1
  have g1 : Rd_behindItem_L17 (nI k) sg (nI 2) (nI (en k tl (p + 1) + 1), nI 1, (upd nums 0 (nI (vn k tl (p + 1))))) = some (.inl (nI (en k tl (en k tl (p + 1) + 1) + 1), nI 2, (upd (upd nums 0 (nI (vn k tl (p + 1)))) 1 (nI (vn k tl (en k tl (p + 1) + 1)))))) := by
    rw [C_bs hk hs (by have := c1.2.1; omega) (by decide) (by decide)]
    exact if_pos c2
  have hl : it (Rd_behindItem_L17 (nI k) sg (nI 2)) 4096 (nI (p + 1), 0, nums) = some (.inl (nI (en k tl (en k tl (p + 1) + 1) + 1), (upd (upd nums 0 (nI (vn k tl (p + 1)))) 1 (nI (vn k tl (en k tl (p + 1) + 1)))))) := (it_inl (n := 4095) g0).trans ((it_inl (n := 4094) g1).trans (it_inr (n := 4093) (C_be (by decide))))
  rw [hl, Option.bind_some]
  dsimp only
  rw [if_neg (show ¬ nI 2 = 0 by decide)]
theorem B2_no {k : Nat} {tl : Nat → Nat} {sg tx : Nat → Int32} (hk : k ≤ 200) (hs : ∀ j, j < k → sg j = nI (tl j) ∧ tx j = nI (tl j) ∧ 32 ≤ tl j ∧ tl j ≤ 126) {p : Nat} (hp : p < k) (hn : Rd_numbersNeeded (nI (tl p)) = some (nI 2)) (nums : Nat → Int32) (hc : ¬ (nc k tl (p + 1) 44 ∧ nc k tl (en k tl (p + 1) + 1) 59)) : ∃ u, Rd_behindItem nums (nI k) sg (nI p) = some (-4, u) := by
  unfold Rd_behindItem
  rw [Le_a hk hs (by omega), Option.bind_some, if_pos hp, hn, Option.bind_some, nI_1]
  by_cases c1 : nc k tl (p + 1) 44
  · have g0 : Rd_behindItem_L17 (nI k) sg (nI 2) (nI (p + 1), nI 0, nums) = some (.inl (nI (en k tl (p + 1) + 1), nI 1, (upd nums 0 (nI (vn k tl (p + 1)))))) := by
      rw [C_bs hk hs (by omega) (by decide) (by decide)]
      exact if_pos c1
    by_cases c2 : nc k tl (en k tl (p + 1) + 1) 59
    · have g1 : Rd_behindItem_L17 (nI k) sg (nI 2) (nI (en k tl (p + 1) + 1), nI 1, (upd nums 0 (nI (vn k tl (p + 1))))) = some (.inl (nI (en k tl (en k tl (p + 1) + 1) + 1), nI 2, (upd (upd nums 0 (nI (vn k tl (p + 1)))) 1 (nI (vn k tl (en k tl (p + 1) + 1)))))) := by
        rw [C_bs hk hs (by have := c1.2.1; omega) (by decide) (by decide)]
        exact if_pos c2
      exact absurd ⟨c1, c2⟩ hc
    · have g1 : Rd_behindItem_L17 (nI k) sg (nI 2) (nI (en k tl (p + 1) + 1), nI 1, (upd nums 0 (nI (vn k tl (p + 1))))) = some (.inr (.inr (-4, (upd (upd nums 0 (nI (vn k tl (p + 1)))) 1 (nI (vn k tl (en k tl (p + 1) + 1))))))) := by
        rw [C_bs hk hs (by have := c1.2.1; omega) (by decide) (by decide)]
        exact if_neg c2
      have hl : it (Rd_behindItem_L17 (nI k) sg (nI 2)) 4096 (nI (p + 1), 0, nums) = some (.inr (-4, (upd (upd nums 0 (nI (vn k tl (p + 1)))) 1 (nI (vn k tl (en k tl (p + 1) + 1)))))) := (it_inl (n := 4095) g0).trans (it_inr (n := 4094) g1)
      rw [hl]
      exact ⟨_, rfl⟩
  · have g0 : Rd_behindItem_L17 (nI k) sg (nI 2) (nI (p + 1), nI 0, nums) = some (.inr (.inr (-4, (upd nums 0 (nI (vn k tl (p + 1))))))) := by
      rw [C_bs hk hs (by omega) (by decide) (by decide)]
      exact if_neg c1
    have hl : it (Rd_behindItem_L17 (nI k) sg (nI 2)) 4096 (nI (p + 1), 0, nums) = some (.inr (-4, (upd nums 0 (nI (vn k tl (p + 1)))))) := it_inr (n := 4095) g0
    rw [hl]
    exact ⟨_, rfl⟩
theorem B3_ok {k : Nat} {tl : Nat → Nat} {sg tx : Nat → Int32} (hk : k ≤ 200) (hs : ∀ j, j < k → sg j = nI (tl j) ∧ tx j = nI (tl j) ∧ 32 ≤ tl j ∧ tl j ≤ 126) {p : Nat} (hp : p < k) (hn : Rd_numbersNeeded (nI (tl p)) = some (nI 3)) (nums : Nat → Int32) (c1 : nc k tl (p + 1) 44) (c2 : nc k tl (en k tl (p + 1) + 1) 44) (c3 : nc k tl (en k tl (en k tl (p + 1) + 1) + 1) 59) : Rd_behindItem nums (nI k) sg (nI p) = some (nI (en k tl (en k tl (en k tl (p + 1) + 1) + 1) + 1), (upd (upd (upd nums 0 (nI (vn k tl (p + 1)))) 1 (nI (vn k tl (en k tl (p + 1) + 1)))) 2 (nI (vn k tl (en k tl (en k tl (p + 1) + 1) + 1))))) := by
  unfold Rd_behindItem
  rw [Le_a hk hs (by omega), Option.bind_some, if_pos hp, hn, Option.bind_some, nI_1]
  have g0 : Rd_behindItem_L17 (nI k) sg (nI 3) (nI (p + 1), nI 0, nums) = some (.inl (nI (en k tl (p + 1) + 1), nI 1, (upd nums 0 (nI (vn k tl (p + 1)))))) := by
    rw [C_bs hk hs (by omega) (by decide) (by decide)]
    exact if_pos c1
  have g1 : Rd_behindItem_L17 (nI k) sg (nI 3) (nI (en k tl (p + 1) + 1), nI 1, (upd nums 0 (nI (vn k tl (p + 1))))) = some (.inl (nI (en k tl (en k tl (p + 1) + 1) + 1), nI 2, (upd (upd nums 0 (nI (vn k tl (p + 1)))) 1 (nI (vn k tl (en k tl (p + 1) + 1)))))) := by
    rw [C_bs hk hs (by have := c1.2.1; omega) (by decide) (by decide)]
    exact if_pos c2
  have g2 : Rd_behindItem_L17 (nI k) sg (nI 3) (nI (en k tl (en k tl (p + 1) + 1) + 1), nI 2, (upd (upd nums 0 (nI (vn k tl (p + 1)))) 1 (nI (vn k tl (en k tl (p + 1) + 1))))) = some (.inl (nI (en k tl (en k tl (en k tl (p + 1) + 1) + 1) + 1), nI 3, (upd (upd (upd nums 0 (nI (vn k tl (p + 1)))) 1 (nI (vn k tl (en k tl (p + 1) + 1)))) 2 (nI (vn k tl (en k tl (en k tl (p + 1) + 1) + 1)))))) := by
    rw [C_bs hk hs (by have := c2.2.1; omega) (by decide) (by decide)]
    exact if_pos c3
  have hl : it (Rd_behindItem_L17 (nI k) sg (nI 3)) 4096 (nI (p + 1), 0, nums) = some (.inl (nI (en k tl (en k tl (en k tl (p + 1) + 1) + 1) + 1), (upd (upd (upd nums 0 (nI (vn k tl (p + 1)))) 1 (nI (vn k tl (en k tl (p + 1) + 1)))) 2 (nI (vn k tl (en k tl (en k tl (p + 1) + 1) + 1)))))) := (it_inl (n := 4095) g0).trans ((it_inl (n := 4094) g1).trans ((it_inl (n := 4093) g2).trans (it_inr (n := 4092) (C_be (by decide)))))
  rw [hl, Option.bind_some]
  dsimp only
  rw [if_neg (show ¬ nI 3 = 0 by decide)]
theorem B3_no {k : Nat} {tl : Nat → Nat} {sg tx : Nat → Int32} (hk : k ≤ 200) (hs : ∀ j, j < k → sg j = nI (tl j) ∧ tx j = nI (tl j) ∧ 32 ≤ tl j ∧ tl j ≤ 126) {p : Nat} (hp : p < k) (hn : Rd_numbersNeeded (nI (tl p)) = some (nI 3)) (nums : Nat → Int32) (hc : ¬ (nc k tl (p + 1) 44 ∧ nc k tl (en k tl (p + 1) + 1) 44 ∧ nc k tl (en k tl (en k tl (p + 1) + 1) + 1) 59)) : ∃ u, Rd_behindItem nums (nI k) sg (nI p) = some (-4, u) := by
  unfold Rd_behindItem
  rw [Le_a hk hs (by omega), Option.bind_some, if_pos hp, hn, Option.bind_some, nI_1]
  by_cases c1 : nc k tl (p + 1) 44
  · have g0 : Rd_behindItem_L17 (nI k) sg (nI 3) (nI (p + 1), nI 0, nums) = some (.inl (nI (en k tl (p + 1) + 1), nI 1, (upd nums 0 (nI (vn k tl (p + 1)))))) := by
      rw [C_bs hk hs (by omega) (by decide) (by decide)]
      exact if_pos c1
    by_cases c2 : nc k tl (en k tl (p + 1) + 1) 44
    · have g1 : Rd_behindItem_L17 (nI k) sg (nI 3) (nI (en k tl (p + 1) + 1), nI 1, (upd nums 0 (nI (vn k tl (p + 1))))) = some (.inl (nI (en k tl (en k tl (p + 1) + 1) + 1), nI 2, (upd (upd nums 0 (nI (vn k tl (p + 1)))) 1 (nI (vn k tl (en k tl (p + 1) + 1)))))) := by
        rw [C_bs hk hs (by have := c1.2.1; omega) (by decide) (by decide)]
        exact if_pos c2
      by_cases c3 : nc k tl (en k tl (en k tl (p + 1) + 1) + 1) 59
      · have g2 : Rd_behindItem_L17 (nI k) sg (nI 3) (nI (en k tl (en k tl (p + 1) + 1) + 1), nI 2, (upd (upd nums 0 (nI (vn k tl (p + 1)))) 1 (nI (vn k tl (en k tl (p + 1) + 1))))) = some (.inl (nI (en k tl (en k tl (en k tl (p + 1) + 1) + 1) + 1), nI 3, (upd (upd (upd nums 0 (nI (vn k tl (p + 1)))) 1 (nI (vn k tl (en k tl (p + 1) + 1)))) 2 (nI (vn k tl (en k tl (en k tl (p + 1) + 1) + 1)))))) := by
          rw [C_bs hk hs (by have := c2.2.1; omega) (by decide) (by decide)]
          exact if_pos c3
        exact absurd ⟨c1, c2, c3⟩ hc
      · have g2 : Rd_behindItem_L17 (nI k) sg (nI 3) (nI (en k tl (en k tl (p + 1) + 1) + 1), nI 2, (upd (upd nums 0 (nI (vn k tl (p + 1)))) 1 (nI (vn k tl (en k tl (p + 1) + 1))))) = some (.inr (.inr (-4, (upd (upd (upd nums 0 (nI (vn k tl (p + 1)))) 1 (nI (vn k tl (en k tl (p + 1) + 1)))) 2 (nI (vn k tl (en k tl (en k tl (p + 1) + 1) + 1))))))) := by
          rw [C_bs hk hs (by have := c2.2.1; omega) (by decide) (by decide)]
          exact if_neg c3
        have hl : it (Rd_behindItem_L17 (nI k) sg (nI 3)) 4096 (nI (p + 1), 0, nums) = some (.inr (-4, (upd (upd (upd nums 0 (nI (vn k tl (p + 1)))) 1 (nI (vn k tl (en k tl (p + 1) + 1)))) 2 (nI (vn k tl (en k tl (en k tl (p + 1) + 1) + 1)))))) := (it_inl (n := 4095) g0).trans ((it_inl (n := 4094) g1).trans (it_inr (n := 4093) g2))
        rw [hl]
        exact ⟨_, rfl⟩
    · have g1 : Rd_behindItem_L17 (nI k) sg (nI 3) (nI (en k tl (p + 1) + 1), nI 1, (upd nums 0 (nI (vn k tl (p + 1))))) = some (.inr (.inr (-4, (upd (upd nums 0 (nI (vn k tl (p + 1)))) 1 (nI (vn k tl (en k tl (p + 1) + 1))))))) := by
        rw [C_bs hk hs (by have := c1.2.1; omega) (by decide) (by decide)]
        exact if_neg c2
      have hl : it (Rd_behindItem_L17 (nI k) sg (nI 3)) 4096 (nI (p + 1), 0, nums) = some (.inr (-4, (upd (upd nums 0 (nI (vn k tl (p + 1)))) 1 (nI (vn k tl (en k tl (p + 1) + 1)))))) := (it_inl (n := 4095) g0).trans (it_inr (n := 4094) g1)
      rw [hl]
      exact ⟨_, rfl⟩
  · have g0 : Rd_behindItem_L17 (nI k) sg (nI 3) (nI (p + 1), nI 0, nums) = some (.inr (.inr (-4, (upd nums 0 (nI (vn k tl (p + 1))))))) := by
      rw [C_bs hk hs (by omega) (by decide) (by decide)]
      exact if_neg c1
    have hl : it (Rd_behindItem_L17 (nI k) sg (nI 3)) 4096 (nI (p + 1), 0, nums) = some (.inr (-4, (upd nums 0 (nI (vn k tl (p + 1)))))) := it_inr (n := 4095) g0
    rw [hl]
    exact ⟨_, rfl⟩
theorem B0 {k : Nat} {tl : Nat → Nat} {sg tx : Nat → Int32} (hk : k ≤ 200) (hs : ∀ j, j < k → sg j = nI (tl j) ∧ tx j = nI (tl j) ∧ 32 ≤ tl j ∧ tl j ≤ 126) {p : Nat} (hp : p < k) (hn : Rd_numbersNeeded (nI (tl p)) = some (nI 0)) (nums : Nat → Int32) : ∃ u, Rd_behindItem nums (nI k) sg (nI p) = some (-4, u) := by
  unfold Rd_behindItem
  rw [Le_a hk hs (by omega), Option.bind_some, if_pos hp, hn, Option.bind_some, nI_1]
  have hl : it (Rd_behindItem_L17 (nI k) sg (nI 0)) 4096 (nI (p + 1), 0, nums) = some (.inl (nI (p + 1), nums)) := it_inr (n := 4095) (C_be (N := 0) (by decide))
  rw [hl]
  exact ⟨_, rfl⟩
theorem M_nm {k : Nat} {tl : Nat → Nat} {sg tx : Nat → Int32} (hk : k ≤ 200) (hs : ∀ j, j < k → sg j = nI (tl j) ∧ tx j = nI (tl j) ∧ 32 ≤ tl j ∧ tl j ≤ 126) {q lo hi : Nat} (hq : q ≤ 300) (hl : lo < 2 ^ 31) (hh : hi < 2 ^ 31) (v e : Int32) : Mo_number (nI k) v e tx (nI q) (nI lo) (nI hi) = some (if nf k tl q ≠ 0 ∧ lo ≤ vn k tl q ∧ vn k tl q ≤ hi then 1 else 0, nI (vn k tl q), nI (en k tl q)) := by
  have h1 := (nf_is k tl q).1
  have h2 := vl_le k tl q
  have h0 : en k tl q = q + nf k tl q := rfl
  have h9 : vn k tl q = vl tl q (nf k tl q) := rfl
  unfold Mo_number
  rw [M_num hk hs hq]
  simp only [Option.bind_some, isIn_n (show vn k tl q < 2 ^ 31 by omega) hl hh]
  by_cases e0 : nf k tl q = 0
  · rw [if_pos (nI_le (by omega) (by omega)), if_neg (fun w => w.1 e0)]
  · rw [if_neg (nI_ge (by omega) (by omega))]
    by_cases e1 : lo ≤ vn k tl q ∧ vn k tl q ≤ hi
    · rw [if_pos e1, if_neg (by decide), if_pos ⟨e0, e1⟩]
    · rw [if_neg e1, if_pos rfl, if_neg (fun w => e1 w.2)]
theorem M_mr {k : Nat} {tl : Nat → Nat} {sg tx : Nat → Int32} (hk : k ≤ 200) (hs : ∀ j, j < k → sg j = nI (tl j) ∧ tx j = nI (tl j) ∧ 32 ≤ tl j ∧ tl j ≤ 126) {e lo hi : Nat} (he : e < 300) (hl : lo < 2 ^ 31) (hh : hi < 2 ^ 31) (v : Int32) : Mo_more (nI k) v (nI e) tx (nI lo) (nI hi) = if isS k tl e 44 then some (if nf k tl (e + 1) ≠ 0 ∧ lo ≤ vn k tl (e + 1) ∧ vn k tl (e + 1) ≤ hi then 1 else 0, nI (vn k tl (e + 1)), nI (en k tl (e + 1))) else some (0, v, nI e) := by
  unfold Mo_more
  rw [Mo_la hk hs (by omega), Option.bind_some]
  by_cases e0 : isS k tl e 44
  · rw [if_pos (show (if e < k then nI (tl e) else 0) = 44 from (sp_m hs (c := 44) (by decide) (by decide)).mpr e0), if_pos e0, nI_1, M_nm hk hs (by omega) hl hh, Option.bind_some]
    dsimp only
    by_cases e1 : nf k tl (e + 1) ≠ 0 ∧ lo ≤ vn k tl (e + 1) ∧ vn k tl (e + 1) ≤ hi
    · rw [if_pos e1, if_neg (by decide)]
    · rw [if_neg e1, if_pos rfl]
  · rw [if_neg (show ¬ (if e < k then nI (tl e) else 0) = 44 from fun w => e0 ((sp_m hs (c := 44) (by decide) (by decide)).mp w)), if_neg e0]
theorem isPl_n {n a : Nat} (h1 : 1 ≤ n) (hn : n ≤ 16) (ha : a ≤ 9999) : Mo_isPlace (nI n) (nI a) = some (if a < n then 1 else 0) := by
  unfold Mo_isPlace
  rw [show nI n - 1 = nI (n - 1) from pk_sub (a := n) (b := 1) h1, show Mo_isIn (nI a) 0 (nI (n - 1)) = _ from isIn_n (lo := 0) (by omega) (by decide) (by omega), Option.bind_some]
  by_cases e : a < n
  · rw [if_pos (by omega), if_pos e]
    rfl
  · rw [if_neg (by omega), if_neg e]
    rfl
theorem are2_n {n a b : Nat} (h1 : 1 ≤ n) (hn : n ≤ 16) (ha : a ≤ 9999) (hb : b ≤ 9999) : Mo_areTwo (nI n) (nI a) (nI b) = some (if a < n ∧ b < n ∧ a ≠ b then 1 else 0) := by
  unfold Mo_areTwo
  rw [isPl_n h1 hn ha, isPl_n h1 hn hb, Option.bind_some]
  by_cases e1 : a < n
  · rw [if_pos e1, if_neg (by decide), Option.bind_some]
    by_cases e2 : b < n
    · rw [if_pos e2, if_neg (by decide)]
      by_cases e3 : a = b
      · rw [if_pos ((nI_eq (by omega) (by omega)).mpr e3), if_neg (fun w => w.2.2 e3)]
      · rw [if_neg (fun w => e3 ((nI_eq (by omega) (by omega)).mp w)), if_pos ⟨e1, e2, e3⟩]
    · rw [if_neg e2, if_pos rfl, if_neg (fun w => e2 w.2.1)]
  · rw [if_neg e1, if_pos rfl, if_neg (fun w => e1 w.1)]
theorem CF_form {k : Nat} {tl : Nat → Nat} {sg tx : Nat → Int32} (hk : k ≤ 200) (hs : ∀ j, j < k → sg j = nI (tl j) ∧ tx j = nI (tl j) ∧ 32 ≤ tl j ∧ tl j ≤ 126) {p i : Nat} (hp : p < k) (hi : i < 200) {rd_numbers : Nat → Int32} {dr_places : Int32} {dr_links : Int32} {dr_mostDrawn : Int32} {dr_ofTen : Int32} {dr_z : Int32} {dr_lengths : Nat → Int32} {dr_told : Nat → Int32} {dr_delays : Nat → Int32} {dr_fractions : Nat → Int32} (h : ∃ u, Rd_behindItem rd_numbers (nI k) sg (nI p) = some (-4, u)) : ∃ w, Rd_firstFault_L11 (nI k) sg (nI p, nI i, rd_numbers, dr_places, dr_links, dr_mostDrawn, dr_ofTen, dr_z, dr_lengths, dr_told, dr_delays, dr_fractions) = some (.inr (.inr (nI p, w))) := by
  obtain ⟨u, h⟩ := h
  simp only [Rd_firstFault_L11, if_neg (show ¬ (200 : Int32) ≤ nI i from nI_ge (b := 200) hi (by decide)), Le_size, Option.bind_some, if_neg (nI_ge hp (show k < 2 ^ 31 by omega)), h, if_pos (show (-4 : Int32) = -4 from rfl)]
  exact ⟨_, rfl⟩
theorem CF_take {k : Nat} {tl : Nat → Nat} {sg tx : Nat → Int32} (hk : k ≤ 200) (hs : ∀ j, j < k → sg j = nI (tl j) ∧ tx j = nI (tl j) ∧ 32 ≤ tl j ∧ tl j ≤ 126) {p i e : Nat} (hp : p < k) (hi : i < 200) (he : e ≤ 300) {rd_numbers : Nat → Int32} {dr_places : Int32} {dr_links : Int32} {dr_mostDrawn : Int32} {dr_ofTen : Int32} {dr_z : Int32} {dr_lengths : Nat → Int32} {dr_told : Nat → Int32} {dr_delays : Nat → Int32} {dr_fractions : Nat → Int32} {u : Nat → Int32} (h : Rd_behindItem rd_numbers (nI k) sg (nI p) = some (nI e, u)) (h2 : ∃ w, Rd_takesItem u dr_places dr_links dr_mostDrawn dr_ofTen dr_z dr_lengths dr_told dr_delays dr_fractions (nI (tl p)) = some (0, w)) : ∃ w, Rd_firstFault_L11 (nI k) sg (nI p, nI i, rd_numbers, dr_places, dr_links, dr_mostDrawn, dr_ofTen, dr_z, dr_lengths, dr_told, dr_delays, dr_fractions) = some (.inr (.inr (nI p, w))) := by
  obtain ⟨w, h2⟩ := h2
  simp only [Rd_firstFault_L11, if_neg (show ¬ (200 : Int32) ≤ nI i from nI_ge (b := 200) hi (by decide)), Le_size, Option.bind_some, if_neg (nI_ge hp (show k < 2 ^ 31 by omega)), h, if_neg (nI_n4 (show e < 2 ^ 31 by omega)), Le_a hk hs (show p < 2 ^ 30 by omega), if_pos hp, h2, if_pos (show (0 : Int32) = 0 from rfl)]
  exact ⟨_, rfl⟩
theorem C_OK {k : Nat} {tl : Nat → Nat} {sg tx : Nat → Int32} (hk : k ≤ 200) (hs : ∀ j, j < k → sg j = nI (tl j) ∧ tx j = nI (tl j) ∧ 32 ≤ tl j ∧ tl j ≤ 126) {p i e : Nat} (hp : p < k) (hi : i < 200) (he : e ≤ 300) {rd_numbers : Nat → Int32} {dr_places : Int32} {dr_links : Int32} {dr_mostDrawn : Int32} {dr_ofTen : Int32} {dr_z : Int32} {dr_lengths : Nat → Int32} {dr_told : Nat → Int32} {dr_delays : Nat → Int32} {dr_fractions : Nat → Int32} {u : Nat → Int32} (h : Rd_behindItem rd_numbers (nI k) sg (nI p) = some (nI e, u)) {w : Int32 × Int32 × Int32 × Int32 × Int32 × (Nat → Int32) × (Nat → Int32) × (Nat → Int32) × (Nat → Int32)} (h2 : Rd_takesItem u dr_places dr_links dr_mostDrawn dr_ofTen dr_z dr_lengths dr_told dr_delays dr_fractions (nI (tl p)) = some (1, w)) : Rd_firstFault_L11 (nI k) sg (nI p, nI i, rd_numbers, dr_places, dr_links, dr_mostDrawn, dr_ofTen, dr_z, dr_lengths, dr_told, dr_delays, dr_fractions) = some (.inl (nI e, nI (i + 1), u, w)) := by
  simp only [Rd_firstFault_L11, if_neg (show ¬ (200 : Int32) ≤ nI i from nI_ge (b := 200) hi (by decide)), Le_size, Option.bind_some, if_neg (nI_ge hp (show k < 2 ^ 31 by omega)), h, if_neg (nI_n4 (show e < 2 ^ 31 by omega)), Le_a hk hs (show p < 2 ^ 30 by omega), if_pos hp, h2, if_neg (show ¬ (1 : Int32) = 0 by decide), nI_1]
theorem M_bd {k : Nat} {tl : Nat → Nat} {sg tx : Nat → Int32} (hk : k ≤ 200) (hs : ∀ j, j < k → sg j = nI (tl j) ∧ tx j = nI (tl j) ∧ 32 ≤ tl j ∧ tl j ≤ 126) {p : Nat} (hp : p < k) {m_value : Int32} {m_ends : Int32} {m_readPlaces : Int32} {m_read : Nat → Int32} {m_readRule : Nat → Int32} : Mo_reads_L6 (nI k) tx (nI p, m_readPlaces, m_value, m_ends, m_read, m_readRule) = Option.bind (Mo_readsItem (nI k) m_readPlaces m_value m_ends tx m_read m_readRule (nI (tl p)) (nI (p + 1)) (if p = 0 then 1 else 0)) (fun (r_15, m_readPlaces_16, m_value_17, m_ends_18, m_read_19, m_readRule_20) => if r_15 = 0 then some (.inr (.inr (nI p, m_readPlaces_16, m_value_17, m_ends_18, m_read_19, m_readRule_20))) else Option.bind (Mo_letterAt (nI k) tx m_ends_18) (fun r_22 => if r_22 = 59 then some (.inl ((m_ends_18 + 1), m_readPlaces_16, m_value_17, m_ends_18, m_read_19, m_readRule_20)) else some (.inr (.inr (nI p, m_readPlaces_16, m_value_17, m_ends_18, m_read_19, m_readRule_20))))) := by
  have h1 : (if nI p = 0 then some (1 : Int32) else some 0) = some (if p = 0 then 1 else 0) := by
    by_cases e : p = 0
    · rw [if_pos (by rw [e]; rfl), if_pos e]
    · rw [if_neg (nI_ne0 (by omega) (by omega)), if_neg e]
  simp only [Mo_reads_L6, if_neg (nI_ge hp (show k < 2 ^ 31 by omega)), gk_n (show p < 200 by omega) (by decide), nI_clamp (show p < 2 ^ 31 by omega), (hs p hp).2.1, h1, Option.bind_some, nI_1]
theorem MF {k : Nat} {tl : Nat → Nat} {sg tx : Nat → Int32} (hk : k ≤ 200) (hs : ∀ j, j < k → sg j = nI (tl j) ∧ tx j = nI (tl j) ∧ 32 ≤ tl j ∧ tl j ≤ 126) {p : Nat} (hp : p < k) {m_value : Int32} {m_ends : Int32} {m_readPlaces : Int32} {m_read : Nat → Int32} {m_readRule : Nat → Int32} (h : ∃ w, Mo_readsItem (nI k) m_readPlaces m_value m_ends tx m_read m_readRule (nI (tl p)) (nI (p + 1)) (if p = 0 then 1 else 0) = some (0, w)) : ∃ w, Mo_reads_L6 (nI k) tx (nI p, m_readPlaces, m_value, m_ends, m_read, m_readRule) = some (.inr (.inr (nI p, w))) := by
  obtain ⟨w, h⟩ := h
  rw [M_bd hk hs hp, h]
  exact ⟨_, rfl⟩
theorem MF2 {k : Nat} {tl : Nat → Nat} {sg tx : Nat → Int32} (hk : k ≤ 200) (hs : ∀ j, j < k → sg j = nI (tl j) ∧ tx j = nI (tl j) ∧ 32 ≤ tl j ∧ tl j ≤ 126) {p e : Nat} (hp : p < k) (he : e ≤ 300) {m_value : Int32} {m_ends : Int32} {m_readPlaces : Int32} {m_read : Nat → Int32} {m_readRule : Nat → Int32} {rp v : Int32} {rd rr : Nat → Int32} (h : Mo_readsItem (nI k) m_readPlaces m_value m_ends tx m_read m_readRule (nI (tl p)) (nI (p + 1)) (if p = 0 then 1 else 0) = some (1, rp, v, nI e, rd, rr)) (hc : ¬ isS k tl e 59) : ∃ w, Mo_reads_L6 (nI k) tx (nI p, m_readPlaces, m_value, m_ends, m_read, m_readRule) = some (.inr (.inr (nI p, w))) := by
  rw [M_bd hk hs hp, h, Option.bind_some]
  dsimp only
  rw [if_neg (by decide), Mo_la hk hs (by omega), Option.bind_some, if_neg (show ¬ (if e < k then nI (tl e) else 0) = 59 from fun w => hc ((sp_m hs (c := 59) (by decide) (by decide)).mp w))]
  exact ⟨_, rfl⟩
theorem M_OK {k : Nat} {tl : Nat → Nat} {sg tx : Nat → Int32} (hk : k ≤ 200) (hs : ∀ j, j < k → sg j = nI (tl j) ∧ tx j = nI (tl j) ∧ 32 ≤ tl j ∧ tl j ≤ 126) {p e : Nat} (hp : p < k) (he : e ≤ 300) {m_value : Int32} {m_ends : Int32} {m_readPlaces : Int32} {m_read : Nat → Int32} {m_readRule : Nat → Int32} {rp v : Int32} {rd rr : Nat → Int32} (h : Mo_readsItem (nI k) m_readPlaces m_value m_ends tx m_read m_readRule (nI (tl p)) (nI (p + 1)) (if p = 0 then 1 else 0) = some (1, rp, v, nI e, rd, rr)) (hc : isS k tl e 59) : Mo_reads_L6 (nI k) tx (nI p, m_readPlaces, m_value, m_ends, m_read, m_readRule) = some (.inl (nI (e + 1), rp, v, nI e, rd, rr)) := by
  rw [M_bd hk hs hp, h, Option.bind_some]
  dsimp only
  rw [if_neg (by decide), Mo_la hk hs (by omega), Option.bind_some, if_pos (show (if e < k then nI (tl e) else 0) = 59 from (sp_m hs (c := 59) (by decide) (by decide)).mpr hc), nI_1]
