/-! counting: heads and their numbers, sums -/
theorem cnt_mono {p : Nat → Bool} {i : Nat} : ∀ {j}, i ≤ j → cnt p i ≤ cnt p j := by
  intro j
  induction j with
  | zero => intro h; rw [show i = 0 by omega]; exact Nat.le_refl _
  | succ j ih =>
    intro h
    by_cases e : i = j + 1
    · rw [e]
      exact Nat.le_refl _
    · have := ih (by omega)
      simp only [cnt]
      omega
theorem cnt_strict {p : Nat → Bool} {i j : Nat} (h : i < j) (hp : p i = true) : cnt p i < cnt p j := by
  have h1 : cnt p (i + 1) ≤ cnt p j := cnt_mono (by omega)
  simp only [cnt, if_pos hp] at h1
  omega
theorem cnt_inj {p : Nat → Bool} {i j : Nat} (hi : p i = true) (hj : p j = true) (e : cnt p i = cnt p j) : i = j := by
  rcases Nat.lt_trichotomy i j with h | h | h
  · have := cnt_strict h hi
    omega
  · exact h
  · have := cnt_strict h hj
    omega
theorem cnt_hit {p : Nat → Bool} {c : Nat} : ∀ {n}, c < cnt p n → ∃ i, i < n ∧ p i = true ∧ cnt p i = c := by
  intro n
  induction n with
  | zero => intro h; exact absurd h (Nat.not_lt_zero _)
  | succ n ih =>
    intro h
    by_cases e : c < cnt p n
    · obtain ⟨i, h1, h2, h3⟩ := ih e
      exact ⟨i, by omega, h2, h3⟩
    · simp only [cnt] at h
      by_cases e2 : p n = true
      · rw [if_pos e2] at h
        exact ⟨n, by omega, e2, by omega⟩
      · rw [if_neg e2] at h
        omega
theorem cnt_comp {p q : Nat → Bool} : ∀ k, cnt q (cnt p k) = cnt (fun o => p o && q (cnt p o)) k := by
  intro k
  induction k with
  | zero => rfl
  | succ k ih =>
    by_cases e : p k = true
    · have e1 : cnt p (k + 1) = cnt p k + 1 := by
        simp only [cnt, if_pos e]
      rw [e1]
      simp only [cnt, ih, e, Bool.true_and]
    · have e1 : cnt p (k + 1) = cnt p k := by
        simp only [cnt, if_neg e, Nat.add_zero]
      rw [e1, ih]
      simp only [cnt]
      rw [if_neg (show ¬ (p k && q (cnt p k)) = true by simp [e]), Nat.add_zero]
theorem sm2_congr {g h : Nat → Nat} : ∀ k, (∀ i, i < k → g i = h i) → sm2 g k = sm2 h k := by
  intro k
  induction k with
  | zero => intro _; rfl
  | succ k ih =>
    intro e
    simp only [sm2]
    rw [ih (fun i hi => e i (by omega)), e k (by omega)]
theorem cnt_sm2 {p : Nat → Bool} : ∀ k, cnt p k = sm2 (fun j => if p j = true then 1 else 0) k := by
  intro k
  induction k with
  | zero => rfl
  | succ k ih =>
    simp only [cnt, sm2]
    rw [ih]
theorem sm2_add {g h : Nat → Nat} : ∀ k, sm2 (fun i => g i + h i) k = sm2 g k + sm2 h k := by
  intro k
  induction k with
  | zero => rfl
  | succ k ih =>
    simp only [sm2, ih]
    omega
theorem sm2_zero : ∀ k, sm2 (fun _ => 0) k = 0 := by
  intro k
  induction k with
  | zero => rfl
  | succ k ih => simp only [sm2, ih]
theorem sm2_swap {g : Nat → Nat → Nat} {n : Nat} : ∀ m, sm2 (fun o => sm2 (fun i => g o i) n) m = sm2 (fun i => sm2 (fun o => g o i) m) n := by
  intro m
  induction m with
  | zero => simp only [sm2, sm2_zero]
  | succ m ih =>
    simp only [sm2]
    rw [ih, ← sm2_add]
theorem sm2_single {k v : Nat} : ∀ n, sm2 (fun o => if o = k then v else 0) n = if k < n then v else 0 := by
  intro n
  induction n with
  | zero => rw [if_neg (Nat.not_lt_zero _)]; rfl
  | succ n ih =>
    simp only [sm2, ih]
    by_cases e : n = k
    · rw [if_pos e, if_neg (by omega), if_pos (by omega)]
      omega
    · rw [if_neg e]
      by_cases e2 : k < n
      · rw [if_pos e2, if_pos (by omega)]
        rfl
      · rw [if_neg e2, if_neg (by omega)]
/-- cut links of one and all others, by the others -/
theorem btw_sum {n : Nat} {L H : Nat → Nat} {a : Nat} (hH : ∀ j, j < n → H j < n) : sm2 (fun o => if o = a then 0 else btw n L H a o) n = sm2 (fun i => cnt (fun j => decide (H i = a ∧ H j ≠ a ∧ L (16 * i + j) ≠ 0)) n) n := by
  have h1 : ∀ o, o < n → (if o = a then 0 else btw n L H a o) = sm2 (fun i => sm2 (fun j => if o ≠ a ∧ H i = a ∧ H j = o ∧ L (16 * i + j) ≠ 0 then 1 else 0) n) n := by
    intro o _
    by_cases e : o = a
    · rw [if_pos e]
      have h2 : ∀ i, sm2 (fun j => if o ≠ a ∧ H i = a ∧ H j = o ∧ L (16 * i + j) ≠ 0 then 1 else 0) n = 0 := by
        intro i
        rw [sm2_congr (h := fun _ => 0) n (fun j _ => if_neg (fun q => q.1 e)), sm2_zero]
      rw [sm2_congr (h := fun _ => 0) n (fun i _ => h2 i), sm2_zero]
    · rw [if_neg e]
      unfold btw
      refine sm2_congr n (fun i _ => ?_)
      rw [cnt_sm2]
      refine sm2_congr n (fun j _ => ?_)
      simp only [decide_eq_true_eq]
      by_cases e2 : H i = a ∧ H j = o ∧ L (16 * i + j) ≠ 0
      · rw [if_pos e2, if_pos ⟨e, e2⟩]
      · rw [if_neg e2, if_neg (fun q => e2 q.2)]
  rw [sm2_congr n h1, sm2_swap]
  refine sm2_congr n (fun i _ => ?_)
  rw [sm2_swap, cnt_sm2]
  refine sm2_congr n (fun j hj => ?_)
  simp only [decide_eq_true_eq]
  have h3 : ∀ o, o < n → (if o ≠ a ∧ H i = a ∧ H j = o ∧ L (16 * i + j) ≠ 0 then 1 else 0) = if o = H j then (if H i = a ∧ H j ≠ a ∧ L (16 * i + j) ≠ 0 then 1 else 0) else 0 := by
    intro o _
    by_cases e : o = H j
    · rw [if_pos e]
      by_cases e2 : H i = a ∧ H j ≠ a ∧ L (16 * i + j) ≠ 0
      · rw [if_pos e2, if_pos ⟨by rw [e]; exact e2.2.1, e2.1, e.symm, e2.2.2⟩]
      · rw [if_neg e2, if_neg (fun q => e2 ⟨q.2.1, by rw [← e]; exact q.1, q.2.2.2⟩)]
    · rw [if_neg e, if_neg (fun q => e q.2.2.1.symm)]
  rw [sm2_congr n h3, sm2_single, if_pos (hH j hj)]
theorem sm2_pos {g : Nat → Nat} : ∀ {k}, 0 < sm2 g k → ∃ i, i < k ∧ 0 < g i := by
  intro k
  induction k with
  | zero => intro h; exact absurd h (Nat.not_lt_zero _)
  | succ k ih =>
    intro h
    simp only [sm2] at h
    by_cases e : 0 < sm2 g k
    · obtain ⟨i, h1, h2⟩ := ih e
      exact ⟨i, by omega, h2⟩
    · exact ⟨k, by omega, by omega⟩
theorem cnt_pos {p : Nat → Bool} {k : Nat} (h : 0 < cnt p k) : ∃ i, i < k ∧ p i = true := by
  rw [cnt_sm2] at h
  obtain ⟨i, h1, h2⟩ := sm2_pos h
  refine ⟨i, h1, ?_⟩
  by_cases e : p i = true
  · exact e
  · rw [if_neg e] at h2
    omega
theorem btw_pos {n : Nat} {L H : Nat → Nat} {a b : Nat} (h : 0 < btw n L H a b) : ∃ j, j < n ∧ H j = b := by
  unfold btw at h
  obtain ⟨i, -, h2⟩ := sm2_pos h
  obtain ⟨j, h3, h4⟩ := cnt_pos h2
  simp only [decide_eq_true_eq] at h4
  exact ⟨j, h3, h4.2.1⟩
/-! heads by number: the reference -/
theorem hd_num {n c : Nat} {D : Nat → Nat} {F : Nat → Int32} {d : Nat → Nat → Nat} (hc : c < cnt (ish n D F d) n) : ∃ x, fnd (fun i => decide (hh n D F d i = i ∧ cnt (ish n D F d) i = c)) n 0 = some x ∧ x < n ∧ hh n D F d x = x ∧ cnt (ish n D F d) x = c ∧ ∀ y, y < x → ¬ (hh n D F d y = y ∧ cnt (ish n D F d) y = c) := by
  obtain ⟨i, h1, h2, h3⟩ := cnt_hit hc
  simp only [ish, decide_eq_true_eq] at h2
  cases hf : fnd (fun i => decide (hh n D F d i = i ∧ cnt (ish n D F d) i = c)) n 0 with
  | none =>
    have h4 := fnd_none hf i (Nat.zero_le _) (by omega)
    simp only [decide_eq_false_iff_not] at h4
    exact absurd ⟨h2, h3⟩ h4
  | some x =>
    obtain ⟨-, h5, h6, h7⟩ := fnd_some hf
    simp only [decide_eq_true_eq] at h6
    refine ⟨x, rfl, by omega, h6.1, h6.2, fun y hy => ?_⟩
    have := h7 y (Nat.zero_le _) hy
    simp only [decide_eq_false_iff_not] at this
    exact this
theorem M_hn {n c x : Nat} {D : Nat → Nat} {F : Nat → Int32} {L : Nat → Nat} {now sm dl fr hds hos nms : Nat → Int32} {cl : Int32} (h : MX n D F L now cl sm dl fr hds hos nms) (hx : x < n) (h1 : hh n D F (fw L n) x = x) (h2 : cnt (ish n D F (fw L n)) x = c) (h3 : ∀ y, y < x → ¬ (hh n D F (fw L n) y = y ∧ cnt (ish n D F (fw L n)) y = c)) : Mo_headOf nms (nI c) = some (nI x) := by
  have hn := h.1
  have hnm := h.2.2.2.2.2.2.2.2.2.2
  have hc : c < 2 ^ 31 := by
    have := cnt_le (ish n D F (fw L n)) x
    omega
  have h4 : it (Mo_headOf_L2 nms (nI c)) 4096 (nI 0) = some (nI x) := by
    refine it_run (F := 4096) (fun i => nI i) x _ ?_ ?_ (by omega)
    · intro i hi
      have h5 := cnt_le (ish n D F (fw L n)) i
      simp only [Mo_headOf_L2, C_at hn (show i < n by omega), nI_clamp (show i < 2 ^ 31 by omega), hnm i (by omega), nI_1]
      rw [if_neg]
      by_cases e : hh n D F (fw L n) i = i
      · rw [if_pos e, nI_eq (by omega) hc]
        exact fun q => h3 i hi ⟨e, q⟩
      · rw [if_neg e]
        exact fun q => nI_n4 hc q.symm
    · simp only [Mo_headOf_L2, C_at hn hx, nI_clamp (show x < 2 ^ 31 by omega), hnm x hx]
      rw [if_pos (by rw [if_pos h1, h2])]
  unfold Mo_headOf
  rw [show it (Mo_headOf_L2 nms (nI c)) 4096 0 = _ from h4]
  rfl
/-! links of two clusters, or of one and all others -/
theorem M_btw {n : Nat} {now hds nms : Nat → Int32} {L : Nat → Nat} {a1 a2 : Int32} (hn : n ≤ 16) (hL : okL now L) (q : Nat → Nat → Bool)
    (hst : ∀ i j a m, i < n → j < n → okO m → Mo_between_L22 (nI n) now hds nms a1 a2 (nI i) (nI a, encO m, nI j) = some (.inl (if q i j = true then (nI (a + 1), encO (mnS m (L (16 * i + j))), nI (j + 1)) else (nI a, encO m, nI (j + 1))))) (a3 : Int32) :
    Mo_between (nI n) now hds nms a1 a2 a3 = some (if a3 = 0 then nI (sm2 (fun i => cnt (q i) n) n) else encO (mn2 n q (fun i j => L (16 * i + j)) n)) := by
  have hg : ∀ i j, i < n → j < n → L (16 * i + j) ≤ 9 := fun i j hi hj => (hL _ (by omega)).2
  have h1 : it (Mo_between_L10 (nI n) now hds nms a1 a2) 4096 (nI (sm2 (fun i => cnt (q i) n) 0), encO (mn2 n q (fun i j => L (16 * i + j)) 0), nI 0) = some (nI (sm2 (fun i => cnt (q i) n) n), encO (mn2 n q (fun i j => L (16 * i + j)) n)) := by
    refine it_run (F := 4096) (fun i => (nI (sm2 (fun i => cnt (q i) n) i), encO (mn2 n q (fun i j => L (16 * i + j)) i), nI i)) n _ ?_ ?_ (by omega)
    · intro i hi
      have hok := okO_2 (p := q) (g := fun i j => L (16 * i + j)) (n := n) i (fun x j hx hj => hg x j (by omega) hj)
      generalize hx : mn2 n q (fun i j => L (16 * i + j)) i = x at hok
      generalize ha : sm2 (fun i => cnt (q i) n) i = a
      have h2 : it (Mo_between_L22 (nI n) now hds nms a1 a2 (nI i)) 4096 (nI (a + cnt (q i) 0), encO (mnR (q i) (fun j => L (16 * i + j)) 0 x), nI 0) = some (nI (a + cnt (q i) n), encO (mnR (q i) (fun j => L (16 * i + j)) n x)) := by
        refine it_run (F := 4096) (fun j => (nI (a + cnt (q i) j), encO (mnR (q i) (fun j => L (16 * i + j)) j x), nI j)) n _ ?_ ?_ (by omega)
        · intro j hj
          have hok2 := okO_R (p := q i) (g := fun j => L (16 * i + j)) j x hok (fun k hk => hg i k hi (by omega))
          rw [hst i j _ _ hi hj hok2]
          simp only [cnt, mnR]
          by_cases e : q i j = true
          · rw [if_pos e, if_pos e, if_pos e, Nat.add_assoc]
          · rw [if_neg e, if_neg e, if_neg e]
            rfl
        · simp only [Mo_between_L22, if_pos (nI_le (Nat.le_refl n) (show n < 2 ^ 31 by omega))]
      simp only [Mo_between_L10, if_neg (nI_ge hi (show n < 2 ^ 31 by omega)), nI_1, mn2, sm2, hx, ha]
      rw [show it (Mo_between_L22 (nI n) now hds nms a1 a2 (nI i)) 4096 (nI a, encO x, 0) = _ from h2]
      rfl
    · simp only [Mo_between_L10, if_pos (nI_le (Nat.le_refl n) (show n < 2 ^ 31 by omega))]
  unfold Mo_between
  rw [show it (Mo_between_L10 (nI n) now hds nms a1 a2) 4096 (0, -4, 0) = _ from h1, Option.bind_some]
  dsimp only
  by_cases e : a3 = 0
  · rw [if_pos e, if_pos e]
  · rw [if_neg e, if_neg e]
/-- the number of a place's cluster is c just where its head is x -/
theorem num_is {n c x j : Nat} {D : Nat → Nat} {F : Nat → Int32} {L : Nat → Nat} (h1 : hh n D F (fw L n) x = x) (h2 : cnt (ish n D F (fw L n)) x = c) (hj : j < n) : cnt (ish n D F (fw L n)) (hh n D F (fw L n) j) = c ↔ hh n D F (fw L n) j = x := by
  constructor
  · intro e
    refine cnt_inj (p := ish n D F (fw L n)) (decide_eq_true (hh_hh (fw_ii L n) (fun t ht i j => fw_tri L n t ht i j) hj)) (decide_eq_true h1) ?_
    rw [e, h2]
  · intro e
    rw [e, h2]
theorem M_nms {n j : Nat} {D : Nat → Nat} {F : Nat → Int32} {L : Nat → Nat} {now sm dl fr hds hos nms : Nat → Int32} {cl : Int32} (h : MX n D F L now cl sm dl fr hds hos nms) (hj : j < n) : nms (hh n D F (fw L n) j) = nI (cnt (ish n D F (fw L n)) (hh n D F (fw L n) j)) := by
  rw [h.2.2.2.2.2.2.2.2.2.2 _ (C_hlt hj), if_pos (hh_hh (fw_ii L n) (fun t ht i j => fw_tri L n t ht i j) hj)]
theorem M_btw2 {n c x e y : Nat} {D : Nat → Nat} {F : Nat → Int32} {L : Nat → Nat} {now sm dl fr hds hos nms : Nat → Int32} {cl : Int32} (h : MX n D F L now cl sm dl fr hds hos nms) (hx : x < n) (h1 : hh n D F (fw L n) x = x) (h2 : cnt (ish n D F (fw L n)) x = c) (hy : y < n) (h3 : hh n D F (fw L n) y = y) (h4 : cnt (ish n D F (fw L n)) y = e) (hne : x ≠ y) (a3 : Int32) :
    Mo_between (nI n) now hds nms (nI c) (nI e) a3 = some (if a3 = 0 then nI (btw n L (hh n D F (fw L n)) x y) else encO (mn2 n (lbp L (hh n D F (fw L n)) x y) (fun i j => L (16 * i + j)) n)) := by
  have hn := h.1
  have hL := h.2.1
  have hhd := h.2.2.2.2.2.2.2.2.1
  have hc : c < 2 ^ 31 := by
    have := cnt_le (ish n D F (fw L n)) x
    omega
  have he : e < 2 ^ 31 := by
    have := cnt_le (ish n D F (fw L n)) y
    omega
  refine M_btw hn hL (lbp L (hh n D F (fw L n)) x y) ?_ a3
  intro i j a m hi hj hm
  have g1 := (hL (16 * i + j) (by omega)).1
  have g2 := (hL (16 * i + j) (by omega)).2
  have g3 := C_hlt (D := D) (F := F) (L := L) hi
  have g4 := C_hlt (D := D) (F := F) (L := L) hj
  have g5 := cnt_le (ish n D F (fw L n)) (hh n D F (fw L n) i)
  have g6 := cnt_le (ish n D F (fw L n)) (hh n D F (fw L n) j)
  simp only [Mo_between_L22, if_neg (nI_ge hj (show n < 2 ^ 31 by omega)), ix_b, gk_n (show 16 * i + j < 289 by omega) (by decide), nI_clamp (show 16 * i + j < 2 ^ 31 by omega), C_at hn hi, C_at hn hj, nI_clamp (show i < 2 ^ 31 by omega), nI_clamp (show j < 2 ^ 31 by omega), hhd i hi, hhd j hj, C_at hn g3, C_at hn g4, nI_clamp (show hh n D F (fw L n) i < 2 ^ 31 by omega), nI_clamp (show hh n D F (fw L n) j < 2 ^ 31 by omega), M_nms h hi, M_nms h hj, g1, nI_1, nI_eq (show cnt (ish n D F (fw L n)) (hh n D F (fw L n) i) < 2 ^ 31 by omega) hc, nI_eq (show cnt (ish n D F (fw L n)) (hh n D F (fw L n) j) < 2 ^ 31 by omega) hc, nI_eq (show cnt (ish n D F (fw L n)) (hh n D F (fw L n) j) < 2 ^ 31 by omega) he, num_is h1 h2 hi, num_is h1 h2 hj, num_is h3 h4 hj, if_neg (nI_n4 he)]
  have key : ∀ z : Option ((Int32 × Int32 × Int32) ⊕ (Int32 × Int32)), z = (if encO m = -4 then some (.inl (nI (a + 1), nI (L (16 * i + j)), nI (j + 1))) else if encO m ≤ nI (L (16 * i + j)) then some (.inl (nI (a + 1), encO m, nI (j + 1))) else some (.inl (nI (a + 1), nI (L (16 * i + j)), nI (j + 1)))) → z = some (.inl (nI (a + 1), encO (mnS m (L (16 * i + j))), nI (j + 1))) := by
    intro z hz
    rw [hz, encO_S hm g2]
    split
    · rfl
    · split <;> rfl
  by_cases e1 : L (16 * i + j) = 0
  · rw [if_pos (show nI (L (16 * i + j)) ≤ 0 by rw [e1]; decide), if_neg (by unfold lbp; simp [e1])]
  · rw [if_neg (nI_nle (by omega) (by omega))]
    by_cases e2 : hh n D F (fw L n) i = x
    · rw [if_pos e2]
      by_cases e3 : hh n D F (fw L n) j = y
      · rw [if_neg (fun q => hne (q.symm.trans e3)), if_pos e3, if_pos (show lbp L (hh n D F (fw L n)) x y i j = true from decide_eq_true ⟨e2, e3, e1⟩)]
        exact key _ rfl
      · rw [if_neg (show ¬ lbp L (hh n D F (fw L n)) x y i j = true by unfold lbp; simp [e3])]
        by_cases e4 : hh n D F (fw L n) j = x
        · rw [if_pos e4]
        · rw [if_neg e4, if_neg e3]
    · rw [if_neg e2, if_neg (show ¬ lbp L (hh n D F (fw L n)) x y i j = true by unfold lbp; simp [e2])]
theorem M_btwN {n c x : Nat} {D : Nat → Nat} {F : Nat → Int32} {L : Nat → Nat} {now sm dl fr hds hos nms : Nat → Int32} {cl : Int32} (h : MX n D F L now cl sm dl fr hds hos nms) (hx : x < n) (h1 : hh n D F (fw L n) x = x) (h2 : cnt (ish n D F (fw L n)) x = c) :
    Mo_between (nI n) now hds nms (nI c) (-4) 0 = some (nI (sm2 (fun i => cnt (fun j => decide (hh n D F (fw L n) i = x ∧ hh n D F (fw L n) j ≠ x ∧ L (16 * i + j) ≠ 0)) n) n)) := by
  have hn := h.1
  have hL := h.2.1
  have hhd := h.2.2.2.2.2.2.2.2.1
  have hc : c < 2 ^ 31 := by
    have := cnt_le (ish n D F (fw L n)) x
    omega
  have key0 := M_btw (now := now) (hds := hds) (nms := nms) (a1 := nI c) (a2 := -4) hn hL (fun i j => decide (hh n D F (fw L n) i = x ∧ hh n D F (fw L n) j ≠ x ∧ L (16 * i + j) ≠ 0)) ?_ 0
  · rw [key0, if_pos rfl]
  intro i j a m hi hj hm
  have g1 := (hL (16 * i + j) (by omega)).1
  have g2 := (hL (16 * i + j) (by omega)).2
  have g3 := C_hlt (D := D) (F := F) (L := L) hi
  have g4 := C_hlt (D := D) (F := F) (L := L) hj
  have g5 := cnt_le (ish n D F (fw L n)) (hh n D F (fw L n) i)
  have g6 := cnt_le (ish n D F (fw L n)) (hh n D F (fw L n) j)
  simp only [Mo_between_L22, if_neg (nI_ge hj (show n < 2 ^ 31 by omega)), ix_b, gk_n (show 16 * i + j < 289 by omega) (by decide), nI_clamp (show 16 * i + j < 2 ^ 31 by omega), C_at hn hi, C_at hn hj, nI_clamp (show i < 2 ^ 31 by omega), nI_clamp (show j < 2 ^ 31 by omega), hhd i hi, hhd j hj, C_at hn g3, C_at hn g4, nI_clamp (show hh n D F (fw L n) i < 2 ^ 31 by omega), nI_clamp (show hh n D F (fw L n) j < 2 ^ 31 by omega), M_nms h hi, M_nms h hj, g1, nI_1, nI_eq (show cnt (ish n D F (fw L n)) (hh n D F (fw L n) i) < 2 ^ 31 by omega) hc, nI_eq (show cnt (ish n D F (fw L n)) (hh n D F (fw L n) j) < 2 ^ 31 by omega) hc, num_is h1 h2 hi, num_is h1 h2 hj]
  have key : ∀ z : Option ((Int32 × Int32 × Int32) ⊕ (Int32 × Int32)), z = (if encO m = -4 then some (.inl (nI (a + 1), nI (L (16 * i + j)), nI (j + 1))) else if encO m ≤ nI (L (16 * i + j)) then some (.inl (nI (a + 1), encO m, nI (j + 1))) else some (.inl (nI (a + 1), nI (L (16 * i + j)), nI (j + 1)))) → z = some (.inl (nI (a + 1), encO (mnS m (L (16 * i + j))), nI (j + 1))) := by
    intro z hz
    rw [hz, encO_S hm g2]
    split
    · rfl
    · split <;> rfl
  simp only [decide_eq_true_eq]
  by_cases e1 : L (16 * i + j) = 0
  · rw [if_pos (show nI (L (16 * i + j)) ≤ 0 by rw [e1]; decide), if_neg (fun q => q.2.2 e1)]
  · rw [if_neg (nI_nle (by omega) (by omega))]
    by_cases e2 : hh n D F (fw L n) i = x
    · rw [if_pos e2]
      by_cases e4 : hh n D F (fw L n) j = x
      · rw [if_pos e4, if_neg (fun q => q.2.1 e4)]
      · rw [if_neg e4, if_pos (show hh n D F (fw L n) i = x ∧ hh n D F (fw L n) j ≠ x ∧ L (16 * i + j) ≠ 0 from ⟨e2, e4, e1⟩)]
        exact key _ (if_pos trivial)
    · rw [if_neg e2, if_neg (fun q => e2 q.1)]
