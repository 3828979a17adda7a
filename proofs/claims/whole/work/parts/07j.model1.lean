/-! the reference, settled: what its questions answer -/
def sym (L : Nat → Nat) : Prop := ∀ i j, i < 16 → j < 16 → L (16 * i + j) = L (16 * j + i)
def MX (n : Nat) (D : Nat → Nat) (F : Nat → Int32) (L : Nat → Nat) (now : Nat → Int32) (c : Int32) (sm dl fr hds hos nms : Nat → Int32) : Prop := n ≤ 16 ∧ okL now L ∧ sym L ∧ (∀ i, i < n → D i ≤ 30) ∧ MS n D F (fw L n) c sm dl fr hds hos nms
theorem M_dep {n i : Nat} {D : Nat → Nat} {F : Nat → Int32} {L : Nat → Nat} {now sm dl fr hds hos nms : Nat → Int32} {c : Int32} (h : MX n D F L now c sm dl fr hds hos nms) (hi : i < n) : Mo_depth sm hds (nI i) = some (nI (fw L n (hh n D F (fw L n) i) i)) := by
  obtain ⟨hn, -, -, -, -, hs, -, -, hh', -, -⟩ := h
  have h1 := C_hlt (D := D) (F := F) (L := L) hi
  simp only [Mo_depth, C_at hn hi, nI_clamp (show i < 2 ^ 31 by omega), hh' i hi, ix_b, gk_n (show 16 * hh n D F (fw L n) i + i < 256 by omega) (by decide), nI_clamp (show 16 * hh n D F (fw L n) i + i < 2 ^ 31 by omega), hs _ _ h1 hi]
theorem M_up {n i : Nat} {D : Nat → Nat} {F : Nat → Int32} {L : Nat → Nat} {now sm dl fr hds hos nms : Nat → Int32} {c : Int32} (h : MX n D F L now c sm dl fr hds hos nms) (hi : i < n) : Mo_upOf (nI n) now sm hds (nI i) = some (upv n L (fw L n) (hh n D F (fw L n)) i) := by
  have hn := h.1
  have hL := h.2.1
  have hsy := h.2.2.1
  have hhd := h.2.2.2.2.2.2.2.2.1
  have hL9 : ∀ k, k < 256 → L k ≤ 9 := fun k hk => (hL k hk).2
  have h6 := C_hlt (D := D) (F := F) (L := L) hi
  unfold upv
  by_cases e : hh n D F (fw L n) i = i
  · rw [if_pos e]
    have h1 : it (Mo_upOf_L2 (nI n) now sm hds (nI i)) 4096 (nI 0) = some (.inl ()) := by
      refine it_run (F := 4096) (fun _ => nI 0) 0 _ (fun i hi => absurd hi (Nat.not_lt_zero _)) ?_ (by omega)
      simp only [Mo_upOf_L2, if_neg (nI_ge (show 0 < n by omega) (show n < 2 ^ 31 by omega)), C_at hn hi, nI_clamp (show i < 2 ^ 31 by omega), hhd i hi]
      rw [if_pos (by rw [e])]
    unfold Mo_upOf
    rw [show it (Mo_upOf_L2 (nI n) now sm hds (nI i)) 4096 0 = _ from h1]
    rfl
  · rw [if_neg e]
    have h1 := it_fnd (b := Mo_upOf_L2 (nI n) now sm hds (nI i)) (upp L (fw L n) (hh n D F (fw L n)) i) nI (n := n) ?_ ?_ (by omega)
    · unfold Mo_upOf
      rw [h1, Option.bind_some]
      exact fno_v
    · intro j hj
      have h2 := (hL (16 * j + i) (by omega)).1
      have h3 := (hL (16 * j + i) (by omega)).2
      have h7 := C_hlt (D := D) (F := F) (L := L) hj
      have h4 := fw_top hL9 (k := n) (show hh n D F (fw L n) j < 16 from Nat.lt_of_lt_of_le (C_hlt hj) hn) (show j < 16 by omega)
      have h5 := fw_top hL9 (k := n) (show hh n D F (fw L n) i < 16 from Nat.lt_of_lt_of_le (C_hlt hi) hn) (show i < 16 by omega)
      have hs := hsy i j (by omega) (by omega)
      simp only [Mo_upOf_L2, if_neg (nI_ge hj (show n < 2 ^ 31 by omega)), C_at hn hi, C_at hn hj, nI_clamp (show i < 2 ^ 31 by omega), nI_clamp (show j < 2 ^ 31 by omega), hhd i hi, hhd j hj, ix_b, gk_n (show 16 * j + i < 289 by omega) (by decide), nI_clamp (show 16 * j + i < 2 ^ 31 by omega), h2, nI_eq (show hh n D F (fw L n) i < 2 ^ 31 by omega) (show i < 2 ^ 31 by omega), if_neg e, nI_eq (show hh n D F (fw L n) j < 2 ^ 31 by omega) (show hh n D F (fw L n) i < 2 ^ 31 by omega), M_dep h hj, M_dep h hi, Option.bind_some, nI_add, nI_1, nI_eq (show fw L n (hh n D F (fw L n) j) j + L (16 * j + i) < 2 ^ 31 by omega) (show fw L n (hh n D F (fw L n) i) i < 2 ^ 31 by omega)]
      rw [← hs] at h3 ⊢
      by_cases e1 : L (16 * i + j) = 0
      · rw [e1, if_pos (show nI 0 ≤ 0 by decide), if_neg (by unfold upp; simp [e1])]
      · rw [if_neg (nI_nle (by omega) (by omega))]
        by_cases e2 : hh n D F (fw L n) j = hh n D F (fw L n) i
        · rw [if_pos e2]
          by_cases e3 : fw L n (hh n D F (fw L n) j) j + L (16 * i + j) = fw L n (hh n D F (fw L n) i) i
          · rw [if_pos e3, if_pos (by unfold upp; exact decide_eq_true ⟨e1, e2.symm, e3⟩)]
          · rw [if_neg e3, if_neg (by unfold upp; simp [e3])]
        · rw [if_neg e2, if_neg (by unfold upp; simp [show ¬ hh n D F (fw L n) i = hh n D F (fw L n) j from fun q => e2 q.symm])]
    · simp only [Mo_upOf_L2, if_pos (nI_le (Nat.le_refl n) (show n < 2 ^ 31 by omega))]
theorem M_sort {n i j : Nat} {D : Nat → Nat} {F : Nat → Int32} {L : Nat → Nat} {now sm dl fr hds hos nms : Nat → Int32} {c : Int32} (h : MX n D F L now c sm dl fr hds hos nms) (hi : i < n) (hj : j < n) : Mo_sortOf (nI n) now sm hds (nI i) (nI j) = some (knd n L (fw L n) (hh n D F (fw L n)) i j) := by
  have hn := h.1
  have hhd := h.2.2.2.2.2.2.2.2.1
  have h6 := C_hlt (D := D) (F := F) (L := L) hi
  have h7 := C_hlt (D := D) (F := F) (L := L) hj
  simp only [Mo_sortOf, C_at hn hi, C_at hn hj, nI_clamp (show i < 2 ^ 31 by omega), nI_clamp (show j < 2 ^ 31 by omega), hhd i hi, hhd j hj, nI_eq (show hh n D F (fw L n) i < 2 ^ 31 by omega) (show hh n D F (fw L n) j < 2 ^ 31 by omega), M_up h hi, M_up h hj, Option.bind_some, knd]
  by_cases e : hh n D F (fw L n) i = hh n D F (fw L n) j
  · rw [if_pos e, if_pos e]
    split
    · rfl
    · split <;> rfl
  · rw [if_neg e, if_neg e]
/-- how many links are of a kind -/
def nknd (n : Nat) (L : Nat → Nat) (d : Nat → Nat → Nat) (H : Nat → Nat) (s : Int32) : Nat := sm2 (fun i => cnt (fun j => decide (L (16 * i + j) ≠ 0 ∧ knd n L d H i j = s)) i) n
theorem M_links {n : Nat} {D : Nat → Nat} {F : Nat → Int32} {L : Nat → Nat} {now sm dl fr hds hos nms : Nat → Int32} {c : Int32} (h : MX n D F L now c sm dl fr hds hos nms) (s : Int32) : Mo_links (nI n) now sm hds s = some (nI (nknd n L (fw L n) (hh n D F (fw L n)) s)) := by
  have hn := h.1
  have hL := h.2.1
  have h1 : it (Mo_links_L4 (nI n) now sm hds s) 4096 (nI 0, 0) = some (nI (0 + nknd n L (fw L n) (hh n D F (fw L n)) s)) := by
    refine it_sum _ ?_ ?_ (by omega) 0
    · intro i a hi
      have h2 : it (Mo_links_L15 (nI n) now sm hds s (nI i)) 4096 (nI a, 0) = some (nI (a + cnt (fun j => decide (L (16 * i + j) ≠ 0 ∧ knd n L (fw L n) (hh n D F (fw L n)) i j = s)) i)) := by
        refine it_cnt _ ?_ ?_ (by omega) a
        · intro j b hj
          have h2 := (hL (16 * i + j) (by omega)).1
          have h3 := (hL (16 * i + j) (by omega)).2
          simp only [Mo_links_L15, if_neg (nI_ge hj (show i < 2 ^ 31 by omega)), ix_b, gk_n (show 16 * i + j < 289 by omega) (by decide), nI_clamp (show 16 * i + j < 2 ^ 31 by omega), h2, M_sort h hi (show j < n by omega), Option.bind_some, nI_1, decide_eq_true_eq]
          by_cases e1 : L (16 * i + j) = 0
          · rw [e1, if_pos (show nI 0 ≤ 0 by decide), if_neg (fun q => q.1 rfl)]
            show some (Sum.inl (nI b + nI 0, _)) = _
            rw [nI_add]
            rfl
          · rw [if_neg (nI_nle (by omega) (by omega))]
            by_cases e2 : knd n L (fw L n) (hh n D F (fw L n)) i j = s
            · rw [if_pos e2, if_pos ⟨e1, e2⟩]
            · rw [if_neg e2, if_neg (fun q => e2 q.2)]
              show some (Sum.inl (nI b + nI 0, _)) = _
              rw [nI_add]
              rfl
        · intro b
          simp only [Mo_links_L15, if_pos (nI_le (Nat.le_refl i) (show i < 2 ^ 31 by omega))]
      simp only [Mo_links_L4, if_neg (nI_ge hi (show n < 2 ^ 31 by omega)), h2, Option.bind_some, nI_1]
    · intro a
      simp only [Mo_links_L4, if_pos (nI_le (Nat.le_refl n) (show n < 2 ^ 31 by omega))]
  unfold Mo_links
  rw [show it (Mo_links_L4 (nI n) now sm hds s) 4096 (0, 0) = _ from h1, Nat.zero_add]
  rfl
theorem M_gwide {n : Nat} {D : Nat → Nat} {F : Nat → Int32} {L : Nat → Nat} {now sm dl fr hds hos nms : Nat → Int32} {c : Int32} (h : MX n D F L now c sm dl fr hds hos nms) : Mo_wide (nI n) sm hds (-4) = some (nI (mxp (fun _ => true) (fun i => fw L n (hh n D F (fw L n) i) i) n)) := by
  have hn := h.1
  have hL9 : ∀ k, k < 256 → L k ≤ 9 := fun k hk => (h.2.1 k hk).2
  have hB : ∀ i, i < n → fw L n (hh n D F (fw L n) i) i ≤ 1000000 := fun i hi => fw_top hL9 (Nat.lt_of_lt_of_le (C_hlt hi) hn) (by omega)
  have h1 : it (Mo_wide_L4 (nI n) sm hds (-4)) 4096 (0, 0) = some (nI (mxp (fun _ => true) (fun i => fw L n (hh n D F (fw L n) i) i) n)) := by
    refine it_mx _ _ 1000000 hB ?_ ?_ (by omega)
    · intro i a hi ha
      have h2 := hB i hi
      simp only [Mo_wide_L4, if_neg (nI_ge hi (show n < 2 ^ 31 by omega)), M_dep h hi, Option.bind_some, nI_1, nI_leI (show fw L n (hh n D F (fw L n) i) i < 2 ^ 31 by omega) (show a < 2 ^ 31 by omega), true_and]
      rw [if_pos trivial]
      by_cases e : a < fw L n (hh n D F (fw L n) i) i
      · rw [if_neg (by omega), if_pos e]
      · rw [if_pos (by omega), if_neg e]
    · intro a
      simp only [Mo_wide_L4, if_pos (nI_le (Nat.le_refl n) (show n < 2 ^ 31 by omega))]
  unfold Mo_wide
  rw [h1]
  rfl
theorem M_wide {n x : Nat} {D : Nat → Nat} {F : Nat → Int32} {L : Nat → Nat} {now sm dl fr hds hos nms : Nat → Int32} {c : Int32} (h : MX n D F L now c sm dl fr hds hos nms) (hx : x < n) : Mo_wide (nI n) sm hds (nI x) = some (nI (mxp (fun i => decide (hh n D F (fw L n) i = x)) (fun i => fw L n (hh n D F (fw L n) i) i) n)) := by
  have hn := h.1
  have hhd := h.2.2.2.2.2.2.2.2.1
  have hL9 : ∀ k, k < 256 → L k ≤ 9 := fun k hk => (h.2.1 k hk).2
  have hB : ∀ i, i < n → fw L n (hh n D F (fw L n) i) i ≤ 1000000 := fun i hi => fw_top hL9 (Nat.lt_of_lt_of_le (C_hlt hi) hn) (by omega)
  have h1 : it (Mo_wide_L4 (nI n) sm hds (nI x)) 4096 (0, 0) = some (nI (mxp (fun i => decide (hh n D F (fw L n) i = x)) (fun i => fw L n (hh n D F (fw L n) i) i) n)) := by
    refine it_mx _ _ 1000000 hB ?_ ?_ (by omega)
    · intro i a hi ha
      have h2 := hB i hi
      have h3 := C_hlt (D := D) (F := F) (L := L) hi
      simp only [Mo_wide_L4, if_neg (nI_ge hi (show n < 2 ^ 31 by omega)), if_neg (nI_n4 (show x < 2 ^ 31 by omega)), C_at hn hi, nI_clamp (show i < 2 ^ 31 by omega), hhd i hi, nI_eq (show hh n D F (fw L n) i < 2 ^ 31 by omega) (show x < 2 ^ 31 by omega), M_dep h hi, Option.bind_some, nI_1, nI_leI (show fw L n (hh n D F (fw L n) i) i < 2 ^ 31 by omega) (show a < 2 ^ 31 by omega), decide_eq_true_eq]
      by_cases e : hh n D F (fw L n) i = x
      · rw [if_pos e]
        by_cases e2 : a < fw L n (hh n D F (fw L n) i) i
        · rw [if_neg (by omega), if_pos ⟨e, e2⟩]
        · rw [if_pos (by omega), if_neg (fun q => e2 q.2)]
      · rw [if_neg e, if_neg (fun q => e q.1)]
    · intro a
      simp only [Mo_wide_L4, if_pos (nI_le (Nat.le_refl n) (show n < 2 ^ 31 by omega))]
  unfold Mo_wide
  rw [h1]
  rfl
theorem M_last {n : Nat} {D : Nat → Nat} {F : Nat → Int32} {L : Nat → Nat} {now sm dl fr hds hos nms : Nat → Int32} {c : Int32} (h : MX n D F L now c sm dl fr hds hos nms) : Mo_lastHour (nI n) hos = some (nI (mxp (fun _ => true) (fun i => hr n D (fw L n) (hh n D F (fw L n) i) i) n)) := by
  have hn := h.1
  have hho := h.2.2.2.2.2.2.2.2.2.1
  have hL9 : ∀ k, k < 256 → L k ≤ 9 := fun k hk => (h.2.1 k hk).2
  have hB : ∀ i, i < n → hr n D (fw L n) (hh n D F (fw L n) i) i ≤ 1000030 := fun i hi => hr_small h.2.2.2.1 (fun a b ha hb => fw_top hL9 (by omega) (by omega)) (C_hlt hi) hi
  have h1 : it (Mo_lastHour_L4 (nI n) hos) 4096 (0, 0) = some (nI (mxp (fun _ => true) (fun i => hr n D (fw L n) (hh n D F (fw L n) i) i) n)) := by
    refine it_mx _ _ 1000030 hB ?_ ?_ (by omega)
    · intro i a hi ha
      have h2 := hB i hi
      simp only [Mo_lastHour_L4, if_neg (nI_ge hi (show n < 2 ^ 31 by omega)), C_at hn hi, nI_clamp (show i < 2 ^ 31 by omega), hho i hi, nI_1, nI_leI (show hr n D (fw L n) (hh n D F (fw L n) i) i < 2 ^ 31 by omega) (show a < 2 ^ 31 by omega), true_and]
      by_cases e : a < hr n D (fw L n) (hh n D F (fw L n) i) i
      · rw [if_neg (by omega), if_pos e]
      · rw [if_pos (by omega), if_neg e]
    · intro a
      simp only [Mo_lastHour_L4, if_pos (nI_le (Nat.le_refl n) (show n < 2 ^ 31 by omega))]
  unfold Mo_lastHour
  rw [h1]
  rfl
theorem M_linksAt {n i : Nat} (hn : n ≤ 16) (hi : i < n) {now : Nat → Int32} {L : Nat → Nat} (hL : okL now L) : it (Mo_place_L164 (nI n) now (nI i)) 4096 (0, 0) = some (nI (cnt (fun j => decide (L (16 * i + j) ≠ 0)) n)) := by
  have h1 : it (Mo_place_L164 (nI n) now (nI i)) 4096 (nI 0, 0) = some (nI (0 + cnt (fun j => decide (L (16 * i + j) ≠ 0)) n)) := by
    refine it_cnt _ ?_ ?_ (by omega) 0
    · intro j a hj
      have h2 := (hL (16 * i + j) (by omega)).1
      have h3 := (hL (16 * i + j) (by omega)).2
      simp only [Mo_place_L164, if_neg (nI_ge hj (show n < 2 ^ 31 by omega)), ix_b, gk_n (show 16 * i + j < 289 by omega) (by decide), nI_clamp (show 16 * i + j < 2 ^ 31 by omega), h2, nI_1, decide_eq_true_eq]
      by_cases e : L (16 * i + j) = 0
      · rw [e, if_pos (show nI 0 ≤ 0 by decide), if_neg (fun q => q rfl)]
        show some (Sum.inl (nI a + nI 0, _)) = _
        rw [nI_add]
        rfl
      · rw [if_neg (nI_nle (by omega) (by omega)), if_pos e]
    · intro a
      simp only [Mo_place_L164, if_pos (nI_le (Nat.le_refl n) (show n < 2 ^ 31 by omega))]
  rw [Nat.zero_add] at h1
  exact h1
theorem M_told {n : Nat} (hn : n ≤ 16) {now : Nat → Int32} {t : Nat → Nat} {f : Nat → Int32} (hT : okT now t f) : it (Mo_count_L118 (nI n) now) 4096 (0, 0) = some (nI (cnt (fun i => decide (t i ≠ 0)) n)) := by
  have h1 : it (Mo_count_L118 (nI n) now) 4096 (nI 0, 0) = some (nI (0 + cnt (fun i => decide (t i ≠ 0)) n)) := by
    refine it_cnt _ ?_ ?_ (by omega) 0
    · intro i a hi
      obtain ⟨t1, t2, -⟩ := hT i (by omega)
      simp only [Mo_count_L118, if_neg (nI_ge hi (show n < 2 ^ 31 by omega)), ix_d, gk_n (show 256 + i < 289 by omega) (by decide), nI_clamp (show 256 + i < 2 ^ 31 by omega), t1, nI_1, decide_eq_true_eq]
      by_cases e : t i = 0
      · rw [e, if_pos (show nI 0 ≤ 0 by decide), if_neg (fun q => q rfl)]
        show some (Sum.inl (nI a + nI 0, _)) = _
        rw [nI_add]
        rfl
      · rw [if_neg (nI_nle (by omega) (by omega)), if_pos e]
    · intro a
      simp only [Mo_count_L118, if_pos (nI_le (Nat.le_refl n) (show n < 2 ^ 31 by omega))]
  rw [Nat.zero_add] at h1
  exact h1
