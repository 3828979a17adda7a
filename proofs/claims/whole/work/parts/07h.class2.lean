/-! the class, settled: what its questions answer -/
theorem nI_n4 {m : Nat} (h : m < 2 ^ 31) : ¬ nI m = -4 := by
  intro e
  have h1 := congrArg Int32.toInt e
  rw [nI_toInt h] at h1
  have h2 : (-4 : Int32).toInt = -4 := by decide
  omega
theorem C_at {n i : Nat} (hn : n ≤ 16) (hi : i < n) {α : Type} {x : Option α} : gd (ck (nI i) 16) x = x := gk_n (by omega) (by decide)
theorem C_hlt {n : Nat} {D : Nat → Nat} {F : Nat → Int32} {L : Nat → Nat} {i : Nat} (hi : i < n) : hh n D F (fw L n) i < n := hh_lt hi
theorem C_dep {n i : Nat} {D : Nat → Nat} {F : Nat → Int32} {L : Nat → Nat} {sm ln dl fr hds : Nat → Int32} {g : Int32} (h : CX n D F L sm ln g dl fr hds) (hi : i < n) : Cl_depthOf hds sm (nI i) = some (nI (fw L n (hh n D F (fw L n) i) i)) := by
  obtain ⟨hn, -, -, hs, -, -, -, hh⟩ := h
  have h1 := C_hlt (D := D) (F := F) (L := L) hi
  simp only [Cl_depthOf, C_at hn hi, nI_clamp (show i < 2 ^ 31 by omega), hh i hi, Pa_bet (show _ < 16 from Nat.lt_of_lt_of_le h1 hn) (show i < 16 by omega), hs _ _ h1 hi, Option.bind_some]
theorem C_hour {n i : Nat} {D : Nat → Nat} {F : Nat → Int32} {L : Nat → Nat} {sm ln dl fr hds : Nat → Int32} {g : Int32} (h : CX n D F L sm ln g dl fr hds) (hi : i < n) : Cl_hourOf g dl hds sm (nI i) = some (nI (hr n D (fw L n) (hh n D F (fw L n) i) i)) := by
  have h2 := C_dep h hi
  obtain ⟨hn, -, -, hs, hg, hd, -, hh⟩ := h
  have h1 := C_hlt (D := D) (F := F) (L := L) hi
  simp only [Cl_hourOf, C_at hn hi, nI_clamp (show i < 2 ^ 31 by omega), hh i hi, hg, Cl_st hn h1 hd (tp_ge D n _ h1), h2, Option.bind_some, nI_add]
  rfl
theorem C_isHead {n i : Nat} {D : Nat → Nat} {F : Nat → Int32} {L : Nat → Nat} {sm ln dl fr hds : Nat → Int32} {g : Int32} (h : CX n D F L sm ln g dl fr hds) (hi : i < n) : Cl_isHead hds (nI i) = some (if ish n D F (fw L n) i = true then 1 else 0) := by
  obtain ⟨hn, -, -, hs, hg, hd, -, hh'⟩ := h
  have h1 := C_hlt (D := D) (F := F) (L := L) hi
  simp only [Cl_isHead, C_at hn hi, nI_clamp (show i < 2 ^ 31 by omega), hh' i hi, nI_eq (show hh n D F (fw L n) i < 2 ^ 31 by omega) (show i < 2 ^ 31 by omega), ish, decide_eq_true_eq]
  split <;> rfl
theorem C_isCut {n i j : Nat} {D : Nat → Nat} {F : Nat → Int32} {L : Nat → Nat} {sm ln dl fr hds : Nat → Int32} {g : Int32} (h : CX n D F L sm ln g dl fr hds) (hi : i < n) (hj : j < n) : Cl_isCut hds (nI i) (nI j) = some (if hh n D F (fw L n) i = hh n D F (fw L n) j then 0 else 1) := by
  obtain ⟨hn, -, -, hs, hg, hd, -, hh'⟩ := h
  have h1 := C_hlt (D := D) (F := F) (L := L) hi
  have h2 := C_hlt (D := D) (F := F) (L := L) hj
  simp only [Cl_isCut, C_at hn hi, C_at hn hj, nI_clamp (show i < 2 ^ 31 by omega), nI_clamp (show j < 2 ^ 31 by omega), hh' i hi, hh' j hj, nI_eq (show hh n D F (fw L n) i < 2 ^ 31 by omega) (show hh n D F (fw L n) j < 2 ^ 31 by omega)]
  split <;> rfl
theorem C_below {n k : Nat} {D : Nat → Nat} {F : Nat → Int32} {L : Nat → Nat} {sm ln dl fr hds : Nat → Int32} {g : Int32} (h : CX n D F L sm ln g dl fr hds) (hk : k ≤ n) : Cl_headsBelow hds (nI k) = some (nI (cnt (ish n D F (fw L n)) k)) := by
  have hn := h.1
  have h1 : it (Cl_headsBelow_L4 hds (nI k)) 4096 (nI 0, 0) = some (nI (0 + cnt (ish n D F (fw L n)) k)) := by
    refine it_cnt (ish n D F (fw L n)) ?_ ?_ (by omega) 0
    · intro i a hi
      simp only [Cl_headsBelow_L4, if_neg (nI_ge hi (show k < 2 ^ 31 by omega)), C_isHead h (show i < n by omega), Option.bind_some, nI_1]
      by_cases e : ish n D F (fw L n) i = true
      · rw [if_pos e, if_neg (by decide), if_pos e]
      · rw [if_neg e, if_pos rfl, if_neg e]
    · intro a
      simp only [Cl_headsBelow_L4, if_pos (nI_le (Nat.le_refl k) (show k < 2 ^ 31 by omega))]
  unfold Cl_headsBelow
  rw [show it (Cl_headsBelow_L4 hds (nI k)) 4096 (0, 0) = some (nI (0 + cnt (ish n D F (fw L n)) k)) from h1, Nat.zero_add]
  rfl
theorem C_clusters {n : Nat} {D : Nat → Nat} {F : Nat → Int32} {L : Nat → Nat} {sm ln dl fr hds : Nat → Int32} {g : Int32} (h : CX n D F L sm ln g dl fr hds) : Cl_clusters hds (nI n) = some (nI (cnt (ish n D F (fw L n)) n)) := by
  unfold Cl_clusters Pl_places
  rw [Option.bind_some, C_below h (Nat.le_refl n), Option.bind_some]
theorem C_number {n i : Nat} {D : Nat → Nat} {F : Nat → Int32} {L : Nat → Nat} {sm ln dl fr hds : Nat → Int32} {g : Int32} (h : CX n D F L sm ln g dl fr hds) (hi : i < n) : Cl_numberOf hds (nI i) = some (nI (cnt (ish n D F (fw L n)) (hh n D F (fw L n) i))) := by
  have h2 := C_below h (Nat.le_of_lt (C_hlt (D := D) (F := F) (L := L) hi))
  obtain ⟨hn, -, -, hs, hg, hd, -, hh'⟩ := h
  simp only [Cl_numberOf, C_at hn hi, nI_clamp (show i < 2 ^ 31 by omega), hh' i hi, h2, Option.bind_some]
/-- up of a place: by which of its links it hangs -/
def upp (L : Nat → Nat) (d : Nat → Nat → Nat) (H : Nat → Nat) (i j : Nat) : Bool := decide (L (16 * i + j) ≠ 0 ∧ H i = H j ∧ d (H j) j + L (16 * i + j) = d (H i) i)
def upv (n : Nat) (L : Nat → Nat) (d : Nat → Nat → Nat) (H : Nat → Nat) (i : Nat) : Int32 := if H i = i then -4 else fnv (upp L d H i) n
theorem C_up {n i : Nat} {D : Nat → Nat} {F : Nat → Int32} {L : Nat → Nat} {sm ln dl fr hds : Nat → Int32} {g : Int32} (h : CX n D F L sm ln g dl fr hds) (hi : i < n) : Cl_upOf hds (nI n) ln sm (nI i) = some (upv n L (fw L n) (hh n D F (fw L n)) i) := by
  have hn := h.1
  have hL := h.2.1
  have hL9 : ∀ k, k < 256 → L k ≤ 9 := fun k hk => (hL k hk).2
  unfold Cl_upOf upv
  rw [C_isHead h hi, Option.bind_some]
  by_cases e : hh n D F (fw L n) i = i
  · rw [if_pos e, if_pos (show ish n D F (fw L n) i = true from decide_eq_true e), if_neg (by decide)]
  · rw [if_neg e, if_neg (show ¬ ish n D F (fw L n) i = true by unfold ish; simp [e]), if_pos rfl]
    have h1 := it_fnd (b := Cl_upOf_L13 hds (nI n) ln sm (nI i)) (upp L (fw L n) (hh n D F (fw L n)) i) nI (n := n) ?_ ?_ (by omega)
    · rw [h1, Option.bind_some]
      exact fno_v
    · intro j hj
      have h2 := (hL (16 * i + j) (by omega)).1
      have h3 := (hL (16 * i + j) (by omega)).2
      have h4 := fw_top hL9 (k := n) (show hh n D F (fw L n) j < 16 from Nat.lt_of_lt_of_le (C_hlt hj) hn) (show j < 16 by omega)
      have h5 := fw_top hL9 (k := n) (show hh n D F (fw L n) i < 16 from Nat.lt_of_lt_of_le (C_hlt hi) hn) (show i < 16 by omega)
      simp only [Cl_upOf_L13, Pl_places, Option.bind_some, if_neg (nI_ge hj (show n < 2 ^ 31 by omega)), Pl_len (show i < 16 by omega) (show j < 16 by omega), h2, C_isCut h hi hj, C_dep h hj, C_dep h hi, nI_add, nI_1, nI_eq (show fw L n (hh n D F (fw L n) j) j + L (16 * i + j) < 2 ^ 31 by omega) (show fw L n (hh n D F (fw L n) i) i < 2 ^ 31 by omega)]
      by_cases e1 : L (16 * i + j) = 0
      · rw [if_pos (show nI (L (16 * i + j)) = 0 by rw [e1]; rfl), if_neg (by unfold upp; simp [e1])]
      · rw [if_neg (nI_ne0 (by omega) (by omega))]
        by_cases e2 : hh n D F (fw L n) i = hh n D F (fw L n) j
        · rw [if_pos e2, if_pos rfl]
          by_cases e3 : fw L n (hh n D F (fw L n) j) j + L (16 * i + j) = fw L n (hh n D F (fw L n) i) i
          · rw [if_pos e3, if_pos (by unfold upp; exact decide_eq_true ⟨e1, e2, e3⟩)]
          · rw [if_neg e3, if_neg (by unfold upp; simp [e3])]
        · rw [if_neg e2, if_neg (by decide), if_neg (by unfold upp; simp [e2])]
    · simp only [Cl_upOf_L13, Pl_places, Option.bind_some, if_pos (nI_le (Nat.le_refl n) (show n < 2 ^ 31 by omega))]
/-- what a link is -/
def knd (n : Nat) (L : Nat → Nat) (d : Nat → Nat → Nat) (H : Nat → Nat) (i j : Nat) : Int32 := if H i = H j then (if upv n L d H i = nI j then 0 else if upv n L d H j = nI i then 0 else 1) else 2
theorem C_kind {n i j : Nat} {D : Nat → Nat} {F : Nat → Int32} {L : Nat → Nat} {sm ln dl fr hds : Nat → Int32} {g : Int32} (h : CX n D F L sm ln g dl fr hds) (hi : i < n) (hj : j < n) : Cl_kindOf hds (nI n) ln sm (nI i) (nI j) = some (knd n L (fw L n) (hh n D F (fw L n)) i j) := by
  unfold Cl_kindOf knd
  rw [C_isCut h hi hj, Option.bind_some, C_up h hi, C_up h hj]
  by_cases e : hh n D F (fw L n) i = hh n D F (fw L n) j
  · rw [if_pos e, if_pos e, if_pos rfl, Option.bind_some]
    split
    · rfl
    · rw [Option.bind_some]
      split <;> rfl
  · rw [if_neg e, if_neg e, if_neg (by decide)]
/-- how many links are cut -/
def ncut (n : Nat) (L : Nat → Nat) (H : Nat → Nat) : Nat := sm2 (fun i => cnt (fun j => decide (L (16 * i + j) ≠ 0 ∧ H i ≠ H j)) i) n
theorem C_cut {n : Nat} {D : Nat → Nat} {F : Nat → Int32} {L : Nat → Nat} {sm ln dl fr hds : Nat → Int32} {g : Int32} (h : CX n D F L sm ln g dl fr hds) : Cl_cutLinks hds (nI n) ln = some (nI (ncut n L (hh n D F (fw L n)))) := by
  have hn := h.1
  have hL := h.2.1
  have h1 : it (Cl_cutLinks_L4 hds (nI n) ln) 4096 (nI 0, 0) = some (nI (0 + ncut n L (hh n D F (fw L n)))) := by
    refine it_sum _ ?_ ?_ (by omega) 0
    · intro i a hi
      have h2 : it (Cl_cutLinks_L17 hds ln (nI i)) 4096 (nI a, 0) = some (nI (a + cnt (fun j => decide (L (16 * i + j) ≠ 0 ∧ hh n D F (fw L n) i ≠ hh n D F (fw L n) j)) i)) := by
        refine it_cnt _ ?_ ?_ (by omega) a
        · intro j b hj
          have h2 := (hL (16 * i + j) (by omega)).1
          have h3 := (hL (16 * i + j) (by omega)).2
          simp only [Cl_cutLinks_L17, if_neg (nI_ge hj (show i < 2 ^ 31 by omega)), Pl_len (show i < 16 by omega) (show j < 16 by omega), h2, Option.bind_some, C_isCut h hi (show j < n by omega), nI_1]
          by_cases e1 : L (16 * i + j) = 0
          · rw [if_pos (show nI (L (16 * i + j)) = 0 by rw [e1]; rfl), if_neg (by simp [e1])]
          · rw [if_neg (nI_ne0 (by omega) (by omega))]
            by_cases e2 : hh n D F (fw L n) i = hh n D F (fw L n) j
            · rw [if_pos e2, if_pos rfl, if_neg (by simp [e2])]
            · rw [if_neg e2, if_neg (by decide), if_pos (decide_eq_true ⟨e1, e2⟩)]
        · intro b
          simp only [Cl_cutLinks_L17, if_pos (nI_le (Nat.le_refl i) (show i < 2 ^ 31 by omega))]
      simp only [Cl_cutLinks_L4, Pl_places, Option.bind_some, if_neg (nI_ge hi (show n < 2 ^ 31 by omega)), h2, nI_1]
    · intro a
      simp only [Cl_cutLinks_L4, Pl_places, Option.bind_some, if_pos (nI_le (Nat.le_refl n) (show n < 2 ^ 31 by omega))]
  unfold Cl_cutLinks
  rw [show it (Cl_cutLinks_L4 hds (nI n) ln) 4096 (0, 0) = some (nI (0 + ncut n L (hh n D F (fw L n)))) from h1, Nat.zero_add]
  rfl
theorem C_gwide {n : Nat} {D : Nat → Nat} {F : Nat → Int32} {L : Nat → Nat} {sm ln dl fr hds : Nat → Int32} {g : Int32} (h : CX n D F L sm ln g dl fr hds) : Cl_greatestWide hds (nI n) sm = some (nI (mxp (fun _ => true) (fun i => fw L n (hh n D F (fw L n) i) i) n)) := by
  have hn := h.1
  have hL9 : ∀ k, k < 256 → L k ≤ 9 := fun k hk => (h.2.1 k hk).2
  have hB : ∀ i, i < n → fw L n (hh n D F (fw L n) i) i ≤ 1000000 := fun i hi => fw_top hL9 (Nat.lt_of_lt_of_le (C_hlt hi) hn) (by omega)
  have h1 : it (Cl_greatestWide_L4 hds (nI n) sm) 4096 (0, 0) = some (nI (mxp (fun _ => true) (fun i => fw L n (hh n D F (fw L n) i) i) n)) := by
    refine it_mx _ _ 1000000 hB ?_ ?_ (by omega)
    · intro i a hi ha
      have h2 := hB i hi
      simp only [Cl_greatestWide_L4, Pl_places, Option.bind_some, if_neg (nI_ge hi (show n < 2 ^ 31 by omega)), C_dep h hi, nI_1, nI_ltI (show a < 2 ^ 31 by omega) (show fw L n (hh n D F (fw L n) i) i < 2 ^ 31 by omega), true_and]
      split <;> rfl
    · intro a
      simp only [Cl_greatestWide_L4, Pl_places, Option.bind_some, if_pos (nI_le (Nat.le_refl n) (show n < 2 ^ 31 by omega))]
  unfold Cl_greatestWide
  rw [h1]
  rfl
theorem C_wide {n x : Nat} {D : Nat → Nat} {F : Nat → Int32} {L : Nat → Nat} {sm ln dl fr hds : Nat → Int32} {g : Int32} (h : CX n D F L sm ln g dl fr hds) (hx : x < n) : Cl_wideOf hds (nI n) sm (nI x) = some (nI (mxp (fun i => decide (hh n D F (fw L n) i = x)) (fun i => fw L n (hh n D F (fw L n) i) i) n)) := by
  have hn := h.1
  have hL9 : ∀ k, k < 256 → L k ≤ 9 := fun k hk => (h.2.1 k hk).2
  have hB : ∀ i, i < n → fw L n (hh n D F (fw L n) i) i ≤ 1000000 := fun i hi => fw_top hL9 (Nat.lt_of_lt_of_le (C_hlt hi) hn) (by omega)
  have h1 : it (Cl_wideOf_L4 hds (nI n) sm (nI x)) 4096 (0, 0) = some (nI (mxp (fun i => decide (hh n D F (fw L n) i = x)) (fun i => fw L n (hh n D F (fw L n) i) i) n)) := by
    refine it_mx _ _ 1000000 hB ?_ ?_ (by omega)
    · intro i a hi ha
      have h2 := hB i hi
      have h3 := C_hlt (D := D) (F := F) (L := L) hi
      have h4 := h.2.2.2.2.2.2.2 i hi
      simp only [Cl_wideOf_L4, Pl_places, Option.bind_some, if_neg (nI_ge hi (show n < 2 ^ 31 by omega)), C_at hn hi, nI_clamp (show i < 2 ^ 31 by omega), h4, nI_eq (show hh n D F (fw L n) i < 2 ^ 31 by omega) (show x < 2 ^ 31 by omega), C_dep h hi, nI_1, nI_ltI (show a < 2 ^ 31 by omega) (show fw L n (hh n D F (fw L n) i) i < 2 ^ 31 by omega), decide_eq_true_eq]
      by_cases e : hh n D F (fw L n) i = x
      · rw [if_pos e]
        by_cases e2 : a < fw L n (hh n D F (fw L n) i) i
        · rw [if_pos e2, if_pos ⟨e, e2⟩]
        · rw [if_neg e2, if_neg (fun q => e2 q.2)]
      · rw [if_neg e, if_neg (fun q => e q.1)]
    · intro a
      simp only [Cl_wideOf_L4, Pl_places, Option.bind_some, if_pos (nI_le (Nat.le_refl n) (show n < 2 ^ 31 by omega))]
  unfold Cl_wideOf
  rw [h1]
  rfl
theorem C_last {n : Nat} {D : Nat → Nat} {F : Nat → Int32} {L : Nat → Nat} {sm ln dl fr hds : Nat → Int32} {g : Int32} (h : CX n D F L sm ln g dl fr hds) : Cl_lastHour g dl hds (nI n) sm = some (nI (mxp (fun _ => true) (fun i => hr n D (fw L n) (hh n D F (fw L n) i) i) n)) := by
  have hn := h.1
  have hL9 : ∀ k, k < 256 → L k ≤ 9 := fun k hk => (h.2.1 k hk).2
  have hB : ∀ i, i < n → hr n D (fw L n) (hh n D F (fw L n) i) i ≤ 1000030 := fun i hi => hr_small h.2.2.1 (fun a b ha hb => fw_top hL9 (by omega) (by omega)) (C_hlt hi) hi
  have h1 : it (Cl_lastHour_L4 g dl hds (nI n) sm) 4096 (0, 0) = some (nI (mxp (fun _ => true) (fun i => hr n D (fw L n) (hh n D F (fw L n) i) i) n)) := by
    refine it_mx _ _ 1000030 hB ?_ ?_ (by omega)
    · intro i a hi ha
      have h2 := hB i hi
      simp only [Cl_lastHour_L4, Pl_places, Option.bind_some, if_neg (nI_ge hi (show n < 2 ^ 31 by omega)), C_hour h hi, nI_1, nI_ltI (show a < 2 ^ 31 by omega) (show hr n D (fw L n) (hh n D F (fw L n) i) i < 2 ^ 31 by omega), true_and]
      split <;> rfl
    · intro a
      simp only [Cl_lastHour_L4, Pl_places, Option.bind_some, if_pos (nI_le (Nat.le_refl n) (show n < 2 ^ 31 by omega))]
  unfold Cl_lastHour
  rw [h1]
  rfl
