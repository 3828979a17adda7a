/-! the class, settled: clusters beside one another, heads by number, members; bits -/
def btw (n : Nat) (L : Nat → Nat) (H : Nat → Nat) (a b : Nat) : Nat := sm2 (fun i => cnt (fun j => decide (H i = a ∧ H j = b ∧ L (16 * i + j) ≠ 0)) n) n
theorem C_lb {n i j a b : Nat} {D : Nat → Nat} {F : Nat → Int32} {L : Nat → Nat} {sm ln dl fr hds : Nat → Int32} {g : Int32} (h : CX n D F L sm ln g dl fr hds) (hi : i < n) (hj : j < n) (ha : a < n) (hb : b < n) : Cl_isLinkBetween hds ln (nI i) (nI j) (nI a) (nI b) = some (if hh n D F (fw L n) i = a ∧ hh n D F (fw L n) j = b ∧ L (16 * i + j) ≠ 0 then 1 else 0) := by
  have hn := h.1
  have h2 := (h.2.1 (16 * i + j) (by omega)).1
  have h3 := (h.2.1 (16 * i + j) (by omega)).2
  have h4 := h.2.2.2.2.2.2.2 i hi
  have h5 := h.2.2.2.2.2.2.2 j hj
  have h6 := C_hlt (D := D) (F := F) (L := L) hi
  have h7 := C_hlt (D := D) (F := F) (L := L) hj
  simp only [Cl_isLinkBetween, C_at hn hi, C_at hn hj, nI_clamp (show i < 2 ^ 31 by omega), nI_clamp (show j < 2 ^ 31 by omega), h4, h5, nI_eq (show hh n D F (fw L n) i < 2 ^ 31 by omega) (show a < 2 ^ 31 by omega), nI_eq (show hh n D F (fw L n) j < 2 ^ 31 by omega) (show b < 2 ^ 31 by omega), Pl_len (show i < 16 by omega) (show j < 16 by omega), h2, Option.bind_some]
  by_cases e1 : hh n D F (fw L n) i = a
  · rw [if_pos e1]
    by_cases e2 : hh n D F (fw L n) j = b
    · rw [if_pos e2]
      by_cases e3 : L (16 * i + j) = 0
      · rw [if_pos (show nI (L (16 * i + j)) = 0 by rw [e3]; rfl), if_neg (fun q => q.2.2 e3)]
      · rw [if_neg (nI_ne0 (by omega) (by omega)), if_pos ⟨e1, e2, e3⟩]
    · rw [if_neg e2, if_neg (fun q => e2 q.2.1)]
  · rw [if_neg e1, if_neg (fun q => e1 q.1)]
theorem C_btw {n a b : Nat} {D : Nat → Nat} {F : Nat → Int32} {L : Nat → Nat} {sm ln dl fr hds : Nat → Int32} {g : Int32} (h : CX n D F L sm ln g dl fr hds) (ha : a < n) (hb : b < n) : Cl_cutLinksBetween hds (nI n) ln (nI a) (nI b) = some (nI (btw n L (hh n D F (fw L n)) a b)) := by
  have hn := h.1
  have h1 : it (Cl_cutLinksBetween_L5 hds (nI n) ln (nI a) (nI b)) 4096 (nI 0, 0) = some (nI (0 + btw n L (hh n D F (fw L n)) a b)) := by
    refine it_sum _ ?_ ?_ (by omega) 0
    · intro i c hi
      have h2 : it (Cl_cutLinksBetween_L20 hds (nI n) ln (nI a) (nI b) (nI i)) 4096 (nI c, 0) = some (nI (c + cnt (fun j => decide (hh n D F (fw L n) i = a ∧ hh n D F (fw L n) j = b ∧ L (16 * i + j) ≠ 0)) n)) := by
        refine it_cnt _ ?_ ?_ (by omega) c
        · intro j x hj
          simp only [Cl_cutLinksBetween_L20, Pl_places, Option.bind_some, if_neg (nI_ge hj (show n < 2 ^ 31 by omega)), C_lb h hi hj ha hb, nI_1, decide_eq_true_eq]
          by_cases e : hh n D F (fw L n) i = a ∧ hh n D F (fw L n) j = b ∧ L (16 * i + j) ≠ 0
          · rw [if_pos e, if_neg (by decide), if_pos e]
          · rw [if_neg e, if_pos rfl, if_neg e]
        · intro x
          simp only [Cl_cutLinksBetween_L20, Pl_places, Option.bind_some, if_pos (nI_le (Nat.le_refl n) (show n < 2 ^ 31 by omega))]
      simp only [Cl_cutLinksBetween_L5, Pl_places, Option.bind_some, if_neg (nI_ge hi (show n < 2 ^ 31 by omega)), h2, nI_1]
    · intro c
      simp only [Cl_cutLinksBetween_L5, Pl_places, Option.bind_some, if_pos (nI_le (Nat.le_refl n) (show n < 2 ^ 31 by omega))]
  unfold Cl_cutLinksBetween
  rw [show it (Cl_cutLinksBetween_L5 hds (nI n) ln (nI a) (nI b)) 4096 (0, 0) = some (nI (0 + btw n L (hh n D F (fw L n)) a b)) from h1, Nat.zero_add]
  rfl
theorem C_cutOf {n a : Nat} {D : Nat → Nat} {F : Nat → Int32} {L : Nat → Nat} {sm ln dl fr hds : Nat → Int32} {g : Int32} (h : CX n D F L sm ln g dl fr hds) (ha : a < n) : Cl_cutLinksOf hds (nI n) ln (nI a) = some (nI (sm2 (fun o => if o = a then 0 else btw n L (hh n D F (fw L n)) a o) n)) := by
  have hn := h.1
  have h1 : it (Cl_cutLinksOf_L4 hds (nI n) ln (nI a)) 4096 (nI 0, 0) = some (nI (0 + sm2 (fun o => if o = a then 0 else btw n L (hh n D F (fw L n)) a o) n)) := by
    refine it_sum _ ?_ ?_ (by omega) 0
    · intro o c ho
      simp only [Cl_cutLinksOf_L4, Pl_places, Option.bind_some, if_neg (nI_ge ho (show n < 2 ^ 31 by omega)), nI_eq (show o < 2 ^ 31 by omega) (show a < 2 ^ 31 by omega), C_btw h ha ho, nI_1, nI_add]
      by_cases e : o = a
      · rw [if_pos e, if_pos e]
        rfl
      · rw [if_neg e, if_neg e]
    · intro c
      simp only [Cl_cutLinksOf_L4, Pl_places, Option.bind_some, if_pos (nI_le (Nat.le_refl n) (show n < 2 ^ 31 by omega))]
  unfold Cl_cutLinksOf
  rw [show it (Cl_cutLinksOf_L4 hds (nI n) ln (nI a)) 4096 (0, 0) = _ from h1, Nat.zero_add]
  rfl
theorem sm2_le {g : Nat → Nat} {B : Nat} : ∀ k, (∀ i, i < k → g i ≤ B) → sm2 g k ≤ k * B := by
  intro k
  induction k with
  | zero => intro _; exact Nat.zero_le _
  | succ k ih =>
    intro h
    have h1 := h k (by omega)
    have h2 := ih (fun i hi => h i (by omega))
    simp only [sm2, Nat.succ_mul]
    omega
theorem btw_le {n : Nat} {L H : Nat → Nat} {a b : Nat} (hn : n ≤ 16) : btw n L H a b ≤ 256 := by
  have h := sm2_le (g := fun i => cnt (fun j => decide (H i = a ∧ H j = b ∧ L (16 * i + j) ≠ 0)) n) (B := n) n (fun i _ => cnt_le _ n)
  have h2 : n * n ≤ 16 * 16 := Nat.mul_le_mul hn hn
  unfold btw
  omega
theorem C_nb {n a : Nat} {D : Nat → Nat} {F : Nat → Int32} {L : Nat → Nat} {sm ln dl fr hds : Nat → Int32} {g : Int32} (h : CX n D F L sm ln g dl fr hds) (ha : a < n) : Cl_neighboursOf hds (nI n) ln (nI a) = some (nI (cnt (fun o => decide (o ≠ a ∧ 0 < btw n L (hh n D F (fw L n)) a o)) n)) := by
  have hn := h.1
  have h1 : it (Cl_neighboursOf_L4 hds (nI n) ln (nI a)) 4096 (nI 0, 0) = some (nI (0 + cnt (fun o => decide (o ≠ a ∧ 0 < btw n L (hh n D F (fw L n)) a o)) n)) := by
    refine it_cnt _ ?_ ?_ (by omega) 0
    · intro o c ho
      have hb := btw_le (L := L) (H := hh n D F (fw L n)) (a := a) (b := o) hn
      simp only [Cl_neighboursOf_L4, Pl_places, Option.bind_some, if_neg (nI_ge ho (show n < 2 ^ 31 by omega)), nI_eq (show o < 2 ^ 31 by omega) (show a < 2 ^ 31 by omega), C_btw h ha ho, nI_1, decide_eq_true_eq]
      by_cases e : o = a
      · rw [if_pos e, if_neg (fun q => q.1 e)]
      · rw [if_neg e]
        by_cases e2 : btw n L (hh n D F (fw L n)) a o = 0
        · rw [e2, if_pos (show nI 0 ≤ 0 by decide), if_neg (by omega)]
        · rw [if_neg (nI_nle (by omega) (by omega)), if_pos ⟨e, by omega⟩]
    · intro c
      simp only [Cl_neighboursOf_L4, Pl_places, Option.bind_some, if_pos (nI_le (Nat.le_refl n) (show n < 2 ^ 31 by omega))]
  unfold Cl_neighboursOf
  rw [show it (Cl_neighboursOf_L4 hds (nI n) ln (nI a)) 4096 (0, 0) = _ from h1, Nat.zero_add]
  rfl
/-! the shortest -/
def mnS (a : Option Nat) (l : Nat) : Option Nat := match a with
  | none => some l
  | some m => if m ≤ l then some m else some l
def encO (a : Option Nat) : Int32 := match a with
  | none => -4
  | some m => nI m
def mnR (p : Nat → Bool) (g : Nat → Nat) : Nat → Option Nat → Option Nat
  | 0, a => a
  | k + 1, a => if p k = true then mnS (mnR p g k a) (g k) else mnR p g k a
def okO (a : Option Nat) : Prop := ∀ m, a = some m → m ≤ 9
theorem okO_S {a : Option Nat} {l : Nat} (h : okO a) (hl : l ≤ 9) : okO (mnS a l) := by
  intro m hm
  unfold mnS at hm
  cases a with
  | none => cases hm; exact hl
  | some x =>
    have := h x rfl
    dsimp only at hm
    split at hm <;> (cases hm; assumption)
theorem okO_R {p : Nat → Bool} {g : Nat → Nat} : ∀ k a, okO a → (∀ i, i < k → g i ≤ 9) → okO (mnR p g k a) := by
  intro k
  induction k with
  | zero => intro a h _; exact h
  | succ k ih =>
    intro a h hg
    have h1 := ih a h (fun i hi => hg i (by omega))
    simp only [mnR]
    split
    · exact okO_S h1 (hg k (by omega))
    · exact h1
theorem encO_S {a : Option Nat} {l : Nat} (h : okO a) (hl : l ≤ 9) : encO (mnS a l) = if encO a = -4 then nI l else if encO a ≤ nI l then encO a else nI l := by
  cases a with
  | none => rfl
  | some m =>
    have hm := h m rfl
    show encO (if m ≤ l then some m else some l) = if nI m = -4 then nI l else if nI m ≤ nI l then nI m else nI l
    rw [if_neg (nI_n4 (by omega))]
    by_cases e : m ≤ l
    · rw [if_pos e, if_pos (nI_le e (by omega))]
      rfl
    · rw [if_neg e, if_neg (nI_ge (by omega) (by omega))]
      rfl
def mn2 (n : Nat) (p : Nat → Nat → Bool) (g : Nat → Nat → Nat) : Nat → Option Nat
  | 0 => none
  | i + 1 => mnR (p i) (g i) n (mn2 n p g i)
theorem okO_2 {n : Nat} {p : Nat → Nat → Bool} {g : Nat → Nat → Nat} : ∀ k, (∀ i j, i < k → j < n → g i j ≤ 9) → okO (mn2 n p g k) := by
  intro k
  induction k with
  | zero => intro _ m hm; cases hm
  | succ k ih =>
    intro h
    exact okO_R n _ (ih (fun i j hi hj => h i j (by omega) hj)) (fun j hj => h k j (by omega) hj)
def lbp (L : Nat → Nat) (H : Nat → Nat) (a b : Nat) (i j : Nat) : Bool := decide (H i = a ∧ H j = b ∧ L (16 * i + j) ≠ 0)
theorem C_short {n a b : Nat} {D : Nat → Nat} {F : Nat → Int32} {L : Nat → Nat} {sm ln dl fr hds : Nat → Int32} {g : Int32} (h : CX n D F L sm ln g dl fr hds) (ha : a < n) (hb : b < n) : Cl_shortestBetween hds (nI n) ln (nI a) (nI b) = some (encO (mn2 n (lbp L (hh n D F (fw L n)) a b) (fun i j => L (16 * i + j)) n)) := by
  have hn := h.1
  have hL := h.2.1
  have hg : ∀ i j, i < n → j < n → L (16 * i + j) ≤ 9 := fun i j hi hj => (hL _ (by omega)).2
  have h1 : it (Cl_shortestBetween_L6 hds (nI n) ln (nI a) (nI b)) 4096 (encO (mn2 n (lbp L (hh n D F (fw L n)) a b) (fun i j => L (16 * i + j)) 0), nI 0) = some (encO (mn2 n (lbp L (hh n D F (fw L n)) a b) (fun i j => L (16 * i + j)) n)) := by
    refine it_run (F := 4096) (fun i => (encO (mn2 n (lbp L (hh n D F (fw L n)) a b) (fun i j => L (16 * i + j)) i), nI i)) n _ ?_ ?_ (by omega)
    · intro i hi
      have hok := okO_2 (p := lbp L (hh n D F (fw L n)) a b) (g := fun i j => L (16 * i + j)) (n := n) i (fun x j hx hj => hg x j (by omega) hj)
      generalize hx : mn2 n (lbp L (hh n D F (fw L n)) a b) (fun i j => L (16 * i + j)) i = x at hok
      have h2 : it (Cl_shortestBetween_L21 hds (nI n) ln (nI a) (nI b) (nI i)) 4096 (encO (mnR (lbp L (hh n D F (fw L n)) a b i) (fun j => L (16 * i + j)) 0 x), nI 0) = some (encO (mnR (lbp L (hh n D F (fw L n)) a b i) (fun j => L (16 * i + j)) n x)) := by
        refine it_run (F := 4096) (fun j => (encO (mnR (lbp L (hh n D F (fw L n)) a b i) (fun j => L (16 * i + j)) j x), nI j)) n _ ?_ ?_ (by omega)
        · intro j hj
          have hok2 := okO_R (p := lbp L (hh n D F (fw L n)) a b i) (g := fun j => L (16 * i + j)) j x hok (fun k hk => hg i k hi (by omega))
          have h3 := (hL (16 * i + j) (by omega)).1
          simp only [Cl_shortestBetween_L21, Pl_places, Option.bind_some, if_neg (nI_ge hj (show n < 2 ^ 31 by omega)), C_lb h hi hj ha hb, Pl_len (show i < 16 by omega) (show j < 16 by omega), h3, nI_1, mnR]
          by_cases e : hh n D F (fw L n) i = a ∧ hh n D F (fw L n) j = b ∧ L (16 * i + j) ≠ 0
          · rw [if_pos e, if_neg (by decide), if_pos (show lbp L (hh n D F (fw L n)) a b i j = true from decide_eq_true e), encO_S hok2 (hg i j hi hj)]
            split
            · rfl
            · split <;> rfl
          · rw [if_neg e, if_pos rfl, if_neg (show ¬ lbp L (hh n D F (fw L n)) a b i j = true by unfold lbp; simpa using e)]
        · simp only [Cl_shortestBetween_L21, Pl_places, Option.bind_some, if_pos (nI_le (Nat.le_refl n) (show n < 2 ^ 31 by omega))]
      simp only [Cl_shortestBetween_L6, Pl_places, Option.bind_some, if_neg (nI_ge hi (show n < 2 ^ 31 by omega)), nI_1, mn2, hx]
      rw [show it (Cl_shortestBetween_L21 hds (nI n) ln (nI a) (nI b) (nI i)) 4096 (encO x, 0) = _ from h2]
      rfl
    · simp only [Cl_shortestBetween_L6, Pl_places, Option.bind_some, if_pos (nI_le (Nat.le_refl n) (show n < 2 ^ 31 by omega))]
  unfold Cl_shortestBetween
  rw [show it (Cl_shortestBetween_L6 hds (nI n) ln (nI a) (nI b)) 4096 (-4, 0) = _ from h1]
  rfl
/-! heads by their numbers -/
theorem C_hn {n c : Nat} {D : Nat → Nat} {F : Nat → Int32} {L : Nat → Nat} {sm ln dl fr hds : Nat → Int32} {g : Int32} (h : CX n D F L sm ln g dl fr hds) (hc : c < 2 ^ 31) : Cl_headNumbered hds (nI n) (nI c) = some (fnv (fun i => decide (hh n D F (fw L n) i = i ∧ cnt (ish n D F (fw L n)) i = c)) n) := by
  have hn := h.1
  have h1 := it_fnd (b := Cl_headNumbered_L2 hds (nI n) (nI c)) (fun i => decide (hh n D F (fw L n) i = i ∧ cnt (ish n D F (fw L n)) i = c)) nI (n := n) ?_ ?_ (by omega)
  · unfold Cl_headNumbered
    rw [h1, Option.bind_some]
    exact fno_v
  · intro i hi
    have h2 := cnt_le (ish n D F (fw L n)) (hh n D F (fw L n) i)
    have h3 := C_hlt (D := D) (F := F) (L := L) hi
    simp only [Cl_headNumbered_L2, Pl_places, Option.bind_some, if_neg (nI_ge hi (show n < 2 ^ 31 by omega)), C_isHead h hi, C_number h hi, nI_1, nI_eq (show cnt (ish n D F (fw L n)) (hh n D F (fw L n) i) < 2 ^ 31 by omega) hc, ish, decide_eq_true_eq]
    by_cases e : hh n D F (fw L n) i = i
    · rw [if_pos e, if_neg (by decide)]
      by_cases e2 : cnt (ish n D F (fw L n)) i = c
      · rw [e, if_pos e2, if_pos ⟨rfl, e2⟩]
      · rw [e, if_neg e2, if_neg (fun q => e2 q.2)]
    · rw [if_neg e, if_pos rfl, if_neg (fun q => e q.1)]
  · simp only [Cl_headNumbered_L2, Pl_places, Option.bind_some, if_pos (nI_le (Nat.le_refl n) (show n < 2 ^ 31 by omega))]
/-! members -/
def mbI (p : Nat → Bool) : Nat → Int32
  | 0 => 0
  | k + 1 => if p k = true then mbI p k ||| (1 <<< (nI k &&& 31)) else mbI p k
theorem C_mem {n x : Nat} {D : Nat → Nat} {F : Nat → Int32} {L : Nat → Nat} {sm ln dl fr hds : Nat → Int32} {g : Int32} (h : CX n D F L sm ln g dl fr hds) (hx : x < n) : Cl_membersOf hds (nI n) (nI x) = some (mbI (fun i => decide (hh n D F (fw L n) i = x)) n) := by
  have hn := h.1
  have h1 : it (Cl_membersOf_L4 hds (nI n) (nI x)) 4096 (mbI (fun i => decide (hh n D F (fw L n) i = x)) 0, nI 0) = some (mbI (fun i => decide (hh n D F (fw L n) i = x)) n) := by
    refine it_run (F := 4096) (fun i => (mbI (fun i => decide (hh n D F (fw L n) i = x)) i, nI i)) n _ ?_ ?_ (by omega)
    · intro i hi
      have h4 := h.2.2.2.2.2.2.2 i hi
      have h6 := C_hlt (D := D) (F := F) (L := L) hi
      simp only [Cl_membersOf_L4, Pl_places, Option.bind_some, if_neg (nI_ge hi (show n < 2 ^ 31 by omega)), C_at hn hi, nI_clamp (show i < 2 ^ 31 by omega), h4, nI_eq (show hh n D F (fw L n) i < 2 ^ 31 by omega) (show x < 2 ^ 31 by omega), nI_1, mbI, decide_eq_true_eq]
      split <;> rfl
    · simp only [Cl_membersOf_L4, Pl_places, Option.bind_some, if_pos (nI_le (Nat.le_refl n) (show n < 2 ^ 31 by omega))]
  unfold Cl_membersOf
  rw [show it (Cl_membersOf_L4 hds (nI n) (nI x)) 4096 (0, 0) = _ from h1]
  rfl
/-! links of a place, delays that are told -/
theorem C_linksAt {n i : Nat} (hn : n ≤ 16) (hi : i < n) {ln : Nat → Int32} {L : Nat → Nat} (hL : okL ln L) : Pl_linksAt (nI n) ln (nI i) = some (nI (cnt (fun j => decide (L (16 * i + j) ≠ 0)) n)) := by
  have h1 : it (Pl_linksAt_L4 (nI n) ln (nI i)) 4096 (nI 0, 0) = some (nI (0 + cnt (fun j => decide (L (16 * i + j) ≠ 0)) n)) := by
    refine it_cnt _ ?_ ?_ (by omega) 0
    · intro j a hj
      have h2 := (hL (16 * i + j) (by omega)).1
      have h3 := (hL (16 * i + j) (by omega)).2
      simp only [Pl_linksAt_L4, if_neg (nI_ge hj (show n < 2 ^ 31 by omega)), Pl_len (show i < 16 by omega) (show j < 16 by omega), h2, Option.bind_some, nI_1, decide_eq_true_eq]
      by_cases e : L (16 * i + j) = 0
      · rw [if_pos (show nI (L (16 * i + j)) = 0 by rw [e]; rfl), if_neg (fun q => q e)]
      · rw [if_neg (nI_ne0 (by omega) (by omega)), if_pos e]
    · intro a
      simp only [Pl_linksAt_L4, if_pos (nI_le (Nat.le_refl n) (show n < 2 ^ 31 by omega))]
  unfold Pl_linksAt
  rw [show it (Pl_linksAt_L4 (nI n) ln (nI i)) 4096 (0, 0) = _ from h1, Nat.zero_add]
  rfl
theorem C_told {n : Nat} (hn : n ≤ 16) {told dls frs : Nat → Int32} {t : Nat → Nat} {f : Nat → Int32} (hC : okC told dls frs t f) : Pl_toldDelays (nI n) told = some (nI (cnt (fun i => decide (t i ≠ 0)) n)) := by
  have h1 : it (Pl_toldDelays_L4 (nI n) told) 4096 (nI 0, 0) = some (nI (0 + cnt (fun i => decide (t i ≠ 0)) n)) := by
    refine it_cnt _ ?_ ?_ (by omega) 0
    · intro i a hi
      simp only [Pl_toldDelays_L4, if_neg (nI_ge hi (show n < 2 ^ 31 by omega)), C_at hn hi, nI_clamp (show i < 2 ^ 31 by omega), (hC i (by omega)).1, nI_1, decide_eq_true_eq]
      by_cases e : t i = 0
      · rw [if_pos e, if_pos rfl, if_neg (fun q => q e)]
      · rw [if_neg e, if_neg (by decide), if_pos e]
    · intro a
      simp only [Pl_toldDelays_L4, if_pos (nI_le (Nat.le_refl n) (show n < 2 ^ 31 by omega))]
  unfold Pl_toldDelays
  rw [show it (Pl_toldDelays_L4 (nI n) told) 4096 (0, 0) = _ from h1, Nat.zero_add]
  rfl
