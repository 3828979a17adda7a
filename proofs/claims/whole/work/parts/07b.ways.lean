/-! the ways of both: what the arrays of sums hold -/
def okL (a : Nat → Int32) (L : Nat → Nat) : Prop := ∀ k, k < 256 → a k = nI (L k) ∧ L k ≤ 9
theorem upd_ij {f : Nat → Int32} {x : Int32} {i j a b : Nat} (hj : j < 16) (hb : b < 16) : upd f (16 * i + j) x (16 * a + b) = if a = i ∧ b = j then x else f (16 * a + b) := by
  by_cases e : a = i ∧ b = j
  · obtain ⟨rfl, rfl⟩ := e
    rw [if_pos ⟨rfl, rfl⟩, pk_us]
  · rw [if_neg e, pk_un (by omega)]
theorem fw_top {L : Nat → Nat} (hL : ∀ k, k < 256 → L k ≤ 9) {k i j : Nat} (hi : i < 16) (hj : j < 16) : fw L k i j ≤ 1000000 := Nat.le_trans (fw_d0 L k i j) (d0_le (hL _ (by omega)))
theorem MW_a {n i j : Nat} (hn : n ≤ 16) (hi : i < n) (hj : j < n) {now dist : Nat → Int32} {L : Nat → Nat} (hL : okL now L) : Mo_ways_L12 (nI n) now (nI i) (nI j, dist) = some (.inl (nI (j + 1), upd dist (16 * i + j) (nI (d0 L i j)))) := by
  have h1 : ¬ nI n ≤ nI j := nI_ge hj (by omega)
  have h2 := (hL (16 * i + j) (by omega)).1
  have h3 := (hL (16 * i + j) (by omega)).2
  simp only [Mo_ways_L12, ix_b, if_neg h1, gk_n (show 16 * i + j < 289 by omega) (by decide), gk_n (show 16 * i + j < 256 by omega) (by decide), nI_clamp (show 16 * i + j < 2 ^ 31 by omega), nI_1, h2]
  unfold d0
  by_cases e : i = j
  · rw [if_pos (show nI i = nI j by rw [e]), if_pos e]
    rfl
  · rw [if_neg (show ¬ nI i = nI j by rw [nI_eq (by omega) (by omega)]; exact e), if_neg e]
    by_cases e2 : L (16 * i + j) = 0
    · rw [e2, if_pos (show nI 0 ≤ 0 by decide), if_pos rfl]
      rfl
    · rw [if_neg (nI_nle (by omega) (by omega)), if_neg e2]
theorem MW_b {n i : Nat} (hn : n ≤ 16) (hi : i < n) {now : Nat → Int32} {L : Nat → Nat} (hL : okL now L) (dist : Nat → Int32) (hp : ∀ a b, a < n → b < n → a < i → dist (16 * a + b) = nI (d0 L a b)) :
    ∃ d2, it (Mo_ways_L12 (nI n) now (nI i)) 4096 (0, dist) = some d2 ∧ ∀ a b, a < n → b < n → a < i + 1 → d2 (16 * a + b) = nI (d0 L a b) := by
  refine it_inv (F := 4096) (fun (j : Nat) (s : Int32 × (Nat → Int32)) => s.1 = nI j ∧ ∀ a b, a < n → b < n → (a < i ∨ a = i ∧ b < j) → s.2 (16 * a + b) = nI (d0 L a b)) (fun (t : Nat → Int32) => ∀ a b, a < n → b < n → a < i + 1 → t (16 * a + b) = nI (d0 L a b)) n ?_ ?_ ⟨rfl, fun a b h1 h2 h3 => hp a b h1 h2 (by omega)⟩ (by omega)
  · intro j s hj h
    obtain ⟨v, ds⟩ := s
    obtain ⟨hv, h⟩ := h
    dsimp only at hv h
    subst hv
    refine Or.inl ⟨_, MW_a hn hi hj hL, rfl, ?_⟩
    intro a b ha hb hab
    show upd ds (16 * i + j) _ (16 * a + b) = _
    rw [upd_ij (by omega) (by omega)]
    by_cases e : a = i ∧ b = j
    · rw [if_pos e, e.1, e.2]
    · rw [if_neg e]
      exact h a b ha hb (by omega)
  · intro s h
    obtain ⟨v, ds⟩ := s
    obtain ⟨hv, h⟩ := h
    dsimp only at hv h
    subst hv
    refine ⟨ds, ?_, fun a b ha hb hab => h a b ha hb (by omega)⟩
    simp only [Mo_ways_L12]
    rw [if_pos (nI_le (Nat.le_refl n) (by omega))]
theorem MW_c {n : Nat} (hn : n ≤ 16) {now : Nat → Int32} {L : Nat → Nat} (hL : okL now L) (dist : Nat → Int32) :
    ∃ d2, it (Mo_ways_L2 (nI n) now) 4096 (0, dist) = some d2 ∧ ∀ a b, a < n → b < n → d2 (16 * a + b) = nI (fw L 0 a b) := by
  refine it_inv (F := 4096) (fun (i : Nat) (s : Int32 × (Nat → Int32)) => s.1 = nI i ∧ ∀ a b, a < n → b < n → a < i → s.2 (16 * a + b) = nI (d0 L a b)) (fun (t : Nat → Int32) => ∀ a b, a < n → b < n → t (16 * a + b) = nI (fw L 0 a b)) n ?_ ?_ ⟨rfl, fun a b h1 h2 h3 => absurd h3 (Nat.not_lt_zero _)⟩ (by omega)
  · intro i s hi h
    obtain ⟨v, ds⟩ := s
    obtain ⟨hv, h⟩ := h
    dsimp only at hv h
    subst hv
    obtain ⟨d2, h1, h2⟩ := MW_b hn hi hL ds h
    refine Or.inl ⟨(nI (i + 1), d2), ?_, rfl, h2⟩
    simp only [Mo_ways_L2]
    rw [if_neg (nI_ge hi (by omega)), h1, ← nI_1]
    rfl
  · intro s h
    obtain ⟨v, ds⟩ := s
    obtain ⟨hv, h⟩ := h
    dsimp only at hv h
    subst hv
    refine ⟨ds, ?_, fun a b ha hb => h a b ha hb ha⟩
    simp only [Mo_ways_L2]
    rw [if_pos (nI_le (Nat.le_refl n) (by omega))]
/-- half way through turn k: rows below i, and of row i what is ahead of j, are of turn k + 1 -/
def hwy (L : Nat → Nat) (n k i j : Nat) (d : Nat → Int32) : Prop := ∀ a b, a < n → b < n → d (16 * a + b) = nI (if a < i ∨ a = i ∧ b < j then fw L (k + 1) a b else fw L k a b)
theorem hwy_col {L : Nat → Nat} {n k i j a : Nat} {d : Nat → Int32} (h : hwy L n k i j d) (ha : a < n) (hk : k < n) : d (16 * a + k) = nI (fw L k a k) := by
  rw [h a k ha hk, fw_row]
  split <;> rfl
theorem hwy_row {L : Nat → Nat} {n k i j b : Nat} {d : Nat → Int32} (h : hwy L n k i j d) (hb : b < n) (hk : k < n) : d (16 * k + b) = nI (fw L k k b) := by
  rw [h k b hk hb, fw_col]
  split <;> rfl
theorem hwy_at {L : Nat → Nat} {n k i j : Nat} {d : Nat → Int32} (h : hwy L n k i j d) (hi : i < n) (hj : j < n) : d (16 * i + j) = nI (fw L k i j) := by
  rw [h i j hi hj, if_neg (by omega)]
theorem hwy_put {L : Nat → Nat} {n k i j : Nat} {d : Nat → Int32} (hn : n ≤ 16) (h : hwy L n k i j d) (hi : i < n) (hj : j < n) : hwy L n k i (j + 1) (upd d (16 * i + j) (nI (fw L (k + 1) i j))) := by
  intro a b ha hb
  rw [upd_ij (by omega) (by omega)]
  by_cases e : a = i ∧ b = j
  · rw [if_pos e, e.1, e.2, if_pos (by omega)]
  · rw [if_neg e, h a b ha hb]
    by_cases e2 : a < i ∨ a = i ∧ b < j
    · rw [if_pos e2, if_pos (by omega)]
    · rw [if_neg e2, if_neg (by omega)]
theorem hwy_same {L : Nat → Nat} {n k i j : Nat} {d : Nat → Int32} (h : hwy L n k i j d) (e : fw L (k + 1) i j = fw L k i j) : hwy L n k i (j + 1) d := by
  intro a b ha hb
  rw [h a b ha hb]
  by_cases e2 : a < i ∨ a = i ∧ b < j
  · rw [if_pos e2, if_pos (by omega)]
  · rw [if_neg e2]
    by_cases e3 : a = i ∧ b = j
    · rw [if_pos (by omega), e3.1, e3.2, e]
    · rw [if_neg (by omega)]
theorem hwy_next {L : Nat → Nat} {n k i : Nat} {d : Nat → Int32} (h : hwy L n k i n d) : hwy L n k (i + 1) 0 d := by
  intro a b ha hb
  rw [h a b ha hb]
  by_cases e2 : a < i ∨ a = i ∧ b < n
  · rw [if_pos e2, if_pos (by omega)]
  · rw [if_neg e2, if_neg (by omega)]
theorem hwy_turn {L : Nat → Nat} {n k : Nat} {d : Nat → Int32} (h : hwy L n k n 0 d) : hwy L n (k + 1) 0 0 d := by
  intro a b ha hb
  rw [h a b ha hb, if_pos (by omega), if_neg (by omega)]
theorem hwy_sums {L : Nat → Nat} {k i j m : Nat} (hL : ∀ k, k < 256 → L k ≤ 9) (hi : i < 16) (hj : j < 16) (hm : m < 16) : (nI (fw L k i m) + nI (fw L k m j) = nI (fw L k i m + fw L k m j)) ∧ fw L k i m + fw L k m j < 2 ^ 31 := by
  have h1 := fw_top hL (k := k) hi hm
  have h2 := fw_top hL (k := k) hm hj
  exact ⟨nI_add _ _, by omega⟩
theorem MW_d {n k i j : Nat} (hn : n ≤ 16) (hk : k < n) (hi : i < n) (hj : j < n) {L : Nat → Nat} (hL : ∀ k, k < 256 → L k ≤ 9) {d : Nat → Int32} (h : hwy L n k i j d) : ∃ d2, Mo_ways_L96 (nI n) (nI k) (nI i) (nI j, d) = some (.inl (nI (j + 1), d2)) ∧ hwy L n k i (j + 1) d2 := by
  have h1 : ¬ nI n ≤ nI j := nI_ge hj (by omega)
  obtain ⟨e1, e2⟩ := hwy_sums (k := k) hL (show i < 16 by omega) (show j < 16 by omega) (show k < 16 by omega)
  have e3 := fw_top hL (k := k) (show i < 16 by omega) (show j < 16 by omega)
  refine ⟨upd d (16 * i + j) (nI (fw L (k + 1) i j)), ?_, hwy_put hn h hi hj⟩
  simp only [Mo_ways_L96, ix_b, if_neg h1, gk_n (show 16 * i + j < 256 by omega) (by decide), gk_n (show 16 * i + k < 256 by omega) (by decide), gk_n (show 16 * k + j < 256 by omega) (by decide), nI_clamp (show 16 * i + j < 2 ^ 31 by omega), nI_clamp (show 16 * i + k < 2 ^ 31 by omega), nI_clamp (show 16 * k + j < 2 ^ 31 by omega), nI_1, hwy_col h hi hk, hwy_row h hj hk, hwy_at h hi hj, e1, nI_leI (show fw L k i j < 2 ^ 31 by omega) e2]
  simp only [fw]
  by_cases e : fw L k i k + fw L k k j < fw L k i j
  · rw [if_neg (by omega), if_pos e]
  · rw [if_pos (by omega), if_neg e]
theorem MW_e {n k i : Nat} (hn : n ≤ 16) (hk : k < n) (hi : i < n) {L : Nat → Nat} (hL : ∀ k, k < 256 → L k ≤ 9) (d : Nat → Int32) (h : hwy L n k i 0 d) : ∃ d2, it (Mo_ways_L96 (nI n) (nI k) (nI i)) 4096 (0, d) = some d2 ∧ hwy L n k (i + 1) 0 d2 := by
  refine it_inv (F := 4096) (fun (j : Nat) (s : Int32 × (Nat → Int32)) => s.1 = nI j ∧ hwy L n k i j s.2) (fun (t : Nat → Int32) => hwy L n k (i + 1) 0 t) n ?_ ?_ ⟨rfl, h⟩ (by omega)
  · intro j s hj h
    obtain ⟨v, ds⟩ := s
    obtain ⟨hv, h⟩ := h
    dsimp only at hv h
    subst hv
    obtain ⟨d2, h1, h2⟩ := MW_d hn hk hi hj hL h
    exact Or.inl ⟨_, h1, rfl, h2⟩
  · intro s h
    obtain ⟨v, ds⟩ := s
    obtain ⟨hv, h⟩ := h
    dsimp only at hv h
    subst hv
    refine ⟨ds, ?_, hwy_next h⟩
    simp only [Mo_ways_L96]
    rw [if_pos (nI_le (Nat.le_refl n) (by omega))]
theorem MW_f {n k : Nat} (hn : n ≤ 16) (hk : k < n) {L : Nat → Nat} (hL : ∀ k, k < 256 → L k ≤ 9) (d : Nat → Int32) (h : hwy L n k 0 0 d) : ∃ d2, it (Mo_ways_L86 (nI n) (nI k)) 4096 (0, d) = some d2 ∧ hwy L n (k + 1) 0 0 d2 := by
  refine it_inv (F := 4096) (fun (i : Nat) (s : Int32 × (Nat → Int32)) => s.1 = nI i ∧ hwy L n k i 0 s.2) (fun (t : Nat → Int32) => hwy L n (k + 1) 0 0 t) n ?_ ?_ ⟨rfl, h⟩ (by omega)
  · intro i s hi h
    obtain ⟨v, ds⟩ := s
    obtain ⟨hv, h⟩ := h
    dsimp only at hv h
    subst hv
    obtain ⟨d2, h1, h2⟩ := MW_e hn hk hi hL ds h
    refine Or.inl ⟨(nI (i + 1), d2), ?_, rfl, h2⟩
    simp only [Mo_ways_L86]
    rw [if_neg (nI_ge hi (by omega)), h1, ← nI_1]
    rfl
  · intro s h
    obtain ⟨v, ds⟩ := s
    obtain ⟨hv, h⟩ := h
    dsimp only at hv h
    subst hv
    refine ⟨ds, ?_, hwy_turn h⟩
    simp only [Mo_ways_L86]
    rw [if_pos (nI_le (Nat.le_refl n) (by omega))]
/-- the reference's ways -/
theorem MW {n : Nat} (hn : n ≤ 16) {now : Nat → Int32} {L : Nat → Nat} (hL : okL now L) (dist : Nat → Int32) : ∃ d2, Mo_ways (nI n) now dist = some d2 ∧ ∀ a b, a < n → b < n → d2 (16 * a + b) = nI (fw L n a b) := by
  obtain ⟨d1, h1, h2⟩ := MW_c hn hL dist
  have hL9 : ∀ k, k < 256 → L k ≤ 9 := fun k hk => (hL k hk).2
  have h3 : ∃ d2, it (Mo_ways_L76 (nI n)) 4096 (0, d1) = some d2 ∧ hwy L n n 0 0 d2 := by
    refine it_inv (F := 4096) (fun (k : Nat) (s : Int32 × (Nat → Int32)) => s.1 = nI k ∧ hwy L n k 0 0 s.2) (fun (t : Nat → Int32) => hwy L n n 0 0 t) n ?_ ?_ ⟨rfl, fun a b ha hb => by rw [if_neg (by omega)]; exact h2 a b ha hb⟩ (by omega)
    · intro k s hk h
      obtain ⟨v, ds⟩ := s
      obtain ⟨hv, h⟩ := h
      dsimp only at hv h
      subst hv
      obtain ⟨d2, h1, h2⟩ := MW_f hn hk hL9 ds h
      refine Or.inl ⟨(nI (k + 1), d2), ?_, rfl, h2⟩
      simp only [Mo_ways_L76]
      rw [if_neg (nI_ge hk (by omega)), h1, ← nI_1]
      rfl
    · intro s h
      obtain ⟨v, ds⟩ := s
      obtain ⟨hv, h⟩ := h
      dsimp only at hv h
      subst hv
      refine ⟨ds, ?_, h⟩
      simp only [Mo_ways_L76]
      rw [if_pos (nI_le (Nat.le_refl n) (by omega))]
  obtain ⟨d2, h4, h5⟩ := h3
  refine ⟨d2, ?_, fun a b ha hb => by rw [h5 a b ha hb, if_neg (by omega)]⟩
  unfold Mo_ways
  rw [h1]
  show Option.bind (it (Mo_ways_L76 (nI n)) 4096 (0, d1)) _ = _
  rw [h4]
  rfl
