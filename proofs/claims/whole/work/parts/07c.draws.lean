/-! the class's ways; draws; delays and fractions of both -/
theorem Pl_len {i j : Nat} (hi : i < 16) (hj : j < 16) (a : Nat → Int32) : Pl_lengthOf a (nI i) (nI j) = some (a (16 * i + j)) := by
  unfold Pl_lengthOf
  rw [ix_a, gk_n (by omega) (by decide), nI_clamp (by omega)]
theorem Pa_bet {i j : Nat} (hi : i < 16) (hj : j < 16) (a : Nat → Int32) : Pa_between a (nI i) (nI j) = some (a (16 * i + j)) := by
  unfold Pa_between
  rw [ix_a, gk_n (by omega) (by decide), nI_clamp (by omega)]
theorem PW_a {n i j : Nat} (hn : n ≤ 16) (hi : i < n) (hj : j < n) {now dist : Nat → Int32} {L : Nat → Nat} (hL : okL now L) : Pa_measure_L15 now (nI n) (nI i) (nI j, dist) = some (.inl (nI (j + 1), upd dist (16 * i + j) (nI (d0 L i j)))) := by
  have h1 : ¬ nI n ≤ nI j := nI_ge hj (by omega)
  have h2 := (hL (16 * i + j) (by omega)).1
  have h3 := (hL (16 * i + j) (by omega)).2
  simp only [Pa_measure_L15, ix_a, if_neg h1, Pl_len (show i < 16 by omega) (show j < 16 by omega), Option.bind_some, gk_n (show 16 * i + j < 256 by omega) (by decide), nI_clamp (show 16 * i + j < 2 ^ 31 by omega), nI_1, h2]
  unfold d0
  by_cases e : i = j
  · rw [if_pos (show nI i = nI j by rw [e]), if_pos e]
    rfl
  · rw [if_neg (show ¬ nI i = nI j by rw [nI_eq (by omega) (by omega)]; exact e), if_neg e]
    by_cases e2 : L (16 * i + j) = 0
    · rw [e2, if_pos (show nI 0 = 0 from rfl), if_pos rfl]
      rfl
    · rw [if_neg (nI_ne0 (by omega) (by omega)), if_neg e2]
theorem PW_b {n i : Nat} (hn : n ≤ 16) (hi : i < n) {now : Nat → Int32} {L : Nat → Nat} (hL : okL now L) (dist : Nat → Int32) (hp : ∀ a b, a < n → b < n → a < i → dist (16 * a + b) = nI (d0 L a b)) :
    ∃ d2, it (Pa_measure_L15 now (nI n) (nI i)) 4096 (0, dist) = some d2 ∧ ∀ a b, a < n → b < n → a < i + 1 → d2 (16 * a + b) = nI (d0 L a b) := by
  refine it_inv (F := 4096) (fun (j : Nat) (s : Int32 × (Nat → Int32)) => s.1 = nI j ∧ ∀ a b, a < n → b < n → (a < i ∨ a = i ∧ b < j) → s.2 (16 * a + b) = nI (d0 L a b)) (fun (t : Nat → Int32) => ∀ a b, a < n → b < n → a < i + 1 → t (16 * a + b) = nI (d0 L a b)) n ?_ ?_ ⟨rfl, fun a b h1 h2 h3 => hp a b h1 h2 (by omega)⟩ (by omega)
  · intro j s hj h
    obtain ⟨v, ds⟩ := s
    obtain ⟨hv, h⟩ := h
    dsimp only at hv h
    subst hv
    refine Or.inl ⟨_, PW_a hn hi hj hL, rfl, ?_⟩
    intro a b ha hb hab
    show upd ds (16 * i + j) _ (16 * a + b) = _
    rw [upd_ij (by omega) (by omega)]
    by_cases e : a = i ∧ b = j
    · rw [if_pos e, e.1, e.2]
    · rw [if_neg e]
      exact h a b ha hb (by omega)
  · intro s h
    obtain ⟨v, ds⟩ := s
    obtain ⟨hv, h⟩ := h
    dsimp only at hv h
    subst hv
    refine ⟨ds, ?_, fun a b ha hb hab => h a b ha hb (by omega)⟩
    simp only [Pa_measure_L15]
    rw [if_pos (nI_le (Nat.le_refl n) (by omega))]
theorem PW_c {n : Nat} (hn : n ≤ 16) {now : Nat → Int32} {L : Nat → Nat} (hL : okL now L) (dist : Nat → Int32) :
    ∃ d2, it (Pa_measure_L7 now (nI n)) 4096 (0, dist) = some d2 ∧ ∀ a b, a < n → b < n → d2 (16 * a + b) = nI (fw L 0 a b) := by
  refine it_inv (F := 4096) (fun (i : Nat) (s : Int32 × (Nat → Int32)) => s.1 = nI i ∧ ∀ a b, a < n → b < n → a < i → s.2 (16 * a + b) = nI (d0 L a b)) (fun (t : Nat → Int32) => ∀ a b, a < n → b < n → t (16 * a + b) = nI (fw L 0 a b)) n ?_ ?_ ⟨rfl, fun a b h1 h2 h3 => absurd h3 (Nat.not_lt_zero _)⟩ (by omega)
  · intro i s hi h
    obtain ⟨v, ds⟩ := s
    obtain ⟨hv, h⟩ := h
    dsimp only at hv h
    subst hv
    obtain ⟨d2, h1, h2⟩ := PW_b hn hi hL ds h
    refine Or.inl ⟨(nI (i + 1), d2), ?_, rfl, h2⟩
    simp only [Pa_measure_L7]
    rw [if_neg (nI_ge hi (by omega)), h1, ← nI_1]
    rfl
  · intro s h
    obtain ⟨v, ds⟩ := s
    obtain ⟨hv, h⟩ := h
    dsimp only at hv h
    subst hv
    refine ⟨ds, ?_, fun a b ha hb => h a b ha hb ha⟩
    simp only [Pa_measure_L7]
    rw [if_pos (nI_le (Nat.le_refl n) (by omega))]
theorem PW_d {n k i j : Nat} (hn : n ≤ 16) (hk : k < n) (hi : i < n) (hj : j < n) {L : Nat → Nat} (hL : ∀ k, k < 256 → L k ≤ 9) {d : Nat → Int32} (h : hwy L n k i j d) : ∃ d2, Pa_shortenFrom_L3 (nI i) (nI k) (nI n) (nI j, d) = some (.inl (nI (j + 1), d2)) ∧ hwy L n k i (j + 1) d2 := by
  have h1 : ¬ nI n ≤ nI j := nI_ge hj (by omega)
  obtain ⟨e1, e2⟩ := hwy_sums (k := k) hL (show i < 16 by omega) (show j < 16 by omega) (show k < 16 by omega)
  have e3 := fw_top hL (k := k) (show i < 16 by omega) (show j < 16 by omega)
  simp only [Pa_shortenFrom_L3, ix_a, if_neg h1, Pa_bet (show i < 16 by omega) (show j < 16 by omega), Pa_bet (show i < 16 by omega) (show k < 16 by omega), Pa_bet (show k < 16 by omega) (show j < 16 by omega), Option.bind_some, gk_n (show 16 * i + j < 256 by omega) (by decide), nI_clamp (show 16 * i + j < 2 ^ 31 by omega), nI_1, hwy_col h hi hk, hwy_row h hj hk, hwy_at h hi hj, e1, nI_leI (show fw L k i j < 2 ^ 31 by omega) e2]
  by_cases e : fw L k i k + fw L k k j < fw L k i j
  · rw [if_neg (by omega)]
    refine ⟨_, rfl, ?_⟩
    have h5 := hwy_put hn h hi hj
    simp only [fw] at h5
    rw [if_pos e] at h5
    exact h5
  · rw [if_pos (by omega)]
    refine ⟨_, rfl, hwy_same h ?_⟩
    simp only [fw]
    rw [if_neg e]
theorem PW_e {n k i : Nat} (hn : n ≤ 16) (hk : k < n) (hi : i < n) {L : Nat → Nat} (hL : ∀ k, k < 256 → L k ≤ 9) (d : Nat → Int32) (h : hwy L n k i 0 d) : ∃ d2, Pa_shortenFrom d (nI i) (nI k) (nI n) = some d2 ∧ hwy L n k (i + 1) 0 d2 := by
  have h2 : ∃ d2, it (Pa_shortenFrom_L3 (nI i) (nI k) (nI n)) 4096 (0, d) = some d2 ∧ hwy L n k (i + 1) 0 d2 := by
    refine it_inv (F := 4096) (fun (j : Nat) (s : Int32 × (Nat → Int32)) => s.1 = nI j ∧ hwy L n k i j s.2) (fun (t : Nat → Int32) => hwy L n k (i + 1) 0 t) n ?_ ?_ ⟨rfl, h⟩ (by omega)
    · intro j s hj h
      obtain ⟨v, ds⟩ := s
      obtain ⟨hv, h⟩ := h
      dsimp only at hv h
      subst hv
      obtain ⟨d2, h1, h2⟩ := PW_d hn hk hi hj hL h
      exact Or.inl ⟨_, h1, rfl, h2⟩
    · intro s h
      obtain ⟨v, ds⟩ := s
      obtain ⟨hv, h⟩ := h
      dsimp only at hv h
      subst hv
      refine ⟨ds, ?_, hwy_next h⟩
      simp only [Pa_shortenFrom_L3]
      rw [if_pos (nI_le (Nat.le_refl n) (by omega))]
  obtain ⟨d2, h3, h4⟩ := h2
  refine ⟨d2, ?_, h4⟩
  unfold Pa_shortenFrom
  rw [h3]
  rfl
theorem hwy_skip {L : Nat → Nat} {n k i : Nat} {d : Nat → Int32} (hn : n ≤ 16) (hL : ∀ k, k < 256 → L k ≤ 9) (hi : i < n) (h : hwy L n k i 0 d) (e : 1000000 ≤ fw L k i k) : hwy L n k (i + 1) 0 d := by
  intro a b ha hb
  rw [h a b ha hb]
  by_cases e2 : a < i ∨ a = i ∧ b < 0
  · rw [if_pos e2, if_pos (by omega)]
  · rw [if_neg e2]
    by_cases e3 : a = i
    · subst e3
      rw [if_pos (by omega)]
      have h1 := fw_top hL (k := k) (show a < 16 by omega) (show b < 16 by omega)
      simp only [fw]
      rw [if_neg (by omega)]
    · rw [if_neg (by omega)]
theorem PW_f {n k : Nat} (hn : n ≤ 16) (hk : k < n) {L : Nat → Nat} (hL : ∀ k, k < 256 → L k ≤ 9) (d : Nat → Int32) (h : hwy L n k 0 0 d) : ∃ d2, it (Pa_measure_L86 (nI n) (nI k)) 4096 (0, d) = some d2 ∧ hwy L n (k + 1) 0 0 d2 := by
  refine it_inv (F := 4096) (fun (i : Nat) (s : Int32 × (Nat → Int32)) => s.1 = nI i ∧ hwy L n k i 0 s.2) (fun (t : Nat → Int32) => hwy L n (k + 1) 0 0 t) n ?_ ?_ ⟨rfl, h⟩ (by omega)
  · intro i s hi h
    obtain ⟨v, ds⟩ := s
    obtain ⟨hv, h⟩ := h
    dsimp only at hv h
    subst hv
    have e3 := fw_top hL (k := k) (show i < 16 by omega) (show k < 16 by omega)
    have h1 : ¬ nI n ≤ nI i := nI_ge hi (by omega)
    have h2 : Pa_areJoined ds (nI i) (nI k) = some (if 1000000 ≤ fw L k i k then 0 else 1) := by
      unfold Pa_areJoined
      rw [Pa_bet (by omega) (by omega), Option.bind_some, hwy_col h hi hk]
      by_cases e : 1000000 ≤ fw L k i k
      · rw [if_pos (show (1000000 : Int32) ≤ nI (fw L k i k) from nI_le (a := 1000000) e (by omega)), if_pos e]
      · rw [if_neg (show ¬ (1000000 : Int32) ≤ nI (fw L k i k) from nI_ge (b := 1000000) (by omega) (by decide)), if_neg e]
    by_cases e : 1000000 ≤ fw L k i k
    · refine Or.inl ⟨(nI (i + 1), ds), ?_, rfl, hwy_skip hn hL hi h e⟩
      simp only [Pa_measure_L86, if_neg h1, h2, if_pos e, Option.bind_some, nI_1]
      rfl
    · obtain ⟨d2, h3, h4⟩ := PW_e hn hk hi hL ds h
      refine Or.inl ⟨(nI (i + 1), d2), ?_, rfl, h4⟩
      simp only [Pa_measure_L86, if_neg h1, h2, if_neg e, Option.bind_some, nI_1, h3]
      rfl
  · intro s h
    obtain ⟨v, ds⟩ := s
    obtain ⟨hv, h⟩ := h
    dsimp only at hv h
    subst hv
    refine ⟨ds, ?_, hwy_turn h⟩
    simp only [Pa_measure_L86]
    rw [if_pos (nI_le (Nat.le_refl n) (by omega))]
/-- the class's ways -/
theorem PW {n : Nat} (hn : n ≤ 16) {now : Nat → Int32} {L : Nat → Nat} (hL : okL now L) (dist : Nat → Int32) : ∃ d2, Pa_measure dist (nI n) now = some d2 ∧ ∀ a b, a < n → b < n → d2 (16 * a + b) = nI (fw L n a b) := by
  obtain ⟨d1, h1, h2⟩ := PW_c hn hL dist
  have hL9 : ∀ k, k < 256 → L k ≤ 9 := fun k hk => (hL k hk).2
  have h3 : ∃ d2, it (Pa_measure_L78 (nI n)) 4096 (0, d1) = some d2 ∧ hwy L n n 0 0 d2 := by
    refine it_inv (F := 4096) (fun (k : Nat) (s : Int32 × (Nat → Int32)) => s.1 = nI k ∧ hwy L n k 0 0 s.2) (fun (t : Nat → Int32) => hwy L n n 0 0 t) n ?_ ?_ ⟨rfl, fun a b ha hb => by rw [if_neg (by omega)]; exact h2 a b ha hb⟩ (by omega)
    · intro k s hk h
      obtain ⟨v, ds⟩ := s
      obtain ⟨hv, h⟩ := h
      dsimp only at hv h
      subst hv
      obtain ⟨d2, h1, h2⟩ := PW_f hn hk hL9 ds h
      refine Or.inl ⟨(nI (k + 1), d2), ?_, rfl, h2⟩
      simp only [Pa_measure_L78]
      rw [if_neg (nI_ge hk (by omega)), h1, ← nI_1]
      rfl
    · intro s h
      obtain ⟨v, ds⟩ := s
      obtain ⟨hv, h⟩ := h
      dsimp only at hv h
      subst hv
      refine ⟨ds, ?_, h⟩
      simp only [Pa_measure_L78]
      rw [if_pos (nI_le (Nat.le_refl n) (by omega))]
  obtain ⟨d2, h4, h5⟩ := h3
  refine ⟨d2, ?_, fun a b ha hb => by rw [h5 a b ha hb, if_neg (by omega)]⟩
  unfold Pa_measure Pl_places
  rw [Option.bind_some, h1]
  show Option.bind (it (Pa_measure_L78 (nI n)) 4096 (0, d1)) _ = _
  rw [h4]
  rfl
/-! draws -/
def drw (z i k : Int32) : Int32 := (Mo_drawOf z i k).getD 0
theorem Mo_drw (z i k : Int32) : Mo_drawOf z i k = some (drw z i k) := rfl
theorem Pl_drw (z i k : Int32) : Pl_drawnNumber z i k = some (drw z i k) := rfl
def rm10 (x : Int32) : Int32 := x - x / 10 * 10
def rm1000 (x : Int32) : Int32 := x - x / 1000 * 1000
def dlyF (T z i : Int32) : Nat → Nat → Nat
  | 0, k => k
  | r + 1, k => if rm10 (drw z i (nI k)) < T then dlyF T z i r (k + 1) else k
theorem dlyF_le (T z i : Int32) : ∀ r k, dlyF T z i r k ≤ k + r := by
  intro r
  induction r with
  | zero => intro k; exact Nat.le_refl _
  | succ r ih =>
    intro k
    simp only [dlyF]
    split
    · have := ih (k + 1)
      omega
    · omega
def dly (M : Nat) (T z i : Int32) : Nat := dlyF T z i M 0
theorem dly_le (M : Nat) (T z i : Int32) : dly M T z i ≤ M := by
  have := dlyF_le T z i M 0
  unfold dly
  omega
theorem Mo_dly {M : Nat} (hM : M ≤ 30) (T z i : Int32) : Mo_drawnDelay (nI M) T z i = some (nI (dly M T z i)) := by
  have h : ∃ t, it (Mo_drawnDelay_L2 (nI M) T z i) 4096 0 = some t ∧ t = nI (dly M T z i) := by
    refine it_inv (F := 4096) (fun (k : Nat) (v : Int32) => v = nI k ∧ dlyF T z i (M - k) k = dly M T z i) (fun t => t = nI (dly M T z i)) M ?_ ?_ ⟨rfl, by rw [Nat.sub_zero]; rfl⟩ (by omega)
    · intro k v hk h
      obtain ⟨rfl, h⟩ := h
      have h1 : ¬ nI M ≤ nI k := nI_ge hk (by omega)
      rw [show M - k = (M - (k + 1)) + 1 by omega] at h
      simp only [dlyF] at h
      simp only [Mo_drawnDelay_L2, if_neg h1, Mo_drw, Option.bind_some, nI_1]
      by_cases e : rm10 (drw z i (nI k)) < T
      · rw [if_pos e] at h
        rw [if_neg (show ¬ T ≤ drw z i (nI k) - drw z i (nI k) / 10 * 10 from Int32.not_le.mpr e)]
        exact Or.inl ⟨_, rfl, rfl, h⟩
      · rw [if_neg e] at h
        rw [if_pos (show T ≤ drw z i (nI k) - drw z i (nI k) / 10 * 10 from Int32.not_lt.mp e)]
        exact Or.inr ⟨_, rfl, by rw [h]⟩
    · intro v h
      obtain ⟨rfl, h⟩ := h
      rw [Nat.sub_self] at h
      simp only [dlyF] at h
      refine ⟨nI M, ?_, by rw [← h]⟩
      simp only [Mo_drawnDelay_L2]
      rw [if_pos (nI_le (Nat.le_refl M) (by omega))]
  obtain ⟨t, h1, h2⟩ := h
  unfold Mo_drawnDelay
  rw [h1, h2]
  rfl
theorem Pl_dly {M : Nat} (hM : M ≤ 30) (T z i : Int32) : Pl_drawnDelay (nI M) T z i = some (nI (dly M T z i)) := by
  have h : ∃ t, it (Pl_drawnDelay_L2 (nI M) T z i) 4096 0 = some t ∧ (t = .inl () ∧ dly M T z i = M ∨ t = .inr (nI (dly M T z i))) := by
    refine it_inv (F := 4096) (fun (k : Nat) (v : Int32) => v = nI k ∧ dlyF T z i (M - k) k = dly M T z i) (fun (t : Unit ⊕ Int32) => (t = .inl () ∧ dly M T z i = M ∨ t = .inr (nI (dly M T z i)))) M ?_ ?_ ⟨rfl, by rw [Nat.sub_zero]; rfl⟩ (by omega)
    · intro k v hk h
      obtain ⟨rfl, h⟩ := h
      have h1 : ¬ nI M ≤ nI k := nI_ge hk (by omega)
      rw [show M - k = (M - (k + 1)) + 1 by omega] at h
      simp only [dlyF] at h
      simp only [Pl_drawnDelay_L2, if_neg h1, Pl_drw, Option.bind_some, nI_1]
      by_cases e : rm10 (drw z i (nI k)) < T
      · rw [if_pos e] at h
        rw [if_pos (show drw z i (nI k) - drw z i (nI k) / 10 * 10 < T from e)]
        exact Or.inl ⟨_, rfl, rfl, h⟩
      · rw [if_neg e] at h
        rw [if_neg (show ¬ drw z i (nI k) - drw z i (nI k) / 10 * 10 < T from e)]
        exact Or.inr ⟨_, rfl, Or.inr (by rw [h])⟩
    · intro v h
      obtain ⟨rfl, h⟩ := h
      rw [Nat.sub_self] at h
      simp only [dlyF] at h
      refine ⟨.inl (), ?_, Or.inl ⟨rfl, h.symm⟩⟩
      simp only [Pl_drawnDelay_L2]
      rw [if_pos (nI_le (Nat.le_refl M) (by omega))]
  obtain ⟨t, h1, h2⟩ := h
  unfold Pl_drawnDelay
  rw [h1]
  rcases h2 with ⟨rfl, h3⟩ | rfl
  · rw [h3]
    rfl
  · rfl
