/-! class and reference beside one another: the questions -/
theorem isIn_cases (a : Int32) {lo hi : Nat} (hl : lo ≤ hi) (h : hi < 2 ^ 30) : (Mo_isIn a (nI lo) (nI hi) = some 0 ∧ ∀ k, lo ≤ k → k ≤ hi → a ≠ nI k) ∨ ∃ k, lo ≤ k ∧ k ≤ hi ∧ a = nI k ∧ Mo_isIn a (nI lo) (nI hi) = some 1 := by
  rcases pk_ix a (n := hi + 1) (by omega) with h1 | h1 | ⟨j, h1, rfl⟩
  · refine Or.inl ⟨?_, ?_⟩
    · unfold Mo_isIn
      rw [if_pos]
      rw [Int32.lt_iff_toInt_lt] at h1 ⊢
      rw [nI_toInt (by omega)]
      have : (0 : Int32).toInt = 0 := rfl
      omega
    · rintro k _ h3 rfl
      exact nI_pos (by omega) h1
  · refine Or.inl ⟨?_, ?_⟩
    · unfold Mo_isIn
      rw [Int32.le_iff_toInt_le, nI_toInt (by omega)] at h1
      rw [if_neg, if_pos]
      · rw [Int32.lt_iff_toInt_lt, nI_toInt (by omega)]
        omega
      · rw [Int32.lt_iff_toInt_lt, nI_toInt (by omega)]
        omega
    · rintro k _ h3 rfl
      rw [nI_leI (by omega) (by omega)] at h1
      omega
  · by_cases e : lo ≤ j
    · refine Or.inr ⟨j, e, by omega, rfl, ?_⟩
      unfold Mo_isIn
      rw [if_neg (nI_nlt e (by omega)), if_neg (nI_nlt (by omega) (by omega))]
    · refine Or.inl ⟨?_, ?_⟩
      · unfold Mo_isIn
        rw [if_pos (nI_lt (by omega) (by omega))]
      · intro k h2 h3 h4
        rw [nI_eq (by omega) (by omega)] at h4
        omega
theorem Dc_wi (a b c : Int32) : Dc_isWithin a b c = Mo_isIn a b c := rfl
theorem Pl_isP {n : Nat} (h1 : 1 ≤ n) (hn : n ≤ 16) (b : Int32) : Pl_isPlace (nI n) b = Mo_isPlace (nI n) b := by
  have e : nI n - 1 = nI (n - 1) := pk_sub (a := n) (b := 1) h1
  have k : nI n ≤ b ↔ nI (n - 1) < b := by
    rw [Int32.le_iff_toInt_le, Int32.lt_iff_toInt_lt, nI_toInt (by omega), nI_toInt (by omega)]
    omega
  unfold Pl_isPlace Mo_isPlace Mo_isIn
  rw [e]
  by_cases h0 : b < 0
  · rw [if_pos h0, if_pos h0]
    rfl
  · rw [if_neg h0, if_neg h0]
    by_cases h2 : nI n ≤ b
    · rw [if_pos h2, if_pos (k.mp h2)]
      rfl
    · rw [if_neg h2, if_neg (fun h => h2 (k.mpr h))]
      rfl
theorem Pl_is2 {n : Nat} (h1 : 1 ≤ n) (hn : n ≤ 16) (b c : Int32) : Pl_isPair (nI n) b c = Mo_areTwo (nI n) b c := by
  unfold Pl_isPair Mo_areTwo
  rw [Pl_isP h1 hn b, Pl_isP h1 hn c]
theorem isPl {n : Nat} (h1 : 1 ≤ n) (hn : n ≤ 16) (a : Int32) : Mo_isPlace (nI n) a = some 0 ∨ ∃ i, i < n ∧ a = nI i ∧ Mo_isPlace (nI n) a = some 1 := by
  have e : nI n - 1 = nI (n - 1) := pk_sub (a := n) (b := 1) h1
  unfold Mo_isPlace
  rw [e]
  rcases isIn_cases a (lo := 0) (hi := n - 1) (by omega) (by omega) with ⟨h2, -⟩ | ⟨k, h2, h3, h4, h5⟩
  · refine Or.inl ?_
    rw [show Mo_isIn a 0 (nI (n - 1)) = some 0 from h2]
    rfl
  · refine Or.inr ⟨k, by omega, h4, ?_⟩
    rw [show Mo_isIn a 0 (nI (n - 1)) = some 1 from h5]
    rfl
theorem is2 {n : Nat} (h1 : 1 ≤ n) (hn : n ≤ 16) (a b : Int32) : Mo_areTwo (nI n) a b = some 0 ∨ ∃ i j, i < n ∧ j < n ∧ i ≠ j ∧ a = nI i ∧ b = nI j ∧ Mo_areTwo (nI n) a b = some 1 := by
  unfold Mo_areTwo
  rcases isPl h1 hn a with h2 | ⟨i, hi, ha, h2⟩
  · refine Or.inl ?_
    rw [h2]
    rfl
  · rw [h2]
    rcases isPl h1 hn b with h3 | ⟨j, hj, hb, h3⟩
    · refine Or.inl ?_
      rw [h3]
      rfl
    · rw [h3]
      by_cases e : i = j
      · refine Or.inl ?_
        show (if a = b then some 0 else some 1) = some 0
        rw [if_pos (by rw [ha, hb, e])]
      · refine Or.inr ⟨i, j, hi, hj, e, ha, hb, ?_⟩
        show (if a = b then some 0 else some 1) = some 1
        rw [if_neg (by rw [ha, hb, nI_eq (by omega) (by omega)]; exact e)]
/-- how many links there are -/
def nlk (L : Nat → Nat) (n : Nat) : Nat := sm2 (fun i => cnt (fun j => decide (L (16 * i + j) ≠ 0)) i) n
/-- what is told, as it can be -/
def WF (n M : Nat) (L t : Nat → Nat) : Prop := 1 ≤ n ∧ n ≤ 16 ∧ 1 ≤ M ∧ M ≤ 30 ∧ sym L ∧ (∀ i, i < 16 → L (16 * i + i) = 0) ∧ (∀ i j, i < 16 → j < 16 → n ≤ i ∨ n ≤ j → L (16 * i + j) = 0) ∧ (∀ i, i < 16 → t i ≤ 31) ∧ nlk L 16 ≤ 40
/-- class and reference hold the same plan, and the class has settled it -/
def QR (n M : Nat) (T z : Int32) (L t : Nat → Nat) (f : Nat → Int32) (pl_places : Int32) (pl_links : Int32) (pl_mostDrawn : Int32) (pl_ofTen : Int32) (pl_z : Int32) (pl_lengths : Nat → Int32) (pl_told : Nat → Int32) (pl_delays : Nat → Int32) (pl_fractions : Nat → Int32) (pa_sums : Nat → Int32) (pr_greatestDelay : Int32) (pr_delays : Nat → Int32) (pr_fractions : Nat → Int32) (pr_heads : Nat → Int32) (m_places : Int32) (m_most : Int32) (m_tenths : Int32) (m_now : Nat → Int32) : Prop :=
  WF n M L t ∧ (pl_places = nI n ∧ pl_links = nI (nlk L 16) ∧ pl_mostDrawn = nI M ∧ pl_ofTen = T ∧ pl_z = z ∧ okL pl_lengths L ∧ okC pl_told pl_delays pl_fractions t f) ∧
  CX n (Dz M T t z) (Fz t f z) L pa_sums pl_lengths pr_greatestDelay pr_delays pr_fractions pr_heads ∧ (m_places = nI n ∧ m_most = nI M ∧ m_tenths = T ∧ okL m_now L ∧ okT m_now t f ∧ m_now 288 = z)
theorem Q_sets {n M : Nat} {T z : Int32} {L t : Nat → Nat} {f : Nat → Int32} {pl_places : Int32} {pl_links : Int32} {pl_mostDrawn : Int32} {pl_ofTen : Int32} {pl_z : Int32} {pl_lengths : Nat → Int32} {pl_told : Nat → Int32} {pl_delays : Nat → Int32} {pl_fractions : Nat → Int32} {pa_sums : Nat → Int32} {pr_greatestDelay : Int32} {pr_delays : Nat → Int32} {pr_fractions : Nat → Int32} {pr_heads : Nat → Int32} {m_places : Int32} {m_most : Int32} {m_tenths : Int32} {m_now : Nat → Int32} (h : QR n M T z L t f pl_places pl_links pl_mostDrawn pl_ofTen pl_z pl_lengths pl_told pl_delays pl_fractions pa_sums pr_greatestDelay pr_delays pr_fractions pr_heads m_places m_most m_tenths m_now) (m_clusters : Int32) (m_dist : Nat → Int32) (m_delays : Nat → Int32) (m_fractions : Nat → Int32) (m_head : Nat → Int32) (m_hour : Nat → Int32) (m_number : Nat → Int32) (z2 : Int32) : ∃ c sm dl fr hds hos nms, Mo_settles m_places m_most m_tenths m_clusters m_now m_dist m_delays m_fractions m_head m_hour m_number z2 = some (c, sm, dl, fr, hds, hos, nms) ∧ MX n (Dz M T t z2) (Fz t f z2) L m_now c sm dl fr hds hos nms := by
  obtain ⟨hw, -, -, rfl, rfl, rfl, hL, hT, -⟩ := h
  obtain ⟨c, sm, dl, fr, hds, hos, nms, h1, h2⟩ := Mo_set (z := z2) (T := m_tenths) hw.2.1 hw.2.2.2.1 hL hT m_clusters m_dist m_delays m_fractions m_head m_hour m_number
  exact ⟨c, sm, dl, fr, hds, hos, nms, h1, hw.2.1, hL, hw.2.2.2.2.1, fun i hi => Dz_le hw.2.2.2.1 (hT i (by have := hw.2.1; omega)).2.1, h2⟩
theorem Q_set {n M : Nat} {T z : Int32} {L t : Nat → Nat} {f : Nat → Int32} {pl_places : Int32} {pl_links : Int32} {pl_mostDrawn : Int32} {pl_ofTen : Int32} {pl_z : Int32} {pl_lengths : Nat → Int32} {pl_told : Nat → Int32} {pl_delays : Nat → Int32} {pl_fractions : Nat → Int32} {pa_sums : Nat → Int32} {pr_greatestDelay : Int32} {pr_delays : Nat → Int32} {pr_fractions : Nat → Int32} {pr_heads : Nat → Int32} {m_places : Int32} {m_most : Int32} {m_tenths : Int32} {m_now : Nat → Int32} (h : QR n M T z L t f pl_places pl_links pl_mostDrawn pl_ofTen pl_z pl_lengths pl_told pl_delays pl_fractions pa_sums pr_greatestDelay pr_delays pr_fractions pr_heads m_places m_most m_tenths m_now) (m_clusters : Int32) (m_dist : Nat → Int32) (m_delays : Nat → Int32) (m_fractions : Nat → Int32) (m_head : Nat → Int32) (m_hour : Nat → Int32) (m_number : Nat → Int32) : ∃ c sm dl fr hds hos nms, Mo_settle m_places m_most m_tenths m_clusters m_now m_dist m_delays m_fractions m_head m_hour m_number = some (c, sm, dl, fr, hds, hos, nms) ∧ MX n (Dz M T t z) (Fz t f z) L m_now c sm dl fr hds hos nms := by
  obtain ⟨c, sm, dl, fr, hds, hos, nms, h1, h2⟩ := Q_sets h m_clusters m_dist m_delays m_fractions m_head m_hour m_number z
  refine ⟨c, sm, dl, fr, hds, hos, nms, ?_, h2⟩
  have hz : m_now 288 = z := h.2.2.2.2.2.2.2.2
  unfold Mo_settle
  rw [show ((288 : Int32).toNatClampNeg) = 288 from rfl, hz, h1]
  rfl
theorem Q_cset {n M : Nat} {T z : Int32} {L t : Nat → Nat} {f : Nat → Int32} {pl_places : Int32} {pl_links : Int32} {pl_mostDrawn : Int32} {pl_ofTen : Int32} {pl_z : Int32} {pl_lengths : Nat → Int32} {pl_told : Nat → Int32} {pl_delays : Nat → Int32} {pl_fractions : Nat → Int32} {pa_sums : Nat → Int32} {pr_greatestDelay : Int32} {pr_delays : Nat → Int32} {pr_fractions : Nat → Int32} {pr_heads : Nat → Int32} {m_places : Int32} {m_most : Int32} {m_tenths : Int32} {m_now : Nat → Int32} (h : QR n M T z L t f pl_places pl_links pl_mostDrawn pl_ofTen pl_z pl_lengths pl_told pl_delays pl_fractions pa_sums pr_greatestDelay pr_delays pr_fractions pr_heads m_places m_most m_tenths m_now) (tr_greatestDelay : Int32) (tr_delays : Nat → Int32) (tr_fractions : Nat → Int32) (tr_heads : Nat → Int32) (z2 : Int32) : ∃ g dl fr hds, Cl_settleBy tr_greatestDelay tr_delays tr_fractions tr_heads pl_places pl_mostDrawn pl_ofTen pl_told pl_delays pl_fractions pa_sums z2 = some (g, dl, fr, hds) ∧ CX n (Dz M T t z2) (Fz t f z2) L pa_sums pl_lengths g dl fr hds := by
  obtain ⟨hw, ⟨rfl, -, rfl, rfl, -, hL, hC⟩, hX, -⟩ := h
  exact Cl_set hw.2.1 hw.2.2.2.1 hL hw.2.2.2.2.2.2.2.1 hC hX.2.2.2.1 _ _ _ _
theorem Q_far {n M : Nat} {T z : Int32} {L t : Nat → Nat} {f : Nat → Int32} {pl_places : Int32} {pl_links : Int32} {pl_mostDrawn : Int32} {pl_ofTen : Int32} {pl_z : Int32} {pl_lengths : Nat → Int32} {pl_told : Nat → Int32} {pl_delays : Nat → Int32} {pl_fractions : Nat → Int32} {pa_sums : Nat → Int32} {pr_greatestDelay : Int32} {pr_delays : Nat → Int32} {pr_fractions : Nat → Int32} {pr_heads : Nat → Int32} {m_places : Int32} {m_most : Int32} {m_tenths : Int32} {m_now : Nat → Int32} (h : QR n M T z L t f pl_places pl_links pl_mostDrawn pl_ofTen pl_z pl_lengths pl_told pl_delays pl_fractions pa_sums pr_greatestDelay pr_delays pr_fractions pr_heads m_places m_most m_tenths m_now) (m_dist : Nat → Int32) (a b : Int32) : ∃ r, Dc_far pl_places pa_sums a b = some r ∧ ∃ sm, Mo_far m_places m_now m_dist a b = some (r, sm) := by
  obtain ⟨hw, ⟨rfl, -⟩, hX, rfl, -, -, hL, -, -⟩ := h
  have hn := hw.2.1
  have hL9 : ∀ k, k < 256 → L k ≤ 9 := fun k hk => (hL k hk).2
  unfold Dc_far Mo_far
  rw [Pl_isP hw.1 hn, Pl_isP hw.1 hn]
  rcases isPl hw.1 hn a with h2 | ⟨i, hi, rfl, h2⟩
  · rw [h2]
    exact ⟨_, rfl, _, rfl⟩
  · rw [h2]
    simp only [Option.bind_some, if_neg (show ¬ (1 : Int32) = 0 by decide)]
    rcases isPl hw.1 hn b with h3 | ⟨j, hj, rfl, h3⟩
    · rw [h3]
      exact ⟨_, rfl, _, rfl⟩
    · rw [h3]
      obtain ⟨d2, h4, h5⟩ := MW hn hL m_dist
      have h6 := fw_top hL9 (k := n) (show i < 16 by omega) (show j < 16 by omega)
      have h7 : Pa_areJoined pa_sums (nI i) (nI j) = some (if 1000000 ≤ fw L n i j then 0 else 1) := by
        unfold Pa_areJoined
        rw [Pa_bet (by omega) (by omega), Option.bind_some, hX.2.2.2.1 i j hi hj]
        by_cases e : 1000000 ≤ fw L n i j
        · rw [if_pos (show (1000000 : Int32) ≤ nI (fw L n i j) from nI_le (a := 1000000) e (by omega)), if_pos e]
        · rw [if_neg (show ¬ (1000000 : Int32) ≤ nI (fw L n i j) from nI_ge (b := 1000000) (by omega) (by decide)), if_neg e]
      simp only [Option.bind_some, if_neg (show ¬ (1 : Int32) = 0 by decide), h4, h7, Pa_bet (show i < 16 by omega) (show j < 16 by omega), hX.2.2.2.1 i j hi hj, ix_b, gk_n (show 16 * i + j < 256 by omega) (by decide), nI_clamp (show 16 * i + j < 2 ^ 31 by omega), h5 i j hi hj]
      by_cases e : 1000000 ≤ fw L n i j
      · rw [if_pos e, if_pos rfl, if_pos (show (1000000 : Int32) ≤ nI (fw L n i j) from nI_le (a := 1000000) e (by omega))]
        exact ⟨_, rfl, _, rfl⟩
      · rw [if_neg e, if_neg (by decide), if_neg (show ¬ (1000000 : Int32) ≤ nI (fw L n i j) from nI_ge (b := 1000000) (by omega) (by decide))]
        exact ⟨_, rfl, _, rfl⟩
theorem Q_place {n M : Nat} {T z : Int32} {L t : Nat → Nat} {f : Nat → Int32} {pl_places : Int32} {pl_links : Int32} {pl_mostDrawn : Int32} {pl_ofTen : Int32} {pl_z : Int32} {pl_lengths : Nat → Int32} {pl_told : Nat → Int32} {pl_delays : Nat → Int32} {pl_fractions : Nat → Int32} {pa_sums : Nat → Int32} {pr_greatestDelay : Int32} {pr_delays : Nat → Int32} {pr_fractions : Nat → Int32} {pr_heads : Nat → Int32} {m_places : Int32} {m_most : Int32} {m_tenths : Int32} {m_now : Nat → Int32} (h : QR n M T z L t f pl_places pl_links pl_mostDrawn pl_ofTen pl_z pl_lengths pl_told pl_delays pl_fractions pa_sums pr_greatestDelay pr_delays pr_fractions pr_heads m_places m_most m_tenths m_now) (m_clusters : Int32) (m_dist : Nat → Int32) (m_delays : Nat → Int32) (m_fractions : Nat → Int32) (m_head : Nat → Int32) (m_hour : Nat → Int32) (m_number : Nat → Int32) (a b : Int32) : ∃ r, Dc_place pl_places pl_lengths pl_told pa_sums pr_greatestDelay pr_delays pr_fractions pr_heads a b = some r ∧ ∃ s, Mo_place m_places m_most m_tenths m_clusters m_now m_dist m_delays m_fractions m_head m_hour m_number a b = some (r, s) := by
  obtain ⟨c, sm, dl, fr, hds, hos, nms, hs1, hs2⟩ := Q_set h m_clusters m_dist m_delays m_fractions m_head m_hour m_number
  obtain ⟨hw, ⟨rfl, -, -, -, -, hLc, hC⟩, hX, rfl, rfl, rfl, hL, hT, -⟩ := h
  have hn := hw.2.1
  unfold Dc_place Mo_place
  rw [Pl_isP hw.1 hn]
  rcases isPl hw.1 hn a with h2 | ⟨i, hi, rfl, h2⟩
  · rw [h2]
    exact ⟨_, rfl, _, rfl⟩
  · rw [h2]
    simp only [Option.bind_some, if_neg (show ¬ (1 : Int32) = 0 by decide)]
    rcases isIn_cases b (lo := 0) (hi := 9) (by decide) (by decide) with ⟨h3, h4⟩ | ⟨k, -, hk, rfl, h3⟩
    · rw [show Mo_isIn b 0 9 = some 0 from h3]
      rw [if_neg (show ¬ b = 0 from h4 0 (by decide) (by decide)), if_neg (show ¬ b = 1 from h4 1 (by decide) (by decide)), if_neg (show ¬ b = 2 from h4 2 (by decide) (by decide)), if_neg (show ¬ b = 3 from h4 3 (by decide) (by decide)), if_neg (show ¬ b = 4 from h4 4 (by decide) (by decide)), if_neg (show ¬ b = 5 from h4 5 (by decide) (by decide)), if_neg (show ¬ b = 6 from h4 6 (by decide) (by decide)), if_neg (show ¬ b = 7 from h4 7 (by decide) (by decide)), if_neg (show ¬ b = 8 from h4 8 (by decide) (by decide)), if_neg (show ¬ b = 9 from h4 9 (by decide) (by decide))]
      exact ⟨_, rfl, _, rfl⟩
    · rw [show Mo_isIn (nI k) 0 9 = some 1 from h3]
      simp only [Option.bind_some, if_neg (show ¬ (1 : Int32) = 0 by decide), hs1]
      obtain ⟨x1, x2, x3, x4, x5, x6, x7, x8⟩ := id hX
      obtain ⟨-, -, -, y4, y5, y6, y7, y8, y9, y10, y11⟩ := id hs2
      have hh1 := C_hlt (D := Dz M m_tenths t z) (F := Fz t f z) (L := L) hi
      have hT1 := hT i (by omega)
      have hC1 := hC i (by omega)
      rcases (show k = 0 ∨ k = 1 ∨ k = 2 ∨ k = 3 ∨ k = 4 ∨ k = 5 ∨ k = 6 ∨ k = 7 ∨ k = 8 ∨ k = 9 by omega) with rfl | rfl | rfl | rfl | rfl | rfl | rfl | rfl | rfl | rfl
      · rw [if_pos (show nI 0 = 0 from rfl), if_pos (show nI 0 = 0 from rfl)]
        simp only [Cl_delayOf, C_at hn hi, nI_clamp (show i < 2 ^ 31 by omega), x6 i hi, y7 i hi, Option.bind_some]
        exact ⟨_, rfl, _, rfl⟩
      · rw [if_neg (show ¬ nI 1 = 0 by decide), if_neg (show ¬ nI 1 = 0 by decide), if_pos (show nI 1 = 1 from rfl), if_pos (show nI 1 = 1 from rfl)]
        simp only [Cl_fractionOf, C_at hn hi, nI_clamp (show i < 2 ^ 31 by omega), x7 i hi, y8 i hi, Option.bind_some]
        exact ⟨_, rfl, _, rfl⟩
      · rw [if_neg (show ¬ nI 2 = 0 by decide), if_neg (show ¬ nI 2 = 0 by decide), if_neg (show ¬ nI 2 = 1 by decide), if_neg (show ¬ nI 2 = 1 by decide), if_pos (show nI 2 = 2 from rfl), if_pos (show nI 2 = 2 from rfl)]
        simp only [Pl_isTold, C_at hn hi, nI_clamp (show i < 2 ^ 31 by omega), hC1.1, ix_d, gk_n (show 256 + i < 289 by omega) (by decide), nI_clamp (show 256 + i < 2 ^ 31 by omega), hT1.1]
        by_cases e : t i = 0
        · rw [if_pos e, e, if_pos (show nI 0 ≤ 0 by decide)]
          exact ⟨_, rfl, _, rfl⟩
        · rw [if_neg e, if_neg (nI_nle (by omega) (by omega))]
          exact ⟨_, rfl, _, rfl⟩
      · rw [if_neg (show ¬ nI 3 = 0 by decide), if_neg (show ¬ nI 3 = 0 by decide), if_neg (show ¬ nI 3 = 1 by decide), if_neg (show ¬ nI 3 = 1 by decide), if_neg (show ¬ nI 3 = 2 by decide), if_neg (show ¬ nI 3 = 2 by decide), if_pos (show nI 3 = 3 from rfl), if_pos (show nI 3 = 3 from rfl)]
        simp only [x5, Cl_st hn hi x6 (tp_ge _ n i hi), Mo_great hn y4 y7, Option.bind_some, C_at hn hi, nI_clamp (show i < 2 ^ 31 by omega), y7 i hi, pk_sub (tp_ge _ n i hi)]
        exact ⟨_, rfl, _, rfl⟩
      · rw [if_neg (show ¬ nI 4 = 0 by decide), if_neg (show ¬ nI 4 = 0 by decide), if_neg (show ¬ nI 4 = 1 by decide), if_neg (show ¬ nI 4 = 1 by decide), if_neg (show ¬ nI 4 = 2 by decide), if_neg (show ¬ nI 4 = 2 by decide), if_neg (show ¬ nI 4 = 3 by decide), if_neg (show ¬ nI 4 = 3 by decide), if_pos (show nI 4 = 4 from rfl), if_pos (show nI 4 = 4 from rfl)]
        simp only [Cl_headOf, C_at hn hi, nI_clamp (show i < 2 ^ 31 by omega), x8 i hi, y9 i hi, Option.bind_some]
        exact ⟨_, rfl, _, rfl⟩
      · rw [if_neg (show ¬ nI 5 = 0 by decide), if_neg (show ¬ nI 5 = 0 by decide), if_neg (show ¬ nI 5 = 1 by decide), if_neg (show ¬ nI 5 = 1 by decide), if_neg (show ¬ nI 5 = 2 by decide), if_neg (show ¬ nI 5 = 2 by decide), if_neg (show ¬ nI 5 = 3 by decide), if_neg (show ¬ nI 5 = 3 by decide), if_neg (show ¬ nI 5 = 4 by decide), if_neg (show ¬ nI 5 = 4 by decide), if_pos (show nI 5 = 5 from rfl), if_pos (show nI 5 = 5 from rfl)]
        simp only [C_number hX hi, C_at hn hi, nI_clamp (show i < 2 ^ 31 by omega), y9 i hi, C_at hn hh1, nI_clamp (show hh n (Dz M m_tenths t z) (Fz t f z) (fw L n) i < 2 ^ 31 by omega), M_nms hs2 hi, Option.bind_some]
        exact ⟨_, rfl, _, rfl⟩
      · rw [if_neg (show ¬ nI 6 = 0 by decide), if_neg (show ¬ nI 6 = 0 by decide), if_neg (show ¬ nI 6 = 1 by decide), if_neg (show ¬ nI 6 = 1 by decide), if_neg (show ¬ nI 6 = 2 by decide), if_neg (show ¬ nI 6 = 2 by decide), if_neg (show ¬ nI 6 = 3 by decide), if_neg (show ¬ nI 6 = 3 by decide), if_neg (show ¬ nI 6 = 4 by decide), if_neg (show ¬ nI 6 = 4 by decide), if_neg (show ¬ nI 6 = 5 by decide), if_neg (show ¬ nI 6 = 5 by decide), if_pos (show nI 6 = 6 from rfl), if_pos (show nI 6 = 6 from rfl)]
        simp only [C_dep hX hi, M_dep hs2 hi, Option.bind_some]
        exact ⟨_, rfl, _, rfl⟩
      · rw [if_neg (show ¬ nI 7 = 0 by decide), if_neg (show ¬ nI 7 = 0 by decide), if_neg (show ¬ nI 7 = 1 by decide), if_neg (show ¬ nI 7 = 1 by decide), if_neg (show ¬ nI 7 = 2 by decide), if_neg (show ¬ nI 7 = 2 by decide), if_neg (show ¬ nI 7 = 3 by decide), if_neg (show ¬ nI 7 = 3 by decide), if_neg (show ¬ nI 7 = 4 by decide), if_neg (show ¬ nI 7 = 4 by decide), if_neg (show ¬ nI 7 = 5 by decide), if_neg (show ¬ nI 7 = 5 by decide), if_neg (show ¬ nI 7 = 6 by decide), if_neg (show ¬ nI 7 = 6 by decide), if_pos (show nI 7 = 7 from rfl), if_pos (show nI 7 = 7 from rfl)]
        simp only [C_hour hX hi, C_at hn hi, nI_clamp (show i < 2 ^ 31 by omega), y10 i hi, Option.bind_some]
        exact ⟨_, rfl, _, rfl⟩
      · rw [if_neg (show ¬ nI 8 = 0 by decide), if_neg (show ¬ nI 8 = 0 by decide), if_neg (show ¬ nI 8 = 1 by decide), if_neg (show ¬ nI 8 = 1 by decide), if_neg (show ¬ nI 8 = 2 by decide), if_neg (show ¬ nI 8 = 2 by decide), if_neg (show ¬ nI 8 = 3 by decide), if_neg (show ¬ nI 8 = 3 by decide), if_neg (show ¬ nI 8 = 4 by decide), if_neg (show ¬ nI 8 = 4 by decide), if_neg (show ¬ nI 8 = 5 by decide), if_neg (show ¬ nI 8 = 5 by decide), if_neg (show ¬ nI 8 = 6 by decide), if_neg (show ¬ nI 8 = 6 by decide), if_neg (show ¬ nI 8 = 7 by decide), if_neg (show ¬ nI 8 = 7 by decide), if_pos (show nI 8 = 8 from rfl), if_pos (show nI 8 = 8 from rfl)]
        simp only [C_up hX hi, M_up hs2 hi, Option.bind_some]
        exact ⟨_, rfl, _, rfl⟩
      · rw [if_neg (show ¬ nI 9 = 0 by decide), if_neg (show ¬ nI 9 = 0 by decide), if_neg (show ¬ nI 9 = 1 by decide), if_neg (show ¬ nI 9 = 1 by decide), if_neg (show ¬ nI 9 = 2 by decide), if_neg (show ¬ nI 9 = 2 by decide), if_neg (show ¬ nI 9 = 3 by decide), if_neg (show ¬ nI 9 = 3 by decide), if_neg (show ¬ nI 9 = 4 by decide), if_neg (show ¬ nI 9 = 4 by decide), if_neg (show ¬ nI 9 = 5 by decide), if_neg (show ¬ nI 9 = 5 by decide), if_neg (show ¬ nI 9 = 6 by decide), if_neg (show ¬ nI 9 = 6 by decide), if_neg (show ¬ nI 9 = 7 by decide), if_neg (show ¬ nI 9 = 7 by decide), if_neg (show ¬ nI 9 = 8 by decide), if_neg (show ¬ nI 9 = 8 by decide), if_pos (show nI 9 = 9 from rfl)]
        simp only [C_linksAt hn hi hLc, M_linksAt hn hi hL, Option.bind_some]
        exact ⟨_, rfl, _, rfl⟩
