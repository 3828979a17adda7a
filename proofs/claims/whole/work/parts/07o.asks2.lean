/-! class and reference beside one another: more questions -/
theorem it_two {σ1 σ2 τ1 τ2 : Type} {b1 : σ1 → Option (σ1 ⊕ τ1)} {b2 : σ2 → Option (σ2 ⊕ τ2)} (I : Nat → σ1 → σ2 → Prop) (J : τ1 → τ2 → Prop) (n : Nat)
    (hs : ∀ i s1 s2, i < n → I i s1 s2 → (∃ s3 s4, b1 s1 = some (.inl s3) ∧ b2 s2 = some (.inl s4) ∧ I (i + 1) s3 s4) ∨ ∃ t1 t2, b1 s1 = some (.inr t1) ∧ b2 s2 = some (.inr t2) ∧ J t1 t2)
    (hx : ∀ s1 s2, I n s1 s2 → ∃ t1 t2, b1 s1 = some (.inr t1) ∧ b2 s2 = some (.inr t2) ∧ J t1 t2) {F : Nat} {s1 : σ1} {s2 : σ2} (h0 : I 0 s1 s2) (hF : n < F) : ∃ t1 t2, it b1 F s1 = some t1 ∧ it b2 F s2 = some t2 ∧ J t1 t2 := by
  have key : ∀ (k i F : Nat) (s1 : σ1) (s2 : σ2), i + k = n → k < F → I i s1 s2 → ∃ t1 t2, it b1 F s1 = some t1 ∧ it b2 F s2 = some t2 ∧ J t1 t2 := by
    intro k
    induction k with
    | zero =>
      intro i F s1 s2 h1 h2 h3
      obtain ⟨t1, t2, h4, h5, h6⟩ := hx s1 s2 (by rw [← h1]; exact h3)
      cases F with
      | zero => omega
      | succ F => exact ⟨t1, t2, by rw [it, h4]; rfl, by rw [it, h5]; rfl, h6⟩
    | succ k ih =>
      intro i F s1 s2 h1 h2 h3
      cases F with
      | zero => omega
      | succ F =>
        rcases hs i s1 s2 (by omega) h3 with ⟨s3, s4, h4, h5, h6⟩ | ⟨t1, t2, h4, h5, h6⟩
        · obtain ⟨t1, t2, h7, h8, h9⟩ := ih (i + 1) F s3 s4 (by omega) (by omega) h6
          exact ⟨t1, t2, by rw [it, h4]; exact h7, by rw [it, h5]; exact h8, h9⟩
        · exact ⟨t1, t2, by rw [it, h4]; rfl, by rw [it, h5]; rfl, h6⟩
  exact key n 0 F s1 s2 (by omega) hF h0
theorem Q_front {n M : Nat} {T z : Int32} {L t : Nat → Nat} {f : Nat → Int32} {pl_places : Int32} {pl_links : Int32} {pl_mostDrawn : Int32} {pl_ofTen : Int32} {pl_z : Int32} {pl_lengths : Nat → Int32} {pl_told : Nat → Int32} {pl_delays : Nat → Int32} {pl_fractions : Nat → Int32} {pa_sums : Nat → Int32} {pr_greatestDelay : Int32} {pr_delays : Nat → Int32} {pr_fractions : Nat → Int32} {pr_heads : Nat → Int32} {m_places : Int32} {m_most : Int32} {m_tenths : Int32} {m_now : Nat → Int32} (h : QR n M T z L t f pl_places pl_links pl_mostDrawn pl_ofTen pl_z pl_lengths pl_told pl_delays pl_fractions pa_sums pr_greatestDelay pr_delays pr_fractions pr_heads m_places m_most m_tenths m_now) (m_clusters : Int32) (m_dist : Nat → Int32) (m_delays : Nat → Int32) (m_fractions : Nat → Int32) (m_head : Nat → Int32) (m_hour : Nat → Int32) (m_number : Nat → Int32) (a b : Int32) : ∃ r, Dc_front pl_places pa_sums pr_greatestDelay pr_delays pr_heads a b = some r ∧ ∃ s, Mo_front m_places m_most m_tenths m_clusters m_now m_dist m_delays m_fractions m_head m_hour m_number a b = some (r, s) := by
  obtain ⟨c, sm, dl, fr, hds, hos, nms, hs1, hs2⟩ := Q_set h m_clusters m_dist m_delays m_fractions m_head m_hour m_number
  obtain ⟨hw, ⟨rfl, -, -, -, -, hLc, hC⟩, hX, rfl, rfl, rfl, hL, hT, -⟩ := h
  have hn := hw.2.1
  unfold Dc_front Mo_front
  rw [Dc_wi]
  rcases isIn_cases a (lo := 0) (hi := 200) (by decide) (by decide) with ⟨h2, -⟩ | ⟨ka, -, hka, rfl, h2⟩
  · rw [show Mo_isIn a 0 200 = some 0 from h2]
    exact ⟨_, rfl, _, rfl⟩
  · rw [show Mo_isIn (nI ka) 0 200 = some 1 from h2]
    simp only [Option.bind_some, if_neg (show ¬ (1 : Int32) = 0 by decide), hs1]
    by_cases e : (-1 : Int32) ≤ b
    · rw [if_pos e, if_pos e]
      have h3 := it_two (b1 := Dc_front_L23 (nI n) pa_sums pr_greatestDelay pr_delays pr_heads (nI ka) b) (b2 := Mo_front_L27 (nI n) (nI ka) b c sm dl fr hds hos nms) (fun (i : Nat) (s1 s2 : Int32 × Int32) => s1.2 = nI i ∧ s2 = s1) (fun (t1 : Int32 ⊕ Int32) (t2 : Int32 ⊕ (Int32 × Int32 × (Nat → Int32) × (Nat → Int32) × (Nat → Int32) × (Nat → Int32) × (Nat → Int32) × (Nat → Int32))) => (∃ x, t1 = .inl x ∧ t2 = .inl x) ∨ ∃ x, t1 = .inr x ∧ t2 = .inr (x, c, sm, dl, fr, hds, hos, nms)) n ?_ ?_ (F := 4096) (s1 := (0, 0)) (s2 := (0, 0)) ⟨rfl, rfl⟩ (by omega)
      · obtain ⟨t1, t2, h4, h5, h6⟩ := h3
        rw [h4, h5]
        simp only [Option.bind_some]
        rcases h6 with ⟨x, rfl, rfl⟩ | ⟨x, rfl, rfl⟩
        · dsimp only
          by_cases e2 : b = -1
          · rw [if_pos e2, if_pos e2]
            exact ⟨_, rfl, _, rfl⟩
          · rw [if_neg e2, if_neg e2]
            exact ⟨_, rfl, _, rfl⟩
        · exact ⟨_, rfl, _, rfl⟩
      · rintro i ⟨v, w⟩ s2 hi ⟨hv, rfl⟩
        dsimp only at hv
        subst hv
        have y10 := hs2.2.2.2.2.2.2.2.2.2.1
        simp only [Dc_front_L23, Mo_front_L27, Pl_places, Option.bind_some, if_neg (nI_ge hi (show n < 2 ^ 31 by omega)), C_hour hX hi, C_at hn hi, nI_clamp (show i < 2 ^ 31 by omega), y10 i hi, nI_1]
        by_cases e3 : nI (hr n (Dz M m_tenths t z) (fw L n) (hh n (Dz M m_tenths t z) (Fz t f z) (fw L n) i) i) = nI ka
        · rw [if_pos e3, if_pos e3]
          by_cases e4 : v = b
          · rw [if_pos e4, if_pos e4]
            exact Or.inr ⟨_, _, rfl, rfl, Or.inr ⟨_, rfl, rfl⟩⟩
          · rw [if_neg e4, if_neg e4]
            exact Or.inl ⟨_, _, rfl, rfl, rfl, rfl⟩
        · rw [if_neg e3, if_neg e3]
          exact Or.inl ⟨_, _, rfl, rfl, rfl, rfl⟩
      · rintro ⟨v, w⟩ s2 ⟨hv, rfl⟩
        dsimp only at hv
        subst hv
        simp only [Dc_front_L23, Mo_front_L27, Pl_places, Option.bind_some, if_pos (nI_le (Nat.le_refl n) (show n < 2 ^ 31 by omega))]
        exact ⟨_, _, rfl, rfl, Or.inl ⟨_, rfl, rfl⟩⟩
    · rw [if_neg e, if_neg e]
      exact ⟨_, rfl, _, rfl⟩
theorem Q_linkOf {n M : Nat} {T z : Int32} {L t : Nat → Nat} {f : Nat → Int32} {pl_places : Int32} {pl_links : Int32} {pl_mostDrawn : Int32} {pl_ofTen : Int32} {pl_z : Int32} {pl_lengths : Nat → Int32} {pl_told : Nat → Int32} {pl_delays : Nat → Int32} {pl_fractions : Nat → Int32} {pa_sums : Nat → Int32} {pr_greatestDelay : Int32} {pr_delays : Nat → Int32} {pr_fractions : Nat → Int32} {pr_heads : Nat → Int32} {m_places : Int32} {m_most : Int32} {m_tenths : Int32} {m_now : Nat → Int32} (h : QR n M T z L t f pl_places pl_links pl_mostDrawn pl_ofTen pl_z pl_lengths pl_told pl_delays pl_fractions pa_sums pr_greatestDelay pr_delays pr_fractions pr_heads m_places m_most m_tenths m_now) (m_clusters : Int32) (m_dist : Nat → Int32) (m_delays : Nat → Int32) (m_fractions : Nat → Int32) (m_head : Nat → Int32) (m_hour : Nat → Int32) (m_number : Nat → Int32) (a b d : Int32) : ∃ r, Dc_linkOf pl_places pl_lengths pa_sums pr_heads a b d = some r ∧ ∃ s, Mo_linkOf m_places m_most m_tenths m_clusters m_now m_dist m_delays m_fractions m_head m_hour m_number a b d = some (r, s) := by
  obtain ⟨c, sm, dl, fr, hds, hos, nms, hs1, hs2⟩ := Q_set h m_clusters m_dist m_delays m_fractions m_head m_hour m_number
  obtain ⟨hw, ⟨rfl, -, -, -, -, hLc, hC⟩, hX, rfl, rfl, rfl, hL, hT, -⟩ := h
  have hn := hw.2.1
  unfold Dc_linkOf Mo_linkOf
  rw [Pl_is2 hw.1 hn, Dc_wi]
  rcases is2 hw.1 hn a b with h2 | ⟨i, j, hi, hj, hij, rfl, rfl, h2⟩
  · rw [h2]
    exact ⟨_, rfl, _, rfl⟩
  · rw [h2]
    simp only [Option.bind_some, if_neg (show ¬ (1 : Int32) = 0 by decide)]
    rcases isIn_cases d (lo := 0) (hi := 1) (by decide) (by decide) with ⟨h3, -⟩ | ⟨k, -, hk, rfl, h3⟩
    · rw [show Mo_isIn d 0 1 = some 0 from h3]
      exact ⟨_, rfl, _, rfl⟩
    · rw [show Mo_isIn (nI k) 0 1 = some 1 from h3]
      have l1 := hLc (16 * i + j) (by omega)
      have l2 := hL (16 * i + j) (by omega)
      simp only [Option.bind_some, if_neg (show ¬ (1 : Int32) = 0 by decide), Pl_len (show i < 16 by omega) (show j < 16 by omega), ix_b, gk_n (show 16 * i + j < 289 by omega) (by decide), nI_clamp (show 16 * i + j < 2 ^ 31 by omega), l1.1, l2.1, hs1, C_kind hX hi hj, M_sort hs2 hi hj]
      by_cases e : nI (L (16 * i + j)) = 0
      · rw [if_pos e, if_pos e]
        exact ⟨_, rfl, _, rfl⟩
      · rw [if_neg e, if_neg e]
        by_cases e2 : nI k = 0
        · rw [if_pos e2, if_pos e2]
          exact ⟨_, rfl, _, rfl⟩
        · rw [if_neg e2, if_neg e2]
          exact ⟨_, rfl, _, rfl⟩
theorem isCl {n : Nat} {D : Nat → Nat} {F : Nat → Int32} {L : Nat → Nat} {sm ln dl fr hds : Nat → Int32} {g : Int32} (h : CX n D F L sm ln g dl fr hds) (h1 : 1 ≤ n) (a : Int32) : (Dc_isCluster (nI n) hds a = some 0 ∧ Mo_isIn a 0 (nI (cnt (ish n D F (fw L n)) n) - 1) = some 0) ∨ ∃ c, c < cnt (ish n D F (fw L n)) n ∧ a = nI c ∧ Dc_isCluster (nI n) hds a = some 1 ∧ Mo_isIn a 0 (nI (cnt (ish n D F (fw L n)) n) - 1) = some 1 := by
  have hn := h.1
  have hc := cnt_le (ish n D F (fw L n)) n
  have hp : 0 < cnt (ish n D F (fw L n)) n := by
    have h2 : ish n D F (fw L n) (hh n D F (fw L n) 0) = true := decide_eq_true (hh_hh (fw_ii L n) (fun t ht i j => fw_tri L n t ht i j) (show 0 < n by omega))
    have := cnt_strict (C_hlt (D := D) (F := F) (L := L) (show 0 < n by omega)) h2
    omega
  have e : nI (cnt (ish n D F (fw L n)) n) - 1 = nI (cnt (ish n D F (fw L n)) n - 1) := pk_sub (a := cnt (ish n D F (fw L n)) n) (b := 1) hp
  unfold Dc_isCluster
  rw [C_clusters h, Option.bind_some, e, Dc_wi]
  rcases isIn_cases a (lo := 0) (hi := cnt (ish n D F (fw L n)) n - 1) (by omega) (by omega) with ⟨h2, -⟩ | ⟨k, -, h3, h4, h5⟩
  · refine Or.inl ⟨?_, h2⟩
    rw [show Mo_isIn a 0 (nI (cnt (ish n D F (fw L n)) n - 1)) = some 0 from h2]
    rfl
  · refine Or.inr ⟨k, by omega, h4, ?_, h5⟩
    rw [show Mo_isIn a 0 (nI (cnt (ish n D F (fw L n)) n - 1)) = some 1 from h5]
    rfl
theorem C_hn2 {n c x : Nat} {D : Nat → Nat} {F : Nat → Int32} {L : Nat → Nat} {sm ln dl fr hds : Nat → Int32} {g : Int32} (h : CX n D F L sm ln g dl fr hds) (hc : c < 2 ^ 31) (hx : fnd (fun i => decide (hh n D F (fw L n) i = i ∧ cnt (ish n D F (fw L n)) i = c)) n 0 = some x) : Cl_headNumbered hds (nI n) (nI c) = some (nI x) := by
  rw [C_hn h hc]
  unfold fnv
  rw [hx]
theorem Q_cluster {n M : Nat} {T z : Int32} {L t : Nat → Nat} {f : Nat → Int32} {pl_places : Int32} {pl_links : Int32} {pl_mostDrawn : Int32} {pl_ofTen : Int32} {pl_z : Int32} {pl_lengths : Nat → Int32} {pl_told : Nat → Int32} {pl_delays : Nat → Int32} {pl_fractions : Nat → Int32} {pa_sums : Nat → Int32} {pr_greatestDelay : Int32} {pr_delays : Nat → Int32} {pr_fractions : Nat → Int32} {pr_heads : Nat → Int32} {m_places : Int32} {m_most : Int32} {m_tenths : Int32} {m_now : Nat → Int32} (h : QR n M T z L t f pl_places pl_links pl_mostDrawn pl_ofTen pl_z pl_lengths pl_told pl_delays pl_fractions pa_sums pr_greatestDelay pr_delays pr_fractions pr_heads m_places m_most m_tenths m_now) (m_clusters : Int32) (m_dist : Nat → Int32) (m_delays : Nat → Int32) (m_fractions : Nat → Int32) (m_head : Nat → Int32) (m_hour : Nat → Int32) (m_number : Nat → Int32) (a b : Int32) : ∃ r, Dc_cluster pl_places pl_lengths pa_sums pr_heads a b = some r ∧ ∃ s, Mo_cluster m_places m_most m_tenths m_clusters m_now m_dist m_delays m_fractions m_head m_hour m_number a b = some (r, s) := by
  obtain ⟨c, sm, dl, fr, hds, hos, nms, hs1, hs2⟩ := Q_set h m_clusters m_dist m_delays m_fractions m_head m_hour m_number
  obtain ⟨hw, ⟨rfl, -, -, -, -, hLc, hC⟩, hX, rfl, rfl, rfl, hL, hT, -⟩ := h
  have hn := hw.2.1
  have hs3 := hs2.2.2.2.2.1
  unfold Dc_cluster Mo_cluster
  rw [hs1]
  simp only [Option.bind_some]
  rw [hs3]
  rcases isCl hX hw.1 a with ⟨h2, h3⟩ | ⟨k, hk, rfl, h2, h3⟩
  · rw [h2, h3]
    exact ⟨_, rfl, _, rfl⟩
  · rw [h2, h3]
    simp only [Option.bind_some, if_neg (show ¬ (1 : Int32) = 0 by decide)]
    obtain ⟨x, x0, hx, x1, x2, x3⟩ := hd_num hk
    have hk2 : k < 2 ^ 31 := by
      have := cnt_le (ish n (Dz M m_tenths t z) (Fz t f z) (fw L n)) n
      omega
    rw [C_hn2 hX hk2 x0]
    rcases isIn_cases b (lo := 0) (hi := 5) (by decide) (by decide) with ⟨h4, h5⟩ | ⟨w, -, hw2, rfl, h4⟩
    · rw [show Mo_isIn b 0 5 = some 0 from h4]
      simp only [Option.bind_some]
      rw [if_neg (show ¬ b = 0 from h5 0 (by decide) (by decide)), if_neg (show ¬ b = 1 from h5 1 (by decide) (by decide)), if_neg (show ¬ b = 2 from h5 2 (by decide) (by decide)), if_neg (show ¬ b = 3 from h5 3 (by decide) (by decide)), if_neg (show ¬ b = 4 from h5 4 (by decide) (by decide)), if_neg (show ¬ b = 5 from h5 5 (by decide) (by decide))]
      exact ⟨_, rfl, _, rfl⟩
    · rw [show Mo_isIn (nI w) 0 5 = some 1 from h4, M_hn hs2 hx x1 x2 x3]
      simp only [Option.bind_some, if_neg (show ¬ (1 : Int32) = 0 by decide), M_mem hs2 hx]
      rcases (show w = 0 ∨ w = 1 ∨ w = 2 ∨ w = 3 ∨ w = 4 ∨ w = 5 by omega) with rfl | rfl | rfl | rfl | rfl | rfl
      · rw [if_pos (show nI 0 = 0 from rfl), if_pos (show nI 0 = 0 from rfl)]
        exact ⟨_, rfl, _, rfl⟩
      · rw [if_neg (show ¬ nI 1 = 0 by decide), if_neg (show ¬ nI 1 = 0 by decide), if_pos (show nI 1 = 1 from rfl), if_pos (show nI 1 = 1 from rfl)]
        simp only [C_mem hX hx, bits_cnt hn, Option.bind_some]
        exact ⟨_, rfl, _, rfl⟩
      · rw [if_neg (show ¬ nI 2 = 0 by decide), if_neg (show ¬ nI 2 = 0 by decide), if_neg (show ¬ nI 2 = 1 by decide), if_neg (show ¬ nI 2 = 1 by decide), if_pos (show nI 2 = 2 from rfl), if_pos (show nI 2 = 2 from rfl)]
        simp only [C_wide hX hx, M_wide hs2 hx, Option.bind_some]
        exact ⟨_, rfl, _, rfl⟩
      · rw [if_neg (show ¬ nI 3 = 0 by decide), if_neg (show ¬ nI 3 = 0 by decide), if_neg (show ¬ nI 3 = 1 by decide), if_neg (show ¬ nI 3 = 1 by decide), if_neg (show ¬ nI 3 = 2 by decide), if_neg (show ¬ nI 3 = 2 by decide), if_pos (show nI 3 = 3 from rfl), if_pos (show nI 3 = 3 from rfl)]
        simp only [C_cutOf hX hx, M_btwN hs2 hx x1 x2, Option.bind_some, btw_sum (fun j hj => C_hlt hj)]
        exact ⟨_, rfl, _, rfl⟩
      · rw [if_neg (show ¬ nI 4 = 0 by decide), if_neg (show ¬ nI 4 = 0 by decide), if_neg (show ¬ nI 4 = 1 by decide), if_neg (show ¬ nI 4 = 1 by decide), if_neg (show ¬ nI 4 = 2 by decide), if_neg (show ¬ nI 4 = 2 by decide), if_neg (show ¬ nI 4 = 3 by decide), if_neg (show ¬ nI 4 = 3 by decide), if_pos (show nI 4 = 4 from rfl), if_pos (show nI 4 = 4 from rfl)]
        simp only [C_nb hX hx, hs3, M_nb hs2 hx x1 x2, Option.bind_some]
        exact ⟨_, rfl, _, rfl⟩
      · rw [if_neg (show ¬ nI 5 = 0 by decide), if_neg (show ¬ nI 5 = 0 by decide), if_neg (show ¬ nI 5 = 1 by decide), if_neg (show ¬ nI 5 = 1 by decide), if_neg (show ¬ nI 5 = 2 by decide), if_neg (show ¬ nI 5 = 2 by decide), if_neg (show ¬ nI 5 = 3 by decide), if_neg (show ¬ nI 5 = 3 by decide), if_neg (show ¬ nI 5 = 4 by decide), if_neg (show ¬ nI 5 = 4 by decide), if_pos (show nI 5 = 5 from rfl)]
        simp only [C_mem hX hx, Option.bind_some]
        exact ⟨_, rfl, _, rfl⟩
theorem Q_beside {n M : Nat} {T z : Int32} {L t : Nat → Nat} {f : Nat → Int32} {pl_places : Int32} {pl_links : Int32} {pl_mostDrawn : Int32} {pl_ofTen : Int32} {pl_z : Int32} {pl_lengths : Nat → Int32} {pl_told : Nat → Int32} {pl_delays : Nat → Int32} {pl_fractions : Nat → Int32} {pa_sums : Nat → Int32} {pr_greatestDelay : Int32} {pr_delays : Nat → Int32} {pr_fractions : Nat → Int32} {pr_heads : Nat → Int32} {m_places : Int32} {m_most : Int32} {m_tenths : Int32} {m_now : Nat → Int32} (h : QR n M T z L t f pl_places pl_links pl_mostDrawn pl_ofTen pl_z pl_lengths pl_told pl_delays pl_fractions pa_sums pr_greatestDelay pr_delays pr_fractions pr_heads m_places m_most m_tenths m_now) (m_clusters : Int32) (m_dist : Nat → Int32) (m_delays : Nat → Int32) (m_fractions : Nat → Int32) (m_head : Nat → Int32) (m_hour : Nat → Int32) (m_number : Nat → Int32) (a b d : Int32) : ∃ r, Dc_beside pl_places pl_lengths pr_heads a b d = some r ∧ ∃ s, Mo_beside m_places m_most m_tenths m_clusters m_now m_dist m_delays m_fractions m_head m_hour m_number a b d = some (r, s) := by
  obtain ⟨c, sm, dl, fr, hds, hos, nms, hs1, hs2⟩ := Q_set h m_clusters m_dist m_delays m_fractions m_head m_hour m_number
  obtain ⟨hw, ⟨rfl, -, -, -, -, hLc, hC⟩, hX, rfl, rfl, rfl, hL, hT, -⟩ := h
  have hn := hw.2.1
  have hs3 := hs2.2.2.2.2.1
  have hcl := cnt_le (ish n (Dz M m_tenths t z) (Fz t f z) (fw L n)) n
  unfold Dc_beside Mo_beside
  rw [hs1]
  simp only [Option.bind_some]
  rw [hs3]
  rcases isCl hX hw.1 a with ⟨h2, h3⟩ | ⟨k, hk, rfl, h2, h3⟩
  · rw [h2, h3]
    exact ⟨_, rfl, _, rfl⟩
  · rw [h2, h3]
    simp only [Option.bind_some, if_neg (show ¬ (1 : Int32) = 0 by decide)]
    rcases isCl hX hw.1 b with ⟨h4, h5⟩ | ⟨k2, hk2, rfl, h4, h5⟩
    · rw [h4, h5]
      exact ⟨_, rfl, _, rfl⟩
    · rw [h4, h5]
      simp only [Option.bind_some, if_neg (show ¬ (1 : Int32) = 0 by decide)]
      by_cases e : nI k = nI k2
      · rw [if_pos e, if_pos e]
        exact ⟨_, rfl, _, rfl⟩
      · rw [if_neg e, if_neg e, Dc_wi]
        rcases isIn_cases d (lo := 0) (hi := 1) (by decide) (by decide) with ⟨h6, -⟩ | ⟨w, -, hw2, rfl, h6⟩
        · rw [show Mo_isIn d 0 1 = some 0 from h6]
          exact ⟨_, rfl, _, rfl⟩
        · rw [show Mo_isIn (nI w) 0 1 = some 1 from h6]
          obtain ⟨x, x0, hx, x1, x2, -⟩ := hd_num hk
          obtain ⟨y, y0, hy, y1, y2, -⟩ := hd_num hk2
          have hxy : x ≠ y := by
            intro q
            rw [q, y2] at x2
            exact e (by rw [x2])
          simp only [Option.bind_some, if_neg (show ¬ (1 : Int32) = 0 by decide), C_hn2 hX (show k < 2 ^ 31 by omega) x0, C_hn2 hX (show k2 < 2 ^ 31 by omega) y0, C_btw hX hx hy, C_short hX hx hy, M_btw2 hs2 hx x1 x2 hy y1 y2 hxy]
          rcases (show w = 0 ∨ w = 1 by omega) with rfl | rfl
          · rw [if_pos (show nI 0 = 0 from rfl), if_neg (show ¬ nI 0 = 1 by decide)]
            exact ⟨_, rfl, _, rfl⟩
          · rw [if_neg (show ¬ nI 1 = 0 by decide), if_pos (show nI 1 = 1 from rfl)]
            exact ⟨_, rfl, _, rfl⟩
