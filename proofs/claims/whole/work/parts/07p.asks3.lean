/-! class and reference beside one another: tries, chances, counts -/
theorem Q_tried {n M : Nat} {T z : Int32} {L t : Nat → Nat} {f : Nat → Int32} {pl_places : Int32} {pl_links : Int32} {pl_mostDrawn : Int32} {pl_ofTen : Int32} {pl_z : Int32} {pl_lengths : Nat → Int32} {pl_told : Nat → Int32} {pl_delays : Nat → Int32} {pl_fractions : Nat → Int32} {pa_sums : Nat → Int32} {pr_greatestDelay : Int32} {pr_delays : Nat → Int32} {pr_fractions : Nat → Int32} {pr_heads : Nat → Int32} {m_places : Int32} {m_most : Int32} {m_tenths : Int32} {m_now : Nat → Int32} (h : QR n M T z L t f pl_places pl_links pl_mostDrawn pl_ofTen pl_z pl_lengths pl_told pl_delays pl_fractions pa_sums pr_greatestDelay pr_delays pr_fractions pr_heads m_places m_most m_tenths m_now) (m_clusters : Int32) (m_dist : Nat → Int32) (m_delays : Nat → Int32) (m_fractions : Nat → Int32) (m_head : Nat → Int32) (m_hour : Nat → Int32) (m_number : Nat → Int32) (tr_greatestDelay : Int32) (tr_delays : Nat → Int32) (tr_fractions : Nat → Int32) (tr_heads : Nat → Int32) (a b : Int32) : ∃ r, (∃ s, Dc_tried pl_places pl_mostDrawn pl_ofTen pl_lengths pl_told pl_delays pl_fractions pa_sums tr_greatestDelay tr_delays tr_fractions tr_heads a b = some (r, s)) ∧ ∃ s, Mo_tried m_places m_most m_tenths m_clusters m_now m_dist m_delays m_fractions m_head m_hour m_number a b = some (r, s) := by
  obtain ⟨hw, ⟨rfl, -, -, -, -, hLc, hC⟩, hX, rfl, -⟩ := id h
  unfold Dc_tried Mo_tried
  rw [Dc_wi, Dc_wi]
  rcases isIn_cases a (lo := 0) (hi := 9999) (by decide) (by decide) with ⟨h2, -⟩ | ⟨ka, -, hka, rfl, h2⟩
  · rw [show Mo_isIn a 0 9999 = some 0 from h2]
    exact ⟨_, ⟨_, rfl⟩, _, rfl⟩
  · rw [show Mo_isIn (nI ka) 0 9999 = some 1 from h2]
    simp only [Option.bind_some, if_neg (show ¬ (1 : Int32) = 0 by decide)]
    rcases isIn_cases b (lo := 0) (hi := 3) (by decide) (by decide) with ⟨h3, -⟩ | ⟨k, -, hk, rfl, h3⟩
    · rw [show Mo_isIn b 0 3 = some 0 from h3]
      exact ⟨_, ⟨_, rfl⟩, _, rfl⟩
    · rw [show Mo_isIn (nI k) 0 3 = some 1 from h3]
      obtain ⟨c, sm, dl, fr, hds, hos, nms, hs1, hs2⟩ := Q_sets h m_clusters m_dist m_delays m_fractions m_head m_hour m_number (nI ka)
      obtain ⟨g, dl2, fr2, hd2, hc1, hc2⟩ := Q_cset h tr_greatestDelay tr_delays tr_fractions tr_heads (nI ka)
      have hs3 := hs2.2.2.2.2.1
      simp only [Option.bind_some, if_neg (show ¬ (1 : Int32) = 0 by decide), hs1, hc1]
      rcases (show k = 0 ∨ k = 1 ∨ k = 2 ∨ k = 3 by omega) with rfl | rfl | rfl | rfl
      · rw [if_pos (show nI 0 = 0 from rfl), if_pos (show nI 0 = 0 from rfl)]
        simp only [C_clusters hc2, hs3, Option.bind_some]
        exact ⟨_, ⟨_, rfl⟩, _, rfl⟩
      · rw [if_neg (show ¬ nI 1 = 0 by decide), if_neg (show ¬ nI 1 = 0 by decide), if_pos (show nI 1 = 1 from rfl), if_pos (show nI 1 = 1 from rfl)]
        simp only [C_cut hc2, M_links hs2, knd2, Option.bind_some]
        exact ⟨_, ⟨_, rfl⟩, _, rfl⟩
      · rw [if_neg (show ¬ nI 2 = 0 by decide), if_neg (show ¬ nI 2 = 0 by decide), if_neg (show ¬ nI 2 = 1 by decide), if_neg (show ¬ nI 2 = 1 by decide), if_pos (show nI 2 = 2 from rfl), if_pos (show nI 2 = 2 from rfl)]
        simp only [C_gwide hc2, M_gwide hs2, Option.bind_some]
        exact ⟨_, ⟨_, rfl⟩, _, rfl⟩
      · rw [if_neg (show ¬ nI 3 = 0 by decide), if_neg (show ¬ nI 3 = 0 by decide), if_neg (show ¬ nI 3 = 1 by decide), if_neg (show ¬ nI 3 = 1 by decide), if_neg (show ¬ nI 3 = 2 by decide), if_neg (show ¬ nI 3 = 2 by decide)]
        simp only [C_last hc2, M_last hs2, Option.bind_some]
        exact ⟨_, ⟨_, rfl⟩, _, rfl⟩
theorem Q_best {n M : Nat} {T z : Int32} {L t : Nat → Nat} {f : Nat → Int32} {pl_places : Int32} {pl_links : Int32} {pl_mostDrawn : Int32} {pl_ofTen : Int32} {pl_z : Int32} {pl_lengths : Nat → Int32} {pl_told : Nat → Int32} {pl_delays : Nat → Int32} {pl_fractions : Nat → Int32} {pa_sums : Nat → Int32} {pr_greatestDelay : Int32} {pr_delays : Nat → Int32} {pr_fractions : Nat → Int32} {pr_heads : Nat → Int32} {m_places : Int32} {m_most : Int32} {m_tenths : Int32} {m_now : Nat → Int32} (h : QR n M T z L t f pl_places pl_links pl_mostDrawn pl_ofTen pl_z pl_lengths pl_told pl_delays pl_fractions pa_sums pr_greatestDelay pr_delays pr_fractions pr_heads m_places m_most m_tenths m_now) (m_clusters : Int32) (m_dist : Nat → Int32) (m_delays : Nat → Int32) (m_fractions : Nat → Int32) (m_head : Nat → Int32) (m_hour : Nat → Int32) (m_number : Nat → Int32) (tr_greatestDelay : Int32) (tr_delays : Nat → Int32) (tr_fractions : Nat → Int32) (tr_heads : Nat → Int32) (a b d : Int32) : ∃ r, (∃ s, Dc_best pl_places pl_mostDrawn pl_ofTen pl_lengths pl_told pl_delays pl_fractions pa_sums tr_greatestDelay tr_delays tr_fractions tr_heads a b d = some (r, s)) ∧ ∃ s, Mo_best m_places m_most m_tenths m_clusters m_now m_dist m_delays m_fractions m_head m_hour m_number a b d = some (r, s) := by
  obtain ⟨hw, ⟨rfl, -, -, -, -, hLc, hC⟩, hX, rfl, -⟩ := id h
  unfold Dc_best Mo_best
  rw [Dc_wi, Dc_wi, Dc_wi]
  rcases isIn_cases a (lo := 1) (hi := 60) (by decide) (by decide) with ⟨h2, -⟩ | ⟨ka, hka0, hka, rfl, h2⟩
  · rw [show Mo_isIn a 1 60 = some 0 from h2]
    exact ⟨_, ⟨_, rfl⟩, _, rfl⟩
  · rw [show Mo_isIn (nI ka) 1 60 = some 1 from h2]
    simp only [Option.bind_some, if_neg (show ¬ (1 : Int32) = 0 by decide)]
    rcases isIn_cases b (lo := 0) (hi := 200) (by decide) (by decide) with ⟨h3, -⟩ | ⟨kb, -, hkb, rfl, h3⟩
    · rw [show Mo_isIn b 0 200 = some 0 from h3]
      exact ⟨_, ⟨_, rfl⟩, _, rfl⟩
    · rw [show Mo_isIn (nI kb) 0 200 = some 1 from h3]
      simp only [Option.bind_some, if_neg (show ¬ (1 : Int32) = 0 by decide)]
      rcases isIn_cases d (lo := 0) (hi := 1) (by decide) (by decide) with ⟨h4, -⟩ | ⟨kd, -, hkd, rfl, h4⟩
      · rw [show Mo_isIn d 0 1 = some 0 from h4]
        exact ⟨_, ⟨_, rfl⟩, _, rfl⟩
      · rw [show Mo_isIn (nI kd) 0 1 = some 1 from h4]
        simp only [Option.bind_some, if_neg (show ¬ (1 : Int32) = 0 by decide)]
        have h5 := it_two (b1 := Dc_best_L43 (nI n) pl_mostDrawn pl_ofTen pl_lengths pl_told pl_delays pl_fractions pa_sums (nI ka) (nI kb)) (b2 := Mo_best_L42 (nI n) m_most m_tenths m_now (nI ka) (nI kb)) (fun (i : Nat) (s1 : Int32 × Int32 × Int32 × Int32 × (Nat → Int32) × (Nat → Int32) × (Nat → Int32)) (s2 : Int32 × Int32 × Int32 × Int32 × (Nat → Int32) × (Nat → Int32) × (Nat → Int32) × (Nat → Int32) × (Nat → Int32) × (Nat → Int32)) => ∃ x y y2 g dl fr hd c sm dl2 fr2 hd2 ho nm, s1 = (x, y, nI i, g, dl, fr, hd) ∧ s2 = (x, y2, nI i, c, sm, dl2, fr2, hd2, ho, nm) ∧ (x = -4 → y = -4) ∧ (x ≠ -4 → y = y2)) (fun (t1 : Int32 × Int32 × Int32 × (Nat → Int32) × (Nat → Int32) × (Nat → Int32)) (t2 : Int32 × Int32 × Int32 × (Nat → Int32) × (Nat → Int32) × (Nat → Int32) × (Nat → Int32) × (Nat → Int32) × (Nat → Int32)) => ∃ x y y2 p q, t1 = (x, y, p) ∧ t2 = (x, y2, q) ∧ (x = -4 → y = -4) ∧ (x ≠ -4 → y = y2)) ka ?_ ?_ (F := 4096) (s1 := (-4, -4, 0, tr_greatestDelay, tr_delays, tr_fractions, tr_heads)) (s2 := (-4, 0, 0, m_clusters, m_dist, m_delays, m_fractions, m_head, m_hour, m_number)) ⟨_, _, _, _, _, _, _, _, _, _, _, _, _, _, rfl, rfl, fun _ => rfl, fun q => absurd rfl q⟩ (by omega)
        · obtain ⟨t1, t2, h6, h7, x, y, y2, p, q, rfl, rfl, h8, h9⟩ := h5
          rw [h6, h7]
          simp only [Option.bind_some]
          by_cases e : x = -4
          · rw [if_pos e, h8 e, ← e]
            split <;> exact ⟨_, ⟨_, rfl⟩, _, rfl⟩
          · rw [if_neg e, h9 e]
            split <;> exact ⟨_, ⟨_, rfl⟩, _, rfl⟩
        · rintro i s1 s2 hi ⟨x, y, y2, g, dl, fr, hd, c, sm, dl2, fr2, hd2, ho, nm, rfl, rfl, h6, h7⟩
          obtain ⟨c', sm', dl', fr', hds', hos', nms', hs1, hs2⟩ := Q_sets h c sm dl2 fr2 hd2 ho nm (nI i)
          obtain ⟨g', dl3', fr3', hd3', hc1, hc2⟩ := Q_cset h g dl fr hd (nI i)
          refine Or.inl ?_
          simp only [Dc_best_L43, Mo_best_L42, if_neg (nI_ge hi (show ka < 2 ^ 31 by omega)), hs1, hc1, Option.bind_some, C_gwide hc2, M_gwide hs2, C_cut hc2, M_links hs2, knd2, nI_1]
          split
          · exact ⟨_, _, rfl, rfl, _, _, _, _, _, _, _, _, _, _, _, _, _, _, rfl, rfl, h6, h7⟩
          · by_cases e : x = -4
            · rw [if_pos e, if_pos e]
              exact ⟨_, _, rfl, rfl, _, _, _, _, _, _, _, _, _, _, _, _, _, _, rfl, rfl, fun q => absurd q (nI_n4 (by omega)), fun _ => rfl⟩
            · rw [if_neg e, if_neg e, h7 e]
              split
              · exact ⟨_, _, rfl, rfl, _, _, _, _, _, _, _, _, _, _, _, _, _, _, rfl, rfl, fun q => absurd q e, fun _ => rfl⟩
              · exact ⟨_, _, rfl, rfl, _, _, _, _, _, _, _, _, _, _, _, _, _, _, rfl, rfl, fun q => absurd q (nI_n4 (by omega)), fun _ => rfl⟩
        · rintro s1 s2 ⟨x, y, y2, g, dl, fr, hd, c, sm, dl2, fr2, hd2, ho, nm, rfl, rfl, h6, h7⟩
          simp only [Dc_best_L43, Mo_best_L42, if_pos (nI_le (Nat.le_refl ka) (show ka < 2 ^ 31 by omega))]
          exact ⟨_, _, rfl, rfl, _, _, _, _, _, rfl, rfl, h6, h7⟩
theorem Q_chance {n M : Nat} {T z : Int32} {L t : Nat → Nat} {f : Nat → Int32} {pl_places : Int32} {pl_links : Int32} {pl_mostDrawn : Int32} {pl_ofTen : Int32} {pl_z : Int32} {pl_lengths : Nat → Int32} {pl_told : Nat → Int32} {pl_delays : Nat → Int32} {pl_fractions : Nat → Int32} {pa_sums : Nat → Int32} {pr_greatestDelay : Int32} {pr_delays : Nat → Int32} {pr_fractions : Nat → Int32} {pr_heads : Nat → Int32} {m_places : Int32} {m_most : Int32} {m_tenths : Int32} {m_now : Nat → Int32} (h : QR n M T z L t f pl_places pl_links pl_mostDrawn pl_ofTen pl_z pl_lengths pl_told pl_delays pl_fractions pa_sums pr_greatestDelay pr_delays pr_fractions pr_heads m_places m_most m_tenths m_now) (m_clusters : Int32) (m_dist : Nat → Int32) (m_delays : Nat → Int32) (m_fractions : Nat → Int32) (m_head : Nat → Int32) (m_hour : Nat → Int32) (m_number : Nat → Int32) (tr_greatestDelay : Int32) (tr_delays : Nat → Int32) (tr_fractions : Nat → Int32) (tr_heads : Nat → Int32) (a b d e : Int32) : ∃ r, (∃ s, Dc_chance pl_places pl_mostDrawn pl_ofTen pl_lengths pl_told pl_delays pl_fractions pa_sums tr_greatestDelay tr_delays tr_fractions tr_heads a b d e = some (r, s)) ∧ ∃ s, Mo_chance m_places m_most m_tenths m_clusters m_now m_dist m_delays m_fractions m_head m_hour m_number a b d e = some (r, s) := by
  obtain ⟨hw, ⟨rfl, -, -, -, -, hLc, hC⟩, hX, rfl, -, -, hL, -⟩ := id h
  have hn := hw.2.1
  unfold Dc_chance Mo_chance
  rw [Dc_wi, Dc_wi, Pl_is2 hw.1 hn]
  rcases is2 hw.1 hn a b with h2 | ⟨i, j, hi, hj, hij, rfl, rfl, h2⟩
  · rw [h2]
    exact ⟨_, ⟨_, rfl⟩, _, rfl⟩
  · rw [h2]
    simp only [Option.bind_some, if_neg (show ¬ (1 : Int32) = 0 by decide)]
    rcases isIn_cases d (lo := 1) (hi := 60) (by decide) (by decide) with ⟨h3, -⟩ | ⟨kd, hkd0, hkd, rfl, h3⟩
    · rw [show Mo_isIn d 1 60 = some 0 from h3]
      exact ⟨_, ⟨_, rfl⟩, _, rfl⟩
    · rw [show Mo_isIn (nI kd) 1 60 = some 1 from h3]
      simp only [Option.bind_some, if_neg (show ¬ (1 : Int32) = 0 by decide)]
      rcases isIn_cases e (lo := 0) (hi := 1) (by decide) (by decide) with ⟨h4, -⟩ | ⟨ke, -, hke, rfl, h4⟩
      · rw [show Mo_isIn e 0 1 = some 0 from h4]
        exact ⟨_, ⟨_, rfl⟩, _, rfl⟩
      · rw [show Mo_isIn (nI ke) 0 1 = some 1 from h4]
        have l1 := hLc (16 * i + j) (by omega)
        have l2 := hL (16 * i + j) (by omega)
        simp only [Option.bind_some, if_neg (show ¬ (1 : Int32) = 0 by decide), Pl_len (show i < 16 by omega) (show j < 16 by omega), ix_b, gk_n (show 16 * i + j < 289 by omega) (by decide), nI_clamp (show 16 * i + j < 2 ^ 31 by omega), l1.1, l2.1]
        by_cases e0 : nI (L (16 * i + j)) = 0
        · rw [if_pos e0, if_pos e0]
          exact ⟨_, ⟨_, rfl⟩, _, rfl⟩
        · rw [if_neg e0, if_neg e0]
          have h5 := it_two (b1 := Dc_chance_L55 (nI n) pl_mostDrawn pl_ofTen pl_told pl_delays pl_fractions pa_sums (nI i) (nI j) (nI kd)) (b2 := Mo_chance_L54 (nI n) m_most m_tenths m_now (nI i) (nI j) (nI kd)) (fun (k : Nat) (s1 : Int32 × Int32 × Int32 × (Nat → Int32) × (Nat → Int32) × (Nat → Int32)) (s2 : Int32 × Int32 × Int32 × (Nat → Int32) × (Nat → Int32) × (Nat → Int32) × (Nat → Int32) × (Nat → Int32) × (Nat → Int32)) => ∃ x g dl fr hd c sm dl2 fr2 hd2 ho nm, x ≤ k ∧ s1 = (nI x, nI k, g, dl, fr, hd) ∧ s2 = (nI x, nI k, c, sm, dl2, fr2, hd2, ho, nm)) (fun (t1 : Int32 × Int32 × (Nat → Int32) × (Nat → Int32) × (Nat → Int32)) (t2 : Int32 × Int32 × (Nat → Int32) × (Nat → Int32) × (Nat → Int32) × (Nat → Int32) × (Nat → Int32) × (Nat → Int32)) => ∃ x p q, x ≤ kd ∧ t1 = (nI x, p) ∧ t2 = (nI x, q)) kd ?_ ?_ (F := 4096) (s1 := (0, 0, tr_greatestDelay, tr_delays, tr_fractions, tr_heads)) (s2 := (0, 0, m_clusters, m_dist, m_delays, m_fractions, m_head, m_hour, m_number)) ⟨0, _, _, _, _, _, _, _, _, _, _, _, Nat.le_refl 0, rfl, rfl⟩ (by omega)
          · obtain ⟨t1, t2, h6, h7, x, p, q, hx, rfl, rfl⟩ := h5
            have g4 : 0 < Nat.gcd kd x := Nat.gcd_pos_of_pos_left x (by omega)
            have g3 : Nat.gcd kd x ≤ kd := Nat.le_of_dvd (by omega) (Nat.gcd_dvd_left kd x)
            rw [h6, h7]
            simp only [Option.bind_some]
            rw [Mo_gcd hkd (by omega) (by omega)]
            simp only [Option.bind_some, nz_n g4 (show Nat.gcd kd x < 2 ^ 31 by omega)]
            by_cases e1 : nI ke = 0
            · rw [if_pos e1, if_pos e1, Option.bind_some, Dc_low (by omega) (by omega) hkd (by omega), pk_div (by omega) (by omega) (by omega)]
              exact ⟨_, ⟨_, rfl⟩, _, rfl⟩
            · rw [if_neg e1, if_neg e1, Option.bind_some, Dc_low (by omega) (by omega) hkd (by omega), pk_div (by omega) (by omega) (by omega)]
              exact ⟨_, ⟨_, rfl⟩, _, rfl⟩
          · rintro k s1 s2 hk ⟨x, g, dl, fr, hd, c, sm, dl2, fr2, hd2, ho, nm, hx, rfl, rfl⟩
            obtain ⟨c', sm', dl', fr', hds', hos', nms', hs1, hs2⟩ := Q_sets h c sm dl2 fr2 hd2 ho nm (nI k)
            obtain ⟨g', dl3', fr3', hd3', hc1, hc2⟩ := Q_cset h g dl fr hd (nI k)
            have y9 := hs2.2.2.2.2.2.2.2.2.1
            have i1 := C_hlt (D := Dz M T t (nI k)) (F := Fz t f (nI k)) (L := L) hi
            have i2 := C_hlt (D := Dz M T t (nI k)) (F := Fz t f (nI k)) (L := L) hj
            refine Or.inl ?_
            simp only [Dc_chance_L55, Mo_chance_L54, if_neg (nI_ge hk (show kd < 2 ^ 31 by omega)), hs1, hc1, Option.bind_some, C_isCut hc2 hi hj, C_at hn hi, C_at hn hj, nI_clamp (show i < 2 ^ 31 by omega), nI_clamp (show j < 2 ^ 31 by omega), y9 i hi, y9 j hj, nI_eq (show hh n (Dz M T t (nI k)) (Fz t f (nI k)) (fw L n) i < 2 ^ 31 by omega) (show hh n (Dz M T t (nI k)) (Fz t f (nI k)) (fw L n) j < 2 ^ 31 by omega), nI_1]
            by_cases e1 : hh n (Dz M T t (nI k)) (Fz t f (nI k)) (fw L n) i = hh n (Dz M T t (nI k)) (Fz t f (nI k)) (fw L n) j
            · rw [if_pos e1, if_pos rfl, if_pos e1]
              rw [show nI x + 0 = nI x + nI 0 from rfl, nI_add]
              exact ⟨_, _, rfl, rfl, x, _, _, _, _, _, _, _, _, _, _, _, by omega, rfl, rfl⟩
            · rw [if_neg e1, if_neg (by decide), if_neg e1]
              exact ⟨_, _, rfl, rfl, x + 1, _, _, _, _, _, _, _, _, _, _, _, by omega, rfl, rfl⟩
          · rintro s1 s2 ⟨x, g, dl, fr, hd, c, sm, dl2, fr2, hd2, ho, nm, hx, rfl, rfl⟩
            simp only [Dc_chance_L55, Mo_chance_L54, if_pos (nI_le (Nat.le_refl kd) (show kd < 2 ^ 31 by omega))]
            exact ⟨_, _, rfl, rfl, _, _, _, hx, rfl, rfl⟩
theorem Q_rise {n M : Nat} {T z : Int32} {L t : Nat → Nat} {f : Nat → Int32} {pl_places : Int32} {pl_links : Int32} {pl_mostDrawn : Int32} {pl_ofTen : Int32} {pl_z : Int32} {pl_lengths : Nat → Int32} {pl_told : Nat → Int32} {pl_delays : Nat → Int32} {pl_fractions : Nat → Int32} {pa_sums : Nat → Int32} {pr_greatestDelay : Int32} {pr_delays : Nat → Int32} {pr_fractions : Nat → Int32} {pr_heads : Nat → Int32} {m_places : Int32} {m_most : Int32} {m_tenths : Int32} {m_now : Nat → Int32} (h : QR n M T z L t f pl_places pl_links pl_mostDrawn pl_ofTen pl_z pl_lengths pl_told pl_delays pl_fractions pa_sums pr_greatestDelay pr_delays pr_fractions pr_heads m_places m_most m_tenths m_now) (m_clusters : Int32) (m_dist : Nat → Int32) (m_delays : Nat → Int32) (m_fractions : Nat → Int32) (m_head : Nat → Int32) (m_hour : Nat → Int32) (m_number : Nat → Int32) (tr_greatestDelay : Int32) (tr_delays : Nat → Int32) (tr_fractions : Nat → Int32) (tr_heads : Nat → Int32) (a : Int32) : ∃ r, (∃ s, Dc_rise pl_places pl_mostDrawn pl_ofTen pl_z pl_told pl_delays pl_fractions pa_sums tr_greatestDelay tr_delays tr_fractions tr_heads a = some (r, s)) ∧ ∃ s, Mo_rise m_places m_most m_tenths m_clusters m_now m_dist m_delays m_fractions m_head m_hour m_number a = some (r, s) := by
  obtain ⟨hw, ⟨rfl, -, -, -, hz, hLc, hC⟩, hX, rfl, -, -, hL, -⟩ := id h
  have hn := hw.2.1
  have hL9 : ∀ k, k < 256 → L k ≤ 9 := fun k hk => (hL k hk).2
  unfold Dc_rise Mo_rise
  rw [Pl_isP hw.1 hn]
  rcases isPl hw.1 hn a with h2 | ⟨i, hi, rfl, h2⟩
  · rw [h2]
    exact ⟨_, ⟨_, rfl⟩, _, rfl⟩
  · rw [h2]
    obtain ⟨c, sm, dl, fr, hds, hos, nms, hs1, hs2⟩ := Q_set h m_clusters m_dist m_delays m_fractions m_head m_hour m_number
    obtain ⟨g, dl2, fr2, hd2, hc1, hc2⟩ := Q_cset h tr_greatestDelay tr_delays tr_fractions tr_heads z
    obtain ⟨-, -, x3, x4, x5, x6, x7, x8⟩ := hc2
    obtain ⟨-, -, -, y4, y5, y6, y7, y8, y9, y10, y11⟩ := hs2
    simp only [Pl_z, Option.bind_some, if_neg (show ¬ (1 : Int32) = 0 by decide), hs1, hz, hc1]
    have h5 := it_two (b1 := Dc_rise_L29 (nI n) pa_sums (nI i) fr2 hd2) (b2 := Mo_rise_L16 (nI n) (nI i) sm fr) (fun (k : Nat) (s1 : Int32 × Int32 × (Nat → Int32)) (s2 : Int32 × Int32 × (Nat → Int32) × (Nat → Int32) × (Nat → Int32) × (Nat → Int32)) => ∃ g dl c dl2 hd ho nm, s1 = (nI k, g, dl) ∧ s2 = (nI k, c, dl2, hd, ho, nm) ∧ ∀ b, b < n → b ≠ i → dl b = nI (Dz M T t z b) ∧ dl2 b = nI (Dz M T t z b)) (fun (t1 : (Int32 × (Nat → Int32)) ⊕ (Int32 × Int32 × (Nat → Int32) × (Nat → Int32) × (Nat → Int32))) (t2 : (Int32 × (Nat → Int32) × (Nat → Int32) × (Nat → Int32) × (Nat → Int32)) ⊕ (Int32 × Int32 × (Nat → Int32) × (Nat → Int32) × (Nat → Int32) × (Nat → Int32) × (Nat → Int32) × (Nat → Int32))) => (∃ p q, t1 = .inl p ∧ t2 = .inl q) ∨ ∃ r p q, t1 = .inr (r, p) ∧ t2 = .inr (r, q)) 31 ?_ ?_ (F := 4096) (s1 := (0, g, dl2)) (s2 := (0, c, dl, hds, hos, nms)) ⟨_, _, _, _, _, _, _, rfl, rfl, fun b hb _ => ⟨x6 b hb, y7 b hb⟩⟩ (by omega)
    · obtain ⟨t1, t2, h6, h7, h8⟩ := h5
      rw [h6, h7]
      simp only [Option.bind_some]
      rcases h8 with ⟨p, q, rfl, rfl⟩ | ⟨r, p, q, rfl, rfl⟩
      · exact ⟨_, ⟨_, rfl⟩, _, rfl⟩
      · exact ⟨_, ⟨_, rfl⟩, _, rfl⟩
    · rintro k s1 s2 hk ⟨g1, da, c1, db, hd1, ho1, nm1, rfl, rfl, hb⟩
      have hD' : ∀ b, b < n → (fun b => if b = i then k else Dz M T t z b) b ≤ 30 := by
        intro b hb
        dsimp only
        split
        · omega
        · exact x3 b hb
      have ha1 : ∀ b, b < n → upd da i (nI k) b = nI ((fun b => if b = i then k else Dz M T t z b) b) := by
        intro b hb2
        dsimp only
        by_cases e : b = i
        · rw [if_pos e, e, pk_us]
        · rw [if_neg e, pk_un e, (hb b hb2 e).1]
      have ha2 : ∀ b, b < n → upd db i (nI k) b = nI ((fun b => if b = i then k else Dz M T t z b) b) := by
        intro b hb2
        dsimp only
        by_cases e : b = i
        · rw [if_pos e, e, pk_us]
        · rw [if_neg e, pk_un e, (hb b hb2 e).2]
      have hd9 : ∀ a b, a < n → b < n → fw L n a b ≤ 1000000 := fun a b ha hb => fw_top hL9 (by omega) (by omega)
      obtain ⟨hds', hos', nms', j1, j2, -, -⟩ := Mo_join_all hn hD' hd9 (fw_ii L n) (fun t ht i j => fw_tri L n t ht i j) (fr := fr) ha2 y6 c1 hd1 ho1 nm1
      have f1 := hh_F (D := fun b => if b = i then k else Dz M T t z b) (d := fw L n) (F := fr2) (G := fr) (fun b hb => by rw [x7 b hb, y8 b hb]) hi
      have i1 := hh_lt (D := fun b => if b = i then k else Dz M T t z b) (F := fr) (d := fw L n) hi
      simp only [Dc_rise_L29, Mo_rise_L16, if_neg (show ¬ (30 : Int32) < nI k from nI_nlt (a := 30) (b := k) (by omega) (by decide)), Cl_replaceDelay, C_at hn hi, nI_clamp (show i < 2 ^ 31 by omega), Cl_great hn hD' ha1, Option.bind_some, Cl_early hn hi hD' hd9 (fw_ii L n) (fr := fr2) ha1 x4, f1, j1, j2 i hi, nI_1]
      by_cases e : nI (hh n (fun b => if b = i then k else Dz M T t z b) fr (fw L n) i) = nI i
      · rw [if_pos e, if_pos e]
        exact Or.inr ⟨_, _, rfl, rfl, Or.inr ⟨_, _, _, rfl, rfl⟩⟩
      · rw [if_neg e, if_neg e]
        exact Or.inl ⟨_, _, rfl, rfl, _, _, _, _, _, _, _, rfl, rfl, fun b h3 h4 => ⟨by rw [pk_un h4, (hb b h3 h4).1], by rw [pk_un h4, (hb b h3 h4).2]⟩⟩
    · rintro s1 s2 ⟨g1, da, c1, db, hd1, ho1, nm1, rfl, rfl, hb⟩
      simp only [Dc_rise_L29, Mo_rise_L16, if_pos (show (30 : Int32) < nI 31 by decide)]
      exact ⟨_, _, rfl, rfl, Or.inl ⟨_, _, rfl, rfl⟩⟩
theorem nlk_n {L : Nat → Nat} {n : Nat} (hn : n ≤ 16) (h : ∀ i j, i < 16 → j < 16 → n ≤ i ∨ n ≤ j → L (16 * i + j) = 0) : nlk L 16 = nlk L n := by
  have key : ∀ m, n + m ≤ 16 → nlk L (n + m) = nlk L n := by
    intro m
    induction m with
    | zero => intro _; rfl
    | succ m ih =>
      intro hm
      have h1 : nlk L (n + (m + 1)) = nlk L (n + m) + cnt (fun j => decide (L (16 * (n + m) + j) ≠ 0)) (n + m) := rfl
      have h2 : cnt (fun j => decide (L (16 * (n + m) + j) ≠ 0)) (n + m) = cnt (fun _ => false) (n + m) := by
        refine cnt_congr _ (fun j hj => ?_)
        rw [h (n + m) j (by omega) (by omega) (Or.inl (by omega))]
        rfl
      have h3 : ∀ k, cnt (fun _ => false) k = 0 := by
        intro k
        induction k with
        | zero => rfl
        | succ k ih => rw [cnt, ih]; rfl
      rw [h1, h2, h3, ih (by omega), Nat.add_zero]
  have := key (16 - n) (by omega)
  rw [show n + (16 - n) = 16 by omega] at this
  exact this
theorem M_linksOf {now : Nat → Int32} {L : Nat → Nat} (hL : okL now L) : Mo_linksOf now = some (nI (nlk L 16)) := by
  have h1 : ∀ i a, i < 16 → it (Mo_linksOf_L12 now (nI i)) 4096 (nI a, 0) = some (nI (a + cnt (fun j => decide (L (16 * i + j) ≠ 0)) i)) := by
    intro i a hi
    refine it_cnt (fun j => decide (L (16 * i + j) ≠ 0)) ?_ ?_ (by omega) a
    · intro j b hj
      have l2 := hL (16 * i + j) (by omega)
      simp only [Mo_linksOf_L12, if_neg (nI_ge hj (show i < 2 ^ 31 by omega)), ix_b, gk_n (show 16 * i + j < 289 by omega) (by decide), nI_clamp (show 16 * i + j < 2 ^ 31 by omega), l2.1, nI_1, decide_eq_true_eq]
      by_cases e : L (16 * i + j) = 0
      · rw [e, if_pos (show nI 0 ≤ 0 by decide), if_neg (fun q => q rfl), show nI b + 0 = nI b + nI 0 from rfl, nI_add]
        rfl
      · rw [if_neg (nI_nle (by omega) (by omega)), if_pos e]
    · intro b
      simp only [Mo_linksOf_L12, if_pos (nI_le (Nat.le_refl i) (show i < 2 ^ 31 by omega))]
  have h2 : it (Mo_linksOf_L4 now) 4096 (nI 0, 0) = some (nI (0 + nlk L 16)) := by
    refine it_sum (fun i => cnt (fun j => decide (L (16 * i + j) ≠ 0)) i) ?_ ?_ (by decide) 0
    · intro i a hi
      simp only [Mo_linksOf_L4, if_neg (show ¬ (16 : Int32) ≤ nI i from nI_ge (b := 16) hi (by decide)), h1 i a hi, Option.bind_some, nI_1]
    · intro a
      simp only [Mo_linksOf_L4, if_pos (show (16 : Int32) ≤ nI 16 by decide)]
  unfold Mo_linksOf
  rw [show it (Mo_linksOf_L4 now) 4096 (0, 0) = _ from h2, Nat.zero_add]
  rfl
theorem Q_count {n M : Nat} {T z : Int32} {L t : Nat → Nat} {f : Nat → Int32} {pl_places : Int32} {pl_links : Int32} {pl_mostDrawn : Int32} {pl_ofTen : Int32} {pl_z : Int32} {pl_lengths : Nat → Int32} {pl_told : Nat → Int32} {pl_delays : Nat → Int32} {pl_fractions : Nat → Int32} {pa_sums : Nat → Int32} {pr_greatestDelay : Int32} {pr_delays : Nat → Int32} {pr_fractions : Nat → Int32} {pr_heads : Nat → Int32} {m_places : Int32} {m_most : Int32} {m_tenths : Int32} {m_now : Nat → Int32} (h : QR n M T z L t f pl_places pl_links pl_mostDrawn pl_ofTen pl_z pl_lengths pl_told pl_delays pl_fractions pa_sums pr_greatestDelay pr_delays pr_fractions pr_heads m_places m_most m_tenths m_now) (m_clusters : Int32) (m_dist : Nat → Int32) (m_delays : Nat → Int32) (m_fractions : Nat → Int32) (m_head : Nat → Int32) (m_hour : Nat → Int32) (m_number : Nat → Int32) {le_length m_length pt_kept m_changes : Int32} (hle : m_length = le_length) (hch : m_changes = pt_kept) (a : Int32) : ∃ r, Dc_count le_length pl_places pl_links pl_mostDrawn pl_ofTen pl_z pl_lengths pl_told pa_sums pr_greatestDelay pr_delays pr_heads pt_kept a = some r ∧ ∃ s, Mo_count m_length m_places m_most m_tenths m_changes m_clusters m_now m_dist m_delays m_fractions m_head m_hour m_number a = some (r, s) := by
  obtain ⟨c, sm, dl, fr, hds, hos, nms, hs1, hs2⟩ := Q_set h m_clusters m_dist m_delays m_fractions m_head m_hour m_number
  obtain ⟨hw, ⟨rfl, rfl, rfl, rfl, rfl, hLc, hC⟩, hX, rfl, rfl, rfl, hL, hT, h288⟩ := h
  subst hle
  subst hch
  have hn := hw.2.1
  have hs3 := hs2.2.2.2.2.1
  have hD := hX.2.2.1
  have hL9 : ∀ k, k < 256 → L k ≤ 9 := fun k hk => (hL k hk).2
  have hcl := cnt_le (ish n (Dz M m_tenths t pl_z) (Fz t f pl_z) (fw L n)) n
  have hsp := spare_sum (F := Fz t f pl_z) hn hD hL9 hw.2.2.2.2.1 hw.2.2.2.2.2.1
  have hnl := nlk_n hn hw.2.2.2.2.2.2.1
  unfold Dc_count Mo_count
  rw [hs1]
  simp only [Option.bind_some]
  rcases isIn_cases a (lo := 0) (hi := 12) (by decide) (by decide) with ⟨-, h4⟩ | ⟨k, -, hk, rfl, -⟩
  · rw [if_neg (show ¬ a = 0 from h4 0 (by decide) (by decide)), if_neg (show ¬ a = 0 from h4 0 (by decide) (by decide)), if_neg (show ¬ a = 1 from h4 1 (by decide) (by decide)), if_neg (show ¬ a = 1 from h4 1 (by decide) (by decide)), if_neg (show ¬ a = 2 from h4 2 (by decide) (by decide)), if_neg (show ¬ a = 2 from h4 2 (by decide) (by decide)), if_neg (show ¬ a = 3 from h4 3 (by decide) (by decide)), if_neg (show ¬ a = 3 from h4 3 (by decide) (by decide)), if_neg (show ¬ a = 4 from h4 4 (by decide) (by decide)), if_neg (show ¬ a = 4 from h4 4 (by decide) (by decide)), if_neg (show ¬ a = 5 from h4 5 (by decide) (by decide)), if_neg (show ¬ a = 5 from h4 5 (by decide) (by decide)), if_neg (show ¬ a = 6 from h4 6 (by decide) (by decide)), if_neg (show ¬ a = 6 from h4 6 (by decide) (by decide)), if_neg (show ¬ a = 7 from h4 7 (by decide) (by decide)), if_neg (show ¬ a = 7 from h4 7 (by decide) (by decide)), if_neg (show ¬ a = 8 from h4 8 (by decide) (by decide)), if_neg (show ¬ a = 8 from h4 8 (by decide) (by decide)), if_neg (show ¬ a = 9 from h4 9 (by decide) (by decide)), if_neg (show ¬ a = 9 from h4 9 (by decide) (by decide)), if_neg (show ¬ a = 10 from h4 10 (by decide) (by decide)), if_neg (show ¬ a = 10 from h4 10 (by decide) (by decide)), if_neg (show ¬ a = 11 from h4 11 (by decide) (by decide)), if_neg (show ¬ a = 11 from h4 11 (by decide) (by decide)), if_neg (show ¬ a = 12 from h4 12 (by decide) (by decide)), if_neg (show ¬ a = 12 from h4 12 (by decide) (by decide))]
    exact ⟨_, rfl, _, rfl⟩
  · rcases (show k = 0 ∨ k = 1 ∨ k = 2 ∨ k = 3 ∨ k = 4 ∨ k = 5 ∨ k = 6 ∨ k = 7 ∨ k = 8 ∨ k = 9 ∨ k = 10 ∨ k = 11 ∨ k = 12 by omega) with rfl | rfl | rfl | rfl | rfl | rfl | rfl | rfl | rfl | rfl | rfl | rfl | rfl
    · rw [if_pos (show nI 0 = 0 from rfl), if_pos (show nI 0 = 0 from rfl)]
      simp only [Pl_places, Option.bind_some]
      exact ⟨_, rfl, _, rfl⟩
    · rw [if_neg (show ¬ nI 1 = 0 by decide), if_neg (show ¬ nI 1 = 0 by decide), if_pos (show nI 1 = 1 from rfl), if_pos (show nI 1 = 1 from rfl)]
      simp only [Pl_links, M_linksOf hL, Option.bind_some]
      exact ⟨_, rfl, _, rfl⟩
    · rw [if_neg (show ¬ nI 2 = 0 by decide), if_neg (show ¬ nI 2 = 0 by decide), if_neg (show ¬ nI 2 = 1 by decide), if_neg (show ¬ nI 2 = 1 by decide), if_pos (show nI 2 = 2 from rfl), if_pos (show nI 2 = 2 from rfl)]
      simp only [C_clusters hX, hs3, Option.bind_some]
      exact ⟨_, rfl, _, rfl⟩
    · rw [if_neg (show ¬ nI 3 = 0 by decide), if_neg (show ¬ nI 3 = 0 by decide), if_neg (show ¬ nI 3 = 1 by decide), if_neg (show ¬ nI 3 = 1 by decide), if_neg (show ¬ nI 3 = 2 by decide), if_neg (show ¬ nI 3 = 2 by decide), if_pos (show nI 3 = 3 from rfl), if_pos (show nI 3 = 3 from rfl)]
      simp only [C_cut hX, M_links hs2, knd2, Option.bind_some]
      exact ⟨_, rfl, _, rfl⟩
    · rw [if_neg (show ¬ nI 4 = 0 by decide), if_neg (show ¬ nI 4 = 0 by decide), if_neg (show ¬ nI 4 = 1 by decide), if_neg (show ¬ nI 4 = 1 by decide), if_neg (show ¬ nI 4 = 2 by decide), if_neg (show ¬ nI 4 = 2 by decide), if_neg (show ¬ nI 4 = 3 by decide), if_neg (show ¬ nI 4 = 3 by decide), if_pos (show nI 4 = 4 from rfl), if_pos (show nI 4 = 4 from rfl)]
      simp only [Cl_spareLinks, Pl_places, Pl_links, C_clusters hX, C_cut hX, M_links hs2, Option.bind_some]
      rw [pk_sub (a := nlk L 16) (by rw [hnl]; unfold nlk; omega), pk_sub (a := n) hcl, pk_sub (by rw [hnl]; unfold nlk; omega)]
      rw [show nlk L 16 - ncut n L (hh n (Dz M m_tenths t pl_z) (Fz t f pl_z) (fw L n)) - (n - cnt (ish n (Dz M m_tenths t pl_z) (Fz t f pl_z) (fw L n)) n) = nknd n L (fw L n) (hh n (Dz M m_tenths t pl_z) (Fz t f pl_z) (fw L n)) 1 by rw [hnl]; unfold nlk; omega]
      exact ⟨_, rfl, _, rfl⟩
    · rw [if_neg (show ¬ nI 5 = 0 by decide), if_neg (show ¬ nI 5 = 0 by decide), if_neg (show ¬ nI 5 = 1 by decide), if_neg (show ¬ nI 5 = 1 by decide), if_neg (show ¬ nI 5 = 2 by decide), if_neg (show ¬ nI 5 = 2 by decide), if_neg (show ¬ nI 5 = 3 by decide), if_neg (show ¬ nI 5 = 3 by decide), if_neg (show ¬ nI 5 = 4 by decide), if_neg (show ¬ nI 5 = 4 by decide), if_pos (show nI 5 = 5 from rfl), if_pos (show nI 5 = 5 from rfl)]
      simp only [C_gwide hX, M_gwide hs2, Option.bind_some]
      exact ⟨_, rfl, _, rfl⟩
    · rw [if_neg (show ¬ nI 6 = 0 by decide), if_neg (show ¬ nI 6 = 0 by decide), if_neg (show ¬ nI 6 = 1 by decide), if_neg (show ¬ nI 6 = 1 by decide), if_neg (show ¬ nI 6 = 2 by decide), if_neg (show ¬ nI 6 = 2 by decide), if_neg (show ¬ nI 6 = 3 by decide), if_neg (show ¬ nI 6 = 3 by decide), if_neg (show ¬ nI 6 = 4 by decide), if_neg (show ¬ nI 6 = 4 by decide), if_neg (show ¬ nI 6 = 5 by decide), if_neg (show ¬ nI 6 = 5 by decide), if_pos (show nI 6 = 6 from rfl), if_pos (show nI 6 = 6 from rfl)]
      simp only [C_last hX, M_last hs2, Option.bind_some]
      exact ⟨_, rfl, _, rfl⟩
    · rw [if_neg (show ¬ nI 7 = 0 by decide), if_neg (show ¬ nI 7 = 0 by decide), if_neg (show ¬ nI 7 = 1 by decide), if_neg (show ¬ nI 7 = 1 by decide), if_neg (show ¬ nI 7 = 2 by decide), if_neg (show ¬ nI 7 = 2 by decide), if_neg (show ¬ nI 7 = 3 by decide), if_neg (show ¬ nI 7 = 3 by decide), if_neg (show ¬ nI 7 = 4 by decide), if_neg (show ¬ nI 7 = 4 by decide), if_neg (show ¬ nI 7 = 5 by decide), if_neg (show ¬ nI 7 = 5 by decide), if_neg (show ¬ nI 7 = 6 by decide), if_neg (show ¬ nI 7 = 6 by decide), if_pos (show nI 7 = 7 from rfl), if_pos (show nI 7 = 7 from rfl)]
      simp only [C_told hn hC, M_told hn hT, Option.bind_some]
      exact ⟨_, rfl, _, rfl⟩
    · rw [if_neg (show ¬ nI 8 = 0 by decide), if_neg (show ¬ nI 8 = 0 by decide), if_neg (show ¬ nI 8 = 1 by decide), if_neg (show ¬ nI 8 = 1 by decide), if_neg (show ¬ nI 8 = 2 by decide), if_neg (show ¬ nI 8 = 2 by decide), if_neg (show ¬ nI 8 = 3 by decide), if_neg (show ¬ nI 8 = 3 by decide), if_neg (show ¬ nI 8 = 4 by decide), if_neg (show ¬ nI 8 = 4 by decide), if_neg (show ¬ nI 8 = 5 by decide), if_neg (show ¬ nI 8 = 5 by decide), if_neg (show ¬ nI 8 = 6 by decide), if_neg (show ¬ nI 8 = 6 by decide), if_neg (show ¬ nI 8 = 7 by decide), if_neg (show ¬ nI 8 = 7 by decide), if_pos (show nI 8 = 8 from rfl), if_pos (show nI 8 = 8 from rfl)]
      simp only [Pl_z, Option.bind_some, show ((288 : Int32).toNatClampNeg) = 288 from rfl, h288]
      exact ⟨_, rfl, _, rfl⟩
    · rw [if_neg (show ¬ nI 9 = 0 by decide), if_neg (show ¬ nI 9 = 0 by decide), if_neg (show ¬ nI 9 = 1 by decide), if_neg (show ¬ nI 9 = 1 by decide), if_neg (show ¬ nI 9 = 2 by decide), if_neg (show ¬ nI 9 = 2 by decide), if_neg (show ¬ nI 9 = 3 by decide), if_neg (show ¬ nI 9 = 3 by decide), if_neg (show ¬ nI 9 = 4 by decide), if_neg (show ¬ nI 9 = 4 by decide), if_neg (show ¬ nI 9 = 5 by decide), if_neg (show ¬ nI 9 = 5 by decide), if_neg (show ¬ nI 9 = 6 by decide), if_neg (show ¬ nI 9 = 6 by decide), if_neg (show ¬ nI 9 = 7 by decide), if_neg (show ¬ nI 9 = 7 by decide), if_neg (show ¬ nI 9 = 8 by decide), if_neg (show ¬ nI 9 = 8 by decide), if_pos (show nI 9 = 9 from rfl), if_pos (show nI 9 = 9 from rfl)]
      simp only [Pl_mostDrawn, Option.bind_some]
      exact ⟨_, rfl, _, rfl⟩
    · rw [if_neg (show ¬ nI 10 = 0 by decide), if_neg (show ¬ nI 10 = 0 by decide), if_neg (show ¬ nI 10 = 1 by decide), if_neg (show ¬ nI 10 = 1 by decide), if_neg (show ¬ nI 10 = 2 by decide), if_neg (show ¬ nI 10 = 2 by decide), if_neg (show ¬ nI 10 = 3 by decide), if_neg (show ¬ nI 10 = 3 by decide), if_neg (show ¬ nI 10 = 4 by decide), if_neg (show ¬ nI 10 = 4 by decide), if_neg (show ¬ nI 10 = 5 by decide), if_neg (show ¬ nI 10 = 5 by decide), if_neg (show ¬ nI 10 = 6 by decide), if_neg (show ¬ nI 10 = 6 by decide), if_neg (show ¬ nI 10 = 7 by decide), if_neg (show ¬ nI 10 = 7 by decide), if_neg (show ¬ nI 10 = 8 by decide), if_neg (show ¬ nI 10 = 8 by decide), if_neg (show ¬ nI 10 = 9 by decide), if_neg (show ¬ nI 10 = 9 by decide), if_pos (show nI 10 = 10 from rfl), if_pos (show nI 10 = 10 from rfl)]
      simp only [Pl_ofTen, Option.bind_some]
      exact ⟨_, rfl, _, rfl⟩
    · rw [if_neg (show ¬ nI 11 = 0 by decide), if_neg (show ¬ nI 11 = 0 by decide), if_neg (show ¬ nI 11 = 1 by decide), if_neg (show ¬ nI 11 = 1 by decide), if_neg (show ¬ nI 11 = 2 by decide), if_neg (show ¬ nI 11 = 2 by decide), if_neg (show ¬ nI 11 = 3 by decide), if_neg (show ¬ nI 11 = 3 by decide), if_neg (show ¬ nI 11 = 4 by decide), if_neg (show ¬ nI 11 = 4 by decide), if_neg (show ¬ nI 11 = 5 by decide), if_neg (show ¬ nI 11 = 5 by decide), if_neg (show ¬ nI 11 = 6 by decide), if_neg (show ¬ nI 11 = 6 by decide), if_neg (show ¬ nI 11 = 7 by decide), if_neg (show ¬ nI 11 = 7 by decide), if_neg (show ¬ nI 11 = 8 by decide), if_neg (show ¬ nI 11 = 8 by decide), if_neg (show ¬ nI 11 = 9 by decide), if_neg (show ¬ nI 11 = 9 by decide), if_neg (show ¬ nI 11 = 10 by decide), if_neg (show ¬ nI 11 = 10 by decide), if_pos (show nI 11 = 11 from rfl), if_pos (show nI 11 = 11 from rfl)]
      simp only [Pt_kept, Option.bind_some]
      exact ⟨_, rfl, _, rfl⟩
    · rw [if_neg (show ¬ nI 12 = 0 by decide), if_neg (show ¬ nI 12 = 0 by decide), if_neg (show ¬ nI 12 = 1 by decide), if_neg (show ¬ nI 12 = 1 by decide), if_neg (show ¬ nI 12 = 2 by decide), if_neg (show ¬ nI 12 = 2 by decide), if_neg (show ¬ nI 12 = 3 by decide), if_neg (show ¬ nI 12 = 3 by decide), if_neg (show ¬ nI 12 = 4 by decide), if_neg (show ¬ nI 12 = 4 by decide), if_neg (show ¬ nI 12 = 5 by decide), if_neg (show ¬ nI 12 = 5 by decide), if_neg (show ¬ nI 12 = 6 by decide), if_neg (show ¬ nI 12 = 6 by decide), if_neg (show ¬ nI 12 = 7 by decide), if_neg (show ¬ nI 12 = 7 by decide), if_neg (show ¬ nI 12 = 8 by decide), if_neg (show ¬ nI 12 = 8 by decide), if_neg (show ¬ nI 12 = 9 by decide), if_neg (show ¬ nI 12 = 9 by decide), if_neg (show ¬ nI 12 = 10 by decide), if_neg (show ¬ nI 12 = 10 by decide), if_neg (show ¬ nI 12 = 11 by decide), if_neg (show ¬ nI 12 = 11 by decide), if_pos (show nI 12 = 12 from rfl), if_pos (show nI 12 = 12 from rfl)]
      simp only [Le_size, Option.bind_some]
      exact ⟨_, rfl, _, rfl⟩
