/-! all items of a text -/
theorem nd_is (c : Nat) (hc : c ≤ 126) : (Rd_numbersNeeded (nI c) = some (nI 0) ∨ Rd_numbersNeeded (nI c) = some (nI 1) ∨ Rd_numbersNeeded (nI c) = some (nI 2) ∨ Rd_numbersNeeded (nI c) = some (nI 3)) ∧ (c ≠ 100 → c ≠ 108 → c ≠ 109 → c ≠ 110 → c ≠ 122 → Rd_numbersNeeded (nI c) = some (nI 0)) := by
  have h : ∀ q, q < 2 ^ 31 → (nI c = nI q ↔ c = q) := fun q hq => nI_eq (by omega) hq
  have h1 : nI c = 100 ↔ c = 100 := h 100 (by decide)
  have h2 : nI c = 108 ↔ c = 108 := h 108 (by decide)
  have h3 : nI c = 109 ↔ c = 109 := h 109 (by decide)
  have h4 : nI c = 110 ↔ c = 110 := h 110 (by decide)
  have h5 : nI c = 122 ↔ c = 122 := h 122 (by decide)
  unfold Rd_numbersNeeded
  by_cases e1 : c = 100
  · rw [if_pos (h1.mpr e1)]
    exact ⟨Or.inr (Or.inr (Or.inr rfl)), fun w => absurd e1 w⟩
  · rw [if_neg (fun w => e1 (h1.mp w))]
    by_cases e2 : c = 108
    · rw [if_pos (h2.mpr e2)]
      exact ⟨Or.inr (Or.inr (Or.inr rfl)), fun _ w => absurd e2 w⟩
    · rw [if_neg (fun w => e2 (h2.mp w))]
      by_cases e3 : c = 109
      · rw [if_pos (h3.mpr e3)]
        exact ⟨Or.inr (Or.inr (Or.inl rfl)), fun _ _ w => absurd e3 w⟩
      · rw [if_neg (fun w => e3 (h3.mp w))]
        by_cases e4 : c = 110
        · rw [if_pos (h4.mpr e4)]
          exact ⟨Or.inr (Or.inl rfl), fun _ _ _ w => absurd e4 w⟩
        · rw [if_neg (fun w => e4 (h4.mp w))]
          by_cases e5 : c = 122
          · rw [if_pos (h5.mpr e5)]
            exact ⟨Or.inr (Or.inl rfl), fun _ _ _ _ w => absurd e5 w⟩
          · rw [if_neg (fun w => e5 (h5.mp w))]
            exact ⟨Or.inl rfl, fun _ _ _ _ _ => rfl⟩
theorem B_ex {k : Nat} {tl : Nat → Nat} {sg tx : Nat → Int32} (hk : k ≤ 200) (hs : ∀ j, j < k → sg j = nI (tl j) ∧ tx j = nI (tl j) ∧ 32 ≤ tl j ∧ tl j ≤ 126) {p : Nat} (hp : p < k) (nums : Nat → Int32) : (∃ u, Rd_behindItem nums (nI k) sg (nI p) = some (-4, u)) ∨ ∃ e u, e ≤ 300 ∧ Rd_behindItem nums (nI k) sg (nI p) = some (nI e, u) := by
  rcases (nd_is (tl p) (hs p hp).2.2.2).1 with h | h | h | h
  · exact Or.inl (B0 hk hs hp h nums)
  · by_cases c : nc k tl (p + 1) 59
    · exact Or.inr ⟨_, _, by have := c.2.1; omega, B1_ok hk hs hp h nums c⟩
    · exact Or.inl (B1_no hk hs hp h nums c)
  · by_cases c : nc k tl (p + 1) 44 ∧ nc k tl (en k tl (p + 1) + 1) 59
    · exact Or.inr ⟨_, _, by have := c.2.2.1; omega, B2_ok hk hs hp h nums c.1 c.2⟩
    · exact Or.inl (B2_no hk hs hp h nums c)
  · by_cases c : nc k tl (p + 1) 44 ∧ nc k tl (en k tl (p + 1) + 1) 44 ∧ nc k tl (en k tl (en k tl (p + 1) + 1) + 1) 59
    · exact Or.inr ⟨_, _, by have := c.2.2.2.1; omega, B3_ok hk hs hp h nums c.1 c.2.1 c.2.2⟩
    · exact Or.inl (B3_no hk hs hp h nums c)
theorem K_x {k : Nat} {tl : Nat → Nat} {sg tx : Nat → Int32} (hk : k ≤ 200) (hs : ∀ j, j < k → sg j = nI (tl j) ∧ tx j = nI (tl j) ∧ 32 ≤ tl j ∧ tl j ≤ 126) {p i : Nat} (hp : p < k) (hi : i < 200) {rd_numbers : Nat → Int32} {dr_places : Int32} {dr_links : Int32} {dr_mostDrawn : Int32} {dr_ofTen : Int32} {dr_z : Int32} {dr_lengths : Nat → Int32} {dr_told : Nat → Int32} {dr_delays : Nat → Int32} {dr_fractions : Nat → Int32} {m_readPlaces : Int32} {m_read : Nat → Int32} {m_readRule : Nat → Int32} {m_value : Int32} {m_ends : Int32} {n M : Nat} {T : Int32} {s : St} (hd : DR n M T s dr_places dr_links dr_mostDrawn dr_ofTen dr_z dr_lengths dr_told dr_delays dr_fractions m_readPlaces m_read m_readRule) (hn : n ≤ 16) (hx : (tl p = 110 ∧ n ≠ 0 ∧ p ≠ 0) ∨ (tl p ≠ 110 ∧ n = 0 ∧ p = 0)) : Bth k tl sg tx p i rd_numbers dr_places dr_links dr_mostDrawn dr_ofTen dr_z dr_lengths dr_told dr_delays dr_fractions m_readPlaces m_read m_readRule m_value m_ends := by
  obtain ⟨a1, a2, a3, a4, a5, hLc, hC, a6, a7, a8, hN⟩ := hd
  subst a1 a6
  have h110 : nI (tl p) = 110 ↔ tl p = 110 := nI_eq (b := 110) (by have := (hs p hp).2.2.2; omega) (by decide)
  have hT : ∀ u, ∃ w, Rd_takesItem u (nI n) dr_links dr_mostDrawn dr_ofTen dr_z dr_lengths dr_told dr_delays dr_fractions (nI (tl p)) = some (0, w) := by
    intro u
    unfold Rd_takesItem
    rcases hx with ⟨x1, x2, -⟩ | ⟨x1, x2, -⟩
    · rw [if_pos (h110.mpr x1)]
      simp only [Option.bind_some, Pl_places, if_neg (nI_ne0 (show 0 < n by omega) (show n < 2 ^ 31 by omega))]
      rw [if_neg (by decide)]
      exact ⟨_, rfl⟩
    · rw [if_neg (fun w => x1 (h110.mp w))]
      simp only [Option.bind_some, Pl_places, if_pos (show nI n = 0 by rw [x2]; rfl)]
      rw [if_neg (by decide)]
      exact ⟨_, rfl⟩
  refine Or.inl ⟨?_, MF hk hs hp ?_⟩
  · rcases B_ex hk hs hp rd_numbers with h | ⟨e, u, he, h⟩
    · exact CF_form hk hs hp hi h
    · exact CF_take hk hs hp hi he h (hT u)
  · unfold Mo_readsItem
    rcases hx with ⟨x1, -, x3⟩ | ⟨x1, -, x3⟩
    · rw [if_pos (h110.mpr x1), if_neg x3, Option.bind_some, if_neg (by decide)]
      exact ⟨_, rfl⟩
    · rw [if_neg (fun w => x1 (h110.mp w)), if_pos x3, Option.bind_some, if_neg (by decide)]
      exact ⟨_, rfl⟩
theorem K_o {k : Nat} {tl : Nat → Nat} {sg tx : Nat → Int32} (hk : k ≤ 200) (hs : ∀ j, j < k → sg j = nI (tl j) ∧ tx j = nI (tl j) ∧ 32 ≤ tl j ∧ tl j ≤ 126) {p i : Nat} (hp : p < k) (hi : i < 200) {rd_numbers : Nat → Int32} {dr_places : Int32} {dr_links : Int32} {dr_mostDrawn : Int32} {dr_ofTen : Int32} {dr_z : Int32} {dr_lengths : Nat → Int32} {dr_told : Nat → Int32} {dr_delays : Nat → Int32} {dr_fractions : Nat → Int32} {m_readPlaces : Int32} {m_read : Nat → Int32} {m_readRule : Nat → Int32} {m_value : Int32} {m_ends : Int32} {n M : Nat} {T : Int32} {s : St} (hd : DR n M T s dr_places dr_links dr_mostDrawn dr_ofTen dr_z dr_lengths dr_told dr_delays dr_fractions m_readPlaces m_read m_readRule) (hp0 : p ≠ 0) (hx : tl p ≠ 100 ∧ tl p ≠ 108 ∧ tl p ≠ 109 ∧ tl p ≠ 110 ∧ tl p ≠ 122) : Bth k tl sg tx p i rd_numbers dr_places dr_links dr_mostDrawn dr_ofTen dr_z dr_lengths dr_told dr_delays dr_fractions m_readPlaces m_read m_readRule m_value m_ends := by
  have h1 := (hs p hp).2.2.2
  have h : ∀ q, q < 2 ^ 31 → tl p ≠ q → ¬ nI (tl p) = nI q := fun q hq w v => w ((nI_eq (by omega) hq).mp v)
  refine Or.inl ⟨CF_form hk hs hp hi (B0 hk hs hp ((nd_is (tl p) h1).2 hx.1 hx.2.1 hx.2.2.1 hx.2.2.2.1 hx.2.2.2.2) rd_numbers), MF hk hs hp ?_⟩
  unfold Mo_readsItem
  rw [if_neg (show ¬ nI (tl p) = 110 from h 110 (by decide) hx.2.2.2.1), if_neg hp0, Option.bind_some, if_pos rfl, if_neg (show ¬ nI (tl p) = 100 from h 100 (by decide) hx.1), if_neg (show ¬ nI (tl p) = 108 from h 108 (by decide) hx.2.1), if_neg (show ¬ nI (tl p) = 109 from h 109 (by decide) hx.2.2.1), if_neg (show ¬ nI (tl p) = 110 from h 110 (by decide) hx.2.2.2.1), if_neg (show ¬ nI (tl p) = 122 from h 122 (by decide) hx.2.2.2.2)]
  exact ⟨_, rfl⟩
/-- how far the reading is -/
def DX (p n M : Nat) (s : St) : Prop := (p = 0 ∧ n = 0 ∧ M = 8 ∧ (∀ q, q < 256 → s.1 q = 0) ∧ ∀ b, b < 16 → s.2.1 b = 0) ∨ (p ≠ 0 ∧ WF n M s.1 s.2.1)
theorem K_all {k : Nat} {tl : Nat → Nat} {sg tx : Nat → Int32} (hk : k ≤ 200) (hs : ∀ j, j < k → sg j = nI (tl j) ∧ tx j = nI (tl j) ∧ 32 ≤ tl j ∧ tl j ≤ 126) {p i : Nat} (hp : p < k) (hi : i < 200) {rd_numbers : Nat → Int32} {dr_places : Int32} {dr_links : Int32} {dr_mostDrawn : Int32} {dr_ofTen : Int32} {dr_z : Int32} {dr_lengths : Nat → Int32} {dr_told : Nat → Int32} {dr_delays : Nat → Int32} {dr_fractions : Nat → Int32} {m_readPlaces : Int32} {m_read : Nat → Int32} {m_readRule : Nat → Int32} {m_value : Int32} {m_ends : Int32} {n M : Nat} {T : Int32} {s : St} (hd : DR n M T s dr_places dr_links dr_mostDrawn dr_ofTen dr_z dr_lengths dr_told dr_delays dr_fractions m_readPlaces m_read m_readRule) (hx : DX p n M s) : Bth k tl sg tx p i rd_numbers dr_places dr_links dr_mostDrawn dr_ofTen dr_z dr_lengths dr_told dr_delays dr_fractions m_readPlaces m_read m_readRule m_value m_ends := by
  rcases hx with ⟨x1, x2, x3, x4, x5⟩ | ⟨x1, x2⟩
  · by_cases e : tl p = 110
    · exact K_n hk hs hp hi hd x2 x3 x4 x5 x1 e
    · exact K_x hk hs hp hi hd (by omega) (Or.inr ⟨e, x2, x1⟩)
  · by_cases e1 : tl p = 110
    · exact K_x hk hs hp hi hd x2.2.1 (Or.inl ⟨e1, by have := x2.1; omega, x1⟩)
    · by_cases e2 : tl p = 100
      · exact K_d hk hs hp hi hd x2 (by omega) e2
      · by_cases e3 : tl p = 108
        · exact K_l hk hs hp hi hd x2 (by omega) e3
        · by_cases e4 : tl p = 109
          · exact K_m hk hs hp hi hd x2 (by omega) e4
          · by_cases e5 : tl p = 122
            · exact K_z hk hs hp hi hd x2 (by omega) e5
            · exact K_o hk hs hp hi hd x1 ⟨e2, e3, e4, e1, e5⟩
theorem Ja_f (ln : Nat → Int32) : ∃ w, Ja_fill ln 0 = some w ∧ ∀ j, j < 256 → w j = 0 := by
  have h : ∃ w, it (Ja_fill_L5 0) 4096 (0, ln) = some w ∧ ∀ j, j < 256 → w j = 0 := by
    refine it_inv (F := 4096) (fun (k : Nat) (s : Int32 × (Nat → Int32)) => s.1 = nI k ∧ ∀ j, j < k → s.2 j = 0) (fun (w : Nat → Int32) => ∀ j, j < 256 → w j = 0) 256 ?_ ?_ ⟨rfl, fun j hj => absurd hj (Nat.not_lt_zero _)⟩ (by omega)
    · rintro k ⟨v, w⟩ hk ⟨h1, h2⟩
      dsimp only at h1 h2
      subst h1
      refine Or.inl ?_
      simp only [Ja_fill_L5, if_neg (show ¬ (256 : Int32) ≤ nI k from nI_ge (b := 256) hk (by decide)), gk_n (show k < 256 by omega) (by decide), nI_clamp (show k < 2 ^ 31 by omega), nI_1]
      refine ⟨_, rfl, rfl, fun j hj => ?_⟩
      dsimp only
      by_cases e : j = k
      · rw [e, pk_us]
      · rw [pk_un e, h2 j (by omega)]
    · rintro ⟨v, w⟩ ⟨h1, h2⟩
      dsimp only at h1 h2
      subst h1
      refine ⟨w, ?_, h2⟩
      simp only [Ja_fill_L5, if_pos (show (256 : Int32) ≤ nI 256 by decide)]
  obtain ⟨w, h1, h2⟩ := h
  refine ⟨w, ?_, h2⟩
  unfold Ja_fill
  rw [h1]
  rfl
theorem Pl_clr (a b c d e : Int32) (ln told dls frs : Nat → Int32) : ∃ ln' told' dls' frs', Pl_clear a b c d e ln told dls frs = some (0, 0, 8, 6, 0, ln', told', dls', frs') ∧ (∀ j, j < 256 → ln' j = 0) ∧ ∀ j, j < 16 → told' j = 0 ∧ dls' j = 0 ∧ frs' j = 0 := by
  have h : ∃ w, it Pl_clear_L10 4096 (0, told, dls, frs) = some w ∧ ∀ j, j < 16 → w.1 j = 0 ∧ w.2.1 j = 0 ∧ w.2.2 j = 0 := by
    refine it_inv (F := 4096) (fun (k : Nat) (s : Int32 × (Nat → Int32) × (Nat → Int32) × (Nat → Int32)) => s.1 = nI k ∧ ∀ j, j < k → s.2.1 j = 0 ∧ s.2.2.1 j = 0 ∧ s.2.2.2 j = 0) (fun (w : (Nat → Int32) × (Nat → Int32) × (Nat → Int32)) => ∀ j, j < 16 → w.1 j = 0 ∧ w.2.1 j = 0 ∧ w.2.2 j = 0) 16 ?_ ?_ ⟨rfl, fun j hj => absurd hj (Nat.not_lt_zero _)⟩ (by omega)
    · rintro k ⟨v, w1, w2, w3⟩ hk ⟨h1, h2⟩
      dsimp only at h1 h2
      subst h1
      refine Or.inl ?_
      simp only [Pl_clear_L10, if_neg (show ¬ (16 : Int32) ≤ nI k from nI_ge (b := 16) hk (by decide)), Pl_unt hk, Option.bind_some, nI_1]
      refine ⟨_, rfl, rfl, fun j hj => ?_⟩
      dsimp only
      by_cases e : j = k
      · rw [e, pk_us, pk_us, pk_us]
        exact ⟨rfl, rfl, rfl⟩
      · rw [pk_un e, pk_un e, pk_un e]
        exact h2 j (by omega)
    · rintro ⟨v, w1, w2, w3⟩ ⟨h1, h2⟩
      dsimp only at h1 h2
      subst h1
      refine ⟨(w1, w2, w3), ?_, h2⟩
      simp only [Pl_clear_L10, if_pos (show (16 : Int32) ≤ nI 16 by decide)]
  obtain ⟨ln', g1, g2⟩ := Ja_f ln
  obtain ⟨⟨w1, w2, w3⟩, h1, h2⟩ := h
  refine ⟨ln', w1, w2, w3, ?_, g2, h2⟩
  unfold Pl_clear
  rw [g1, Option.bind_some, h1]
  rfl
theorem Mo_clr (a : Int32) (rd rr : Nat → Int32) : ∃ rd', Mo_clears a rd rr = some (0, rd', upd (upd rr 0 8) 1 6) ∧ ∀ j, j < 289 → rd' j = 0 := by
  have h : ∃ w, it Mo_clears_L23 4096 (0, rd) = some w ∧ ∀ j, j < 289 → w j = 0 := by
    refine it_inv (F := 4096) (fun (k : Nat) (s : Int32 × (Nat → Int32)) => s.1 = nI k ∧ ∀ j, j < k → s.2 j = 0) (fun (w : Nat → Int32) => ∀ j, j < 289 → w j = 0) 289 ?_ ?_ ⟨rfl, fun j hj => absurd hj (Nat.not_lt_zero _)⟩ (by omega)
    · rintro k ⟨v, w⟩ hk ⟨h1, h2⟩
      dsimp only at h1 h2
      subst h1
      refine Or.inl ?_
      simp only [Mo_clears_L23, if_neg (show ¬ (289 : Int32) ≤ nI k from nI_ge (b := 289) hk (by decide)), gk_n (show k < 289 by omega) (by decide), nI_clamp (show k < 2 ^ 31 by omega), nI_1]
      refine ⟨_, rfl, rfl, fun j hj => ?_⟩
      dsimp only
      by_cases e : j = k
      · rw [e, pk_us]
      · rw [pk_un e, h2 j (by omega)]
    · rintro ⟨v, w⟩ ⟨h1, h2⟩
      dsimp only at h1 h2
      subst h1
      refine ⟨w, ?_, h2⟩
      simp only [Mo_clears_L23, if_pos (show (289 : Int32) ≤ nI 289 by decide)]
  obtain ⟨w, h1, h2⟩ := h
  refine ⟨w, ?_, h2⟩
  unfold Mo_clears
  rw [h1]
  rfl
theorem Mo_tak (a b c d rp : Int32) (now rd rr : Nat → Int32) : ∃ now', Mo_takes a b c d rp now rd rr = some (rp, rr 0, rr 1, 0, now') ∧ ∀ j, j < 289 → now' j = rd j := by
  have h : ∃ w, it (Mo_takes_L30 rd) 4096 (0, now) = some w ∧ ∀ j, j < 289 → w j = rd j := by
    refine it_inv (F := 4096) (fun (k : Nat) (s : Int32 × (Nat → Int32)) => s.1 = nI k ∧ ∀ j, j < k → s.2 j = rd j) (fun (w : Nat → Int32) => ∀ j, j < 289 → w j = rd j) 289 ?_ ?_ ⟨rfl, fun j hj => absurd hj (Nat.not_lt_zero _)⟩ (by omega)
    · rintro k ⟨v, w⟩ hk ⟨h1, h2⟩
      dsimp only at h1 h2
      subst h1
      refine Or.inl ?_
      simp only [Mo_takes_L30, if_neg (show ¬ (289 : Int32) ≤ nI k from nI_ge (b := 289) hk (by decide)), gk_n (show k < 289 by omega) (by decide), nI_clamp (show k < 2 ^ 31 by omega), nI_1]
      refine ⟨_, rfl, rfl, fun j hj => ?_⟩
      dsimp only
      by_cases e : j = k
      · rw [e, pk_us]
      · rw [pk_un e, h2 j (by omega)]
    · rintro ⟨v, w⟩ ⟨h1, h2⟩
      dsimp only at h1 h2
      subst h1
      refine ⟨w, ?_, h2⟩
      simp only [Mo_takes_L30, if_pos (show (289 : Int32) ≤ nI 289 by decide)]
  obtain ⟨w, h1, h2⟩ := h
  refine ⟨w, ?_, h2⟩
  unfold Mo_takes
  rw [h1]
  rfl
theorem Pl_cpy {L t : Nat → Nat} {f : Nat → Int32} {oln oto odl ofr : Nat → Int32} (hL : okL oln L) (hC : okC oto odl ofr t f) (a b c d e : Int32) (ln told dls frs : Nat → Int32) (q1 q2 q3 q4 q5 : Int32) : ∃ ln' told' dls' frs', Pl_copyFrom a b c d e ln told dls frs q1 q2 q3 q4 q5 oln oto odl ofr = some (q1, q2, q3, q4, q5, ln', told', dls', frs') ∧ okL ln' L ∧ okC told' dls' frs' t f := by
  have h : ∃ w, it (Pl_copyFrom_L20 oto odl ofr) 4096 (0, told, dls, frs) = some w ∧ ∀ j, j < 16 → w.1 j = oto j ∧ w.2.1 j = odl j ∧ w.2.2 j = ofr j := by
    refine it_inv (F := 4096) (fun (k : Nat) (s : Int32 × (Nat → Int32) × (Nat → Int32) × (Nat → Int32)) => s.1 = nI k ∧ ∀ j, j < k → s.2.1 j = oto j ∧ s.2.2.1 j = odl j ∧ s.2.2.2 j = ofr j) (fun (w : (Nat → Int32) × (Nat → Int32) × (Nat → Int32)) => ∀ j, j < 16 → w.1 j = oto j ∧ w.2.1 j = odl j ∧ w.2.2 j = ofr j) 16 ?_ ?_ ⟨rfl, fun j hj => absurd hj (Nat.not_lt_zero _)⟩ (by omega)
    · rintro k ⟨v, w1, w2, w3⟩ hk ⟨h1, h2⟩
      dsimp only at h1 h2
      subst h1
      have h3 : vp_nar .boolean (oto k) = oto k := by
        rw [(hC k hk).1]
        split <;> rfl
      refine Or.inl ?_
      simp only [Pl_copyFrom_L20, if_neg (show ¬ (16 : Int32) ≤ nI k from nI_ge (b := 16) hk (by decide)), gk_n hk (show 16 < 2 ^ 31 by decide), nI_clamp (show k < 2 ^ 31 by omega), h3, nI_1]
      refine ⟨_, rfl, rfl, fun j hj => ?_⟩
      dsimp only
      by_cases e : j = k
      · rw [e, pk_us, pk_us, pk_us]
        exact ⟨rfl, rfl, rfl⟩
      · rw [pk_un e, pk_un e, pk_un e]
        exact h2 j (by omega)
    · rintro ⟨v, w1, w2, w3⟩ ⟨h1, h2⟩
      dsimp only at h1 h2
      subst h1
      refine ⟨(w1, w2, w3), ?_, h2⟩
      simp only [Pl_copyFrom_L20, if_pos (show (16 : Int32) ≤ nI 16 by decide)]
  obtain ⟨⟨w1, w2, w3⟩, h1, h2⟩ := h
  refine ⟨_, w1, w2, w3, by unfold Pl_copyFrom; rw [h1]; rfl, fun j hj => ?_, fun j hj => ?_⟩
  · have h3 : va_cpy oln ln (0 : Int32).toNatClampNeg (0 : Int32).toNatClampNeg (256 : Int32).toNatClampNeg j = oln j := by
      show (if 0 ≤ j ∧ j < 0 + 256 then oln (0 + (j - 0)) else ln j) = oln j
      rw [if_pos (by omega), Nat.zero_add, Nat.sub_zero]
    rw [h3]
    exact hL j hj
  · have h9 := h2 j hj
    dsimp only at h9
    rw [h9.1, h9.2.1, h9.2.2]
    exact hC j hj
theorem X_read {k : Nat} {tl : Nat → Nat} {le_length : Int32} {le_signs : Nat → Int32} {m_length : Int32} {m_text : Nat → Int32} (h : TX k tl le_length le_signs m_length m_text) (rd_numbers : Nat → Int32) (dr_places : Int32) (dr_links : Int32) (dr_mostDrawn : Int32) (dr_ofTen : Int32) (dr_z : Int32) (dr_lengths : Nat → Int32) (dr_told : Nat → Int32) (dr_delays : Nat → Int32) (dr_fractions : Nat → Int32) (m_readPlaces : Int32) (m_read : Nat → Int32) (m_readRule : Nat → Int32) (m_value : Int32) (m_ends : Int32) : ∃ r u e1 e2 e3 e4 e5 e6 e7 e8 e9 rp v e rd rr, Rd_firstFault rd_numbers dr_places dr_links dr_mostDrawn dr_ofTen dr_z dr_lengths dr_told dr_delays dr_fractions le_length le_signs = some (r, u, e1, e2, e3, e4, e5, e6, e7, e8, e9) ∧ Mo_reads m_length m_readPlaces m_value m_ends m_text m_read m_readRule = some (r, rp, v, e, rd, rr) ∧ (r = -4 → ∃ n M T s, DR n M T s e1 e2 e3 e4 e5 e6 e7 e8 e9 rp rd rr ∧ (n = 0 ∨ WF n M s.1 s.2.1)) := by
  obtain ⟨hk, rfl, rfl, hs⟩ := h
  obtain ⟨ln, to, dz, fz, p1, p2, p3⟩ := Pl_clr dr_places dr_links dr_mostDrawn dr_ofTen dr_z dr_lengths dr_told dr_delays dr_fractions
  obtain ⟨rd, q1, q2⟩ := Mo_clr m_readPlaces m_read m_readRule
  unfold Rd_firstFault Mo_reads
  rw [p1, q1]
  simp only [Option.bind_some]
  have h5 := it_two (b1 := Rd_firstFault_L11 (nI k) le_signs) (b2 := Mo_reads_L6 (nI k) m_text) (fun (i : Nat) (s1 : Int32 × Int32 × (Nat → Int32) × Int32 × Int32 × Int32 × Int32 × Int32 × (Nat → Int32) × (Nat → Int32) × (Nat → Int32) × (Nat → Int32)) (s2 : Int32 × Int32 × Int32 × Int32 × (Nat → Int32) × (Nat → Int32)) => ∃ p u e1 e2 e3 e4 e5 e6 e7 e8 e9 rp v e rd rr n M T s, i ≤ p ∧ p ≤ k ∧ s1 = (nI p, nI i, u, e1, e2, e3, e4, e5, e6, e7, e8, e9) ∧ s2 = (nI p, rp, v, e, rd, rr) ∧ DR n M T s e1 e2 e3 e4 e5 e6 e7 e8 e9 rp rd rr ∧ DX p n M s) (fun (t1 : ((Nat → Int32) × Int32 × Int32 × Int32 × Int32 × Int32 × (Nat → Int32) × (Nat → Int32) × (Nat → Int32) × (Nat → Int32)) ⊕ (Int32 × (Nat → Int32) × Int32 × Int32 × Int32 × Int32 × Int32 × (Nat → Int32) × (Nat → Int32) × (Nat → Int32) × (Nat → Int32))) (t2 : (Int32 × Int32 × Int32 × (Nat → Int32) × (Nat → Int32)) ⊕ (Int32 × Int32 × Int32 × Int32 × (Nat → Int32) × (Nat → Int32))) => (∃ u e1 e2 e3 e4 e5 e6 e7 e8 e9 rp v e rd rr n M T s, t1 = .inl (u, e1, e2, e3, e4, e5, e6, e7, e8, e9) ∧ t2 = .inl (rp, v, e, rd, rr) ∧ DR n M T s e1 e2 e3 e4 e5 e6 e7 e8 e9 rp rd rr ∧ (n = 0 ∨ WF n M s.1 s.2.1)) ∨ ∃ p w1 w2, p ≤ 200 ∧ t1 = .inr (nI p, w1) ∧ t2 = .inr (nI p, w2)) 200 ?_ ?_ (F := 4096) (s1 := (0, 0, rd_numbers, 0, 0, 8, 6, 0, ln, to, dz, fz)) (s2 := (0, 0, m_value, m_ends, rd, upd (upd m_readRule 0 8) 1 6)) ?_ (by decide)
  · obtain ⟨t1, t2, h6, h7, h8⟩ := h5
    rw [h6, h7]
    simp only [Option.bind_some]
    rcases h8 with ⟨u, e1, e2, e3, e4, e5, e6, e7, e8, e9, rp, v, e, rd, rr, n, M, T, s, rfl, rfl, h9, h10⟩ | ⟨p, w1, w2, hp, rfl, rfl⟩
    · exact ⟨_, _, _, _, _, _, _, _, _, _, _, _, _, _, _, _, rfl, rfl, fun _ => ⟨n, M, T, s, h9, h10⟩⟩
    · exact ⟨_, _, _, _, _, _, _, _, _, _, _, _, _, _, _, _, rfl, rfl, fun q => absurd q (nI_n4 (by omega))⟩
  · rintro i s1 s2 hi ⟨p, u, e1, e2, e3, e4, e5, e6, e7, e8, e9, rp, v, e, rd, rr, n, M, T, s, h1, h2, rfl, rfl, h3, h4⟩
    by_cases hp : p < k
    · rcases K_all hk hs hp hi h3 h4 (rd_numbers := u) (m_value := v) (m_ends := e) with ⟨⟨w1, g1⟩, w2, g2⟩ | ⟨p', u', f1, f2, f3, f4, f5, f6, f7, f8, f9, rp', v', e', rd', rr', g1, g2, g3, g4, n', M', T', s', g5, g6⟩
      · exact Or.inr ⟨_, _, g1, g2, Or.inr ⟨p, w1, w2, by omega, rfl, rfl⟩⟩
      · exact Or.inl ⟨_, _, g3, g4, p', u', f1, f2, f3, f4, f5, f6, f7, f8, f9, rp', v', e', rd', rr', n', M', T', s', by omega, g2, rfl, rfl, g6, Or.inr ⟨by omega, g5⟩⟩
    · refine Or.inr ⟨.inl (u, e1, e2, e3, e4, e5, e6, e7, e8, e9), .inl (rp, v, e, rd, rr), ?_, ?_, Or.inl ⟨_, _, _, _, _, _, _, _, _, _, _, _, _, _, _, n, M, T, s, rfl, rfl, h3, ?_⟩⟩
      · simp only [Rd_firstFault_L11, Le_size, Option.bind_some, if_pos (nI_le (show k ≤ p by omega) (show p < 2 ^ 31 by omega)), ite_self]
      · simp only [Mo_reads_L6, if_pos (nI_le (show k ≤ p by omega) (show p < 2 ^ 31 by omega))]
      · rcases h4 with q | q
        · exact Or.inl q.2.1
        · exact Or.inr q.2
  · rintro s1 s2 ⟨p, u, e1, e2, e3, e4, e5, e6, e7, e8, e9, rp, v, e, rd, rr, n, M, T, s, h1, h2, rfl, rfl, h3, h4⟩
    refine ⟨.inl (u, e1, e2, e3, e4, e5, e6, e7, e8, e9), .inl (rp, v, e, rd, rr), ?_, ?_, Or.inl ⟨_, _, _, _, _, _, _, _, _, _, _, _, _, _, _, n, M, T, s, rfl, rfl, h3, ?_⟩⟩
    · simp only [Rd_firstFault_L11, if_pos (show (200 : Int32) ≤ nI 200 by decide)]
    · simp only [Mo_reads_L6, if_pos (nI_le (show k ≤ p by omega) (show p < 2 ^ 31 by omega))]
    · rcases h4 with q | q
      · exact Or.inl q.2.1
      · exact Or.inr q.2
  · refine ⟨0, _, _, _, _, _, _, _, _, _, _, _, _, _, _, _, 0, 8, 6, (fun _ => 0, fun _ => 0, fun _ => 0, 0), Nat.le_refl 0, Nat.zero_le _, rfl, rfl, ⟨rfl, rfl, rfl, rfl, rfl, fun j hj => ⟨p2 j hj, Nat.zero_le _⟩, fun j hj => ⟨(p3 j hj).1, fun _ => (p3 j hj).2, fun q => absurd rfl q⟩, rfl, ?_, pk_us, fun j hj => ⟨q2 j (by omega), Nat.zero_le _⟩, fun j hj => ⟨q2 _ (by omega), Nat.zero_le _, q2 _ (by omega)⟩, q2 _ (by decide)⟩, Or.inl ⟨rfl, rfl, rfl, fun _ _ => rfl, fun _ _ => rfl⟩⟩
    rw [pk_un (by decide), pk_us]
    rfl
theorem X_fault {k : Nat} {tl : Nat → Nat} {le_length : Int32} {le_signs : Nat → Int32} {m_length : Int32} {m_text : Nat → Int32} (h : TX k tl le_length le_signs m_length m_text) (rd_numbers : Nat → Int32) (dr_places : Int32) (dr_links : Int32) (dr_mostDrawn : Int32) (dr_ofTen : Int32) (dr_z : Int32) (dr_lengths : Nat → Int32) (dr_told : Nat → Int32) (dr_delays : Nat → Int32) (dr_fractions : Nat → Int32) (m_readPlaces : Int32) (m_read : Nat → Int32) (m_readRule : Nat → Int32) (m_value : Int32) (m_ends : Int32) : ∃ r u e1 e2 e3 e4 e5 e6 e7 e8 e9 rp v e rd rr, Dc_fault le_length le_signs rd_numbers dr_places dr_links dr_mostDrawn dr_ofTen dr_z dr_lengths dr_told dr_delays dr_fractions = some (r, u, e1, e2, e3, e4, e5, e6, e7, e8, e9) ∧ Mo_fault m_length m_readPlaces m_value m_ends m_text m_read m_readRule = some (r, rp, v, e, rd, rr) := by
  obtain ⟨r, u, e1, e2, e3, e4, e5, e6, e7, e8, e9, rp, v, e, rd, rr, h1, h2, -⟩ := X_read h rd_numbers dr_places dr_links dr_mostDrawn dr_ofTen dr_z dr_lengths dr_told dr_delays dr_fractions m_readPlaces m_read m_readRule m_value m_ends
  refine ⟨r, u, e1, e2, e3, e4, e5, e6, e7, e8, e9, rp, v, e, rd, rr, ?_, ?_⟩
  · unfold Dc_fault
    rw [h1]
    rfl
  · unfold Mo_fault
    rw [h2]
    rfl
theorem X_lay {k : Nat} {tl : Nat → Nat} {le_length : Int32} {le_signs : Nat → Int32} {m_length : Int32} {m_text : Nat → Int32} (h : TX k tl le_length le_signs m_length m_text) {pl_places : Int32} {pl_links : Int32} {pl_mostDrawn : Int32} {pl_ofTen : Int32} {pl_z : Int32} {pl_lengths : Nat → Int32} {pl_told : Nat → Int32} {pl_delays : Nat → Int32} {pl_fractions : Nat → Int32} {pa_sums : Nat → Int32} {pr_greatestDelay : Int32} {pr_delays : Nat → Int32} {pr_fractions : Nat → Int32} {pr_heads : Nat → Int32} {m_places : Int32} {m_most : Int32} {m_tenths : Int32} {m_now : Nat → Int32} {pt_next : Int32} {pt_kept : Int32} {hk_kind : Nat → Int32} {hk_i : Nat → Int32} {hk_j : Nat → Int32} {hk_length : Nat → Int32} {hk_wasTold : Nat → Int32} {hk_d : Nat → Int32} {hk_f : Nat → Int32} {hk_z : Nat → Int32} {m_changes : Int32} {m_was : Nat → Int32} (h0 : PR pl_places pl_links pl_mostDrawn pl_ofTen pl_z pl_lengths pl_told pl_delays pl_fractions pa_sums pr_greatestDelay pr_delays pr_fractions pr_heads m_places m_most m_tenths m_now pt_next pt_kept hk_kind hk_i hk_j hk_length hk_wasTold hk_d hk_f hk_z m_changes m_was) (rd_numbers : Nat → Int32) (dr_places : Int32) (dr_links : Int32) (dr_mostDrawn : Int32) (dr_ofTen : Int32) (dr_z : Int32) (dr_lengths : Nat → Int32) (dr_told : Nat → Int32) (dr_delays : Nat → Int32) (dr_fractions : Nat → Int32) (m_readPlaces : Int32) (m_read : Nat → Int32) (m_readRule : Nat → Int32) (m_value : Int32) (m_ends : Int32) : ∃ r u e1 e2 e3 e4 e5 e6 e7 e8 e9 g1 g2 g3 g4 g5 g6 g7 g8 g9 pa g dl fr hd pk mp mm mt mc rp v e now rd rr, Dc_lay le_length le_signs rd_numbers dr_places dr_links dr_mostDrawn dr_ofTen dr_z dr_lengths dr_told dr_delays dr_fractions pl_places pl_links pl_mostDrawn pl_ofTen pl_z pl_lengths pl_told pl_delays pl_fractions pa_sums pr_greatestDelay pr_delays pr_fractions pr_heads pt_kept = some (r, u, e1, e2, e3, e4, e5, e6, e7, e8, e9, g1, g2, g3, g4, g5, g6, g7, g8, g9, pa, g, dl, fr, hd, pk) ∧ Mo_lay m_length m_places m_most m_tenths m_changes m_readPlaces m_value m_ends m_text m_now m_read m_readRule = some (r, mp, mm, mt, mc, rp, v, e, now, rd, rr) ∧ PR g1 g2 g3 g4 g5 g6 g7 g8 g9 pa g dl fr hd mp mm mt now pt_next pk hk_kind hk_i hk_j hk_length hk_wasTold hk_d hk_f hk_z mc m_was := by
  obtain ⟨r, u, e1, e2, e3, e4, e5, e6, e7, e8, e9, rp, v, e, rd, rr, h1, h2, h3⟩ := X_read h rd_numbers dr_places dr_links dr_mostDrawn dr_ofTen dr_z dr_lengths dr_told dr_delays dr_fractions m_readPlaces m_read m_readRule m_value m_ends
  unfold Dc_lay Dc_layText Mo_lay
  rw [h1, h2]
  simp only [Option.bind_some]
  by_cases hr : r = -4
  · rw [if_pos hr, if_pos hr]
    obtain ⟨n, M, T, s, hd, hn⟩ := h3 hr
    obtain ⟨a1, a2, a3, a4, a5, hLc, hC, a6, a7, a8, hN⟩ := hd
    subst a1 a2 a3 a4 a5 a6
    simp only [Pl_places, Option.bind_some]
    by_cases hz : n = 0
    · rw [if_pos (show nI n = 0 by rw [hz]; rfl), if_pos (show nI n = 0 by rw [hz]; rfl)]
      exact ⟨_, _, _, _, _, _, _, _, _, _, _, _, _, _, _, _, _, _, _, _, _, _, _, _, _, _, _, _, _, _, _, _, _, _, _, _, rfl, rfl, h0⟩
    · have hw : WF n M s.1 s.2.1 := hn.resolve_left hz
      have hn16 := hw.2.1
      obtain ⟨n1, M1, T1, s1, c1, nx1, hq1, hq2, hq3, hq4, -⟩ := h0
      obtain ⟨ln, to, dz, fz, c1, c2, c3⟩ := Pl_cpy hLc hC pl_places pl_links pl_mostDrawn pl_ofTen pl_z pl_lengths pl_told pl_delays pl_fractions (nI n) (nI (nlk s.1 16)) (nI M) e4 s.2.2.2
      obtain ⟨pa, g, dl, fr, hd, d1, d2⟩ := D_settleAll (z := s.2.2.2) (T := e4) hw c2 c3 pa_sums pr_greatestDelay pr_delays pr_fractions pr_heads
      obtain ⟨now, t1, t2⟩ := Mo_tak m_places m_most m_tenths m_changes (nI n) m_now rd rr
      rw [if_neg (nI_ne0 (by omega) (by omega)), if_neg (nI_ne0 (by omega) (by omega)), c1, t1]
      simp only [Option.bind_some, Pt_forget, d1]
      have hN2 := okN_c hN t2
      exact ⟨_, _, _, _, _, _, _, _, _, _, _, _, _, _, _, _, _, _, _, _, _, _, _, _, _, _, _, _, _, _, _, _, _, _, _, _, rfl, rfl, n, M, e4, s, 0, nx1, ⟨hw, ⟨rfl, rfl, rfl, rfl, rfl, c2, c3⟩, d2, rfl, a7, a8, hN2.1, hN2.2.1, hN2.2.2⟩, hq2, Nat.zero_le _, hq4, rfl, rfl, trivial⟩
  · rw [if_neg hr, if_neg hr]
    exact ⟨_, _, _, _, _, _, _, _, _, _, _, _, _, _, _, _, _, _, _, _, _, _, _, _, _, _, _, _, _, _, _, _, _, _, _, _, rfl, rfl, h0⟩
