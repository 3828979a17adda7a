/-! what an item tells -/
def DR (n M : Nat) (T : Int32) (s : St) (dr_places : Int32) (dr_links : Int32) (dr_mostDrawn : Int32) (dr_ofTen : Int32) (dr_z : Int32) (dr_lengths : Nat → Int32) (dr_told : Nat → Int32) (dr_delays : Nat → Int32) (dr_fractions : Nat → Int32) (m_readPlaces : Int32) (m_read : Nat → Int32) (m_readRule : Nat → Int32) : Prop := dr_places = nI n ∧ dr_links = nI (nlk s.1 16) ∧ dr_mostDrawn = nI M ∧ dr_ofTen = T ∧ dr_z = s.2.2.2 ∧ okL dr_lengths s.1 ∧ okC dr_told dr_delays dr_fractions s.2.1 s.2.2.1 ∧ m_readPlaces = nI n ∧ m_readRule 0 = nI M ∧ m_readRule 1 = T ∧ okN m_read s
def Bth (k : Nat) (tl : Nat → Nat) (sg tx : Nat → Int32) (p i : Nat) (rd_numbers : Nat → Int32) (dr_places : Int32) (dr_links : Int32) (dr_mostDrawn : Int32) (dr_ofTen : Int32) (dr_z : Int32) (dr_lengths : Nat → Int32) (dr_told : Nat → Int32) (dr_delays : Nat → Int32) (dr_fractions : Nat → Int32) (m_readPlaces : Int32) (m_read : Nat → Int32) (m_readRule : Nat → Int32) (m_value : Int32) (m_ends : Int32) : Prop :=
  ((∃ w, Rd_firstFault_L11 (nI k) sg (nI p, nI i, rd_numbers, dr_places, dr_links, dr_mostDrawn, dr_ofTen, dr_z, dr_lengths, dr_told, dr_delays, dr_fractions) = some (.inr (.inr (nI p, w)))) ∧ ∃ w, Mo_reads_L6 (nI k) tx (nI p, m_readPlaces, m_value, m_ends, m_read, m_readRule) = some (.inr (.inr (nI p, w)))) ∨
  ∃ (p' : Nat) (u : Nat → Int32) (e1 e2 e3 e4 e5 : Int32) (e6 e7 e8 e9 : Nat → Int32) (rp v e : Int32) (rd rr : Nat → Int32), p < p' ∧ p' ≤ k ∧ Rd_firstFault_L11 (nI k) sg (nI p, nI i, rd_numbers, dr_places, dr_links, dr_mostDrawn, dr_ofTen, dr_z, dr_lengths, dr_told, dr_delays, dr_fractions) = some (.inl (nI p', nI (i + 1), u, e1, e2, e3, e4, e5, e6, e7, e8, e9)) ∧ Mo_reads_L6 (nI k) tx (nI p, m_readPlaces, m_value, m_ends, m_read, m_readRule) = some (.inl (nI p', rp, v, e, rd, rr)) ∧ ∃ n M T s, WF n M s.1 s.2.1 ∧ DR n M T s e1 e2 e3 e4 e5 e6 e7 e8 e9 rp rd rr
theorem K_z {k : Nat} {tl : Nat → Nat} {sg tx : Nat → Int32} (hk : k ≤ 200) (hs : ∀ j, j < k → sg j = nI (tl j) ∧ tx j = nI (tl j) ∧ 32 ≤ tl j ∧ tl j ≤ 126) {p i : Nat} (hp : p < k) (hi : i < 200) {rd_numbers : Nat → Int32} {dr_places : Int32} {dr_links : Int32} {dr_mostDrawn : Int32} {dr_ofTen : Int32} {dr_z : Int32} {dr_lengths : Nat → Int32} {dr_told : Nat → Int32} {dr_delays : Nat → Int32} {dr_fractions : Nat → Int32} {m_readPlaces : Int32} {m_read : Nat → Int32} {m_readRule : Nat → Int32} {m_value : Int32} {m_ends : Int32} {n M : Nat} {T : Int32} {s : St} (hd : DR n M T s dr_places dr_links dr_mostDrawn dr_ofTen dr_z dr_lengths dr_told dr_delays dr_fractions m_readPlaces m_read m_readRule) (hw : WF n M s.1 s.2.1) (hp0 : 0 < p) (hc : tl p = 122) : Bth k tl sg tx p i rd_numbers dr_places dr_links dr_mostDrawn dr_ofTen dr_z dr_lengths dr_told dr_delays dr_fractions m_readPlaces m_read m_readRule m_value m_ends := by
  obtain ⟨a1, a2, a3, a4, a5, hLc, hC, a6, a7, a8, hN⟩ := hd
  subst a1 a2 a3 a4 a5 a6
  have hn := hw.2.1
  have h1 := hw.1
  have v1 : vn k tl (p + 1) ≤ 9999 := vl_le k tl (p + 1)
  have i1 : en k tl (p + 1) = p + 1 + nf k tl (p + 1) := rfl
  have f1 := (nf_is k tl (p + 1)).1
  have hnd : Rd_numbersNeeded (nI (tl p)) = some (nI 1) := by rw [hc]; rfl
  have ht : ∀ u : Nat → Int32, u 0 = nI (vn k tl (p + 1)) → Rd_takesItem u (nI n) (nI (nlk s.1 16)) (nI M) dr_ofTen s.2.2.2 dr_lengths dr_told dr_delays dr_fractions (nI (tl p)) = some (1, nI n, nI (nlk s.1 16), nI M, dr_ofTen, nI (vn k tl (p + 1)), dr_lengths, dr_told, dr_delays, dr_fractions) := by
    intro u hu
    unfold Rd_takesItem
    rw [hc, if_neg (show ¬ nI 122 = 110 by decide)]
    simp only [Option.bind_some, Pl_places, if_neg (nI_ne0 (show 0 < n by omega) (show n < 2 ^ 31 by omega))]
    rw [if_pos trivial, if_neg (show ¬ nI 122 = 100 by decide), if_neg (show ¬ nI 122 = 108 by decide), if_neg (show ¬ nI 122 = 109 by decide), if_neg (show ¬ nI 122 = 110 by decide), if_pos (show nI 122 = 122 from rfl)]
    simp only [Rd_takesZ, Dc_wi, show ((0 : Int32).toNatClampNeg) = 0 from rfl, hu, show Mo_isIn (nI (vn k tl (p + 1))) 0 9999 = _ from isIn_n (lo := 0) (hi := 9999) (show vn k tl (p + 1) < 2 ^ 31 by omega) (by decide) (by decide), Option.bind_some, Pl_setZ]
    rw [if_pos (show 0 ≤ vn k tl (p + 1) ∧ vn k tl (p + 1) ≤ 9999 from ⟨Nat.zero_le _, v1⟩), if_neg (by decide)]
    rfl
  have hm : Mo_readsItem (nI k) (nI n) m_value m_ends tx m_read m_readRule (nI (tl p)) (nI (p + 1)) (if p = 0 then 1 else 0) = some (if nf k tl (p + 1) ≠ 0 ∧ 0 ≤ vn k tl (p + 1) ∧ vn k tl (p + 1) ≤ 9999 then 1 else 0, nI n, nI (vn k tl (p + 1)), nI (en k tl (p + 1)), upd m_read 288 (nI (vn k tl (p + 1))), m_readRule) := by
    unfold Mo_readsItem
    rw [hc, if_neg (show ¬ nI 122 = 110 by decide), Option.bind_some, if_neg (show ¬ p = 0 by omega), if_pos rfl, if_neg (show ¬ nI 122 = 100 by decide), if_neg (show ¬ nI 122 = 108 by decide), if_neg (show ¬ nI 122 = 109 by decide), if_neg (show ¬ nI 122 = 110 by decide), if_pos (show nI 122 = 122 from rfl)]
    rw [show Mo_number (nI k) m_value m_ends tx (nI (p + 1)) 0 9999 = _ from M_nm hk hs (lo := 0) (hi := 9999) (by omega) (by decide) (by decide) _ _, Option.bind_some]
    dsimp only
    split <;> rfl
  by_cases c1 : nc k tl (p + 1) 59
  · refine Or.inr ⟨en k tl (p + 1) + 1, _, _, _, _, _, _, _, _, _, _, _, _, _, _, _, by omega, by have := c1.2.1; omega, C_OK hk hs hp hi (by have := c1.2.1; omega) (B1_ok hk hs hp hnd rd_numbers c1) (ht _ pk_us), M_OK hk hs hp (by omega) (by rw [hm, if_pos ⟨c1.1, by omega, v1⟩]) c1.2, n, M, dr_ofTen, (s.1, s.2.1, s.2.2.1, nI (vn k tl (p + 1))), hw, rfl, rfl, rfl, rfl, rfl, hLc, hC, rfl, a7, a8, fun q hq => ?_, fun b hb => ?_, pk_us⟩
    · rw [pk_un (by omega)]
      exact hN.1 q hq
    · rw [pk_un (by omega), pk_un (by omega)]
      exact hN.2.1 b hb
  · refine Or.inl ⟨CF_form hk hs hp hi (B1_no hk hs hp hnd rd_numbers c1), ?_⟩
    by_cases e : nf k tl (p + 1) ≠ 0
    · refine MF2 hk hs hp (e := en k tl (p + 1)) (by omega) (by rw [hm, if_pos ⟨e, by omega, v1⟩]) (fun q => c1 ⟨e, q⟩)
    · exact MF hk hs hp ⟨_, by rw [hm, if_neg (fun q => e q.1)]⟩
theorem K_n {k : Nat} {tl : Nat → Nat} {sg tx : Nat → Int32} (hk : k ≤ 200) (hs : ∀ j, j < k → sg j = nI (tl j) ∧ tx j = nI (tl j) ∧ 32 ≤ tl j ∧ tl j ≤ 126) {p i : Nat} (hp : p < k) (hi : i < 200) {rd_numbers : Nat → Int32} {dr_places : Int32} {dr_links : Int32} {dr_mostDrawn : Int32} {dr_ofTen : Int32} {dr_z : Int32} {dr_lengths : Nat → Int32} {dr_told : Nat → Int32} {dr_delays : Nat → Int32} {dr_fractions : Nat → Int32} {m_readPlaces : Int32} {m_read : Nat → Int32} {m_readRule : Nat → Int32} {m_value : Int32} {m_ends : Int32} {n M : Nat} {T : Int32} {s : St} (hd : DR n M T s dr_places dr_links dr_mostDrawn dr_ofTen dr_z dr_lengths dr_told dr_delays dr_fractions m_readPlaces m_read m_readRule) (hn0 : n = 0) (hM : M = 8) (hL0 : ∀ q, q < 256 → s.1 q = 0) (ht0 : ∀ b, b < 16 → s.2.1 b = 0) (hp0 : p = 0) (hc : tl p = 110) : Bth k tl sg tx p i rd_numbers dr_places dr_links dr_mostDrawn dr_ofTen dr_z dr_lengths dr_told dr_delays dr_fractions m_readPlaces m_read m_readRule m_value m_ends := by
  obtain ⟨a1, a2, a3, a4, a5, hLc, hC, a6, a7, a8, hN⟩ := hd
  subst a1 a2 a3 a4 a5 a6
  subst hn0 hM
  have v1 : vn k tl (p + 1) ≤ 9999 := vl_le k tl (p + 1)
  have i1 : en k tl (p + 1) = p + 1 + nf k tl (p + 1) := rfl
  have f1 := (nf_is k tl (p + 1)).1
  have hnd : Rd_numbersNeeded (nI (tl p)) = some (nI 1) := by rw [hc]; rfl
  have ht : ∀ u : Nat → Int32, u 0 = nI (vn k tl (p + 1)) → Rd_takesItem u (nI 0) (nI (nlk s.1 16)) (nI 8) dr_ofTen s.2.2.2 dr_lengths dr_told dr_delays dr_fractions (nI (tl p)) = if 1 ≤ vn k tl (p + 1) ∧ vn k tl (p + 1) ≤ 16 then some (1, nI (vn k tl (p + 1)), nI (nlk s.1 16), nI 8, dr_ofTen, s.2.2.2, dr_lengths, dr_told, dr_delays, dr_fractions) else some (0, nI 0, nI (nlk s.1 16), nI 8, dr_ofTen, s.2.2.2, dr_lengths, dr_told, dr_delays, dr_fractions) := by
    intro u hu
    unfold Rd_takesItem
    rw [hc, if_pos (show nI 110 = 110 from rfl)]
    simp only [Option.bind_some, Pl_places, if_pos (show nI 0 = 0 from rfl)]
    rw [if_pos trivial, if_neg (show ¬ nI 110 = 100 by decide), if_neg (show ¬ nI 110 = 108 by decide), if_neg (show ¬ nI 110 = 109 by decide), if_pos (show nI 110 = 110 from rfl)]
    simp only [Rd_takesPlaces, Dc_wi, show ((0 : Int32).toNatClampNeg) = 0 from rfl, hu, show Mo_isIn (nI (vn k tl (p + 1))) 1 16 = _ from isIn_n (lo := 1) (hi := 16) (show vn k tl (p + 1) < 2 ^ 31 by omega) (by decide) (by decide), Option.bind_some, Pl_setPlaces]
    by_cases e : 1 ≤ vn k tl (p + 1) ∧ vn k tl (p + 1) ≤ 16
    · rw [if_pos e, if_pos e, if_neg (by decide)]
      rfl
    · rw [if_neg e, if_neg e, if_pos rfl]
      rfl
  have hm : Mo_readsItem (nI k) (nI 0) m_value m_ends tx m_read m_readRule (nI (tl p)) (nI (p + 1)) (if p = 0 then 1 else 0) = if nf k tl (p + 1) ≠ 0 ∧ 1 ≤ vn k tl (p + 1) ∧ vn k tl (p + 1) ≤ 16 then some (1, nI (vn k tl (p + 1)), nI (vn k tl (p + 1)), nI (en k tl (p + 1)), m_read, m_readRule) else some (0, 0, nI (vn k tl (p + 1)), nI (en k tl (p + 1)), m_read, m_readRule) := by
    unfold Mo_readsItem
    rw [hc, if_pos (show nI 110 = 110 from rfl), Option.bind_some, if_pos hp0, if_pos rfl, if_neg (show ¬ nI 110 = 100 by decide), if_neg (show ¬ nI 110 = 108 by decide), if_neg (show ¬ nI 110 = 109 by decide), if_pos (show nI 110 = 110 from rfl)]
    rw [show Mo_number (nI k) m_value m_ends tx (nI (p + 1)) 1 16 = _ from M_nm hk hs (lo := 1) (hi := 16) (by omega) (by decide) (by decide) _ _, Option.bind_some]
    dsimp only
    by_cases e : nf k tl (p + 1) ≠ 0 ∧ 1 ≤ vn k tl (p + 1) ∧ vn k tl (p + 1) ≤ 16
    · rw [if_pos e, if_pos e, if_neg (by decide)]
      rfl
    · rw [if_neg e, if_neg e, if_pos rfl]
      rfl
  by_cases c1 : nc k tl (p + 1) 59
  · by_cases c2 : 1 ≤ vn k tl (p + 1) ∧ vn k tl (p + 1) ≤ 16
    · refine Or.inr ⟨en k tl (p + 1) + 1, _, _, _, _, _, _, _, _, _, _, _, _, _, _, _, by omega, by have := c1.2.1; omega, C_OK hk hs hp hi (by have := c1.2.1; omega) (B1_ok hk hs hp hnd rd_numbers c1) (by rw [ht _ pk_us, if_pos c2]), M_OK hk hs hp (by omega) (by rw [hm, if_pos ⟨c1.1, c2⟩]) c1.2, vn k tl (p + 1), 8, dr_ofTen, s, ⟨c2.1, c2.2, by decide, by decide, fun a b ha hb => ?_, fun a ha => ?_, fun a b ha hb _ => ?_, fun b hb => ?_, ?_⟩, rfl, rfl, rfl, rfl, rfl, hLc, hC, rfl, a7, a8, hN⟩
      · rw [hL0 _ (by omega), hL0 _ (by omega)]
      · exact hL0 _ (by omega)
      · exact hL0 _ (by omega)
      · rw [ht0 b hb]
        decide
      · rw [nlk_c (L := fun _ => 0) (fun q hq => hL0 q hq)]
        decide
    · exact Or.inl ⟨CF_take hk hs hp hi (by have := c1.2.1; omega) (B1_ok hk hs hp hnd rd_numbers c1) ⟨_, by rw [ht _ pk_us, if_neg c2]⟩, MF hk hs hp ⟨_, by rw [hm, if_neg (fun q => c2 q.2)]⟩⟩
  · refine Or.inl ⟨CF_form hk hs hp hi (B1_no hk hs hp hnd rd_numbers c1), ?_⟩
    by_cases e : nf k tl (p + 1) ≠ 0 ∧ 1 ≤ vn k tl (p + 1) ∧ vn k tl (p + 1) ≤ 16
    · exact MF2 hk hs hp (e := en k tl (p + 1)) (by omega) (by rw [hm, if_pos e]) (fun q => c1 ⟨e.1, q⟩)
    · exact MF hk hs hp ⟨_, by rw [hm, if_neg e]⟩
theorem K_m {k : Nat} {tl : Nat → Nat} {sg tx : Nat → Int32} (hk : k ≤ 200) (hs : ∀ j, j < k → sg j = nI (tl j) ∧ tx j = nI (tl j) ∧ 32 ≤ tl j ∧ tl j ≤ 126) {p i : Nat} (hp : p < k) (hi : i < 200) {rd_numbers : Nat → Int32} {dr_places : Int32} {dr_links : Int32} {dr_mostDrawn : Int32} {dr_ofTen : Int32} {dr_z : Int32} {dr_lengths : Nat → Int32} {dr_told : Nat → Int32} {dr_delays : Nat → Int32} {dr_fractions : Nat → Int32} {m_readPlaces : Int32} {m_read : Nat → Int32} {m_readRule : Nat → Int32} {m_value : Int32} {m_ends : Int32} {n M : Nat} {T : Int32} {s : St} (hd : DR n M T s dr_places dr_links dr_mostDrawn dr_ofTen dr_z dr_lengths dr_told dr_delays dr_fractions m_readPlaces m_read m_readRule) (hw : WF n M s.1 s.2.1) (hp0 : 0 < p) (hc : tl p = 109) : Bth k tl sg tx p i rd_numbers dr_places dr_links dr_mostDrawn dr_ofTen dr_z dr_lengths dr_told dr_delays dr_fractions m_readPlaces m_read m_readRule m_value m_ends := by
  obtain ⟨a1, a2, a3, a4, a5, hLc, hC, a6, a7, a8, hN⟩ := hd
  subst a1 a2 a3 a4 a5 a6
  have hn := hw.2.1
  have h1 := hw.1
  have v1 : vn k tl (p + 1) ≤ 9999 := vl_le k tl (p + 1)
  have i1 : en k tl (p + 1) = p + 1 + nf k tl (p + 1) := rfl
  have f1 := (nf_is k tl (p + 1)).1
  have v2 : vn k tl (en k tl (p + 1) + 1) ≤ 9999 := vl_le k tl (en k tl (p + 1) + 1)
  have i2 : en k tl (en k tl (p + 1) + 1) = en k tl (p + 1) + 1 + nf k tl (en k tl (p + 1) + 1) := rfl
  have f2 := (nf_is k tl (en k tl (p + 1) + 1)).1
  generalize hp2 : en k tl (p + 1) + 1 = p2 at v2 i2 f2
  have hnd : Rd_numbersNeeded (nI (tl p)) = some (nI 2) := by rw [hc]; rfl
  have ht : ∀ u : Nat → Int32, u 0 = nI (vn k tl (p + 1)) → u 1 = nI (vn k tl p2) → Rd_takesItem u (nI n) (nI (nlk s.1 16)) (nI M) dr_ofTen s.2.2.2 dr_lengths dr_told dr_delays dr_fractions (nI (tl p)) = if (1 ≤ vn k tl (p + 1) ∧ vn k tl (p + 1) ≤ 30) ∧ 0 ≤ vn k tl p2 ∧ vn k tl p2 ≤ 10 then some (1, nI n, nI (nlk s.1 16), nI (vn k tl (p + 1)), nI (vn k tl p2), s.2.2.2, dr_lengths, dr_told, dr_delays, dr_fractions) else some (0, nI n, nI (nlk s.1 16), nI M, dr_ofTen, s.2.2.2, dr_lengths, dr_told, dr_delays, dr_fractions) := by
    intro u hu hu2
    unfold Rd_takesItem
    rw [hc, if_neg (show ¬ nI 109 = 110 by decide)]
    simp only [Option.bind_some, Pl_places, if_neg (nI_ne0 (show 0 < n by omega) (show n < 2 ^ 31 by omega))]
    rw [if_pos trivial, if_neg (show ¬ nI 109 = 100 by decide), if_neg (show ¬ nI 109 = 108 by decide), if_pos (show nI 109 = 109 from rfl)]
    simp only [Rd_takesDrawing, Dc_wi, show ((0 : Int32).toNatClampNeg) = 0 from rfl, show ((1 : Int32).toNatClampNeg) = 1 from rfl, hu, hu2, show Mo_isIn (nI (vn k tl (p + 1))) 1 30 = _ from isIn_n (lo := 1) (hi := 30) (show vn k tl (p + 1) < 2 ^ 31 by omega) (by decide) (by decide), show Mo_isIn (nI (vn k tl p2)) 0 10 = _ from isIn_n (lo := 0) (hi := 10) (show vn k tl p2 < 2 ^ 31 by omega) (by decide) (by decide), Option.bind_some, Pl_setDrawing]
    by_cases e : 1 ≤ vn k tl (p + 1) ∧ vn k tl (p + 1) ≤ 30
    · rw [if_pos e, if_neg (by decide)]
      by_cases e2 : 0 ≤ vn k tl p2 ∧ vn k tl p2 ≤ 10
      · rw [if_pos e2, if_neg (by decide), if_pos (⟨e, e2⟩ : (1 ≤ vn k tl (p + 1) ∧ vn k tl (p + 1) ≤ 30) ∧ 0 ≤ vn k tl p2 ∧ vn k tl p2 ≤ 10)]
        rfl
      · rw [if_neg e2, if_pos rfl, if_neg (fun w : (1 ≤ vn k tl (p + 1) ∧ vn k tl (p + 1) ≤ 30) ∧ 0 ≤ vn k tl p2 ∧ vn k tl p2 ≤ 10 => e2 w.2)]
        rfl
    · rw [if_neg e, if_pos rfl, if_neg (fun w : (1 ≤ vn k tl (p + 1) ∧ vn k tl (p + 1) ≤ 30) ∧ 0 ≤ vn k tl p2 ∧ vn k tl p2 ≤ 10 => e w.1)]
      rfl
  have hm : (nf k tl (p + 1) ≠ 0 ∧ 1 ≤ vn k tl (p + 1) ∧ vn k tl (p + 1) ≤ 30 → isS k tl (en k tl (p + 1)) 44 → nf k tl p2 ≠ 0 ∧ 0 ≤ vn k tl p2 ∧ vn k tl p2 ≤ 10 → Mo_readsItem (nI k) (nI n) m_value m_ends tx m_read m_readRule (nI (tl p)) (nI (p + 1)) (if p = 0 then 1 else 0) = some (1, nI n, nI (vn k tl p2), nI (en k tl p2), m_read, upd (upd m_readRule 0 (nI (vn k tl (p + 1)))) 1 (nI (vn k tl p2)))) ∧ (¬ ((nf k tl (p + 1) ≠ 0 ∧ 1 ≤ vn k tl (p + 1) ∧ vn k tl (p + 1) ≤ 30) ∧ isS k tl (en k tl (p + 1)) 44 ∧ nf k tl p2 ≠ 0 ∧ 0 ≤ vn k tl p2 ∧ vn k tl p2 ≤ 10) → ∃ w, Mo_readsItem (nI k) (nI n) m_value m_ends tx m_read m_readRule (nI (tl p)) (nI (p + 1)) (if p = 0 then 1 else 0) = some (0, w)) := by
    unfold Mo_readsItem
    rw [hc, if_neg (show ¬ nI 109 = 110 by decide), Option.bind_some, if_neg (show ¬ p = 0 by omega), if_pos rfl, if_neg (show ¬ nI 109 = 100 by decide), if_neg (show ¬ nI 109 = 108 by decide), if_pos (show nI 109 = 109 from rfl)]
    unfold Mo_readsRule
    rw [show Mo_number (nI k) m_value m_ends tx (nI (p + 1)) 1 30 = _ from M_nm hk hs (lo := 1) (hi := 30) (by omega) (by decide) (by decide) _ _]
    simp only [Option.bind_some]
    by_cases e : nf k tl (p + 1) ≠ 0 ∧ 1 ≤ vn k tl (p + 1) ∧ vn k tl (p + 1) ≤ 30
    · rw [if_pos e, if_neg (by decide), show Mo_more (nI k) (nI (vn k tl (p + 1))) (nI (en k tl (p + 1))) tx 0 10 = _ from M_mr hk hs (lo := 0) (hi := 10) (by omega) (by decide) (by decide) _, hp2]
      by_cases e2 : isS k tl (en k tl (p + 1)) 44
      · rw [if_pos e2]
        by_cases e3 : nf k tl p2 ≠ 0 ∧ 0 ≤ vn k tl p2 ∧ vn k tl p2 ≤ 10
        · rw [if_pos e3]
          exact ⟨fun _ _ _ => rfl, fun w => absurd ⟨e, e2, e3⟩ w⟩
        · rw [if_neg e3]
          exact ⟨fun _ _ w => absurd w e3, fun _ => ⟨_, rfl⟩⟩
      · rw [if_neg e2]
        exact ⟨fun _ w => absurd w e2, fun _ => ⟨_, rfl⟩⟩
    · rw [if_neg e, if_pos rfl]
      exact ⟨fun w => absurd w e, fun _ => ⟨_, rfl⟩⟩
  have hB1 := B2_ok hk hs hp hnd rd_numbers
  have hB2 := B2_no hk hs hp hnd rd_numbers
  rw [hp2] at hB1 hB2
  by_cases c1 : nc k tl (p + 1) 44 ∧ nc k tl p2 59
  · by_cases c2 : (1 ≤ vn k tl (p + 1) ∧ vn k tl (p + 1) ≤ 30) ∧ 0 ≤ vn k tl p2 ∧ vn k tl p2 ≤ 10
    · refine Or.inr ⟨en k tl p2 + 1, _, _, _, _, _, _, _, _, _, _, _, _, _, _, _, by omega, by have := c1.2.2.1; omega, C_OK hk hs hp hi (by have := c1.2.2.1; omega) (hB1 c1.1 c1.2) (by rw [ht _ (by rw [pk_un (by decide), pk_us]) pk_us, if_pos c2]), M_OK hk hs hp (by have := c1.2.2.1; omega) (hm.1 ⟨c1.1.1, c2.1⟩ c1.1.2 ⟨c1.2.1, c2.2⟩) c1.2.2, n, vn k tl (p + 1), nI (vn k tl p2), s, ⟨hw.1, hw.2.1, c2.1.1, c2.1.2, hw.2.2.2.2⟩, rfl, rfl, rfl, rfl, rfl, hLc, hC, rfl, ?_, pk_us, hN⟩
      rw [pk_un (by decide), pk_us]
    · refine Or.inl ⟨CF_take hk hs hp hi (by have := c1.2.2.1; omega) (hB1 c1.1 c1.2) ⟨_, by rw [ht _ (by rw [pk_un (by decide), pk_us]) pk_us, if_neg c2]⟩, MF hk hs hp (hm.2 (fun w => c2 ⟨w.1.2, w.2.2.2⟩))⟩
  · refine Or.inl ⟨CF_form hk hs hp hi (hB2 c1), ?_⟩
    by_cases e : (nf k tl (p + 1) ≠ 0 ∧ 1 ≤ vn k tl (p + 1) ∧ vn k tl (p + 1) ≤ 30) ∧ isS k tl (en k tl (p + 1)) 44 ∧ nf k tl p2 ≠ 0 ∧ 0 ≤ vn k tl p2 ∧ vn k tl p2 ≤ 10
    · exact MF2 hk hs hp (e := en k tl p2) (by have := e.2.1.1; omega) (hm.1 e.1 e.2.1 e.2.2) (fun q => c1 ⟨⟨e.1.1, e.2.1⟩, e.2.2.1, q⟩)
    · exact MF hk hs hp (hm.2 e)
theorem K_d {k : Nat} {tl : Nat → Nat} {sg tx : Nat → Int32} (hk : k ≤ 200) (hs : ∀ j, j < k → sg j = nI (tl j) ∧ tx j = nI (tl j) ∧ 32 ≤ tl j ∧ tl j ≤ 126) {p i : Nat} (hp : p < k) (hi : i < 200) {rd_numbers : Nat → Int32} {dr_places : Int32} {dr_links : Int32} {dr_mostDrawn : Int32} {dr_ofTen : Int32} {dr_z : Int32} {dr_lengths : Nat → Int32} {dr_told : Nat → Int32} {dr_delays : Nat → Int32} {dr_fractions : Nat → Int32} {m_readPlaces : Int32} {m_read : Nat → Int32} {m_readRule : Nat → Int32} {m_value : Int32} {m_ends : Int32} {n M : Nat} {T : Int32} {s : St} (hd : DR n M T s dr_places dr_links dr_mostDrawn dr_ofTen dr_z dr_lengths dr_told dr_delays dr_fractions m_readPlaces m_read m_readRule) (hw : WF n M s.1 s.2.1) (hp0 : 0 < p) (hc : tl p = 100) : Bth k tl sg tx p i rd_numbers dr_places dr_links dr_mostDrawn dr_ofTen dr_z dr_lengths dr_told dr_delays dr_fractions m_readPlaces m_read m_readRule m_value m_ends := by
  obtain ⟨a1, a2, a3, a4, a5, hLc, hC, a6, a7, a8, hN⟩ := hd
  subst a1 a2 a3 a4 a5 a6
  have hn := hw.2.1
  have h1 := hw.1
  have v1 : vn k tl (p + 1) ≤ 9999 := vl_le k tl (p + 1)
  have i1 : en k tl (p + 1) = p + 1 + nf k tl (p + 1) := rfl
  have f1 := (nf_is k tl (p + 1)).1
  have hnd : Rd_numbersNeeded (nI (tl p)) = some (nI 3) := by rw [hc]; rfl
  have hB1 := B3_ok hk hs hp hnd rd_numbers
  have hB2 := B3_no hk hs hp hnd rd_numbers
  have hM1 : ∀ lo hi : Nat, lo < 2 ^ 31 → hi < 2 ^ 31 → ∀ v, Mo_more (nI k) v (nI (en k tl (p + 1))) tx (nI lo) (nI hi) = _ := fun lo hi hl hh v => M_mr hk hs (lo := lo) (hi := hi) (by omega) hl hh v
  generalize hp2 : en k tl (p + 1) + 1 = p2 at hB1 hB2 hM1
  have v2 : vn k tl p2 ≤ 9999 := vl_le k tl p2
  have i2 : en k tl p2 = p2 + nf k tl p2 := rfl
  have f2 := (nf_is k tl p2).1
  have hM2 : ∀ lo hi : Nat, lo < 2 ^ 31 → hi < 2 ^ 31 → ∀ v, Mo_more (nI k) v (nI (en k tl p2)) tx (nI lo) (nI hi) = _ := fun lo hi hl hh v => M_mr hk hs (lo := lo) (hi := hi) (by omega) hl hh v
  generalize hp3 : en k tl p2 + 1 = p3 at hB1 hB2 hM2
  have v3 : vn k tl p3 ≤ 9999 := vl_le k tl p3
  have i3 : en k tl p3 = p3 + nf k tl p3 := rfl
  have f3 := (nf_is k tl p3).1
  generalize hx1 : vn k tl (p + 1) = x1 at v1 hB1 hB2
  generalize hx2 : vn k tl p2 = x2 at v2 hB1 hB2 hM1
  generalize hx3 : vn k tl p3 = x3 at v3 hB1 hB2 hM2
  have ht : ∀ u : Nat → Int32, u 0 = nI x1 → u 1 = nI x2 → u 2 = nI x3 → ((x1 < n ∧ x2 ≤ 30 ∧ x3 ≤ 999) → Rd_takesItem u (nI n) (nI (nlk s.1 16)) (nI M) dr_ofTen s.2.2.2 dr_lengths dr_told dr_delays dr_fractions (nI (tl p)) = some (1, nI n, nI (nlk s.1 16), nI M, dr_ofTen, s.2.2.2, dr_lengths, upd dr_told x1 1, upd dr_delays x1 (nI x2), upd dr_fractions x1 (nI x3))) ∧ (¬ (x1 < n ∧ x2 ≤ 30 ∧ x3 ≤ 999) → ∃ w, Rd_takesItem u (nI n) (nI (nlk s.1 16)) (nI M) dr_ofTen s.2.2.2 dr_lengths dr_told dr_delays dr_fractions (nI (tl p)) = some (0, w)) := by
    intro u hu hu2 hu3
    unfold Rd_takesItem
    rw [hc, if_neg (show ¬ nI 100 = 110 by decide)]
    simp only [Option.bind_some, Pl_places, if_neg (nI_ne0 (show 0 < n by omega) (show n < 2 ^ 31 by omega))]
    rw [if_pos trivial, if_pos (show nI 100 = 100 from rfl)]
    simp only [Rd_takesDelay, Dc_wi, Pl_isP h1 hn, show ((0 : Int32).toNatClampNeg) = 0 from rfl, show ((1 : Int32).toNatClampNeg) = 1 from rfl, show ((2 : Int32).toNatClampNeg) = 2 from rfl, hu, hu2, hu3, isPl_n h1 hn v1, show Mo_isIn (nI x2) 0 30 = _ from isIn_n (lo := 0) (hi := 30) (show x2 < 2 ^ 31 by omega) (by decide) (by decide), show Mo_isIn (nI x3) 0 999 = _ from isIn_n (lo := 0) (hi := 999) (show x3 < 2 ^ 31 by omega) (by decide) (by decide), Option.bind_some]
    by_cases e1 : x1 < n
    · rw [if_pos e1, if_neg (by decide)]
      by_cases e2 : x2 ≤ 30
      · rw [if_pos (show 0 ≤ x2 ∧ x2 ≤ 30 from ⟨Nat.zero_le _, e2⟩), if_neg (by decide)]
        by_cases e3 : x3 ≤ 999
        · rw [if_pos (show 0 ≤ x3 ∧ x3 ≤ 999 from ⟨Nat.zero_le _, e3⟩), if_neg (by decide), Pl_tel (by omega)]
          exact ⟨fun _ => rfl, fun w => absurd ⟨e1, e2, e3⟩ w⟩
        · rw [if_neg (show ¬ (0 ≤ x3 ∧ x3 ≤ 999) from fun w => e3 w.2), if_pos rfl]
          exact ⟨fun w => absurd w.2.2 e3, fun _ => ⟨_, rfl⟩⟩
      · rw [if_neg (show ¬ (0 ≤ x2 ∧ x2 ≤ 30) from fun w => e2 w.2), if_pos rfl]
        exact ⟨fun w => absurd w.2.1 e2, fun _ => ⟨_, rfl⟩⟩
    · rw [if_neg e1, if_pos rfl]
      exact ⟨fun w => absurd w.1 e1, fun _ => ⟨_, rfl⟩⟩
  have hm : ((nf k tl (p + 1) ≠ 0 ∧ 0 ≤ x1 ∧ x1 ≤ n - 1) → isS k tl (en k tl (p + 1)) 44 → (nf k tl p2 ≠ 0 ∧ 0 ≤ x2 ∧ x2 ≤ 30) → isS k tl (en k tl p2) 44 → (nf k tl p3 ≠ 0 ∧ 0 ≤ x3 ∧ x3 ≤ 999) → Mo_readsItem (nI k) (nI n) m_value m_ends tx m_read m_readRule (nI (tl p)) (nI (p + 1)) (if p = 0 then 1 else 0) = some (1, nI n, nI x3, nI (en k tl p3), upd (upd m_read (256 + x1) (nI (x2 + 1))) (272 + x1) (nI x3), m_readRule)) ∧ (¬ ((nf k tl (p + 1) ≠ 0 ∧ 0 ≤ x1 ∧ x1 ≤ n - 1) ∧ isS k tl (en k tl (p + 1)) 44 ∧ (nf k tl p2 ≠ 0 ∧ 0 ≤ x2 ∧ x2 ≤ 30) ∧ isS k tl (en k tl p2) 44 ∧ (nf k tl p3 ≠ 0 ∧ 0 ≤ x3 ∧ x3 ≤ 999)) → ∃ w, Mo_readsItem (nI k) (nI n) m_value m_ends tx m_read m_readRule (nI (tl p)) (nI (p + 1)) (if p = 0 then 1 else 0) = some (0, w)) := by
    unfold Mo_readsItem
    rw [hc, if_neg (show ¬ nI 100 = 110 by decide), Option.bind_some, if_neg (show ¬ p = 0 by omega), if_pos rfl, if_pos (show nI 100 = 100 from rfl)]
    unfold Mo_readsDelay
    rw [show nI n - 1 = nI (n - 1) from pk_sub (a := n) (b := 1) h1, show Mo_number (nI k) m_value m_ends tx (nI (p + 1)) 0 (nI (n - 1)) = _ from M_nm hk hs (lo := 0) (hi := n - 1) (by omega) (by decide) (by omega) _ _, hx1]
    simp only [Option.bind_some]
    by_cases e : (nf k tl (p + 1) ≠ 0 ∧ 0 ≤ x1 ∧ x1 ≤ n - 1)
    · rw [if_pos e, if_neg (by decide), show Mo_more (nI k) (nI x1) (nI (en k tl (p + 1))) tx 0 30 = _ from hM1 0 30 (by decide) (by decide) _]
      by_cases e2 : isS k tl (en k tl (p + 1)) 44
      · rw [if_pos e2, Option.bind_some]
        dsimp only
        by_cases e3 : (nf k tl p2 ≠ 0 ∧ 0 ≤ x2 ∧ x2 ≤ 30)
        · rw [if_pos e3, if_neg (by decide), show Mo_more (nI k) (nI x2) (nI (en k tl p2)) tx 0 999 = _ from hM2 0 999 (by decide) (by decide) _]
          simp only [ix_d, ix_f, gk_n (show 256 + x1 < 289 by omega) (by decide), gk_n (show 272 + x1 < 289 by omega) (by decide), nI_clamp (show 256 + x1 < 2 ^ 31 by omega), nI_clamp (show 272 + x1 < 2 ^ 31 by omega), nI_1]
          by_cases e4 : isS k tl (en k tl p2) 44
          · rw [if_pos e4]
            by_cases e5 : (nf k tl p3 ≠ 0 ∧ 0 ≤ x3 ∧ x3 ≤ 999)
            · rw [if_pos e5]
              exact ⟨fun _ _ _ _ _ => rfl, fun w => absurd ⟨e, e2, e3, e4, e5⟩ w⟩
            · rw [if_neg e5]
              exact ⟨fun _ _ _ _ w => absurd w e5, fun _ => ⟨_, rfl⟩⟩
          · rw [if_neg e4]
            exact ⟨fun _ _ _ w => absurd w e4, fun _ => ⟨_, rfl⟩⟩
        · rw [if_neg e3, if_pos rfl]
          exact ⟨fun _ _ w => absurd w e3, fun _ => ⟨_, rfl⟩⟩
      · rw [if_neg e2]
        exact ⟨fun _ w => absurd w e2, fun _ => ⟨_, rfl⟩⟩
    · rw [if_neg e, if_pos rfl]
      exact ⟨fun w => absurd w e, fun _ => ⟨_, rfl⟩⟩
  by_cases c1 : nc k tl (p + 1) 44 ∧ nc k tl p2 44 ∧ nc k tl p3 59
  · have b1 := c1.2.2.2.1
    by_cases c2 : (x1 < n ∧ x2 ≤ 30 ∧ x3 ≤ 999)
    · have hT2 : ∀ b, b < 16 → (fun b => if b = x1 then x2 + 1 else s.2.1 b) b ≤ 31 := by
        intro b hb
        dsimp only
        split
        · omega
        · exact (hN.2.1 b hb).2.1
      have hC2 := okC_tel (t1 := fun b => if b = x1 then x2 + 1 else s.2.1 b) (f1 := fun b => if b = x1 then nI x3 else s.2.2.1 b) (a := x1) hC (fun b _ hb => ⟨(if_neg hb).symm, (if_neg hb).symm⟩) (by rw [if_pos rfl]; omega)
      rw [if_pos rfl, if_pos rfl, Nat.add_sub_cancel] at hC2
      refine Or.inr ⟨en k tl p3 + 1, _, _, _, _, _, _, _, _, _, _, _, _, _, _, _, by omega, by omega, C_OK hk hs hp hi (by omega) (hB1 c1.1 c1.2.1 c1.2.2) ((ht _ (by rw [pk_un (by decide), pk_un (by decide), pk_us]) (by rw [pk_un (by decide), pk_us]) pk_us).1 c2), M_OK hk hs hp (by omega) (hm.1 ⟨c1.1.1, Nat.zero_le _, by omega⟩ c1.1.2 ⟨c1.2.1.1, Nat.zero_le _, c2.2.1⟩ c1.2.1.2 ⟨c1.2.2.1, Nat.zero_le _, c2.2.2⟩) c1.2.2.2, n, M, dr_ofTen, (s.1, fun b => if b = x1 then x2 + 1 else s.2.1 b, fun b => if b = x1 then nI x3 else s.2.2.1 b, s.2.2.2), WF_t hw hT2, rfl, rfl, rfl, rfl, rfl, hLc, hC2, rfl, a7, a8, fun q hq => ?_, fun b hb => ⟨?_, hT2 b hb, ?_⟩, ?_⟩
      · rw [pk_un (by omega), pk_un (by omega)]
        exact hN.1 q hq
      · rw [pk_un (by omega)]
        dsimp only
        by_cases e : b = x1
        · rw [e, pk_us, if_pos rfl]
        · rw [pk_un (by omega), if_neg e]
          exact (hN.2.1 b hb).1
      · dsimp only
        by_cases e : b = x1
        · rw [e, pk_us, if_pos rfl]
        · rw [pk_un (by omega), pk_un (by omega), if_neg e]
          exact (hN.2.1 b hb).2.2
      · rw [pk_un (by omega), pk_un (by omega)]
        exact hN.2.2
    · exact Or.inl ⟨CF_take hk hs hp hi (by omega) (hB1 c1.1 c1.2.1 c1.2.2) ((ht _ (by rw [pk_un (by decide), pk_un (by decide), pk_us]) (by rw [pk_un (by decide), pk_us]) pk_us).2 c2), MF hk hs hp (hm.2 (fun w => c2 ⟨by have := w.1.2.2; omega, w.2.2.1.2.2, w.2.2.2.2.2.2⟩))⟩
  · refine Or.inl ⟨CF_form hk hs hp hi (hB2 c1), ?_⟩
    by_cases e : (nf k tl (p + 1) ≠ 0 ∧ 0 ≤ x1 ∧ x1 ≤ n - 1) ∧ isS k tl (en k tl (p + 1)) 44 ∧ (nf k tl p2 ≠ 0 ∧ 0 ≤ x2 ∧ x2 ≤ 30) ∧ isS k tl (en k tl p2) 44 ∧ (nf k tl p3 ≠ 0 ∧ 0 ≤ x3 ∧ x3 ≤ 999)
    · have b1 := e.2.2.2.1.1
      exact MF2 hk hs hp (e := en k tl p3) (by omega) (hm.1 e.1 e.2.1 e.2.2.1 e.2.2.2.1 e.2.2.2.2) (fun q => c1 ⟨⟨e.1.1, e.2.1⟩, ⟨e.2.2.1.1, e.2.2.2.1⟩, e.2.2.2.2.1, q⟩)
    · exact MF hk hs hp (hm.2 e)
theorem Mo_jn {now : Nat → Int32} {a b : Nat} (ha : a < 16) (hb : b < 16) (x : Int32) : Mo_joins now (nI a) (nI b) x = some (upd (upd now (16 * a + b) x) (16 * b + a) x) := by
  simp only [Mo_joins, ix_b, gk_n (show 16 * a + b < 289 by omega) (by decide), gk_n (show 16 * b + a < 289 by omega) (by decide), nI_clamp (show 16 * a + b < 2 ^ 31 by omega), nI_clamp (show 16 * b + a < 2 ^ 31 by omega)]
theorem K_l {k : Nat} {tl : Nat → Nat} {sg tx : Nat → Int32} (hk : k ≤ 200) (hs : ∀ j, j < k → sg j = nI (tl j) ∧ tx j = nI (tl j) ∧ 32 ≤ tl j ∧ tl j ≤ 126) {p i : Nat} (hp : p < k) (hi : i < 200) {rd_numbers : Nat → Int32} {dr_places : Int32} {dr_links : Int32} {dr_mostDrawn : Int32} {dr_ofTen : Int32} {dr_z : Int32} {dr_lengths : Nat → Int32} {dr_told : Nat → Int32} {dr_delays : Nat → Int32} {dr_fractions : Nat → Int32} {m_readPlaces : Int32} {m_read : Nat → Int32} {m_readRule : Nat → Int32} {m_value : Int32} {m_ends : Int32} {n M : Nat} {T : Int32} {s : St} (hd : DR n M T s dr_places dr_links dr_mostDrawn dr_ofTen dr_z dr_lengths dr_told dr_delays dr_fractions m_readPlaces m_read m_readRule) (hw : WF n M s.1 s.2.1) (hp0 : 0 < p) (hc : tl p = 108) : Bth k tl sg tx p i rd_numbers dr_places dr_links dr_mostDrawn dr_ofTen dr_z dr_lengths dr_told dr_delays dr_fractions m_readPlaces m_read m_readRule m_value m_ends := by
  obtain ⟨a1, a2, a3, a4, a5, hLc, hC, a6, a7, a8, hN⟩ := hd
  subst a1 a2 a3 a4 a5 a6
  have hn := hw.2.1
  have h1 := hw.1
  have v1 : vn k tl (p + 1) ≤ 9999 := vl_le k tl (p + 1)
  have i1 : en k tl (p + 1) = p + 1 + nf k tl (p + 1) := rfl
  have f1 := (nf_is k tl (p + 1)).1
  have hnd : Rd_numbersNeeded (nI (tl p)) = some (nI 3) := by rw [hc]; rfl
  have hB1 := B3_ok hk hs hp hnd rd_numbers
  have hB2 := B3_no hk hs hp hnd rd_numbers
  have hM1 : ∀ lo hi : Nat, lo < 2 ^ 31 → hi < 2 ^ 31 → ∀ v, Mo_more (nI k) v (nI (en k tl (p + 1))) tx (nI lo) (nI hi) = _ := fun lo hi hl hh v => M_mr hk hs (lo := lo) (hi := hi) (by omega) hl hh v
  generalize hp2 : en k tl (p + 1) + 1 = p2 at hB1 hB2 hM1
  have v2 : vn k tl p2 ≤ 9999 := vl_le k tl p2
  have i2 : en k tl p2 = p2 + nf k tl p2 := rfl
  have f2 := (nf_is k tl p2).1
  have hM2 : ∀ lo hi : Nat, lo < 2 ^ 31 → hi < 2 ^ 31 → ∀ v, Mo_more (nI k) v (nI (en k tl p2)) tx (nI lo) (nI hi) = _ := fun lo hi hl hh v => M_mr hk hs (lo := lo) (hi := hi) (by omega) hl hh v
  generalize hp3 : en k tl p2 + 1 = p3 at hB1 hB2 hM2
  have v3 : vn k tl p3 ≤ 9999 := vl_le k tl p3
  have i3 : en k tl p3 = p3 + nf k tl p3 := rfl
  have f3 := (nf_is k tl p3).1
  generalize hx1 : vn k tl (p + 1) = x1 at v1 hB1 hB2
  generalize hx2 : vn k tl p2 = x2 at v2 hB1 hB2 hM1
  generalize hx3 : vn k tl p3 = x3 at v3 hB1 hB2 hM2
  have h40 := hw.2.2.2.2.2.2.2.2
  have ht : ∀ u : Nat → Int32, u 0 = nI x1 → u 1 = nI x2 → u 2 = nI x3 → (((x1 < n ∧ x2 < n ∧ x1 ≠ x2) ∧ (1 ≤ x3 ∧ x3 ≤ 9) ∧ (s.1 (16 * x1 + x2) ≠ 0 ∨ nlk s.1 16 < 40)) → ∃ ln, Rd_takesItem u (nI n) (nI (nlk s.1 16)) (nI M) dr_ofTen s.2.2.2 dr_lengths dr_told dr_delays dr_fractions (nI (tl p)) = some (1, nI n, nI (nlk (setL s.1 x1 x2 x3) 16), nI M, dr_ofTen, s.2.2.2, ln, dr_told, dr_delays, dr_fractions) ∧ okL ln (setL s.1 x1 x2 x3)) ∧ (¬ ((x1 < n ∧ x2 < n ∧ x1 ≠ x2) ∧ (1 ≤ x3 ∧ x3 ≤ 9) ∧ (s.1 (16 * x1 + x2) ≠ 0 ∨ nlk s.1 16 < 40)) → ∃ w, Rd_takesItem u (nI n) (nI (nlk s.1 16)) (nI M) dr_ofTen s.2.2.2 dr_lengths dr_told dr_delays dr_fractions (nI (tl p)) = some (0, w)) := by
    intro u hu hu2 hu3
    unfold Rd_takesItem
    rw [hc, if_neg (show ¬ nI 108 = 110 by decide)]
    simp only [Option.bind_some, Pl_places, if_neg (nI_ne0 (show 0 < n by omega) (show n < 2 ^ 31 by omega))]
    rw [if_pos trivial, if_neg (show ¬ nI 108 = 100 by decide), if_pos (show nI 108 = 108 from rfl)]
    simp only [Rd_takesLink, Dc_wi, Pl_is2 h1 hn, show ((0 : Int32).toNatClampNeg) = 0 from rfl, show ((1 : Int32).toNatClampNeg) = 1 from rfl, show ((2 : Int32).toNatClampNeg) = 2 from rfl, hu, hu2, hu3, are2_n h1 hn v1 v2, show Mo_isIn (nI x3) 1 9 = _ from isIn_n (lo := 1) (hi := 9) (show x3 < 2 ^ 31 by omega) (by decide) (by decide), Option.bind_some, Pl_links]
    by_cases e1 : x1 < n ∧ x2 < n ∧ x1 ≠ x2
    · rw [if_pos e1, if_neg (by decide)]
      by_cases e2 : 1 ≤ x3 ∧ x3 ≤ 9
      · have l1 := hLc (16 * x1 + x2) (by omega)
        obtain ⟨ln, g1, g2⟩ := Pl_setL (a := x1) (b := x2) (L' := setL s.1 x1 x2 x3) (by omega) (by omega) e1.2.2 hw.2.2.2.2.1 (setL_sym (by omega) (by omega) hw.2.2.2.2.1) (fun q _ q1 q2 => setL_un q1 q2) (by rw [setL_at]; exact e2.2) hLc
        rw [setL_at] at g1
        rw [if_pos e2, if_neg (by decide), Pl_len (by omega) (by omega), Option.bind_some, l1.1]
        by_cases e3 : s.1 (16 * x1 + x2) = 0
        · rw [if_pos (show nI (s.1 (16 * x1 + x2)) = 0 by rw [e3]; rfl)]
          by_cases e4 : nlk s.1 16 < 40
          · rw [if_pos (show nI (nlk s.1 16) < 40 from nI_lt (b := 40) e4 (by decide)), Option.bind_some]
            dsimp only
            rw [g1]
            exact ⟨fun _ => ⟨ln, rfl, g2⟩, fun w => absurd ⟨e1, e2, Or.inr e4⟩ w⟩
          · rw [if_neg (show ¬ nI (nlk s.1 16) < 40 from nI_nlt (b := 40) (by omega) (by omega))]
            exact ⟨fun w => absurd w.2.2 (fun q => q.elim (fun q => q e3) e4), fun _ => ⟨_, rfl⟩⟩
        · rw [if_neg (nI_ne0 (by omega) (by omega)), Option.bind_some]
          dsimp only
          rw [g1]
          exact ⟨fun _ => ⟨ln, rfl, g2⟩, fun w => absurd ⟨e1, e2, Or.inl e3⟩ w⟩
      · rw [if_neg e2, if_pos rfl]
        exact ⟨fun w => absurd w.2.1 e2, fun _ => ⟨_, rfl⟩⟩
    · rw [if_neg e1, if_pos rfl]
      exact ⟨fun w => absurd w.1 e1, fun _ => ⟨_, rfl⟩⟩
  have hm : ((nf k tl (p + 1) ≠ 0 ∧ 0 ≤ x1 ∧ x1 ≤ n - 1) → isS k tl (en k tl (p + 1)) 44 → (nf k tl p2 ≠ 0 ∧ 0 ≤ x2 ∧ x2 ≤ n - 1) → x2 ≠ x1 → isS k tl (en k tl p2) 44 → (nf k tl p3 ≠ 0 ∧ 1 ≤ x3 ∧ x3 ≤ 9) → (s.1 (16 * x1 + x2) ≠ 0 ∨ nlk s.1 16 < 40) → Mo_readsItem (nI k) (nI n) m_value m_ends tx m_read m_readRule (nI (tl p)) (nI (p + 1)) (if p = 0 then 1 else 0) = some (1, nI n, nI x3, nI (en k tl p3), upd (upd m_read (16 * x1 + x2) (nI x3)) (16 * x2 + x1) (nI x3), m_readRule)) ∧ (¬ ((nf k tl (p + 1) ≠ 0 ∧ 0 ≤ x1 ∧ x1 ≤ n - 1) ∧ isS k tl (en k tl (p + 1)) 44 ∧ (nf k tl p2 ≠ 0 ∧ 0 ≤ x2 ∧ x2 ≤ n - 1) ∧ x2 ≠ x1 ∧ isS k tl (en k tl p2) 44 ∧ (nf k tl p3 ≠ 0 ∧ 1 ≤ x3 ∧ x3 ≤ 9) ∧ (s.1 (16 * x1 + x2) ≠ 0 ∨ nlk s.1 16 < 40)) → ∃ w, Mo_readsItem (nI k) (nI n) m_value m_ends tx m_read m_readRule (nI (tl p)) (nI (p + 1)) (if p = 0 then 1 else 0) = some (0, w)) := by
    unfold Mo_readsItem
    rw [hc, if_neg (show ¬ nI 108 = 110 by decide), Option.bind_some, if_neg (show ¬ p = 0 by omega), if_pos rfl, if_neg (show ¬ nI 108 = 100 by decide), if_pos (show nI 108 = 108 from rfl)]
    unfold Mo_readsLink
    rw [show nI n - 1 = nI (n - 1) from pk_sub (a := n) (b := 1) h1, show Mo_number (nI k) m_value m_ends tx (nI (p + 1)) 0 (nI (n - 1)) = _ from M_nm hk hs (lo := 0) (hi := n - 1) (by omega) (by decide) (by omega) _ _, hx1]
    simp only [Option.bind_some]
    by_cases e : (nf k tl (p + 1) ≠ 0 ∧ 0 ≤ x1 ∧ x1 ≤ n - 1)
    · rw [if_pos e, if_neg (by decide), show Mo_more (nI k) (nI x1) (nI (en k tl (p + 1))) tx 0 (nI (n - 1)) = _ from hM1 0 (n - 1) (by decide) (by omega) _]
      by_cases e2 : isS k tl (en k tl (p + 1)) 44
      · rw [if_pos e2, Option.bind_some]
        dsimp only
        by_cases e3 : (nf k tl p2 ≠ 0 ∧ 0 ≤ x2 ∧ x2 ≤ n - 1)
        · rw [if_pos e3, if_neg (by decide)]
          by_cases e30 : x2 = x1
          · rw [if_pos (by rw [e30])]
            exact ⟨fun _ _ _ w => absurd e30 w, fun _ => ⟨_, rfl⟩⟩
          · rw [if_neg (fun w => e30 ((nI_eq (by omega) (by omega)).mp w)), show Mo_more (nI k) (nI x2) (nI (en k tl p2)) tx 1 9 = _ from hM2 1 9 (by decide) (by decide) _]
            have l2 := hN.1 (16 * x1 + x2) (by omega)
            simp only [ix_b, gk_n (show 16 * x1 + x2 < 289 by omega) (by decide), nI_clamp (show 16 * x1 + x2 < 2 ^ 31 by omega), l2.1, M_linksOf hN.1, Mo_jn (show x1 < 16 by omega) (show x2 < 16 by omega), Option.bind_some]
            by_cases e4 : isS k tl (en k tl p2) 44
            · rw [if_pos e4]
              by_cases e5 : (nf k tl p3 ≠ 0 ∧ 1 ≤ x3 ∧ x3 ≤ 9)
              · rw [if_pos e5]
                simp only [Option.bind_some, if_neg (show ¬ (1 : Int32) = 0 by decide)]
                by_cases e6 : s.1 (16 * x1 + x2) = 0
                · rw [if_neg (show ¬ (0 : Int32) < nI (s.1 (16 * x1 + x2)) by rw [e6]; decide)]
                  by_cases e7 : nlk s.1 16 < 40
                  · rw [if_neg (show ¬ (40 : Int32) ≤ nI (nlk s.1 16) from nI_ge (b := 40) e7 (by decide))]
                    exact ⟨fun _ _ _ _ _ _ _ => rfl, fun w => absurd ⟨e, e2, e3, e30, e4, e5, Or.inr e7⟩ w⟩
                  · rw [if_pos (show (40 : Int32) ≤ nI (nlk s.1 16) from nI_le (a := 40) (by omega) (by omega))]
                    exact ⟨fun _ _ _ _ _ _ w => absurd w (fun q => q.elim (fun q => q e6) e7), fun _ => ⟨_, rfl⟩⟩
                · rw [if_pos (show (0 : Int32) < nI (s.1 (16 * x1 + x2)) from nI_lt (a := 0) (by omega) (by omega))]
                  exact ⟨fun _ _ _ _ _ _ _ => rfl, fun w => absurd ⟨e, e2, e3, e30, e4, e5, Or.inl e6⟩ w⟩
              · rw [if_neg e5]
                exact ⟨fun _ _ _ _ _ w => absurd w e5, fun _ => ⟨_, rfl⟩⟩
            · rw [if_neg e4]
              exact ⟨fun _ _ _ _ w => absurd w e4, fun _ => ⟨_, rfl⟩⟩
        · rw [if_neg e3, if_pos rfl]
          exact ⟨fun _ _ w => absurd w e3, fun _ => ⟨_, rfl⟩⟩
      · rw [if_neg e2]
        exact ⟨fun _ w => absurd w e2, fun _ => ⟨_, rfl⟩⟩
    · rw [if_neg e, if_pos rfl]
      exact ⟨fun w => absurd w e, fun _ => ⟨_, rfl⟩⟩
  by_cases c1 : nc k tl (p + 1) 44 ∧ nc k tl p2 44 ∧ nc k tl p3 59
  · have b1 := c1.2.2.2.1
    by_cases c2 : ((x1 < n ∧ x2 < n ∧ x1 ≠ x2) ∧ (1 ≤ x3 ∧ x3 ≤ 9) ∧ (s.1 (16 * x1 + x2) ≠ 0 ∨ nlk s.1 16 < 40))
    · obtain ⟨ln, t1, t2⟩ := (ht (upd (upd (upd rd_numbers 0 (nI x1)) 1 (nI x2)) 2 (nI x3)) (by rw [pk_un (by decide), pk_un (by decide), pk_us]) (by rw [pk_un (by decide), pk_us]) pk_us).1 c2
      have hs9 := nlk_set (L := s.1) (L' := setL s.1 x1 x2 x3) (a := x1) (b := x2) (by omega) (by omega) c2.1.2.2 hw.2.2.2.2.1 (setL_sym (by omega) (by omega) hw.2.2.2.2.1) (fun q _ q1 q2 => setL_un q1 q2)
      rw [setL_at, if_pos (show x3 ≠ 0 by omega)] at hs9
      have hw2 := WF_set (k := x3) hw c2.1.1 c2.1.2.1 c2.1.2.2 (by
        rcases c2.2.2 with q | q
        · rw [if_pos q] at hs9
          omega
        · split at hs9 <;> omega)
      refine Or.inr ⟨en k tl p3 + 1, _, _, _, _, _, _, _, _, _, _, _, _, _, _, _, by omega, by omega, C_OK hk hs hp hi (by omega) (hB1 c1.1 c1.2.1 c1.2.2) t1, M_OK hk hs hp (by omega) (hm.1 ⟨c1.1.1, Nat.zero_le _, by omega⟩ c1.1.2 ⟨c1.2.1.1, Nat.zero_le _, by omega⟩ (fun q => c2.1.2.2 q.symm) c1.2.1.2 ⟨c1.2.2.1, c2.2.1⟩ c2.2.2) c1.2.2.2, n, M, dr_ofTen, (setL s.1 x1 x2 x3, s.2.1, s.2.2.1, s.2.2.2), hw2, rfl, rfl, rfl, rfl, rfl, t2, hC, rfl, a7, a8, okL_set c2.2.1.2 hN.1, fun b hb => ?_, ?_⟩
      · rw [pk_un (by omega), pk_un (by omega), pk_un (by omega), pk_un (by omega)]
        exact hN.2.1 b hb
      · rw [pk_un (by omega), pk_un (by omega)]
        exact hN.2.2
    · exact Or.inl ⟨CF_take hk hs hp hi (by omega) (hB1 c1.1 c1.2.1 c1.2.2) ((ht _ (by rw [pk_un (by decide), pk_un (by decide), pk_us]) (by rw [pk_un (by decide), pk_us]) pk_us).2 c2), MF hk hs hp (hm.2 (fun w => c2 ⟨⟨by have := w.1.2.2; omega, by have := w.2.2.1.2.2; omega, fun q => w.2.2.2.1 q.symm⟩, w.2.2.2.2.2.1.2, w.2.2.2.2.2.2⟩))⟩
  · refine Or.inl ⟨CF_form hk hs hp hi (hB2 c1), ?_⟩
    by_cases e : (nf k tl (p + 1) ≠ 0 ∧ 0 ≤ x1 ∧ x1 ≤ n - 1) ∧ isS k tl (en k tl (p + 1)) 44 ∧ (nf k tl p2 ≠ 0 ∧ 0 ≤ x2 ∧ x2 ≤ n - 1) ∧ x2 ≠ x1 ∧ isS k tl (en k tl p2) 44 ∧ (nf k tl p3 ≠ 0 ∧ 1 ≤ x3 ∧ x3 ≤ 9) ∧ (s.1 (16 * x1 + x2) ≠ 0 ∨ nlk s.1 16 < 40)
    · have b1 := e.2.2.2.2.1.1
      exact MF2 hk hs hp (e := en k tl p3) (by omega) (hm.1 e.1 e.2.1 e.2.2.1 e.2.2.2.1 e.2.2.2.2.1 e.2.2.2.2.2.1 e.2.2.2.2.2.2) (fun q => c1 ⟨⟨e.1.1, e.2.1⟩, ⟨e.2.2.1.1, e.2.2.2.2.1⟩, e.2.2.2.2.2.1.1, q⟩)
    · exact MF hk hs hp (hm.2 e)
