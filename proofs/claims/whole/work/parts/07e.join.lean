/-! greatest delays, the earliest, joins: of both -/
theorem Cl_great {n : Nat} (hn : n ≤ 16) {D : Nat → Nat} (hD : ∀ i, i < n → D i ≤ 30) {dl : Nat → Int32} (h1 : ∀ i, i < n → dl i = nI (D i)) (g : Int32) : Cl_findGreatestDelay g dl (nI n) = some (nI (tp D n)) := by
  have h : it (Cl_findGreatestDelay_L7 dl (nI n)) 4096 (nI 0, nI (tp D 0)) = some (nI (tp D n)) := by
    refine it_run (fun i => (nI i, nI (tp D i))) n _ ?_ ?_ (by omega)
    · intro i hi
      have h2 : tp D i ≤ 30 := tp_le i (fun k hk => hD k (by omega))
      have h3 := hD i hi
      simp only [Cl_findGreatestDelay_L7, Pl_places, Option.bind_some, if_neg (nI_ge hi (show n < 2 ^ 31 by omega)), gk_n (show i < 16 by omega) (by decide), nI_clamp (show i < 2 ^ 31 by omega), h1 i hi, nI_1, nI_ltI (show tp D i < 2 ^ 31 by omega) (show D i < 2 ^ 31 by omega), tp]
      by_cases e : tp D i < D i
      · rw [if_pos e, if_pos e]
      · rw [if_neg e, if_neg e]
    · simp only [Cl_findGreatestDelay_L7, Pl_places, Option.bind_some, if_pos (nI_le (Nat.le_refl n) (show n < 2 ^ 31 by omega))]
  unfold Cl_findGreatestDelay
  rw [show it (Cl_findGreatestDelay_L7 dl (nI n)) 4096 (0, 0) = some (nI (tp D n)) from h]
  rfl
theorem Mo_great {n : Nat} (hn : n ≤ 16) {D : Nat → Nat} (hD : ∀ i, i < n → D i ≤ 30) {dl : Nat → Int32} (h1 : ∀ i, i < n → dl i = nI (D i)) : Mo_greatest (nI n) dl = some (nI (tp D n)) := by
  have h : it (Mo_greatest_L4 (nI n) dl) 4096 (nI (tp D 0), nI 0) = some (nI (tp D n)) := by
    refine it_run (fun i => (nI (tp D i), nI i)) n _ ?_ ?_ (by omega)
    · intro i hi
      have h2 : tp D i ≤ 30 := tp_le i (fun k hk => hD k (by omega))
      have h3 := hD i hi
      simp only [Mo_greatest_L4, if_neg (nI_ge hi (show n < 2 ^ 31 by omega)), gk_n (show i < 16 by omega) (by decide), nI_clamp (show i < 2 ^ 31 by omega), h1 i hi, nI_1, nI_leI (show D i < 2 ^ 31 by omega) (show tp D i < 2 ^ 31 by omega), tp]
      by_cases e : tp D i < D i
      · rw [if_neg (by omega), if_pos e]
      · rw [if_pos (by omega), if_neg e]
    · simp only [Mo_greatest_L4, if_pos (nI_le (Nat.le_refl n) (show n < 2 ^ 31 by omega))]
  unfold Mo_greatest
  rw [show it (Mo_greatest_L4 (nI n) dl) 4096 (0, 0) = some (nI (tp D n)) from h]
  rfl
theorem Cl_st {n i g : Nat} (hn : n ≤ 16) (hi : i < n) {D : Nat → Nat} {dl : Nat → Int32} (h1 : ∀ i, i < n → dl i = nI (D i)) (hg : D i ≤ g) : Cl_startOf (nI g) dl (nI i) = some (nI (g - D i)) := by
  simp only [Cl_startOf, gk_n (show i < 16 by omega) (by decide), nI_clamp (show i < 2 ^ 31 by omega), h1 i hi, pk_sub hg]
theorem f_eq {x y : Int32} : x = y ↔ x.toInt = y.toInt := ⟨fun h => by rw [h], fun h => Int32.toInt_inj.mp h⟩
theorem Cl_tie {a b : Nat} (ha : a < 16) (hb : b < 16) (fr : Nat → Int32) : Cl_winsTie fr (nI a) (nI b) = some (if (fr a).toInt < (fr b).toInt ∨ (fr a).toInt = (fr b).toInt ∧ a < b then 1 else 0) := by
  simp only [Cl_winsTie, gk_n ha (by decide), gk_n hb (by decide), nI_clamp (show a < 2 ^ 31 by omega), nI_clamp (show b < 2 ^ 31 by omega), nI_leI (show b < 2 ^ 31 by omega) (show a < 2 ^ 31 by omega), f_eq, Int32.le_iff_toInt_le]
  by_cases e : (fr a).toInt = (fr b).toInt
  · rw [if_pos e]
    by_cases e2 : b ≤ a
    · rw [if_pos e2, if_neg (by omega)]
    · rw [if_neg e2, if_pos (by omega)]
  · rw [if_neg e]
    by_cases e2 : (fr b).toInt ≤ (fr a).toInt
    · rw [if_pos e2, if_neg (by omega)]
    · rw [if_neg e2, if_pos (by omega)]
theorem hr_small {n i j : Nat} {D : Nat → Nat} {d : Nat → Nat → Nat} (hD : ∀ i, i < n → D i ≤ 30) (hd : ∀ a b, a < n → b < n → d a b ≤ 1000000) (hi : i < n) (hj : j < n) : hr n D d i j ≤ 1000030 := by
  have h1 : tp D n ≤ 30 := tp_le n hD
  have h2 := hd i j hi hj
  unfold hr
  omega
theorem Cl_early {n j : Nat} (hn : n ≤ 16) (hj : j < n) {D : Nat → Nat} (hD : ∀ i, i < n → D i ≤ 30) {d : Nat → Nat → Nat} (hd : ∀ a b, a < n → b < n → d a b ≤ 1000000) (hz : ∀ i, d i i = 0) {dl fr sm : Nat → Int32} (h1 : ∀ i, i < n → dl i = nI (D i)) (h3 : ∀ a b, a < n → b < n → sm (16 * a + b) = nI (d a b)) :
    Cl_earliestAt (nI (tp D n)) dl fr (nI n) sm (nI j) = some (nI (hh n D fr d j)) := by
  have h : it (Cl_earliestAt_L11 (nI (tp D n)) dl fr (nI n) sm (nI j)) 4096 (nI (hdk n D fr d j 0), nI (hr n D d (hdk n D fr d j 0) j), nI 0) = some (nI (hh n D fr d j)) := by
    refine it_run (fun i => (nI (hdk n D fr d j i), nI (hr n D d (hdk n D fr d j i) j), nI i)) n _ ?_ ?_ (by omega)
    · intro i hi
      have hb := hdk_lt (n := n) (D := D) (F := fr) (d := d) hj i (by omega)
      have h5 := hr_small hD hd hi hj
      have h6 := hr_small hD hd hb hj
      have h7 : nI (tp D n - D i) + nI (d i j) = nI (hr n D d i j) := nI_add _ _
      simp only [Cl_earliestAt_L11, Pl_places, Option.bind_some, if_neg (nI_ge hi (show n < 2 ^ 31 by omega)), Cl_st hn hi h1 (tp_ge D n i hi), Pa_bet (show i < 16 by omega) (show j < 16 by omega), h3 i j hi hj, h7, nI_1, nI_ltI (show hr n D d i j < 2 ^ 31 by omega) (show hr n D d (hdk n D fr d j i) j < 2 ^ 31 by omega), nI_eq (show hr n D d i j < 2 ^ 31 by omega) (show hr n D d (hdk n D fr d j i) j < 2 ^ 31 by omega), Cl_tie (show i < 16 by omega) (show hdk n D fr d j i < 16 by omega)]
      by_cases e : bt n D fr d j i (hdk n D fr d j i)
      · have e1 : hdk n D fr d j (i + 1) = i := by
          simp only [hdk]
          rw [if_pos e]
        rw [e1]
        by_cases e2 : hr n D d i j < hr n D d (hdk n D fr d j i) j
        · rw [if_pos e2]
        · have e3 : (fr i).toInt < (fr (hdk n D fr d j i)).toInt ∨ (fr i).toInt = (fr (hdk n D fr d j i)).toInt ∧ i < hdk n D fr d j i := by
            unfold bt at e
            omega
          rw [if_neg e2, if_pos (show hr n D d i j = hr n D d (hdk n D fr d j i) j by unfold bt at e; omega), if_pos e3, if_neg (by decide)]
      · have e1 : hdk n D fr d j (i + 1) = hdk n D fr d j i := by
          simp only [hdk]
          rw [if_neg e]
        rw [e1, if_neg (show ¬ hr n D d i j < hr n D d (hdk n D fr d j i) j by unfold bt at e; omega)]
        by_cases e2 : hr n D d i j = hr n D d (hdk n D fr d j i) j
        · have e3 : ¬ ((fr i).toInt < (fr (hdk n D fr d j i)).toInt ∨ (fr i).toInt = (fr (hdk n D fr d j i)).toInt ∧ i < hdk n D fr d j i) := by
            unfold bt at e
            omega
          rw [if_pos e2, if_neg e3, if_pos rfl]
        · rw [if_neg e2]
    · simp only [Cl_earliestAt_L11, Pl_places, Option.bind_some, if_pos (nI_le (Nat.le_refl n) (show n < 2 ^ 31 by omega))]
      rfl
  unfold Cl_earliestAt
  rw [Cl_st hn hj h1 (tp_ge D n j hj), Option.bind_some]
  have h8 : hr n D d (hdk n D fr d j 0) j = tp D n - D j := by
    simp only [hdk, hr, hz, Nat.add_zero]
  rw [h8] at h
  rw [show it (Cl_earliestAt_L11 (nI (tp D n)) dl fr (nI n) sm (nI j)) 4096 (nI j, nI (tp D n - D j), 0) = some (nI (hh n D fr d j)) from h]
  rfl
theorem Mo_early {n i o j : Nat} (hn : n ≤ 16) (hi : i < n) (ho : o < n) (hj : j < n) {D : Nat → Nat} (hD : ∀ i, i < n → D i ≤ 30) {d : Nat → Nat → Nat} (hd : ∀ a b, a < n → b < n → d a b ≤ 1000000) {dl fr sm : Nat → Int32} (h1 : ∀ i, i < n → dl i = nI (D i)) (h3 : ∀ a b, a < n → b < n → sm (16 * a + b) = nI (d a b)) :
    Mo_isEarlier sm dl fr (nI i) (nI o) (nI j) (nI (tp D n)) = some (if hr n D d i j < hr n D d o j ∨ hr n D d i j = hr n D d o j ∧ (fr i).toInt < (fr o).toInt then 1 else 0) := by
  have h5 := hr_small hD hd hi hj
  have h6 := hr_small hD hd ho hj
  have h7 : nI (tp D n - D i) + nI (d i j) = nI (hr n D d i j) := nI_add _ _
  have h8 : nI (tp D n - D o) + nI (d o j) = nI (hr n D d o j) := nI_add _ _
  simp only [Mo_isEarlier, ix_b, gk_n (show i < 16 by omega) (by decide), gk_n (show o < 16 by omega) (by decide), gk_n (show 16 * i + j < 256 by omega) (by decide), gk_n (show 16 * o + j < 256 by omega) (by decide), nI_clamp (show i < 2 ^ 31 by omega), nI_clamp (show o < 2 ^ 31 by omega), nI_clamp (show 16 * i + j < 2 ^ 31 by omega), nI_clamp (show 16 * o + j < 2 ^ 31 by omega), h1 i hi, h1 o ho, h3 i j hi hj, h3 o j ho hj, pk_sub (tp_ge D n i hi), pk_sub (tp_ge D n o ho), h7, h8, nI_eq (show hr n D d i j < 2 ^ 31 by omega) (show hr n D d o j < 2 ^ 31 by omega), nI_leI (show hr n D d o j < 2 ^ 31 by omega) (show hr n D d i j < 2 ^ 31 by omega), Int32.le_iff_toInt_le]
  by_cases e : hr n D d i j = hr n D d o j
  · rw [if_pos e]
    by_cases e2 : (fr o).toInt ≤ (fr i).toInt
    · rw [if_pos e2, if_neg (by omega)]
    · rw [if_neg e2, if_pos (by omega)]
  · rw [if_neg e]
    by_cases e2 : hr n D d o j ≤ hr n D d i j
    · rw [if_pos e2, if_neg (by omega)]
    · rw [if_neg e2, if_pos (by omega)]
theorem Mo_join_head {n j : Nat} (hn : n ≤ 16) (hj : j < n) {D : Nat → Nat} (hD : ∀ i, i < n → D i ≤ 30) {d : Nat → Nat → Nat} (hd : ∀ a b, a < n → b < n → d a b ≤ 1000000) (hz : ∀ i, d i i = 0) {dl fr sm : Nat → Int32} (h1 : ∀ i, i < n → dl i = nI (D i)) (h3 : ∀ a b, a < n → b < n → sm (16 * a + b) = nI (d a b)) :
    it (Mo_join_L25 (nI n) sm dl fr (nI (tp D n)) (nI j)) 4096 (nI j, 0) = some (nI (hh n D fr d j)) := by
  refine it_run (F := 4096) (fun i => (nI (hdk n D fr d j i), nI i)) n _ ?_ ?_ (by omega)
  · intro i hi
    have hb := hdk_lt (n := n) (D := D) (F := fr) (d := d) hj i (by omega)
    have h4 := hdk_le (n := n) (D := D) (F := fr) (d := d) (j := j) i
    have h5 := hd i j hi hj
    have h6 : hr n D d j j ≤ 30 := by
      have := tp_le n hD
      unfold hr
      rw [hz]
      omega
    simp only [Mo_join_L25, ix_b, if_neg (nI_ge hi (show n < 2 ^ 31 by omega)), gk_n (show 16 * i + j < 256 by omega) (by decide), nI_clamp (show 16 * i + j < 2 ^ 31 by omega), h3 i j hi hj, nI_1, nI_eq (show i < 2 ^ 31 by omega) (show hdk n D fr d j i < 2 ^ 31 by omega), nI_leI (show hdk n D fr d j i < 2 ^ 31 by omega) (show i < 2 ^ 31 by omega), Mo_early hn hi hb hj hD hd h1 h3, Mo_early hn hb hi hj hD hd h1 h3]
    have key : ∀ x : Option Int32, x = some (if bt n D fr d j i (hdk n D fr d j i) then 1 else 0) → Option.bind x (fun t => if t = 0 then some (Sum.inl (β := Int32) (nI (hdk n D fr d j i), nI (i + 1))) else some (Sum.inl (nI i, nI (i + 1)))) = some (Sum.inl (nI (hdk n D fr d j (i + 1)), nI (i + 1))) := by
      intro x hx
      rw [hx, Option.bind_some]
      simp only [hdk]
      by_cases e : bt n D fr d j i (hdk n D fr d j i)
      · rw [if_pos e, if_pos e, if_neg (by decide)]
      · rw [if_neg e, if_neg e, if_pos rfl]
    by_cases e : 1000000 ≤ d i j
    · rw [if_pos (show (1000000 : Int32) ≤ nI (d i j) from nI_le (a := 1000000) e (by omega)), Option.bind_some]
      refine key _ ?_
      rw [if_pos rfl, if_neg]
      unfold bt hr at *
      omega
    · rw [if_neg (show ¬ (1000000 : Int32) ≤ nI (d i j) from nI_ge (b := 1000000) (by omega) (by decide))]
      by_cases e1 : i = hdk n D fr d j i
      · rw [if_pos e1, Option.bind_some]
        refine key _ ?_
        rw [if_pos rfl, if_neg]
        rw [← e1]
        unfold bt
        omega
      · rw [if_neg e1, Option.bind_some]
        refine key _ ?_
        rw [if_neg (by decide), Option.bind_some]
        by_cases e2 : hr n D d i j < hr n D d (hdk n D fr d j i) j ∨ hr n D d i j = hr n D d (hdk n D fr d j i) j ∧ (fr i).toInt < (fr (hdk n D fr d j i)).toInt
        · rw [if_pos e2, if_neg (by decide), if_pos (by unfold bt; omega)]
        · rw [if_neg e2, if_pos rfl]
          by_cases e3 : hdk n D fr d j i ≤ i
          · rw [if_pos e3, if_neg (by unfold bt; omega)]
          · rw [if_neg e3, Option.bind_some]
            by_cases e4 : hr n D d (hdk n D fr d j i) j < hr n D d i j ∨ hr n D d (hdk n D fr d j i) j = hr n D d i j ∧ (fr (hdk n D fr d j i)).toInt < (fr i).toInt
            · rw [if_pos e4, if_neg (by decide), if_neg (by unfold bt; omega)]
            · rw [if_neg e4, if_pos rfl, if_pos (by unfold bt; omega)]
  · simp only [Mo_join_L25, if_pos (nI_le (Nat.le_refl n) (show n < 2 ^ 31 by omega))]
    rfl
