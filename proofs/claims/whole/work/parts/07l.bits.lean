/-! bits; members of a cluster; clusters beside one -/
theorem fa_and (a b : Nat) : nI a &&& nI b = nI (a &&& b) := by
  apply Int32.toBitVec_inj.1
  show BitVec.ofNat 32 a &&& BitVec.ofNat 32 b = BitVec.ofNat 32 (a &&& b)
  apply BitVec.eq_of_getLsbD_eq
  intro i hi
  simp [hi]
theorem fa_or (a b : Nat) : nI a ||| nI b = nI (a ||| b) := by
  apply Int32.toBitVec_inj.1
  show BitVec.ofNat 32 a ||| BitVec.ofNat 32 b = BitVec.ofNat 32 (a ||| b)
  apply BitVec.eq_of_getLsbD_eq
  intro i hi
  simp [hi]
def pop (x : Nat) : Nat → Nat
  | 0 => 0
  | k + 1 => pop x k + x / 2 ^ k % 2
def bcA (x : Nat) : Nat := x - ((x / 2) &&& 1431655765)
def bcB (a : Nat) : Nat := (a &&& 858993459) + ((a / 4) &&& 858993459)
def bcC (b : Nat) : Nat := (b + b / 16) &&& 252645135
def bcD (c : Nat) : Nat := c + c / 256
def bcE (d : Nat) : Nat := d + d / 65536
def bcN (x : Nat) : Nat := bcE (bcD (bcC (bcB (bcA x)))) &&& 63
theorem Ji_bc {x : Nat} (hx : x < 65536) : Ji_bitCount (nI x) = some (nI (bcN x)) := by
  have a1 : bcA x ≤ x := Nat.sub_le _ _
  have b1 : bcB (bcA x) ≤ 2 * x := by
    have h1 : (bcA x &&& 858993459) ≤ bcA x := Nat.and_le_left
    have h2 : ((bcA x / 4) &&& 858993459) ≤ bcA x / 4 := Nat.and_le_left
    unfold bcB
    omega
  have c1 : bcC (bcB (bcA x)) ≤ 4 * x := by
    have h1 : ((bcB (bcA x) + bcB (bcA x) / 16) &&& 252645135) ≤ bcB (bcA x) + bcB (bcA x) / 16 := Nat.and_le_left
    unfold bcC
    omega
  have d1 : bcD (bcC (bcB (bcA x))) ≤ 8 * x := by
    unfold bcD
    omega
  have e1 : nI x - ((((nI x : Int32).toUInt32 >>> ((1 : Int32).toUInt32 &&& Int32.toUInt32 31)).toInt32) &&& 1431655765) = nI (bcA x) := by
    rw [pk_ushrN (show x < 2 ^ 32 by omega) 1 1 (by decide), show (1431655765 : Int32) = nI 1431655765 from rfl, fa_and]
    refine pk_sub ?_
    have h1 : (x / 2 ^ 1 &&& 1431655765) ≤ x / 2 ^ 1 := Nat.and_le_left
    omega
  have e2 : (nI (bcA x) &&& 858993459) + ((((nI (bcA x) : Int32).toUInt32 >>> ((2 : Int32).toUInt32 &&& Int32.toUInt32 31)).toInt32) &&& 858993459) = nI (bcB (bcA x)) := by
    rw [pk_ushrN (show bcA x < 2 ^ 32 by omega) 2 2 (by decide), show (858993459 : Int32) = nI 858993459 from rfl, fa_and, fa_and, nI_add]
    rfl
  have e3 : (nI (bcB (bcA x)) + (((nI (bcB (bcA x)) : Int32).toUInt32 >>> ((4 : Int32).toUInt32 &&& Int32.toUInt32 31)).toInt32)) &&& 252645135 = nI (bcC (bcB (bcA x))) := by
    rw [pk_ushrN (show bcB (bcA x) < 2 ^ 32 by omega) 4 4 (by decide), show (252645135 : Int32) = nI 252645135 from rfl, nI_add, fa_and]
    rfl
  have e4 : nI (bcC (bcB (bcA x))) + (((nI (bcC (bcB (bcA x))) : Int32).toUInt32 >>> ((8 : Int32).toUInt32 &&& Int32.toUInt32 31)).toInt32) = nI (bcD (bcC (bcB (bcA x)))) := by
    rw [pk_ushrN (show bcC (bcB (bcA x)) < 2 ^ 32 by omega) 8 8 (by decide), nI_add]
    rfl
  have e5 : nI (bcD (bcC (bcB (bcA x)))) + (((nI (bcD (bcC (bcB (bcA x)))) : Int32).toUInt32 >>> ((16 : Int32).toUInt32 &&& Int32.toUInt32 31)).toInt32) = nI (bcE (bcD (bcC (bcB (bcA x))))) := by
    rw [pk_ushrN (show bcD (bcC (bcB (bcA x))) < 2 ^ 32 by omega) 16 16 (by decide), nI_add]
    rfl
  unfold Ji_bitCount
  rw [e1, e2, e3, e4, e5, show (63 : Int32) = nI 63 from rfl, fa_and]
  rfl
def bck (k : Nat) : Bool := (List.range 4096).all (fun y => bcN (4096 * k + y) == pop (4096 * k + y) 16)
theorem bck_0 : bck 0 = true := by decide +kernel
theorem bck_1 : bck 1 = true := by decide +kernel
theorem bck_2 : bck 2 = true := by decide +kernel
theorem bck_3 : bck 3 = true := by decide +kernel
theorem bck_4 : bck 4 = true := by decide +kernel
theorem bck_5 : bck 5 = true := by decide +kernel
theorem bck_6 : bck 6 = true := by decide +kernel
theorem bck_7 : bck 7 = true := by decide +kernel
theorem bck_8 : bck 8 = true := by decide +kernel
theorem bck_9 : bck 9 = true := by decide +kernel
theorem bck_10 : bck 10 = true := by decide +kernel
theorem bck_11 : bck 11 = true := by decide +kernel
theorem bck_12 : bck 12 = true := by decide +kernel
theorem bck_13 : bck 13 = true := by decide +kernel
theorem bck_14 : bck 14 = true := by decide +kernel
theorem bck_15 : bck 15 = true := by decide +kernel
theorem bck_all : ∀ k, k < 16 → bck k = true := by
  intro k hk
  rcases (show k = 0 ∨ k = 1 ∨ k = 2 ∨ k = 3 ∨ k = 4 ∨ k = 5 ∨ k = 6 ∨ k = 7 ∨ k = 8 ∨ k = 9 ∨ k = 10 ∨ k = 11 ∨ k = 12 ∨ k = 13 ∨ k = 14 ∨ k = 15 by omega) with rfl | rfl | rfl | rfl | rfl | rfl | rfl | rfl | rfl | rfl | rfl | rfl | rfl | rfl | rfl | rfl
  · exact bck_0
  · exact bck_1
  · exact bck_2
  · exact bck_3
  · exact bck_4
  · exact bck_5
  · exact bck_6
  · exact bck_7
  · exact bck_8
  · exact bck_9
  · exact bck_10
  · exact bck_11
  · exact bck_12
  · exact bck_13
  · exact bck_14
  · exact bck_15
theorem bc_pop {x : Nat} (hx : x < 65536) : bcN x = pop x 16 := by
  have h := bck_all (x / 4096) (by omega)
  have h2 := List.all_eq_true.mp h (x % 4096) (List.mem_range.mpr (by omega))
  have h3 : 4096 * (x / 4096) + x % 4096 = x := Nat.div_add_mod x 4096
  rw [h3] at h2
  exact eq_of_beq h2
def mbs (p : Nat → Bool) : Nat → Nat
  | 0 => 0
  | k + 1 => mbs p k + (if p k = true then 2 ^ k else 0)
theorem mbs_lt {p : Nat → Bool} : ∀ k, mbs p k < 2 ^ k := by
  intro k
  induction k with
  | zero => exact Nat.one_pos
  | succ k ih =>
    simp only [mbs, Nat.pow_succ]
    split <;> omega
theorem sh_n : ∀ k, k < 16 → (1 : Int32) <<< (nI k &&& 31) = nI (2 ^ k) := by decide +kernel
theorem mbI_n {p : Nat → Bool} : ∀ k, k ≤ 16 → mbI p k = nI (mbs p k) := by
  intro k
  induction k with
  | zero => intro _; rfl
  | succ k ih =>
    intro hk
    have h1 := ih (by omega)
    simp only [mbI, mbs]
    by_cases e : p k = true
    · rw [if_pos e, if_pos e, h1, sh_n k (by omega), fa_or]
      have h2 := Nat.two_pow_add_eq_or_of_lt (mbs_lt (p := p) k) 1
      rw [Nat.mul_one] at h2
      rw [Nat.or_comm, ← h2, Nat.add_comm]
    · rw [if_neg e, if_neg e, h1, Nat.add_zero]
theorem mbs_bit {p : Nat → Bool} : ∀ n i, mbs p n / 2 ^ i % 2 = if i < n ∧ p i = true then 1 else 0 := by
  intro n
  induction n with
  | zero =>
    intro i
    rw [if_neg (by omega)]
    simp [mbs]
  | succ n ih =>
    intro i
    have hm := mbs_lt (p := p) n
    have hi := ih i
    simp only [mbs]
    by_cases e : p n = true
    · rw [if_pos e]
      rcases Nat.lt_trichotomy i n with h | h | h
      · have e1 : 2 ^ n = 2 ^ i * (2 * 2 ^ (n - i - 1)) := by
          rw [← Nat.pow_succ', ← Nat.pow_add]
          congr 1
          omega
        rw [e1, Nat.add_mul_div_left _ _ (Nat.two_pow_pos i)]
        have e2 : (mbs p n / 2 ^ i + 2 * 2 ^ (n - i - 1)) % 2 = mbs p n / 2 ^ i % 2 := by omega
        rw [e2, hi]
        by_cases e3 : p i = true
        · rw [if_pos ⟨h, e3⟩, if_pos ⟨by omega, e3⟩]
        · rw [if_neg (fun q => e3 q.2), if_neg (fun q => e3 q.2)]
      · subst h
        rw [if_pos ⟨by omega, e⟩]
        have e1 : (mbs p i + 2 ^ i) / 2 ^ i = 1 := by
          rw [Nat.add_div_right _ (Nat.two_pow_pos i), Nat.div_eq_of_lt hm]
        rw [e1]
      · rw [if_neg (by omega)]
        have e1 : mbs p n + 2 ^ n < 2 ^ i := by
          have h1 : 2 ^ (n + 1) ≤ 2 ^ i := Nat.pow_le_pow_right (by decide) (by omega)
          rw [Nat.pow_succ] at h1
          omega
        rw [Nat.div_eq_of_lt e1]
    · rw [if_neg e, Nat.add_zero, hi]
      by_cases e3 : i < n ∧ p i = true
      · rw [if_pos e3, if_pos ⟨by omega, e3.2⟩]
      · rw [if_neg e3, if_neg]
        rintro ⟨q1, q2⟩
        by_cases e4 : i = n
        · subst e4
          exact e q2
        · exact e3 ⟨by omega, q2⟩
theorem mbs_pop {p : Nat → Bool} {n : Nat} : ∀ k, pop (mbs p n) k = cnt (fun i => decide (i < n) && p i) k := by
  intro k
  induction k with
  | zero => rfl
  | succ k ih =>
    simp only [pop, cnt, ih, mbs_bit, Bool.and_eq_true, decide_eq_true_eq]
theorem cnt_beyond {p : Nat → Bool} {n : Nat} : ∀ m, cnt (fun i => decide (i < n) && p i) (n + m) = cnt p n := by
  intro m
  induction m with
  | zero => exact cnt_congr n (fun i hi => by simp [hi])
  | succ m ih =>
    show cnt _ (n + m) + _ = _
    rw [ih, if_neg (by simp [show ¬ n + m < n by omega]), Nat.add_zero]
/-- the class counts members by bits -/
theorem bits_cnt {p : Nat → Bool} {n : Nat} (hn : n ≤ 16) : Ji_bitCount (mbI p n) = some (nI (cnt p n)) := by
  have h1 := mbs_lt (p := p) n
  have h2 : 2 ^ n ≤ 2 ^ 16 := Nat.pow_le_pow_right (by decide) hn
  have h3 : mbs p n < 65536 := by omega
  have h4 := cnt_beyond (p := p) (n := n) (16 - n)
  rw [show n + (16 - n) = 16 by omega] at h4
  rw [mbI_n n hn, Ji_bc h3, bc_pop h3, mbs_pop, h4]
theorem M_mem {n x : Nat} {D : Nat → Nat} {F : Nat → Int32} {L : Nat → Nat} {now sm dl fr hds hos nms : Nat → Int32} {cl : Int32} (h : MX n D F L now cl sm dl fr hds hos nms) (hx : x < n) : it (Mo_cluster_L44 (nI n) hds (nI x)) 4096 (0, 0, 0) = some (mbI (fun i => decide (hh n D F (fw L n) i = x)) n, nI (cnt (fun i => decide (hh n D F (fw L n) i = x)) n)) := by
  have hn := h.1
  have hhd := h.2.2.2.2.2.2.2.2.1
  refine it_run (F := 4096) (fun i => (mbI (fun i => decide (hh n D F (fw L n) i = x)) i, nI (cnt (fun i => decide (hh n D F (fw L n) i = x)) i), nI i)) n _ ?_ ?_ (by omega)
  · intro i hi
    have h6 := C_hlt (D := D) (F := F) (L := L) hi
    simp only [Mo_cluster_L44, if_neg (nI_ge hi (show n < 2 ^ 31 by omega)), C_at hn hi, nI_clamp (show i < 2 ^ 31 by omega), hhd i hi, nI_eq (show hh n D F (fw L n) i < 2 ^ 31 by omega) (show x < 2 ^ 31 by omega), nI_1, mbI, cnt, decide_eq_true_eq]
    by_cases e : hh n D F (fw L n) i = x
    · simp only [if_pos e, Option.bind_some]
    · simp only [if_neg e, Option.bind_some]
      rw [mbI_n i (by omega)]
      show some (Sum.inl (nI _ ||| nI 0, nI _ + nI 0, _)) = _
      rw [fa_or, nI_add, Nat.or_zero]
  · simp only [Mo_cluster_L44, if_pos (nI_le (Nat.le_refl n) (show n < 2 ^ 31 by omega))]
theorem M_nb {n c x : Nat} {D : Nat → Nat} {F : Nat → Int32} {L : Nat → Nat} {now sm dl fr hds hos nms : Nat → Int32} {cl : Int32} (h : MX n D F L now cl sm dl fr hds hos nms) (hx : x < n) (h1 : hh n D F (fw L n) x = x) (h2 : cnt (ish n D F (fw L n)) x = c) : it (Mo_cluster_L166 (nI n) now (nI c) (nI (cnt (ish n D F (fw L n)) n)) hds nms) 4096 (0, 0) = some (nI (cnt (fun o => decide (o ≠ x ∧ 0 < btw n L (hh n D F (fw L n)) x o)) n)) := by
  have hn := h.1
  have hcl := cnt_le (ish n D F (fw L n)) n
  have hc : c < 2 ^ 31 := by
    have := cnt_le (ish n D F (fw L n)) x
    omega
  have h3 : it (Mo_cluster_L166 (nI n) now (nI c) (nI (cnt (ish n D F (fw L n)) n)) hds nms) 4096 (nI 0, 0) = some (nI (0 + cnt (fun e => decide (e ≠ c ∧ 0 < btw n L (hh n D F (fw L n)) x ((fnd (fun i => decide (hh n D F (fw L n) i = i ∧ cnt (ish n D F (fw L n)) i = e)) n 0).getD 0))) (cnt (ish n D F (fw L n)) n))) := by
    refine it_cnt _ ?_ ?_ (by omega) 0
    · intro e a he
      obtain ⟨y, g1, g2, g3, g4, -⟩ := hd_num he
      simp only [Mo_cluster_L166, if_neg (nI_ge he (show cnt (ish n D F (fw L n)) n < 2 ^ 31 by omega)), nI_eq (show e < 2 ^ 31 by omega) hc, nI_1, decide_eq_true_eq, g1, Option.getD_some]
      by_cases e1 : e = c
      · rw [if_pos e1, if_neg (fun q => q.1 e1)]
        show some (Sum.inl (nI a + nI 0, _)) = _
        rw [nI_add]
        rfl
      · rw [if_neg e1]
        have hxy : x ≠ y := by
          intro q
          rw [← q] at g4
          exact e1 (g4.symm.trans h2)
        have hb := btw_le (L := L) (H := hh n D F (fw L n)) (a := x) (b := y) hn
        rw [M_btw2 h hx h1 h2 g2 g3 g4 hxy, Option.bind_some, if_pos rfl]
        by_cases e2 : btw n L (hh n D F (fw L n)) x y = 0
        · rw [e2, if_pos (show nI 0 ≤ 0 by decide), if_neg (by omega)]
          show some (Sum.inl (nI a + nI 0, _)) = _
          rw [nI_add]
          rfl
        · rw [if_neg (nI_nle (by omega) (by omega)), if_pos ⟨e1, by omega⟩]
    · intro a
      simp only [Mo_cluster_L166, if_pos (nI_le (Nat.le_refl _) (show cnt (ish n D F (fw L n)) n < 2 ^ 31 by omega))]
  rw [Nat.zero_add, cnt_comp] at h3
  rw [show it (Mo_cluster_L166 (nI n) now (nI c) (nI (cnt (ish n D F (fw L n)) n)) hds nms) 4096 (0, 0) = _ from h3]
  congr 2
  refine cnt_congr n (fun o ho => ?_)
  by_cases e : hh n D F (fw L n) o = o
  · have e1 : ish n D F (fw L n) o = true := decide_eq_true e
    have e2 : cnt (ish n D F (fw L n)) o < cnt (ish n D F (fw L n)) n := cnt_strict ho e1
    obtain ⟨y, g1, g2, g3, g4, -⟩ := hd_num e2
    have e3 : y = o := cnt_inj (p := ish n D F (fw L n)) (decide_eq_true g3) e1 g4
    subst e3
    rw [e1, Bool.true_and, g1, Option.getD_some]
    have e4 : cnt (ish n D F (fw L n)) y ≠ c ↔ y ≠ x := by
      constructor
      · intro q1 q2
        rw [q2] at q1
        exact q1 h2
      · intro q1 q2
        exact q1 (cnt_inj (p := ish n D F (fw L n)) e1 (decide_eq_true h1) (q2.trans h2.symm))
    simp only [e4]
  · have e1 : ish n D F (fw L n) o = false := decide_eq_false e
    rw [e1, Bool.false_and]
    symm
    rw [decide_eq_false_iff_not]
    rintro ⟨-, q⟩
    obtain ⟨j, hj, hjo⟩ := btw_pos q
    have := hh_hh (D := D) (F := F) (fw_ii L n) (fun t ht i j => fw_tri L n t ht i j) hj
    rw [hjo] at this
    exact e this
