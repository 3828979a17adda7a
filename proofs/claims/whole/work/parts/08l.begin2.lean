/-! how both begin, 2 -/
theorem lay_ok {le_length : Int32} {le_signs : Nat → Int32} {rd_numbers : Nat → Int32} {dr_places : Int32} {dr_links : Int32} {dr_mostDrawn : Int32} {dr_ofTen : Int32} {dr_z : Int32} {dr_lengths : Nat → Int32} {dr_told : Nat → Int32} {dr_delays : Nat → Int32} {dr_fractions : Nat → Int32} {pl_places : Int32} {pl_links : Int32} {pl_mostDrawn : Int32} {pl_ofTen : Int32} {pl_z : Int32} {pl_lengths : Nat → Int32} {pl_told : Nat → Int32} {pl_delays : Nat → Int32} {pl_fractions : Nat → Int32} {pa_sums : Nat → Int32} {pr_greatestDelay : Int32} {pr_delays : Nat → Int32} {pr_fractions : Nat → Int32} {pr_heads : Nat → Int32} {pt_kept : Int32} {n M : Nat} {T : Int32} {s : St} (hw : WF n M s.1 s.2.1) {u e6 e7 e8 e9 : Nat → Int32} (h1 : Rd_firstFault rd_numbers dr_places dr_links dr_mostDrawn dr_ofTen dr_z dr_lengths dr_told dr_delays dr_fractions le_length le_signs = some (-4, u, nI n, nI (nlk s.1 16), nI M, T, s.2.2.2, e6, e7, e8, e9)) (hLc : okL e6 s.1) (hC : okC e7 e8 e9 s.2.1 s.2.2.1) : ∃ r g6 g7 g8 g9 pa g dl fr hd, Dc_layText le_length le_signs rd_numbers dr_places dr_links dr_mostDrawn dr_ofTen dr_z dr_lengths dr_told dr_delays dr_fractions pl_places pl_links pl_mostDrawn pl_ofTen pl_z pl_lengths pl_told pl_delays pl_fractions pa_sums pr_greatestDelay pr_delays pr_fractions pr_heads pt_kept = some (r, u, nI n, nI (nlk s.1 16), nI M, T, s.2.2.2, e6, e7, e8, e9, nI n, nI (nlk s.1 16), nI M, T, s.2.2.2, g6, g7, g8, g9, pa, g, dl, fr, hd, 0) ∧ okL g6 s.1 ∧ okC g7 g8 g9 s.2.1 s.2.2.1 ∧ CX n (Dz M T s.2.1 s.2.2.2) (Fz s.2.1 s.2.2.1 s.2.2.2) s.1 pa g6 g dl fr hd := by
  have h2 := hw.1
  have h3 := hw.2.1
  obtain ⟨ln, to, dz, fz, c1, c2, c3⟩ := Pl_cpy hLc hC pl_places pl_links pl_mostDrawn pl_ofTen pl_z pl_lengths pl_told pl_delays pl_fractions (nI n) (nI (nlk s.1 16)) (nI M) T s.2.2.2
  obtain ⟨pa, g, dl, fr, hd, d1, d2⟩ := D_settleAll (z := s.2.2.2) (T := T) hw c2 c3 pa_sums pr_greatestDelay pr_delays pr_fractions pr_heads
  unfold Dc_layText
  rw [h1]
  simp only [Option.bind_some, if_pos (show (-4 : Int32) = -4 from rfl), Pl_places, if_neg (nI_ne0 (show 0 < n by omega) (show n < 2 ^ 31 by omega)), c1, Pt_forget, d1]
  exact ⟨_, _, _, _, _, _, _, _, _, _, rfl, c2, c3, d2⟩
theorem bnd {α β : Type} {a : Option α} {f : α → Option β} {x : α} {r : β} (h1 : a = some x) (h2 : f x = some r) : a.bind f = some r := by
  rw [h1]
  exact h2
theorem mo_ok (zf : Nat → Int32) : ∃ now rp rd rr, Mo_init zf = some (nI 7, nI 8, 6, 0, rp, now, rd, rr) ∧ okN now (L0, t0, f0, 0) := by
  obtain ⟨rd0, m1, m2⟩ := Mo_clr 0 zf zf
  have k0 : okL rd0 (fun _ => 0) ∧ ∀ j, 256 ≤ j → j < 289 → rd0 j = 0 := ⟨fun j hj => ⟨m2 j (by omega), Nat.zero_le _⟩, fun j _ h => m2 j h⟩
  obtain ⟨rd1, j1, k1⟩ := jn_s (a := 0) (b := 1) (k := 1) (by decide) (by decide) (by decide) k0
  obtain ⟨rd2, j2, k2⟩ := jn_s (a := 1) (b := 2) (k := 2) (by decide) (by decide) (by decide) k1
  obtain ⟨rd3, j3, k3⟩ := jn_s (a := 2) (b := 3) (k := 1) (by decide) (by decide) (by decide) k2
  obtain ⟨rd4, j4, k4⟩ := jn_s (a := 3) (b := 4) (k := 1) (by decide) (by decide) (by decide) k3
  obtain ⟨rd5, j5, k5⟩ := jn_s (a := 4) (b := 5) (k := 3) (by decide) (by decide) (by decide) k4
  obtain ⟨rd6, j6, k6⟩ := jn_s (a := 5) (b := 0) (k := 1) (by decide) (by decide) (by decide) k5
  obtain ⟨rd7, j7, k7⟩ := jn_s (a := 1) (b := 6) (k := 1) (by decide) (by decide) (by decide) k6
  obtain ⟨rd8, j8, k8⟩ := jn_s (a := 6) (b := 3) (k := 2) (by decide) (by decide) (by decide) k7
  obtain ⟨now, t1, t2⟩ := Mo_tak 0 0 0 0 7 zf (upd (upd rd8 260 3) 276 5) (upd (upd zf 0 8) 1 6)
  have hr1 : upd (upd zf 0 8) 1 6 0 = nI 8 := by
    rw [pk_un (by decide), pk_us]
    rfl
  have hr2 : upd (upd zf 0 8) 1 6 1 = 6 := pk_us
  rw [hr1, hr2] at t1
  refine ⟨now, 7, upd (upd rd8 260 3) 276 5, upd (upd zf 0 8) 1 6, ?_, ?_⟩
  · exact bnd m1 (bnd j1 (bnd j2 (bnd j3 (bnd j4 (bnd j5 (bnd j6 (bnd j7 (bnd j8 (bnd t1 rfl)))))))))
  · refine okN_c (a := upd (upd rd8 260 3) 276 5) ⟨fun q hq => ?_, fun b hb => ?_, ?_⟩ t2
    · rw [pk_un (by omega), pk_un (by omega)]
      exact k8.1 q hq
    · dsimp only
      unfold t0 f0
      by_cases e : b = 4
      · rw [e, if_pos rfl, if_pos rfl, pk_un (by omega), pk_us, pk_us]
        exact ⟨rfl, by decide, rfl⟩
      · rw [if_neg e, if_neg e, pk_un (by omega), pk_un (by omega), pk_un (by omega), pk_un (by omega), k8.2 _ (by omega) (by omega), k8.2 _ (by omega) (by omega)]
        exact ⟨rfl, by decide, rfl⟩
    · rw [pk_un (by omega), pk_un (by omega)]
      exact k8.2 288 (by omega) (by omega)
theorem Start : ∃ r u e1 e2 e3 e4 e5 e6 e7 e8 e9 g1 g2 g3 g4 g5 g6 g7 g8 g9 pa g dl fr hd pk, Dc_layText (nI 66) (sgn 66) (fun _ => 0) 0 0 0 0 0 (fun _ => 0) (fun _ => 0) (fun _ => 0) (fun _ => 0) 0 0 0 0 0 (fun _ => 0) (fun _ => 0) (fun _ => 0) (fun _ => 0) (fun _ => 0) 0 (fun _ => 0) (fun _ => 0) (fun _ => 0) 0 = some (r, u, e1, e2, e3, e4, e5, e6, e7, e8, e9, g1, g2, g3, g4, g5, g6, g7, g8, g9, pa, g, dl, fr, hd, pk) ∧ ∃ mp mm mt mc rp now rd rr, Mo_init (fun _ => 0) = some (mp, mm, mt, mc, rp, now, rd, rr) ∧ PR g1 g2 g3 g4 g5 g6 g7 g8 g9 pa g dl fr hd mp mm mt now 0 pk (fun _ => 0) (fun _ => 0) (fun _ => 0) (fun _ => 0) (fun _ => 0) (fun _ => 0) (fun _ => 0) (fun _ => 0) mc (fun _ => 0) := by
  obtain ⟨u, e6, e7, e8, e9, h1, hLc, hC⟩ := chk_s ft_is
  have h2 : Rd_firstFault (fun _ => 0) 0 0 0 0 0 (fun _ => 0) (fun _ => 0) (fun _ => 0) (fun _ => 0) (nI 66) (sgn 66) = some (-4, u, nI 7, nI (nlk L0 16), nI 8, 6, 0, e6, e7, e8, e9) := by rw [nlk0]; exact h1
  obtain ⟨r, g6, g7, g8, g9, pa, g, dl, fr, hd, d1, d2, d3, d4⟩ := lay_ok (s := (L0, t0, f0, 0)) (pl_places := 0) (pl_links := 0) (pl_mostDrawn := 0) (pl_ofTen := 0) (pl_z := 0) (pl_lengths := (fun _ => 0)) (pl_told := (fun _ => 0)) (pl_delays := (fun _ => 0)) (pl_fractions := (fun _ => 0)) (pa_sums := (fun _ => 0)) (pr_greatestDelay := 0) (pr_delays := (fun _ => 0)) (pr_fractions := (fun _ => 0)) (pr_heads := (fun _ => 0)) (pt_kept := 0) WF0 h2 hLc hC
  obtain ⟨now, rp, rd, rr, m1, m2⟩ := mo_ok (fun _ => 0)
  exact ⟨r, u, _, _, _, _, _, e6, e7, e8, e9, _, _, _, _, _, g6, g7, g8, g9, pa, g, dl, fr, hd, 0, d1, _, _, _, _, rp, now, rd, rr, m1, 7, 8, 6, (L0, t0, f0, 0), 0, 0, ⟨WF0, ⟨rfl, rfl, rfl, rfl, rfl, d2, d3⟩, d4, rfl, rfl, rfl, m2.1, m2.2.1, m2.2.2⟩, by decide, by decide, rfl, rfl, rfl, trivial⟩
