/-! ===== home, halved ===== -/
section HOM
variable {v hd : Nat → Int} {day days : Nat} {G : Mem}
/-- the reference's questions changed in one cell -/
theorem mas_set (h : MAS v hd day days G) {k : Nat} {x : Int} (hk : k ≠ 10 ∧ k ≠ 26) (hk2 : 28 ≤ k ∧ k ≤ 37) : MV v (mset G 173 k x) ∧ (∀ y, y < 336 → mset G 173 k x 179 y = hd y) ∧ (∀ j, j ≠ k → mset G 173 k x 173 j = G 173 j) ∧ mset G 173 k x 173 k = x ∧ kM G (mset G 173 k x) :=
  ⟨h.1.1.mono (mset_ne _ _ (by omega)) (fun j => mset_ne _ _ (by omega)), fun y hy => (mset_ne _ _ (by omega)).trans (h.2.2.1 y hy), fun j hj => mset_ne _ _ (by omega), mset_eq _ _ _ _, fun o j ho => mset_ne _ _ (by omega), mset_ne _ _ (by omega), mset_ne _ _ (by omega), mset_ne _ _ (by omega)⟩
theorem mpc1 (h : G 173 12 = 0) : mpc v G = v 1 := by
  unfold mpc
  rw [h, if_pos (Int.le_refl _)]
/-- the reference solves for a way that ends at START -/
theorem mas_home (h : MSV v hd day days G) : ∃ G', fX10_solves 173 (days : Int) (mset G 173 31 1) = some G' ∧ IsX (insD v hd day days 0 0) (tvG (v 4)) (dcd G') ∧ fX10_gain 173 G' = some (grw (dcd G' 0 (v 4).toNat)) ∧ kM G G' := by
  obtain ⟨k0, k1, k2, k3, k4⟩ := mas_set (k := 31) (x := 1) h.1 (by omega) (by omega)
  have hN := nd_le (days := days) h.1.1.2 h.1.2.1.2.2
  obtain ⟨⟨hM, hO⟩, ⟨h1, h1b, h1c⟩, hH, ⟨h11, h12, h13⟩, h2, ⟨h28, h29, h30, h31⟩, h3, h4, h5⟩ := h.1
  generalize mset G 173 31 1 = K at *
  have hQ : QO K := by
    refine ⟨by rw [k2 _ (by omega), h2]; omega, Or.inl (by rw [k2 _ (by omega)]; exact h3), ?_⟩
    rw [k2 _ (by omega), k2 _ (by omega), h4, h5]; omega
  have hP : PIm (insD v hd day days 0 0) v K := by
    refine PIm_of k0 hO hQ rfl hO.2.1 hN (fun s k _ hk => gnD_bd hO hd day 0 0 s hk) (mpc1 ((k2 _ (by omega)).trans h12)) (fun s _ => mMu_plain (by rw [k2 _ (by omega)]; exact h3) (by rw [k2 _ (by omega)]; exact h29) s) (fun s k _ hk => ?_)
    rw [mGn_eq (hd := hd) (day := day) (m := 0) k1 hO.1 ((k2 _ (by omega)).trans h2) (tmk0 ((k2 _ (by omega)).trans h11) ((k2 _ (by omega)).trans h13)) (by have := hO.2.2.2.1; omega), k2 28 (by omega), h28, k2 30 (by omega), h30, k2 36 (by omega), k2 37 (by omega), h4, h5, if_neg (by omega)]
  obtain ⟨G', s1, s2⟩ := m_solves hP h1c (insD_N v hd day days 0 0).symm
  have eg : mgoal v K = v 4 := if_neg (by rw [k3]; decide)
  rw [eg] at s2
  exact ⟨G', s1, s2.1, (sl_gain hP s2).2, k4.tr (SL_kM s2)⟩
/-- no musts, and all eyes or single ones alone -/
def insF (v hd : Nat → Int) (day : Nat) (eyes : Bool) : Ins := insP v (v 1) (v 0).toNat (fun _ => -1) (if eyes then eyeG v (gnD v hd day 0 0) else gnD v hd day 0 0)
theorem eyeG_bd (hO : VO v) {g : Nat → Nat → Int} {s h : Nat} (hg : 0 ≤ g s h ∧ g s h ≤ 9) : 0 ≤ eyeG v g s h ∧ eyeG v g s h ≤ 9 := by
  unfold eyeG
  split <;> omega
theorem insF_bd (hO : VO v) (eyes : Bool) : ∀ s h : Nat, s < (v 0).toNat → (h : Int) < v 5 → 0 ≤ (if eyes then eyeG v (gnD v hd day 0 0) else gnD v hd day 0 0) s h ∧ (if eyes then eyeG v (gnD v hd day 0 0) else gnD v hd day 0 0) s h ≤ 9 := by
  intro s h _ hh
  have := gnD_bd hO hd day 0 0 s hh
  cases eyes
  · exact this
  · exact eyeG_bd hO this
theorem insF_WF (hO : VO v) (eyes : Bool) : WF (insF v hd day eyes) := insP_WF hO hO.2.1.1 (by have := hO.1; omega) (insF_bd hO eyes)
/-- without musts there is a plan -/
theorem insF_ne (hO : VO v) {eyes : Bool} {X : Nat → Nat → Int} (hX : IsX (insF v hd day eyes) tv0 X) : X 0 (v 4).toNat ≠ BD := by
  have hW := insF_WF (hd := hd) (day := day) hO eyes
  have hst : (v 4).toNat < iH (insF v hd day eyes) := st_lt hO
  have p := stays_PF (I := insF v hd day eyes) (k := (v 4).toNat) (f := 0) hst (v 0).toNat (by show 0 + (v 0).toNat ≤ (v 0).toNat; omega) (fun r _ _ => Or.inl rfl)
  rw [Nat.zero_add] at p
  exact (PB_le hW hX (Nat.zero_le _) hst ⟨_, p⟩).1
/-- the reference without musts -/
theorem mas_halved (h : MSV v hd day 1 G) : ∃ G1 G2 X1 X2, fX10_solves 173 1 (mset G 173 29 0) = some G1 ∧ fX10_gain 173 G1 = some (gof (X1 0 (v 4).toNat)) ∧ IsX (insF v hd day false) tv0 X1 ∧ fX10_solves 173 1 (mset G1 173 30 1) = some G2 ∧ fX10_gain 173 G2 = some (gof (X2 0 (v 4).toNat)) ∧ IsX (insF v hd day true) tv0 X2 ∧ kM G G2 := by
  obtain ⟨k0, k1, k2, k3, k4⟩ := mas_set (k := 29) (x := 0) h.1 (by omega) (by omega)
  obtain ⟨⟨hM, hO⟩, ⟨h1, h1b, h1c⟩, hH, ⟨h11, h12, h13⟩, h2, ⟨h28, h29, h30, h31⟩, h3, h4, h5⟩ := h.1
  have b0 := hO.1
  have b5 := hO.2.2.2.1
  generalize mset G 173 29 0 = K at *
  have one : ∀ (L : Mem) (eyes : Bool), MV v L → (∀ y, y < 336 → L 179 y = hd y) → (∀ j, j ≠ 29 → j ≠ 30 → j ≠ 27 → L 173 j = G 173 j) → L 173 29 = 0 → (L 173 30 = if eyes then 1 else 0) → ∃ G', fX10_solves 173 1 L = some G' ∧ fX10_gain 173 G' = some (gof (dcd G' 0 (v 4).toNat)) ∧ IsX (insF v hd day eyes) tv0 (dcd G') ∧ (∀ o k, o ≠ 183 → o ≠ 184 → ¬ (o = 173 ∧ k = 27) → G' o k = L o k) := by
    intro L eyes l0 l1 l2 l3 l4
    have hQ : QO L := by
      refine ⟨by rw [l2 _ (by omega) (by omega) (by omega), h2]; omega, Or.inl (by rw [l2 _ (by omega) (by omega) (by omega)]; exact h3), ?_⟩
      rw [l2 _ (by omega) (by omega) (by omega), l2 _ (by omega) (by omega) (by omega), h4, h5]; omega
    have ht : tmk v L 0 := tmk0 ((l2 _ (by omega) (by omega) (by omega)).trans h11) ((l2 _ (by omega) (by omega) (by omega)).trans h13)
    have hP : PIm (insF v hd day eyes) v L := by
      refine PIm_of l0 hO hQ rfl hO.2.1 (by omega) (insF_bd hO eyes) (mpc1 ((l2 _ (by omega) (by omega) (by omega)).trans h12)) (fun s _ => ?_) (fun s k _ hk => ?_)
      · unfold mMu mMb
        rw [if_pos (Or.inl ((l2 32 (by omega) (by omega) (by omega)).trans h3)), l3, if_pos rfl]
      · have hk8 : k < 8 := by omega
        rw [mGn_eq (hd := hd) (day := day) (m := 0) l1 hO.1 ((l2 _ (by omega) (by omega) (by omega)).trans h2) ht hk8, l2 28 (by omega) (by omega) (by omega), h28, l2 36 (by omega) (by omega) (by omega), l2 37 (by omega) (by omega) (by omega), h4, h5, l4, ht k hk8, if_neg (no_bits k hk8)]
        cases eyes
        · rw [if_neg]
          · rfl
          · rintro (z | z)
            · exact z.1 rfl
            · omega
        · show _ = eyeG v (gnD v hd day 0 0) s k
          unfold eyeG
          by_cases y : v (8 + 4 * k + 1) = 1
          · rw [if_pos y, if_neg]
            rintro (z | z)
            · exact z.2 y
            · omega
          · rw [if_neg y, if_pos (Or.inl ⟨by decide, y⟩)]
    have hN1 : 1 * (v 0).toNat = iN (insF v hd day eyes) := Nat.one_mul _
    obtain ⟨G', s1, s2⟩ := m_solves hP (show 1 ≤ 7 by decide) hN1
    have eg : mgoal v L = -1 := goal0 ((l2 _ (by omega) (by omega) (by omega)).trans h31)
    rw [eg] at s2
    have q1 := s2.1
    rw [tvG_m1] at q1
    have hg := (sl_gain hP s2).2
    rw [grw_of (insF_ne hO q1)] at hg
    exact ⟨G', s1, hg, q1, s2.2.2.2⟩
  obtain ⟨G1, a1, a2, a3, a4⟩ := one K false k0 k1 (fun j j1 j2 j3 => k2 j j1) k3 (by rw [k2 _ (by omega), h30]; rfl)
  have g1M : MV v (mset G1 173 30 1) := k0.mono ((mset_ne _ _ (by omega)).trans (a4 _ _ (by decide) (by decide) (by omega))) (fun j => (mset_ne _ _ (by omega)).trans (a4 _ _ (by decide) (by decide) (by omega)))
  obtain ⟨G2, b1, b2, b3, b4⟩ := one (mset G1 173 30 1) true g1M (fun y hy => (mset_ne _ _ (by omega)).trans ((a4 _ _ (by decide) (by decide) (by omega)).trans (k1 y hy))) (fun j j1 j2 j3 => (mset_ne _ _ (by omega)).trans ((a4 _ _ (by decide) (by decide) (by omega)).trans (k2 j j1))) ((mset_ne _ _ (by omega)).trans ((a4 _ _ (by decide) (by decide) (by omega)).trans k3)) (mset_eq _ _ _ _)
  refine ⟨G1, G2, _, _, a1, a2, a3, b1, b2, b3, k4.tr ⟨fun o j ho => ?_, ?_, ?_, ?_⟩⟩
  · rw [b4 o j (by omega) (by omega) (by omega), mset_ne _ _ (by omega), a4 o j (by omega) (by omega) (by omega)]
  all_goals rw [b4 _ _ (by decide) (by decide) (by omega), mset_ne _ _ (by omega), a4 _ _ (by decide) (by decide) (by omega)]
end HOM
theorem pc_home (a b c d e : Int) : pcase RR gX9_home gX10_home [vI a, vI b, vI c, vI d, vI e] := by
  intro F hR hm
  by_cases he : 0 ≤ e ∧ e ≤ 1
  · have n1 : ¬ e < 0 := by omega
    have n2 : ¬ 1 < e := by omega
    rcases gain2 hR a b c d with ⟨F1, V, day, v, hd, s1, s2, s3, s4, s5, s6⟩ | ⟨F1, s1, s2, s3⟩
    · have hPV := s3.1.1.1
      have hO := hPV.2.2.2.2
      have b0 := hO.1
      have hW := insD_WF (hd := hd) (day := day) hO (show 1 ≤ 7 by decide) 0 0
      have X0 : fX9_home 1 a b c d e F = if e ≠ 0 then (fX6_follow 72 63 F1).bind fun q7 => some (q7 72 4, q7) else (fX1_solve 63 (v 4) F1).bind fun q11 => some (q11.1, q11.2) := by
        unfold fX9_home
        rw [if_neg n1, if_neg n2, s1, Option.bind_some]
        dsimp only
        simp only [Nat.reduceAdd]
        rw [if_pos (csv_1 s3 s4), pv_n hPV, if_neg hPV.2.1, pv_4 hPV]
      by_cases e0 : e = 0
      · obtain ⟨F2, p1, p2, p3, p4⟩ := x_solve (PIc_PL s3.1) (v 4)
        rw [if_neg (dnn e0), p1, Option.bind_some] at X0
        have k2 : kX F F2 := s2.tr (kX_67 p4)
        obtain ⟨G', r1, r2, r3, r4⟩ := s6 F2 k2
        obtain ⟨G2, t1, t2, t3, t4⟩ := mas_home r3
        have e1 : dcd G2 0 (v 4).toNat = tbl F2 0 (v 4).toNat := X_eq hW t2 p2 (Nat.zero_le _) (st_lt hO)
        have bd := X_bd hW (tvG_01 (v 4)) p2 (s := 0) (h := (v 4).toNat) (Nat.zero_le _) (st_lt hO)
        rw [e1] at t3
        have hN := nd_le (days := 1) hO (by decide)
        rw [insD_N] at bd
        refine no_best hR (F1 := F2) (G' := G2) ⟨1, a, b, c, d, e, _, rfl, k9, X0, rfl, rfl⟩ ⟨173, a, b, c, d, e, (gof (tbl F2 0 (v 4).toNat), G2), rfl, k10, ?_, rfl, rfl⟩ k2 (r2.tr t4)
        unfold fX10_home
        rw [m_isIn, i10, if_pos he, r1, Option.bind_some]
        dsimp only
        rw [if_pos (show (1 : Int) ≠ 0 by decide), if_pos (show e ≠ 1 by omega)]
        have t1 : fX10_solves 173 1 (mset G' 173 31 1) = some G2 := t1
        rw [t1, Option.bind_some, t3, Option.bind_some, Option.bind_some]
        by_cases y : tbl F2 0 (v 4).toNat = BD
        · rw [y, gof_bd]
          unfold grw
          rw [if_pos rfl, if_neg (by decide)]
        · have gn := gof_nn y (by
            rcases bd with w | w
            · exact absurd w y
            · have := w.1; omega)
          rw [grw_of y, if_pos gn]
      · have e1 : e = 1 := by omega
        obtain ⟨F3, p1, p2, p3, p4⟩ := csv_follow s3 s4
        rw [if_pos e0, p1, Option.bind_some, p3] at X0
        have k3 : kX F F3 := s2.tr (kX_trip p4)
        obtain ⟨G', r1, r2, r3, r4⟩ := s6 F3 k3
        have yd : dcd G' 0 (v 4).toNat ≠ BD := by rw [r4]; exact s4
        have hlt : 1 * (v 0).toNat - 1 < 1 * (v 0).toNat := by omega
        obtain ⟨G2, t1, t2, t3, t4, t5⟩ := msv_walk r3 yd hlt
        have et := twA_eq hW s3.2.1 r3.2.2 (st_lt hO) hlt s4
        rw [← et] at t3
        have e27 : G' 173 27 = ((1 * (v 0).toNat : Nat) : Int) := r3.2.1.2
        have w : xw (G' 173 27 - 1) = ((1 * (v 0).toNat - 1 : Nat) : Int) := by rw [e27, xwn (by omega) (by omega)]; omega
        refine no_best hR (F1 := F3) (G' := G2) ⟨1, a, b, c, d, e, _, rfl, k9, X0, rfl, rfl⟩ ⟨173, a, b, c, d, e, (((twA (insD v hd day 1 0 0) (tbl F1) (v 4).toNat (1 * (v 0).toNat - 1)).2.1 : Int), G2), rfl, k10, ?_, rfl, rfl⟩ k3 (r2.tr (kM_spo t5))
        unfold fX10_home
        rw [m_isIn, i10, if_pos he, r1, Option.bind_some]
        dsimp only
        rw [if_pos (show (1 : Int) ≠ 0 by decide), if_neg (dnn e1), w, t1, Option.bind_some, t3]
    · obtain ⟨G', r1, r2⟩ := s3 F1 s2
      refine no_best hR (z := -2) (F1 := F1) (G' := G') ⟨1, a, b, c, d, e, (-2, F1), rfl, k9, ?_, rfl, rfl⟩ ⟨173, a, b, c, d, e, (-2, G'), rfl, k10, ?_, rfl, rfl⟩ s2 r2
      · unfold fX9_home
        rw [if_neg n1, if_neg n2, s1, Option.bind_some]
        dsimp only
        rw [if_neg (dnn rfl)]
      · unfold fX10_home
        rw [m_isIn, i10, if_pos he, r1, Option.bind_some]
        dsimp only
        rw [if_neg (dnn rfl)]
  · refine no_best hR (z := -2) (F1 := F) (G' := F) ⟨1, a, b, c, d, e, (-2, F), rfl, k9, ?_, rfl, rfl⟩ ⟨173, a, b, c, d, e, (-2, F), rfl, k10, ?_, rfl, rfl⟩ (kX.rf F) (kM.rf F)
    · unfold fX9_home
      by_cases q : e < 0
      · rw [if_pos q]
      · rw [if_neg q, if_pos (by omega)]
    · unfold fX10_home
      rw [m_isIn, i10, if_neg he]
theorem pc_halved (a b c d e : Int) : pcase RR gX9_halved gX10_halved [vI a, vI b, vI c, vI d, vI e] := by
  intro F hR hm
  by_cases he : 0 ≤ e ∧ e ≤ 1
  · have n1 : ¬ e < 0 := by omega
    have n2 : ¬ 1 < e := by omega
    rcases gain2 hR a b c d with ⟨F1, V, day, v, hd, s1, s2, s3, s4, s5, s6⟩ | ⟨F1, s1, s2, s3⟩
    · have hPV := s3.1.1.1
      have hO := hPV.2.2.2.2
      have b0 := hO.1
      obtain ⟨F2, p1, p2, p3⟩ := x_noMusts (PIc_PL s3.1)
      have p2 : PIc (insP v (v 1) (1 * (v 0).toNat) (fun _ => -1) (gnD v hd day 0 0)) v V F2 := p2
      rw [Nat.one_mul] at p2
      have p2 : PIc (insF v hd day false) v V F2 := p2
      obtain ⟨F3, q1, q2, q3, q4⟩ := x_solve p2 (-1)
      rw [tvG_m1] at q2
      have p5 : PIc (insF v hd day false) v V F3 := p2.mono (fun o k ho => q4 o k (by omega) (by omega))
      obtain ⟨F4, r1, r2, r3⟩ := x_eyes p5
      have r2 : PIc (insF v hd day true) v V F4 := r2
      obtain ⟨F5, t1, t2, t3, t4⟩ := x_solve r2 (-1)
      rw [tvG_m1] at t2
      have k5 : kX F F5 := s2.tr (fun o k ho => by rw [t4 o k (by omega) (by omega), r3 o k (by omega), q4 o k (by omega) (by omega), p3 o k (by omega)])
      obtain ⟨G', u1, u2, u3, u4⟩ := s6 F5 k5
      obtain ⟨G1, G2, X1, X2, y1, y2, y3, y4, y5, y6, y7⟩ := mas_halved u3
      have e1 : X1 0 (v 4).toNat = tbl F3 0 (v 4).toNat := X_eq (insF_WF hO false) y3 q2 (Nat.zero_le _) (st_lt hO)
      have e2 : X2 0 (v 4).toNat = tbl F5 0 (v 4).toNat := X_eq (insF_WF hO true) y6 t2 (Nat.zero_le _) (st_lt hO)
      rw [e1] at y2
      rw [e2] at y5
      have hx : fX9_halved 1 a b c d e F = if e ≠ 0 then (if xw (2 * gof (tbl F5 0 (v 4).toNat)) ≤ gof (tbl F3 0 (v 4).toNat) then some (0, F5) else some (1, F5)) else some (xw (2 * gof (tbl F5 0 (v 4).toNat)), F5) := by
        unfold fX9_halved
        rw [if_neg n1, if_neg n2, s1, Option.bind_some]
        dsimp only
        simp only [Nat.reduceAdd]
        rw [if_pos (csv_1 s3 s4), p1, Option.bind_some, q1, Option.bind_some]
        dsimp only
        rw [r1, Option.bind_some, t1, Option.bind_some]
      have hy : fX10_halved 173 a b c d e F5 = if e ≠ 0 then (if xw (2 * gof (tbl F5 0 (v 4).toNat)) ≤ gof (tbl F3 0 (v 4).toNat) then some (0, G2) else some (1, G2)) else some (xw (2 * gof (tbl F5 0 (v 4).toNat)), G2) := by
        unfold fX10_halved
        rw [m_isIn, i10, if_pos he, u1, Option.bind_some]
        dsimp only
        rw [if_pos (show (1 : Int) ≠ 0 by decide), y1, Option.bind_some, y2, Option.bind_some, y4, Option.bind_some, y5, Option.bind_some]
      obtain ⟨z, hx2, hy2⟩ : ∃ z, fX9_halved 1 a b c d e F = some (z, F5) ∧ fX10_halved 173 a b c d e F5 = some (z, G2) := by
        rw [hx, hy]
        by_cases e0 : e = 0
        · rw [if_neg (dnn e0), if_neg (dnn e0)]; exact ⟨_, rfl, rfl⟩
        · rw [if_pos e0, if_pos e0]
          by_cases w : xw (2 * gof (tbl F5 0 (v 4).toNat)) ≤ gof (tbl F3 0 (v 4).toNat)
          · rw [if_pos w, if_pos w]; exact ⟨_, rfl, rfl⟩
          · rw [if_neg w, if_neg w]; exact ⟨_, rfl, rfl⟩
      exact no_best hR (F1 := F5) (G' := G2) ⟨1, a, b, c, d, e, _, rfl, k9, hx2, rfl, rfl⟩ ⟨173, a, b, c, d, e, _, rfl, k10, hy2, rfl, rfl⟩ k5 (u2.tr y7)
    · obtain ⟨G', r1, r2⟩ := s3 F1 s2
      refine no_best hR (z := -1) (F1 := F1) (G' := G') ⟨1, a, b, c, d, e, (-1, F1), rfl, k9, ?_, rfl, rfl⟩ ⟨173, a, b, c, d, e, (-1, G'), rfl, k10, ?_, rfl, rfl⟩ s2 r2
      · unfold fX9_halved
        rw [if_neg n1, if_neg n2, s1, Option.bind_some]
        dsimp only
        rw [if_neg (dnn rfl)]
      · unfold fX10_halved
        rw [m_isIn, i10, if_pos he, r1, Option.bind_some]
        dsimp only
        rw [if_neg (dnn rfl)]
  · refine no_best hR (z := -1) (F1 := F) (G' := F) ⟨1, a, b, c, d, e, (-1, F), rfl, k9, ?_, rfl, rfl⟩ ⟨173, a, b, c, d, e, (-1, F), rfl, k10, ?_, rfl, rfl⟩ (kX.rf F) (kM.rf F)
    · unfold fX9_halved
      by_cases q : e < 0
      · rw [if_pos q]
      · rw [if_neg q, if_pos (by omega)]
    · unfold fX10_halved
      rw [m_isIn, i10, if_neg he]
