/-! ===== best, spot, soon ===== -/
section BST
variable {v hd : Nat → Int} {V day days : Nat}
/-- the reference solves once more with a crack -/
theorem mas_crack {G : Mem} (h : MSV v hd day days G) : ∃ G', fX10_solves 173 (days : Int) (mset G 173 28 1) = some G' ∧ IsX (insD v hd day days 1 0) tv0 (dcd G') ∧ fX10_gain 173 G' = some (grw (dcd G' 0 (v 4).toNat)) ∧ kM G G' := by
  obtain ⟨⟨⟨hM, hO⟩, ⟨h1, h1b, h1c⟩, hH, ⟨h11, h12, h13⟩, h2, ⟨h28, h29, h30, h31⟩, h3, h4, h5⟩, -⟩ := h
  generalize hK : mset G 173 28 1 = K
  have k1 : ∀ o k, ¬ (o = 173 ∧ k = 28) → K o k = G o k := fun o k ho => by rw [← hK, mset_ne _ _ ho]
  have k28 : K 173 28 = 1 := by rw [← hK, mset_eq]
  have hMK : MV v K := hM.mono (k1 _ _ (by omega)) (fun k => k1 _ _ (by omega))
  have hQ : QO K := by
    refine ⟨by rw [k1 _ _ (by omega), h2]; omega, Or.inl (by rw [k1 _ _ (by omega)]; exact h3), ?_⟩
    rw [k1 _ _ (by omega), k1 _ _ (by omega), h4, h5]; omega
  have hP : PIm (insD v hd day days 1 0) v K := by
    refine PIm_of hMK hO hQ rfl hO.2.1 (nd_le hO h1c) (fun s k _ hk => gnD_bd hO hd day 1 0 s hk) ?_ (fun s _ => mMu_plain (by rw [k1 _ _ (by omega)]; exact h3) (by rw [k1 _ _ (by omega)]; exact h29) s) (fun s k _ hk => ?_)
    · unfold mpc
      rw [k1 _ _ (by omega), h12, if_pos (Int.le_refl _)]
    · rw [mGn_eq (hd := hd) (day := day) (m := 0) (fun x hx => (k1 179 x (by omega)).trans (hH x hx)) hO.1 ((k1 _ _ (by omega)).trans h2) (tmk0 ((k1 _ _ (by omega)).trans h11) ((k1 _ _ (by omega)).trans h13)) (by have := hO.2.2.2.1; omega), k28, k1 173 30 (by omega), h30, k1 173 36 (by omega), k1 173 37 (by omega), h4, h5, if_neg (by omega)]
  obtain ⟨G', s1, s2⟩ := m_solves hP h1c (insD_N v hd day days 1 0).symm
  have eg : mgoal v K = -1 := goal0 ((k1 _ _ (by omega)).trans h31)
  rw [eg] at s2
  have q1 := s2.1
  rw [tvG_m1] at q1
  refine ⟨G', s1, q1, (sl_gain hP s2).2, ?_⟩
  have kk := SL_kM s2
  exact ⟨fun o k ho => (kk.1 o k ho).trans (k1 _ _ (by omega)), kk.2.1.trans (k1 _ _ (by omega)), kk.2.2.1.trans (k1 _ _ (by omega)), kk.2.2.2.trans (k1 _ _ (by omega))⟩
end BST
theorem grw_of {x : Int} (h : x ≠ BD) : grw x = gof x := if_neg h
theorem pc_best (a b c d e f : Int) : pcase RR gX9_best gX10_best [vI a, vI b, vI c, vI d, vI e, vI f] := by
  intro F hR hm
  by_cases hf : 0 ≤ f ∧ f ≤ 2
  · have n1 : ¬ f < 0 := by omega
    have n2 : ¬ 2 < f := by omega
    rcases ask2 hR a b c d e with ⟨F1, V, day, days, v, hd, s1, s2, s3, s4, s5, s6⟩ | ⟨F1, s1, s2, s3⟩
    · have hO := s3.1.1.2.2.2.2
      have h7 := s3.1.2.2.2.2.2.1.2.2
      -- the class
      have X : ∀ cr : Int, ∃ F', fX9_best_b42 1 f 63 cr F1 = (if f ≠ 1 then some (gof (tbl F' 0 (v 4).toNat), F') else some (if tbl F' 0 (v 4).toNat = BD then -1 else gof (tbl F' 0 (v 4).toNat) * 65536 - tbl F' 0 (v 4).toNat, F')) ∧ CSV v hd V day days cr 0 F' ∧ kX F1 F' := by
        intro cr
        obtain ⟨F', F2, p1, p2, p3, p4, -⟩ := PO_plan s3.1 cr 0
        have bd := X_bd (insD_WF hO h7 cr 0) tv0_01 p3.2.1 (s := 0) (h := (v 4).toNat) (Nat.zero_le _) (st_lt hO)
        have cl := x_climb (PIc_PL p3.1) bd
        refine ⟨F', ?_, p3, p4⟩
        unfold fX9_best_b42
        simp only [Nat.reduceAdd]
        rw [p1, Option.bind_some, p2, Option.bind_some]
        dsimp only
        rw [cl, Option.bind_some]
      by_cases f2 : f = 2
      · obtain ⟨F', x1, x2, x3⟩ := X 1
        rw [if_pos (show f ≠ 1 by omega)] at x1
        have kk := s2.tr x3
        obtain ⟨G', r1, r2, r3⟩ := s6 F' kk
        have hx : fX9_best 1 a b c d e f F = some (gof (tbl F' 0 (v 4).toNat), F') := by
          unfold fX9_best
          rw [if_neg n1, if_neg n2, s1, Option.bind_some]
          dsimp only
          rw [if_pos (by decide), if_neg (fun z => z f2)]
          exact x1
        by_cases y : dcd G' 0 (v 4).toNat = BD
        · have y2 : tbl F' 0 (v 4).toNat = BD := by
            by_cases w : tbl F' 0 (v 4).toNat = BD
            · exact w
            · exact absurd y (feas (insD_WF hO h7 1 0) (insD_WF hO h7 0 0) (insD_same v hd hd day days 1 0 0 0) x2.2.1 r3.2.2 (Nat.zero_le _) (st_lt hO) w)
          rw [if_pos y] at r1
          rw [y2, gof_bd] at hx
          refine no_best hR (z := -1) (F1 := F') (G' := G') ⟨1, a, b, c, d, e, f, _, rfl, k9, hx, rfl, rfl⟩ ⟨173, a, b, c, d, e, f, (-1, G'), rfl, k10, ?_, rfl, rfl⟩ kk r2
          unfold fX10_best
          rw [m_isIn, i10, if_pos hf, r1, Option.bind_some]
          dsimp only
          rw [if_neg (by decide)]
        · rw [if_neg y] at r1
          obtain ⟨G2, t1, t2, t3, t4⟩ := mas_crack r3
          have e1 : dcd G2 0 (v 4).toNat = tbl F' 0 (v 4).toNat := X_eq (insD_WF hO h7 1 0) t2 x2.2.1 (Nat.zero_le _) (st_lt hO)
          have y2 : dcd G2 0 (v 4).toNat ≠ BD := feas (insD_WF hO h7 0 0) (insD_WF hO h7 1 0) (insD_same v hd hd day days 0 0 1 0) r3.2.2 t2 (Nat.zero_le _) (st_lt hO) y
          rw [grw_of y2, e1] at t3
          refine no_best hR (F1 := F') (G' := G2) ⟨1, a, b, c, d, e, f, _, rfl, k9, hx, rfl, rfl⟩ ⟨173, a, b, c, d, e, f, (gof (tbl F' 0 (v 4).toNat), G2), rfl, k10, ?_, rfl, rfl⟩ kk (r2.tr t4)
          unfold fX10_best
          rw [m_isIn, i10, if_pos hf, r1, Option.bind_some]
          dsimp only
          rw [if_pos (by decide), if_pos (show f ≠ 1 by omega), if_pos (show f ≠ 0 by omega), s5, t1, Option.bind_some, t3, Option.bind_some]
      · obtain ⟨F', x1, x2, x3⟩ := X 0
        have kk := s2.tr x3
        obtain ⟨G', r1, r2, r3⟩ := s6 F' kk
        have e1 : dcd G' 0 (v 4).toNat = tbl F' 0 (v 4).toNat := X_eq (insD_WF hO h7 0 0) r3.2.2 x2.2.1 (Nat.zero_le _) (st_lt hO)
        have hx : fX9_best 1 a b c d e f F = (if f ≠ 1 then some (gof (tbl F' 0 (v 4).toNat), F') else some (if tbl F' 0 (v 4).toNat = BD then -1 else gof (tbl F' 0 (v 4).toNat) * 65536 - tbl F' 0 (v 4).toNat, F')) := by
          unfold fX9_best
          rw [if_neg n1, if_neg n2, s1, Option.bind_some]
          dsimp only
          rw [if_pos (by decide), if_pos f2]
          exact x1
        by_cases y : dcd G' 0 (v 4).toNat = BD
        · rw [if_pos y] at r1
          rw [← e1, y, gof_bd, if_pos rfl, ite_self] at hx
          refine no_best hR (z := -1) (F1 := F') (G' := G') ⟨1, a, b, c, d, e, f, _, rfl, k9, hx, rfl, rfl⟩ ⟨173, a, b, c, d, e, f, (-1, G'), rfl, k10, ?_, rfl, rfl⟩ kk r2
          unfold fX10_best
          rw [m_isIn, i10, if_pos hf, r1, Option.bind_some]
          dsimp only
          rw [if_neg (by decide)]
        · rw [if_neg y] at r1
          have hN := nd_le (days := days) hO h7
          have hcok := r3.2.1.1 0 (v 4).toNat (Nat.zero_le _) (st_lt hO)
          rw [Nat.mul_zero, Nat.zero_add] at hcok
          have hg := m_gain r3.1.1.1 hO hcok hN
          have ed : dcd G' 0 (v 4).toNat = sco (G' 183 (v 4).toNat) (G' 184 (v 4).toNat) := by unfold dcd; rw [Nat.mul_zero, Nat.zero_add]
          have hcl := ((sco_gof hN hcok).2 (by rw [← ed]; exact y)).2
          rw [← ed, e1] at hcl
          have hcl2 : G' 184 (v 4).toNat = gof (tbl F' 0 (v 4).toNat) * 65536 - tbl F' 0 (v 4).toNat := hcl.2.trans (by rw [hcl.1])
          rw [grw_of y, e1] at hg
          rw [e1] at y
          rw [if_neg y] at hx
          have b4 := hO.2.2.2.1
          obtain ⟨st, hst⟩ := nat_of b4.1
          have hst2 : (v 4).toNat = st := by omega
          have bst : (0 : Int) ≤ (st : Int) ∧ (st : Int) < ((2696 : Nat) : Int) := by omega
          have hy : fX10_best 173 a b c d e f F' = (if f ≠ 1 then some (gof (tbl F' 0 (v 4).toNat), G') else some (gof (tbl F' 0 (v 4).toNat) * 65536 - tbl F' 0 (v 4).toNat, G')) := by
            unfold fX10_best
            rw [m_isIn, i10, if_pos hf, r1, Option.bind_some]
            dsimp only
            rw [if_pos (by decide)]
            by_cases f1 : f = 1
            · rw [if_neg (fun z => z f1), if_neg (fun z => z f1), m_of r3.1.1.1 (i := 4) (x := 4) rfl (by omega), Option.bind_some, al184, hst, if_pos bst, Int.toNat_natCast, show (173 + 11 : Nat) = 184 from rfl, ← hst2, hcl2]
            · rw [if_pos f1, if_pos f1, if_neg (show ¬ f ≠ 0 by omega), hg, Option.bind_some]
          by_cases f1 : f = 1
          · rw [if_neg (fun z => z f1)] at hx hy
            exact no_best hR (F1 := F') (G' := G') ⟨1, a, b, c, d, e, f, _, rfl, k9, hx, rfl, rfl⟩ ⟨173, a, b, c, d, e, f, _, rfl, k10, hy, rfl, rfl⟩ kk r2
          · rw [if_pos f1] at hx hy
            exact no_best hR (F1 := F') (G' := G') ⟨1, a, b, c, d, e, f, _, rfl, k9, hx, rfl, rfl⟩ ⟨173, a, b, c, d, e, f, _, rfl, k10, hy, rfl, rfl⟩ kk r2
    · obtain ⟨G', r1, r2⟩ := s3 F1 s2
      refine no_best hR (z := -1) (F1 := F1) (G' := G') ⟨1, a, b, c, d, e, f, (-1, F1), rfl, k9, ?_, rfl, rfl⟩ ⟨173, a, b, c, d, e, f, (-1, G'), rfl, k10, ?_, rfl, rfl⟩ s2 r2
      · unfold fX9_best
        rw [if_neg n1, if_neg n2, s1, Option.bind_some]
        dsimp only
        rw [if_neg (by decide)]
      · unfold fX10_best
        rw [m_isIn, i10, if_pos hf, r1, Option.bind_some]
        dsimp only
        rw [if_neg (by decide)]
  · refine no_best hR (z := -1) (F1 := F) (G' := F) ⟨1, a, b, c, d, e, f, (-1, F), rfl, k9, ?_, rfl, rfl⟩ ⟨173, a, b, c, d, e, f, (-1, F), rfl, k10, ?_, rfl, rfl⟩ (kX.rf F) (kM.rf F)
    · unfold fX9_best
      by_cases q : f < 0
      · rw [if_pos q]
      · rw [if_neg q, if_pos (by omega)]
    · unfold fX10_best
      rw [m_isIn, i10, if_neg hf]
/-! the way, on both sides -/
section WAY
variable {v hd : Nat → Int} {V day days : Nat} {F G : Mem}
theorem kX_trip {F' : Mem} (h : ∀ o k, ¬ isTP o → ¬ (o = 72 ∧ k = 4) → F' o k = F o k) : kX F F' := fun o k ho => h o k (by unfold isTP; omega) (by omega)
theorem csv_follow (hC : CSV v hd V day days 0 0 F) (hne : tbl F 0 (v 4).toNat ≠ BD) : ∃ F', fX6_follow 72 63 F = some F' ∧ TP (insD v hd day days 0 0) (tbl F) (v 4).toNat F' ∧ F' 72 4 = ((twA (insD v hd day days 0 0) (tbl F) (v 4).toNat (days * (v 0).toNat - 1)).2.1 : Int) ∧ (∀ o k, ¬ isTP o → ¬ (o = 72 ∧ k = 4) → F' o k = F o k) := by
  have hO := hC.1.1.1.2.2.2.2
  have b0 := hO.1
  have h1 := hC.1.1.2.2.2.2.2.1.2.1
  have hN1 : 1 ≤ days * (v 0).toNat := Nat.mul_pos h1 (by omega)
  exact x_follow6 (PIc_PL hC.1) tv0_01 hC.2.1 hC.2.2 hne hN1
theorem kM_spo {G' : Mem} (h : ∀ o k, ¬ (o = 173 ∧ spo k) → G' o k = G o k) : kM G G' := ⟨fun o k ho => h o k (by omega), h _ _ (by unfold spo; omega), h _ _ (by unfold spo; omega), h _ _ (by unfold spo; omega)⟩
theorem msv_walk (hM : MSV v hd day days G) (hne : dcd G 0 (v 4).toNat ≠ BD) {i : Nat} (hi : i < days * (v 0).toNat) : ∃ G', fX10_walksTo 173 (i : Int) G = some G' ∧ G' 173 38 = (twA (insD v hd day days 0 0) (dcd G) (v 4).toNat i).1 ∧ G' 173 39 = ((twA (insD v hd day days 0 0) (dcd G) (v 4).toNat i).2.1 : Int) ∧ G' 173 40 = ((twA (insD v hd day days 0 0) (dcd G) (v 4).toNat i).2.2.1 : Int) ∧ (∀ o k, ¬ (o = 173 ∧ spo k) → G' o k = G o k) := m_walksTo (mas_pim hM.1) hM.2.1 hM.2.2 hne hi
/-- two tables of one plan tell one way -/
theorem tw_eq {I : Ins} {X Y : Nat → Nat → Int} (hW : WF I) (hX : IsX I tv0 X) (hY : IsX I tv0 Y) : ∀ n s h i, iN I ≤ n + s → s ≤ i → i < iN I → h < iH I → X s h ≠ BD → tw I X n s h i = tw I Y n s h i := by
  have e : ∀ s h, s ≤ iN I → h < iH I → X s h = Y s h := fun s h a b => X_eq hW hX hY a b
  have en : ∀ s h, s < iN I → h < iH I → nxh I X s h = nxh I Y s h := by
    intro s h hs hh
    have e1 : stv I X s h = stv I Y s h := by unfold stv; rw [e (s + 1) h (by omega) hh]
    have e2 : ∀ n, n ≤ iH I → fsI (fun b => gov I X s h b) (X s h) n = fsI (fun b => gov I Y s h b) (Y s h) n := by
      intro n
      induction n with
      | zero => intro _; rfl
      | succ n ih =>
        intro hn
        have e3 : gov I X s h n = gov I Y s h n := by
          unfold gov
          by_cases y : n = h ∨ fre I s < iT I h n
          · rw [if_pos (y.elim Or.inl (fun z => Or.inr (Or.inl z))), if_pos (y.elim Or.inl (fun z => Or.inr (Or.inl z)))]
          · have hfs := (fre_sp (I := I) (iN I - s) s (by omega)).1
            rw [e (s + iT I h n) n (by omega) (by omega)]
        show (if fsI _ _ n < n then fsI _ _ n else if gov I X s h n = X s h then n else n + 1) = (if fsI _ _ n < n then fsI _ _ n else if gov I Y s h n = Y s h then n else n + 1)
        rw [ih (by omega), e3, e s h (by omega) hh]
    unfold nxh
    rw [e1, e s h (by omega) hh]
    have := e2 (iH I) (Nat.le_refl _)
    rw [e s h (by omega) hh] at this
    rw [this]
  intro n
  induction n with
  | zero => intro s h i h1 h2 h3; omega
  | succ n ih =>
    intro s h i h1 h2 h3 hh hne
    obtain ⟨a1, a2⟩ := nx_sp hX (s := s) (h := h) (by omega) hh hne
    have e4 := en s h (by omega) hh
    rcases a2 with ⟨b1, b2, b3, b4, b5⟩ | ⟨b1, b2, b3, b4, b5, b6, b7⟩
    · rw [tw_stay b1, tw_stay (e4 ▸ b1)]
      by_cases y : i = s
      · rw [if_pos y, if_pos y]
      · rw [if_neg y, if_neg y]
        exact ih (s + 1) h i (by omega) (by omega) h3 hh b3
    · rw [tw_go b1, tw_go (e4 ▸ b1), ← e4]
      have t1 := hW.2.2.1 h _ hh a1 (fun z => b1 z.symm)
      by_cases y : i < s + iT I h (nxh I X s h)
      · rw [if_pos y, if_pos y]
      · rw [if_neg y, if_neg y]
        exact ih _ _ i (by omega) (by omega) h3 a1 b6
theorem twA_eq {I : Ins} {X Y : Nat → Nat → Int} (hW : WF I) (hX : IsX I tv0 X) (hY : IsX I tv0 Y) {z i : Nat} (hz : z < iH I) (hi : i < iN I) (hne : X 0 z ≠ BD) : twA I X z i = twA I Y z i := tw_eq hW hX hY (iN I) 0 z i (by omega) (Nat.zero_le _) hi hz hne
end WAY
