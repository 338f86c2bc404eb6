/-! ===== harm and loss, on both sides ===== -/
theorem X_ex {I : Ins} (hW : WF I) (tv : Nat → Int) : ∃ X, IsX I tv X := by
  have H : ∀ d, d ≤ iN I → ∃ X, IsXf I tv X (iN I - d) := by
    intro d
    induction d with
    | zero => intro _; exact ⟨fun _ h => tv h, fun h _ => rfl, fun s s1 s2 => by omega⟩
    | succ d ih =>
      intro hd
      obtain ⟨X, x1, x2⟩ := ih (by omega)
      have e : ∀ s h, s ≠ iN I - (d + 1) → (if s = iN I - (d + 1) then bsv I X s h (iH I) else X s h) = X s h := fun s h hs => if_neg hs
      refine ⟨fun s h => if s = iN I - (d + 1) then bsv I X s h (iH I) else X s h, fun h hh => ?_, fun s s1 s2 h hh => ?_⟩
      · dsimp only
        rw [e _ _ (by omega)]; exact x1 h hh
      · have eb : bsv I (fun s h => if s = iN I - (d + 1) then bsv I X s h (iH I) else X s h) s h (iH I) = bsv I X s h (iH I) := bsv_rows hW s2 hh (fun t b t1 _ _ => e t b (by omega))
        rw [eb]
        dsimp only
        by_cases y : s = iN I - (d + 1)
        · rw [if_pos y]
        · rw [if_neg y]; exact x2 s (by omega) s2 h hh
  obtain ⟨X, x1, x2⟩ := H (iN I) (Nat.le_refl _)
  exact ⟨X, x1, fun s s1 h hh => x2 s (by omega) s1 h hh⟩
/-- the best of a plan -/
noncomputable def best0 (I : Ins) (z : Nat) : Int := Classical.epsilon (fun y => ∃ X, IsX I tv0 X ∧ y = X 0 z)
theorem best0_eq {I : Ins} {z : Nat} {X : Nat → Nat → Int} (hW : WF I) (hz : z < iH I) (hX : IsX I tv0 X) : X 0 z = best0 I z := by
  obtain ⟨Y, y1, y2⟩ := Classical.epsilon_spec (p := fun y => ∃ X, IsX I tv0 X ∧ y = X 0 z) ⟨_, X, hX, rfl⟩
  exact (X_eq hW hX y1 (Nat.zero_le _) hz).trans y2.symm
def insJ (v hd : Nat → Int) (day : Nat) (k : Int) (f t : Nat) : Ins := insP v (v 1) (1 * (v 0).toNat) (fun s => if f ≤ s ∧ s < t then mad (muD v s) k else muD v s) (gnD v hd day 0 0)
def insB (v hd : Nat → Int) (day : Nat) (k : Int) (f t : Nat) : Ins := insP v (v 1) (1 * (v 0).toNat) (muD v) (barG (gnD v hd day 0 0) k f t)
section HRM
variable {v hd : Nat → Int} {V day : Nat} {F G : Mem}
theorem N336 (hO : VO v) : 1 * (v 0).toNat ≤ 336 := nd_le hO (by decide)
theorem N48 (hO : VO v) : 1 * (v 0).toNat ≤ 48 := by have := hO.1; omega
theorem insJ_WF (hO : VO v) (k : Int) (f t : Nat) : WF (insJ v hd day k f t) := insP_WF hO hO.2.1.1 (N336 hO) (fun s h _ hh => gnD_bd hO hd day 0 0 s hh)
theorem barG_gn (hO : VO v) (k : Int) (f t s h : Nat) (hh : (h : Int) < v 5) : 0 ≤ barG (gnD v hd day 0 0) k f t s h ∧ barG (gnD v hd day 0 0) k f t s h ≤ 9 := by
  have := gnD_bd hO hd day 0 0 s hh
  unfold barG
  split
  · omega
  · exact this
theorem insB_WF (hO : VO v) (k : Int) (f t : Nat) : WF (insB v hd day k f t) := insP_WF hO hO.2.1.1 (N336 hO) (fun s h _ hh => barG_gn hO k f t s h hh)
/-- the same with a further must: the best there, BD where there is none -/
noncomputable def yJ (v hd : Nat → Int) (day : Nat) (k : Int) (f t : Nat) : Int := best0 (insJ v hd day k f t) (v 4).toNat
noncomputable def yB (v hd : Nat → Int) (day : Nat) (k : Int) (f t : Nat) : Int := best0 (insB v hd day k f t) (v 4).toNat
noncomputable def yD (v hd : Nat → Int) (day : Nat) : Int := best0 (insD v hd day 1 0 0) (v 4).toNat
theorem day_must (v hd : Nat → Int) (day k f t : Nat) : mustI (insD v hd day 1 0 0) (insJ v hd day (k : Int) f t) (k : Int) f t := ⟨rfl, rfl, rfl, rfl, rfl, fun _ _ => rfl⟩
theorem csv_reach (hC : CSV v hd V day 1 0 0 F) : ∃ F', fX1_reachAll 63 F = some F' ∧ CSV v hd V day 1 0 0 F' ∧ tbl F' = tbl F ∧ IsR (insD v hd day 1 0 0) (v 4).toNat (rch F') (1 * (v 0).toNat) ∧ (∀ o k, o ≠ 71 → F' o k = F o k) := by
  have hO := hC.1.1.1.2.2.2.2
  obtain ⟨F', a1, a2, a3⟩ := x_reachAll (PIc_PL hC.1) (N48 hO) hC.2.2
  have et : tbl F' = tbl F := funext fun s => funext fun h => a3 70 _ (by decide)
  refine ⟨F', a1, ⟨hC.1.mono (fun o k ho => a3 o k (by omega)), by rw [et]; exact hC.2.1, fun s hs => (a3 67 s (by decide)).trans (hC.2.2 s hs)⟩, et, a2, a3⟩
/-- harm, -1 where there is none -/
def hq (x y : Int) : Int := if y = BD then -1 else gof x - gof y
theorem c_harm (hC : CSV v hd V day 1 0 0 F) (hR : IsR (insD v hd day 1 0 0) (v 4).toNat (rch F) (1 * (v 0).toNat)) (hne : tbl F 0 (v 4).toNat ≠ BD) {k f t : Nat} (hk : (k : Int) < v 5) (hft : f < t) (ht : (t : Int) ≤ v 0) : fX1_harmOf 63 (gof (tbl F 0 (v 4).toNat)) (k : Int) (f : Int) (t : Int) F = some (hq (tbl F 0 (v 4).toNat) (yJ v hd day (k : Int) f t)) ∧ (yJ v hd day (k : Int) f t ≠ BD → 0 ≤ hq (tbl F 0 (v 4).toNat) (yJ v hd day (k : Int) f t) ∧ hq (tbl F 0 (v 4).toNat) (yJ v hd day (k : Int) f t) ≤ 3024) := by
  have hO := hC.1.1.1.2.2.2.2
  have b0 := hO.1
  have hW := insD_WF (hd := hd) (day := day) hO (show 1 ≤ 7 by decide) 0 0
  have hV := insJ_WF (hd := hd) (day := day) hO (k : Int) f t
  have hst : (v 4).toNat < iH (insD v hd day 1 0 0) := st_lt hO
  have hkH : k < iH (insD v hd day 1 0 0) := by show k < (v 5).toNat; omega
  have htN : t ≤ iN (insD v hd day 1 0 0) := by show t ≤ 1 * (v 0).toNat; omega
  obtain ⟨Y, hY⟩ := X_ex hV tv0
  have ey : Y 0 (v 4).toNat = yJ v hd day (k : Int) f t := best0_eq hV hst hY
  have mt := must_thm hW hV (day_must v hd day k f t) hft htN hkH hst hC.2.1 hY hR
  rw [ey] at mt
  have g := csv_g hC hne
  refine ⟨x_harmOf (PIc_PL hC.1) (N48 hO) (by omega) hkH hft htN (R_bd hW (Nat.le_refl _) hR (show f ≤ iN (insD v hd day 1 0 0) by omega) hkH) (X_bd hW tv0_01 hC.2.1 htN hkH) mt, fun hyne => ?_⟩
  have le : yJ v hd day (k : Int) f t ≤ tbl F 0 (v 4).toNat := by
    rcases mt with w | ⟨w1, w2, w3, w4⟩
    · exact absurd w.1 hyne
    · have p1 := PF_at hW (Nat.le_refl _) hst hR (show f ≤ iN (insD v hd day 1 0 0) by omega) hkH w1
      have p2 : PF (insD v hd day 1 0 0) f k (f + (t - f)) k _ := stays_PF hkH (t - f) (by omega) (fun r r1 r2 => w3 r r1 (by omega))
      rw [show f + (t - f) = t by omega] at p2
      have p3 := PB_at hW hC.2.1 htN hkH w2
      have p4 := (PB_le hW hC.2.1 (Nat.zero_le _) hst (PB_app p1 (PB_app p2 p3))).2
      rw [w4]
      omega
  have bd := X_bd hV tv0_01 hY (s := 0) (h := (v 4).toNat) (Nat.zero_le _) hst
  rw [ey] at bd
  have hN : iN (insJ v hd day (k : Int) f t) ≤ 336 := N336 hO
  have gy := gof_nn hyne (by
    rcases bd with w | w
    · exact absurd w hyne
    · have := w.1; omega)
  have gm := gof_mono le hyne hne
  unfold hq
  rw [if_neg hyne]
  omega
/-- a question changed, solved: its plan, its GAIN -/
theorem ask_solve {I : Ins} {p : Int} {N : Nat} {mu : Nat → Int} {gn : Nat → Nat → Int} {L : Mem} (hP : PIm I v L) (hN : 1 * (v 0).toNat = iN I) (h31 : L 173 31 = 0) : ∃ G', fX10_solves 173 1 L = some G' ∧ IsX I tv0 (dcd G') ∧ fX10_gain 173 G' = some (grw (dcd G' 0 (v 4).toNat)) ∧ (∀ o k, o ≠ 183 → o ≠ 184 → ¬ (o = 173 ∧ k = 27) → G' o k = L o k) := by
  obtain ⟨G', s1, s2⟩ := m_solves hP (show 1 ≤ 7 by decide) hN
  rw [goal0 h31] at s2
  have q1 := s2.1
  rw [tvG_m1] at q1
  exact ⟨G', s1, q1, (sl_gain hP s2).2, s2.2.2.2⟩
theorem mas_ref {L : Mem} (h : MAS v hd day 1 G) (e : ∀ o k, o ≠ 183 → o ≠ 184 → ¬ (o = 173 ∧ (k = 27 ∨ k = 33 ∨ k = 34 ∨ k = 35 ∨ spo k)) → L o k = G o k) : MAS v hd day 1 L ∧ kM G L := by
  obtain ⟨⟨hM, hO⟩, h1, hH, ⟨h11, h12, h13⟩, h2, ⟨h28, h29, h30, h31⟩, h3, h4, h5⟩ := h
  have e3 : ∀ k, ¬ (k = 27 ∨ k = 33 ∨ k = 34 ∨ k = 35 ∨ spo k) → L 173 k = G 173 k := fun k hk => e _ _ (by decide) (by decide) (fun z => hk z.2)
  refine ⟨⟨⟨hM.mono (e3 10 (by unfold spo; omega)) (fun k => e _ _ (by decide) (by decide) (by omega)), hO⟩, h1, fun x hx => (e _ _ (by decide) (by decide) (by omega)).trans (hH x hx), ⟨(e3 _ (by unfold spo; omega)).trans h11, (e3 _ (by unfold spo; omega)).trans h12, (e3 _ (by unfold spo; omega)).trans h13⟩, (e3 _ (by unfold spo; omega)).trans h2, ⟨(e3 _ (by unfold spo; omega)).trans h28, (e3 _ (by unfold spo; omega)).trans h29, (e3 _ (by unfold spo; omega)).trans h30, (e3 _ (by unfold spo; omega)).trans h31⟩, (e3 _ (by unfold spo; omega)).trans h3, (e3 _ (by unfold spo; omega)).trans h4, (e3 _ (by unfold spo; omega)).trans h5⟩, fun o k ho => e o k (by omega) (by omega) (by omega), e3 _ (by unfold spo; omega), e3 _ (by unfold spo; omega), e3 _ (by unfold spo; omega)⟩
theorem m_harmOf4 (h : MAS v hd day 1 G) (hne : yD v hd day ≠ BD) {k f t : Nat} (hk : (k : Int) < v 5) (hft : f < t) (ht : (t : Int) ≤ v 0) : ∃ G', fX10_harmOf 173 (k : Int) (f : Int) (t : Int) G = some (if yJ v hd day (k : Int) f t = BD then -2 else gof (yD v hd day) - gof (yJ v hd day (k : Int) f t), G') ∧ MAS v hd day 1 G' ∧ kM G G' ∧ G' 173 44 = G 173 44 := by
  have hO := h.1.2
  have b0 := hO.1
  have b5 := hO.2.2.2.1
  have hst := st_lt hO
  have hV := insJ_WF (hd := hd) (day := day) hO (k : Int) f t
  have hW := insD_WF (hd := hd) (day := day) hO (show 1 ≤ 7 by decide) 0 0
  obtain ⟨G1, s1, s2, s3, s4⟩ := mas_solve h
  have eD : dcd G1 0 (v 4).toNat = yD v hd day := best0_eq hW hst s2.2.2
  rw [eD, grw_of hne] at s3
  obtain ⟨hM1, hI1, hH1, ⟨h11, h12, h13⟩, h2, ⟨h28, h29, h30, h31⟩, h3, h4, h5⟩ := s2.1
  generalize hL : mset (mset (mset G1 173 32 (k : Int)) 173 33 (f : Int)) 173 34 (t : Int) = L
  have l1 : ∀ o j, ¬ (o = 173 ∧ (j = 32 ∨ j = 33 ∨ j = 34)) → L o j = G1 o j := fun o j ho => by rw [← hL, mset_ne _ _ (by omega), mset_ne _ _ (by omega), mset_ne _ _ (by omega)]
  have l32 : L 173 32 = (k : Int) := by rw [← hL, mset_ne _ _ (by omega), mset_ne _ _ (by omega), mset_eq]
  have l33 : L 173 33 = (f : Int) := by rw [← hL, mset_ne _ _ (by omega), mset_eq]
  have l34 : L 173 34 = (t : Int) := by rw [← hL, mset_eq]
  have hP : PIm (insJ v hd day (k : Int) f t) v L := by
    refine PIm_of (hM1.1.mono (l1 _ _ (by omega)) (fun j => l1 _ _ (by omega))) hO ?_ rfl hO.2.1 (N336 hO) (fun s h _ hh => gnD_bd hO hd day 0 0 s hh) (mpc1 ((l1 _ _ (by omega)).trans h12)) (fun s _ => ?_) (fun s j _ hj => ?_)
    · refine ⟨by rw [l1 _ _ (by omega), h2]; exact ⟨by omega, by have := h.2.1.1; omega⟩, Or.inr ?_, ?_⟩
      · rw [l33, l34]; omega
      · rw [l1 _ _ (by omega), l1 _ _ (by omega), h4, h5]; omega
    · unfold mMu mMb
      rw [l32, l33, l34, l1 173 29 (by omega), h29, if_neg (show ¬ (1 : Int) = 0 by decide)]
      by_cases y : f ≤ s ∧ s < t
      · rw [if_pos y, if_neg (by omega)]
      · rw [if_neg y, if_pos (Or.inr (by omega))]
    · have e36 := l1 173 36 (by omega)
      have e37 := l1 173 37 (by omega)
      rw [mGn_eq (hd := hd) (day := day) (m := 0) (fun x hx => (l1 179 x (by omega)).trans (hH1 x hx)) hO.1 ((l1 _ _ (by omega)).trans h2) (tmk0 ((l1 _ _ (by omega)).trans h11) ((l1 _ _ (by omega)).trans h13)) (by omega), l1 173 28 (by omega), h28, l1 173 30 (by omega), h30, e36, e37, h4, h5, if_neg (by omega)]
  obtain ⟨G2, t1, t2, t3, t4⟩ := ask_solve (p := 0) (N := 0) (mu := fun _ => 0) (gn := fun _ _ => 0) hP rfl ((l1 _ _ (by omega)).trans h31)
  have eJ : dcd G2 0 (v 4).toNat = yJ v hd day (k : Int) f t := best0_eq hV hst t2
  rw [eJ] at t3
  have bd := X_bd hV tv0_01 t2 (s := 0) (h := (v 4).toNat) (Nat.zero_le _) hst
  have bdD := X_bd hW tv0_01 s2.2.2 (s := 0) (h := (v 4).toNat) (Nat.zero_le _) hst
  rw [eJ] at bd
  rw [eD] at bdD
  have hN : iN (insJ v hd day (k : Int) f t) ≤ 336 := N336 hO
  have hN2 : iN (insD v hd day 1 0 0) ≤ 336 := N336 hO
  have fr : ∀ o j, o ≠ 183 → o ≠ 184 → ¬ (o = 173 ∧ (j = 27 ∨ j = 33 ∨ j = 34 ∨ j = 35 ∨ spo j)) → mset G2 173 32 (-1) o j = G o j := fun o j o1 o2 o3 => by
    by_cases y : o = 173 ∧ j = 32
    · rw [y.1, y.2, mset_eq]
      exact h.2.2.2.2.2.2.1.symm
    · rw [mset_ne _ _ y, t4 o j o1 o2 (fun z => o3 ⟨z.1, Or.inl z.2⟩), l1 o j (fun z => by
        rcases z.2 with w | w | w
        · exact y ⟨z.1, w⟩
        · exact o3 ⟨z.1, Or.inr (Or.inl w)⟩
        · exact o3 ⟨z.1, Or.inr (Or.inr (Or.inl w))⟩)]
      obtain ⟨G1', s1', s2'⟩ := m_solves (mas_pim h) (show 1 ≤ 7 by decide) (insD_N v hd day 1 0 0).symm
      have eG : G1' = G1 := by
        have : some G1' = some G1 := s1'.symm.trans s1
        exact Option.some.inj this
      rw [← eG]
      exact s2'.2.2.2 o j o1 o2 (fun z => o3 ⟨z.1, Or.inl z.2⟩)
  have mr := mas_ref (L := mset G2 173 32 (-1)) h fr
  refine ⟨mset G2 173 32 (-1), ?_, mr.1, mr.2, fr _ _ (by decide) (by decide) (by unfold spo; omega)⟩
  unfold fX10_harmOf
  have s1 : fX10_solves 173 1 G = some G1 := s1
  rw [s1, Option.bind_some, s3, Option.bind_some, hL, t1, Option.bind_some, t3, Option.bind_some]
  unfold grw
  by_cases y : yJ v hd day (k : Int) f t = BD
  · rw [if_pos y, if_neg (by decide), if_pos y]
  · have gb : ∀ w : Int, (w = BD ∨ (-(99 * ((1 * (v 0).toNat : Nat) : Int)) ≤ w ∧ w ≤ 589824 * ((1 * (v 0).toNat : Nat) : Int))) → w ≠ BD → 0 ≤ gof w ∧ gof w ≤ 3024 := by
      intro w hw hwn
      have hw2 : ¬ w = -1000000000 := hwn
      have hg : gof w = (w + 65535) / 65536 := if_neg hw2
      rw [hg]
      have := N48 hO
      rcases hw with u | u
      · exact absurd u hwn
      · omega
    have g1 := gb _ bd y
    have g2 := gb _ bdD hne
    rw [if_neg y, if_pos g1.1, if_neg y, xwn (by omega) (by omega)]
theorem m_harmOf (h : MAS v hd day 1 G) (hne : yD v hd day ≠ BD) {k f t : Nat} (hk : (k : Int) < v 5) (hft : f < t) (ht : (t : Int) ≤ v 0) : ∃ G', fX10_harmOf 173 (k : Int) (f : Int) (t : Int) G = some (if yJ v hd day (k : Int) f t = BD then -2 else gof (yD v hd day) - gof (yJ v hd day (k : Int) f t), G') ∧ MAS v hd day 1 G' ∧ kM G G' := by
  obtain ⟨G', a, b, c, -⟩ := m_harmOf4 h hne hk hft ht
  exact ⟨G', a, b, c⟩
/-- loss, the class -/
theorem c_loss (hP : PO v hd V day 1 F) (most : Int) (house : Int) {f t : Nat} (hf : f ≤ 1000) (ht : t ≤ 1000) : ∃ F', fX1_lossOf 63 most house (f : Int) (t : Int) F = some (xw (most - gof (yB v hd day house f t)), F') ∧ PO v hd V day 1 F' ∧ (∀ o k, (o ≤ 63 ∨ 71 ≤ o) → F' o k = F o k) := by
  have hO := hP.1.2.2.2.2
  obtain ⟨F1, p1, p2, p3⟩ := x_fill hP 0 0
  obtain ⟨F2, q1, q2, q3⟩ := x_bar (PIc_PL p2) house hf ht
  have q2 : PIc (insB v hd day house f t) v V F2 := q2
  obtain ⟨F3, r1, r2, r3, r4⟩ := x_solve q2 (-1)
  rw [tvG_m1] at r2
  have e : tbl F3 0 (v 4).toNat = yB v hd day house f t := best0_eq (insB_WF hO house f t) (st_lt hO) r2
  have fr : ∀ o k, (o ≤ 63 ∨ 71 ≤ o) → F3 o k = F o k := fun o k ho => by rw [r4 o k (by omega) (by omega), q3 o k (by omega), p3 o k (by unfold isPL; omega)]
  refine ⟨F3, ?_, hP.mono (fun o k ho => fr o k (by omega)), fr⟩
  unfold fX1_lossOf
  rw [p1, Option.bind_some, q1, Option.bind_some, r1, Option.bind_some, e]
theorem yB_ne (hO : VO v) (hne : yD v hd day ≠ BD) (k : Int) (f t : Nat) : yB v hd day k f t ≠ BD := by
  have hW := insD_WF (hd := hd) (day := day) hO (show 1 ≤ 7 by decide) 0 0
  have hV := insB_WF (hd := hd) (day := day) hO k f t
  have hst := st_lt hO
  obtain ⟨X, hX⟩ := X_ex hW tv0
  obtain ⟨Y, hY⟩ := X_ex hV tv0
  have e1 : X 0 (v 4).toNat = yD v hd day := best0_eq hW hst hX
  have e2 : Y 0 (v 4).toNat = yB v hd day k f t := best0_eq hV hst hY
  rw [← e2]
  exact feas hW hV (insP_same v (v 1) (1 * (v 0).toNat) (muD v) _ _) hX hY (Nat.zero_le _) hst (by rw [e1]; exact hne)
/-- loss, the reference -/
theorem m_worthOf (h : MAS v hd day 1 G) (hne : yD v hd day ≠ BD) {k : Int} {f t : Nat} (hf : f ≤ 1000) (ht : t ≤ 1000) : ∃ G', fX10_worthOf 173 k (f : Int) (t : Int) G = some (xw (gof (yD v hd day) - gof (yB v hd day k f t)), G') ∧ MAS v hd day 1 G' ∧ kM G G' := by
  have hO := h.1.2
  have b0 := hO.1
  have b5 := hO.2.2.2.1
  have hst := st_lt hO
  have hV := insB_WF (hd := hd) (day := day) hO k f t
  have hW := insD_WF (hd := hd) (day := day) hO (show 1 ≤ 7 by decide) 0 0
  obtain ⟨G1, s1, s2, s3, s4⟩ := mas_solve h
  have eD : dcd G1 0 (v 4).toNat = yD v hd day := best0_eq hW hst s2.2.2
  rw [eD, grw_of hne] at s3
  obtain ⟨hM1, hI1, hH1, ⟨h11, h12, h13⟩, h2, ⟨h28, h29, h30, h31⟩, h3, h4, h5⟩ := s2.1
  generalize hL : mset (mset (mset G1 173 35 k) 173 36 (f : Int)) 173 37 (t : Int) = L
  have l1 : ∀ o j, ¬ (o = 173 ∧ (j = 35 ∨ j = 36 ∨ j = 37)) → L o j = G1 o j := fun o j ho => by rw [← hL, mset_ne _ _ (by omega), mset_ne _ _ (by omega), mset_ne _ _ (by omega)]
  have l35 : L 173 35 = k := by rw [← hL, mset_ne _ _ (by omega), mset_ne _ _ (by omega), mset_eq]
  have l36 : L 173 36 = (f : Int) := by rw [← hL, mset_ne _ _ (by omega), mset_eq]
  have l37 : L 173 37 = (t : Int) := by rw [← hL, mset_eq]
  have hP : PIm (insB v hd day k f t) v L := by
    refine PIm_of (hM1.1.mono (l1 _ _ (by omega)) (fun j => l1 _ _ (by omega))) hO ?_ rfl hO.2.1 (N336 hO) (fun s h _ hh => barG_gn hO k f t s h hh) (mpc1 ((l1 _ _ (by omega)).trans h12)) (fun s _ => ?_) (fun s j _ hj => ?_)
    · refine ⟨by rw [l1 _ _ (by omega), h2]; exact ⟨by omega, by have := h.2.1.1; omega⟩, Or.inl ((l1 _ _ (by omega)).trans h3), ?_⟩
      rw [l36, l37]; omega
    · exact mMu_plain ((l1 _ _ (by omega)).trans h3) ((l1 _ _ (by omega)).trans h29) s
    · rw [mGn_eq (hd := hd) (day := day) (m := 0) (fun x hx => (l1 179 x (by omega)).trans (hH1 x hx)) hO.1 ((l1 _ _ (by omega)).trans h2) (tmk0 ((l1 _ _ (by omega)).trans h11) ((l1 _ _ (by omega)).trans h13)) (by omega), l1 173 28 (by omega), h28, l1 173 30 (by omega), h30, l35, l36, l37]
      unfold barG
      by_cases y : (f ≤ s ∧ s < t) ∧ (k = -1 ∨ k = (j : Int))
      · rw [if_pos y, if_pos (Or.inr ⟨by omega, y.2⟩)]
      · rw [if_neg y, if_neg]
        rintro (z | z)
        · exact z.1 rfl
        · exact y ⟨by omega, z.2⟩
  obtain ⟨G2, t1, t2, t3, t4⟩ := ask_solve (p := 0) (N := 0) (mu := fun _ => 0) (gn := fun _ _ => 0) hP rfl ((l1 _ _ (by omega)).trans h31)
  have eJ : dcd G2 0 (v 4).toNat = yB v hd day k f t := best0_eq hV hst t2
  rw [eJ, grw_of (yB_ne hO hne k f t)] at t3
  have mr := mas_ref (L := mset (mset G2 173 37 0) 173 36 0) h (fun o j o1 o2 o3 => by
    by_cases y : o = 173 ∧ j = 36
    · rw [y.1, y.2, mset_eq]
      exact h.2.2.2.2.2.2.2.1.symm
    · rw [mset_ne _ _ y]
      by_cases y2 : o = 173 ∧ j = 37
      · rw [y2.1, y2.2, mset_eq]
        exact h.2.2.2.2.2.2.2.2.symm
      · rw [mset_ne _ _ y2, t4 o j o1 o2 (fun z => o3 ⟨z.1, Or.inl z.2⟩), l1 o j (fun z => by
          rcases z.2 with w | w | w
          · exact o3 ⟨z.1, Or.inr (Or.inr (Or.inr (Or.inl w)))⟩
          · exact y ⟨z.1, w⟩
          · exact y2 ⟨z.1, w⟩)]
        obtain ⟨G1', s1', s2'⟩ := m_solves (mas_pim h) (show 1 ≤ 7 by decide) (insD_N v hd day 1 0 0).symm
        have eG : G1' = G1 := by
          have : some G1' = some G1 := s1'.symm.trans s1
          exact Option.some.inj this
        rw [← eG]
        exact s2'.2.2.2 o j o1 o2 (fun z => o3 ⟨z.1, Or.inl z.2⟩))
  refine ⟨mset (mset G2 173 37 0) 173 36 0, ?_, mr.1, mr.2⟩
  unfold fX10_worthOf
  have s1 : fX10_solves 173 1 G = some G1 := s1
  rw [s1, Option.bind_some, s3, Option.bind_some, hL, t1, Option.bind_some, t3, Option.bind_some]
end HRM
