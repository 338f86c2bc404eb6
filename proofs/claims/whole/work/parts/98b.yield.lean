/-! ===== lessons: yields, both ===== -/
theorem bits1 : ∀ a : Nat, a < 8 → ∀ c : Nat, c < 8 → (xand (xshr (xshl 1 (a : Int)) (c : Int)) 1 = 1 ↔ c = a) := by decide +kernel
theorem bits2 : ∀ a : Nat, a < 8 → ∀ b : Nat, b < 8 → ∀ c : Nat, c < 8 → (xand (xshr (xor_ (xshl 1 (a : Int)) (xshl 1 (b : Int))) (c : Int)) 1 = 1 ↔ (c = a ∨ c = b)) := by decide +kernel
section YLD
variable {v hd : Nat → Int} {V day : Nat} {F G : Mem}
/-- what a day makes with some of touch -/
noncomputable def yl (v hd : Nat → Int) (day : Nat) (m : Int) : Int := gof (best0 (insD v hd day 1 0 m) (v 4).toNat) + sm (v 5).toNat (tcI v m)
theorem best0_ne {I J : Ins} {z : Nat} (hW : WF I) (hV : WF J) (hs : sameI I J) (hz : z < iH I) (hne : best0 I z ≠ BD) : best0 J z ≠ BD := by
  obtain ⟨X, hX⟩ := X_ex hW tv0
  obtain ⟨Y, hY⟩ := X_ex hV tv0
  rw [← best0_eq hV (by rw [hs.2.1]; exact hz) hY]
  exact feas hW hV hs hX hY (Nat.zero_le _) hz (by rw [best0_eq hW hz hX]; exact hne)
theorem best0_bd {I : Ins} {z : Nat} (hW : WF I) (hz : z < iH I) (hN : iN I ≤ 48) (hne : best0 I z ≠ BD) : 0 ≤ gof (best0 I z) ∧ gof (best0 I z) ≤ 3024 := by
  obtain ⟨X, hX⟩ := X_ex hW tv0
  have bd := X_bd hW tv0_01 hX (s := 0) (h := z) (Nat.zero_le _) hz
  rw [best0_eq hW hz hX] at bd
  generalize best0 I z = w at *
  have hw2 : ¬ w = -1000000000 := hne
  have hg : gof w = (w + 65535) / 65536 := if_neg hw2
  rw [hg]
  rcases bd with u | u
  · exact absurd u hne
  · omega
theorem dayW (hO : VO v) (m : Int) : WF (insD v hd day 1 0 m) := insD_WF hO (show 1 ≤ 7 by decide) 0 m
theorem yl_ne (hO : VO v) (hne : yD v hd day ≠ BD) (m : Int) : best0 (insD v hd day 1 0 m) (v 4).toNat ≠ BD := best0_ne (dayW hO 0) (dayW hO m) (insD_same v hd hd day 1 0 0 0 m) (st_lt hO) hne
theorem yl_bd (hO : VO v) (hne : yD v hd day ≠ BD) (m : Int) : (0 ≤ gof (best0 (insD v hd day 1 0 m) (v 4).toNat) ∧ gof (best0 (insD v hd day 1 0 m) (v 4).toNat) ≤ 3024) ∧ (0 ≤ sm (v 5).toNat (tcI v m) ∧ sm (v 5).toNat (tcI v m) ≤ 20736) := by
  have b5 := hO.2.2.2.1
  refine ⟨best0_bd (dayW hO m) (st_lt hO) (N48 hO) (yl_ne hO hne m), ?_⟩
  have := sum_bd48 (N := (v 5).toNat) (B := 432) (g := tcI v m) (by omega) (fun i hi => tcI_bd hO m (by omega))
  exact ⟨this.1, Int.le_trans this.2 (by decide)⟩
theorem c_yield (hP : PO v hd V day 1 F) (hne : yD v hd day ≠ BD) (m : Int) : ∃ F', fX1_yieldWith 63 m F = some (yl v hd day m, F') ∧ PO v hd V day 1 F' ∧ (∀ o k, (o ≤ 63 ∨ 71 ≤ o) → F' o k = F o k) := by
  have hO := hP.1.2.2.2.2
  obtain ⟨F3, F2, p1, p2, p3, p4, p5⟩ := PO_plan hP 0 m
  have e : tbl F3 0 (v 4).toNat = best0 (insD v hd day 1 0 m) (v 4).toNat := best0_eq (dayW hO m) (st_lt hO) p3.2.1
  have b := yl_bd hO hne m
  refine ⟨F3, ?_, hP.mono (fun o k ho => p5 o k (by omega)), p5⟩
  unfold fX1_yieldWith
  rw [p1, Option.bind_some, p2, Option.bind_some]
  dsimp only
  rw [x_touchRows p3.1.1.1, Option.bind_some, e]
  unfold yl
  generalize gof (best0 (insD v hd day 1 0 m) (v 4).toNat) = g at *
  generalize sm (v 5).toNat (tcI v m) = s at *
  rw [xwn (by omega) (by omega)]
/-- the reference's questions plain, but for those who are taken as of touch -/
def MAT (v hd : Nat → Int) (day : Nat) (m : Int) (L : Mem) : Prop := (MV v L ∧ VO v) ∧ day ≤ 6 ∧ (∀ x, x < 336 → L 179 x = hd x) ∧ tmk v L m ∧ L 173 12 = 0 ∧ L 173 26 = (day : Int) ∧ (L 173 28 = 0 ∧ L 173 29 = 1 ∧ L 173 30 = 0 ∧ L 173 31 = 0) ∧ L 173 32 = -1 ∧ (L 173 36 = 0 ∧ L 173 37 = 0)
theorem mat0 (h : MAS v hd day 1 G) : MAT v hd day 0 G := by
  obtain ⟨hM, h1, hH, ⟨h11, h12, h13⟩, h2, h28, h3, h4⟩ := h
  exact ⟨hM, h1.1, hH, tmk0 h11 h13, h12, h2, h28, h3, h4⟩
theorem m_yield {m : Int} (h : MAT v hd day m G) (hne : yD v hd day ≠ BD) : ∃ G', fX10_yieldOf 173 G = some (yl v hd day m, G') ∧ (∀ o k, o ≠ 183 → o ≠ 184 → ¬ (o = 173 ∧ k = 27) → G' o k = G o k) := by
  obtain ⟨⟨hM, hO⟩, h1, hH, ht, h12, h2, ⟨h28, h29, h30, h31⟩, h3, h4, h5⟩ := h
  have b0 := hO.1
  have b5 := hO.2.2.2.1
  have hQ : QO G := ⟨by rw [h2]; omega, Or.inl h3, by rw [h4, h5]; omega⟩
  have hP : PIm (insD v hd day 1 0 m) v G := by
    refine PIm_of hM hO hQ rfl hO.2.1 (N336 hO) (fun s k _ hk => gnD_bd hO hd day 0 m s hk) (mpc1 h12) (fun s _ => mMu_plain h3 h29 s) (fun s k _ hk => ?_)
    rw [mGn_eq hH hO.1 h2 ht (by omega), h28, h30, h4, h5, if_neg (by omega)]
  obtain ⟨G1, s1, s2, s3, s4⟩ := ask_solve (p := 0) (N := 0) (mu := fun _ => 0) (gn := fun _ _ => 0) hP rfl h31
  have e : dcd G1 0 (v 4).toNat = best0 (insD v hd day 1 0 m) (v 4).toNat := best0_eq (dayW hO m) (st_lt hO) s2
  rw [e, grw_of (yl_ne hO hne m)] at s3
  have b := yl_bd hO hne m
  have M1 : MV v G1 := hM.mono (s4 _ _ (by decide) (by decide) (by omega)) (fun k => s4 _ _ (by decide) (by decide) (by omega))
  have k11 : G1 173 11 = G 173 11 := s4 _ _ (by decide) (by decide) (by omega)
  have k13 : G1 173 13 = G 173 13 := s4 _ _ (by decide) (by decide) (by omega)
  have t1 : ∀ k : Nat, k < 8 → mkd v G1 k = if xand (xshr m (k : Int)) 1 = 1 then 0 else v (8 + 4 * k + 1) := fun k hk => by
    rw [← ht k hk]
    unfold mkd
    rw [k11, k13]
  refine ⟨G1, ?_, s4⟩
  unfold fX10_yieldOf
  rw [s1, Option.bind_some, s3, Option.bind_some]
  unfold yl
  generalize gof (best0 (insD v hd day 1 0 m) (v 4).toNat) = g at *
  refine lp (fun n k x => fX10_yieldOf_b12 n 173 x (k : Int) G1) (v 5).toNat (fun k x => x = g + sm k (tcI v m)) (fun r => r = some (g + sm (v 5).toNat (tcI v m), G1)) ?_ ?_ FU 0 g (by omega) (by show g = g + 0; omega) (FU_gt (by omega))
  · rintro n k x hk rfl
    left
    refine ⟨_, rfl, ?_⟩
    have hk5 : (k : Int) < v 5 := by omega
    have n5 : ¬ v 5 ≤ (k : Int) := by omega
    have k8 : k < 8 := by omega
    have hk1 : k < 2147483647 := by omega
    have hmb := tc_mul hO hk5
    have q := sum_bd48 (N := k) (B := 432) (g := tcI v m) (by omega) (fun i hi => tcI_bd hO m (by omega))
    have q2 : g + sm k (tcI v m) ≤ 100000 ∧ 0 ≤ g + sm k (tcI v m) := by
      generalize sm k (tcI v m) = w at *
      omega
    have w0 : xw (g + sm k (tcI v m) + 0) = g + sm k (tcI v m) + 0 := by
      generalize g + sm k (tcI v m) = w at *
      exact xwn (by omega) (by omega)
    have wA := xw_aq q2.2 q2.1 hmb.1 hmb.2
    have hk := t1 k k8
    have e : tcI v m k = if v (8 + 4 * k + 1) = 0 ∨ xand (xshr m (k : Int)) 1 = 1 then v (8 + 4 * k + 2) * v 0 else 0 := rfl
    have es : g + sm (k + 1) (tcI v m) = g + sm k (tcI v m) + tcI v m k := (Int.add_assoc _ _ _).symm
    rw [es, e]
    generalize sm k (tcI v m) = w at *
    show fX10_yieldOf_b12 (n + 1) 173 (g + w) (k : Int) G1 = _
    rw [fX10_yieldOf_b12, m_of M1 (i := 5) (x := 5) rfl (by omega), Option.bind_some, if_neg n5, m_kind M1 k8, Option.bind_some, hk, m_house M1 (i := 2) (y := 2) k8 (by omega) rfl, Option.bind_some, m_of M1 (i := 0) (x := 0) rfl (by omega), Option.bind_some, wA, w0, xwS hk1]
    by_cases y1 : xand (xshr m (k : Int)) 1 = 1
    · rw [if_pos y1, if_neg (dnn rfl), if_pos (Or.inr y1)]
    · rw [if_neg y1]
      by_cases y2 : v (8 + 4 * k + 1) = 0
      · rw [if_neg (dnn y2), if_pos (Or.inl y2)]
      · have y3 : ¬ (v (8 + 4 * k + 1) = 0 ∨ xand (xshr m (k : Int)) 1 = 1) := fun z => z.elim y2 y1
        rw [if_pos y2, if_neg y3]
  · rintro n x rfl
    have n5 : v 5 ≤ (((v 5).toNat : Nat) : Int) := by omega
    show fX10_yieldOf_b12 (n + 1) 173 _ (((v 5).toNat : Nat) : Int) G1 = _
    rw [fX10_yieldOf_b12, m_of M1 (i := 5) (x := 5) rfl (by omega), Option.bind_some, if_pos n5]
/-- the first of the greatest, above a -/
def lsF (y : Nat → Int) (a : Int) : Nat → Int × Int
  | 0 => (a, -1)
  | n + 1 => if (lsF y a n).1 < y n then (y n, (n : Int)) else lsF y a n
theorem lsF_bd {y : Nat → Int} {a lo hi : Int} (ha : lo ≤ a ∧ a ≤ hi) : ∀ n, (∀ i, i < n → lo ≤ y i ∧ y i ≤ hi) → lo ≤ (lsF y a n).1 ∧ (lsF y a n).1 ≤ hi ∧ a ≤ (lsF y a n).1 := by
  intro n
  induction n with
  | zero => intro _; exact ⟨ha.1, ha.2, Int.le_refl _⟩
  | succ n ih =>
    intro h
    have i1 := ih (fun i hi => h i (by omega))
    have i2 := h n (by omega)
    have e : lsF y a (n + 1) = if (lsF y a n).1 < y n then (y n, (n : Int)) else lsF y a n := rfl
    rw [e]
    split
    · dsimp only; omega
    · exact i1
theorem yl_range (hO : VO v) (hne : yD v hd day ≠ BD) (m : Int) : 0 ≤ yl v hd day m ∧ yl v hd day m ≤ 30000 := by
  have b := yl_bd hO hne m
  unfold yl
  generalize gof (best0 (insD v hd day 1 0 m) (v 4).toNat) = g at *
  generalize sm (v 5).toNat (tcI v m) = s at *
  omega
theorem c_lesson (hP : PO v hd V day 1 F) (hne : yD v hd day ≠ BD) : ∃ F', fX9_lesson 1 (gof (yD v hd day)) F = some ((lsF (fun h => yl v hd day (xshl 1 (h : Int))) (yl v hd day 0) (v 5).toNat).2, F') ∧ (∀ o k, (o ≤ 63 ∨ 71 ≤ o) → F' o k = F o k) := by
  have hO := hP.1.2.2.2.2
  have b5 := hO.2.2.2.1
  have b := yl_bd hO hne 0
  have ey : xw (gof (yD v hd day) + sm (v 5).toNat (tcI v 0)) = yl v hd day 0 := by
    unfold yl yD
    generalize gof (best0 (insD v hd day 1 0 0) (v 4).toNat) = g at *
    generalize sm (v 5).toNat (tcI v 0) = s at *
    exact xwn (by omega) (by omega)
  unfold fX9_lesson
  simp only [Nat.reduceAdd]
  rw [x_touchRows hP.1, Option.bind_some, ey]
  refine lp (fun n k (st : (Int × Int) × Mem) => fX9_lesson_b16 n 1 st.1.1 st.1.2 (k : Int) st.2) (v 5).toNat (fun k st => st.1 = lsF (fun h => yl v hd day (xshl 1 (h : Int))) (yl v hd day 0) k ∧ PO v hd V day 1 st.2 ∧ (∀ o k, (o ≤ 63 ∨ 71 ≤ o) → st.2 o k = F o k)) (fun r => ∃ F', r = some ((lsF (fun h => yl v hd day (xshl 1 (h : Int))) (yl v hd day 0) (v 5).toNat).2, F') ∧ (∀ o k, (o ≤ 63 ∨ 71 ≤ o) → F' o k = F o k)) ?_ ?_ FU 0 ((yl v hd day 0, -1), F) (by omega) ⟨rfl, hP, fun _ _ _ => rfl⟩ (FU_gt (by omega))
  · rintro n k ⟨st, K⟩ hk ⟨rfl, hK, kK⟩
    dsimp only at hK kK ⊢
    left
    have n5 : ¬ v 5 ≤ (k : Int) := by omega
    have hk1 : k < 2147483647 := by omega
    obtain ⟨K2, p1, p2, p3⟩ := c_yield hK hne (xshl 1 (k : Int))
    have e : lsF (fun h => yl v hd day (xshl 1 (h : Int))) (yl v hd day 0) (k + 1) = if (lsF (fun h => yl v hd day (xshl 1 (h : Int))) (yl v hd day 0) k).1 < yl v hd day (xshl 1 (k : Int)) then (yl v hd day (xshl 1 (k : Int)), (k : Int)) else lsF (fun h => yl v hd day (xshl 1 (h : Int))) (yl v hd day 0) k := rfl
    refine ⟨(lsF (fun h => yl v hd day (xshl 1 (h : Int))) (yl v hd day 0) (k + 1), K2), ⟨rfl, p2, fun o j ho => (p3 o j ho).trans (kK o j ho)⟩, ?_⟩
    dsimp only
    rw [e]
    generalize lsF (fun h => yl v hd day (xshl 1 (h : Int))) (yl v hd day 0) k = st
    rw [fX9_lesson_b16]
    simp only [Nat.reduceAdd]
    rw [pv_n hK.1, if_neg hK.1.2.1, pv_5 hK.1, if_neg n5, p1, Option.bind_some]
    dsimp only
    rw [xwS hk1]
    by_cases q : yl v hd day (xshl 1 (k : Int)) ≤ st.1
    · rw [if_pos q, if_neg (Int.not_lt.mpr q)]
    · rw [if_neg q, if_pos (Int.not_le.mp q)]
  · rintro n ⟨st, K⟩ ⟨rfl, hK, kK⟩
    dsimp only at hK kK ⊢
    have n5 : v 5 ≤ (((v 5).toNat : Nat) : Int) := by omega
    refine ⟨K, ?_, kK⟩
    rw [fX9_lesson_b16]
    simp only [Nat.reduceAdd]
    rw [pv_n hK.1, if_neg hK.1.2.1, pv_5 hK.1, if_pos n5]
/-- a lesson taken: the reference's question -/
theorem mat_set (h : MAS v hd day 1 G) {x y m : Int} (hm : ∀ c : Nat, c < 8 → (((c : Int) = x ∨ (c : Int) = y) ↔ xand (xshr m (c : Int)) 1 = 1)) : MAT v hd day m (mset (mset G 173 11 x) 173 13 y) := by
  obtain ⟨⟨hM, hO⟩, h1, hH, ⟨h11, h12, h13⟩, h2, ⟨h28, h29, h30, h31⟩, h3, h4, h5⟩ := h
  generalize hL : mset (mset G 173 11 x) 173 13 y = L
  have o1 : ∀ o j, ¬ (o = 173 ∧ (j = 11 ∨ j = 13)) → L o j = G o j := fun o j ho => by rw [← hL, mset_ne _ _ (by omega), mset_ne _ _ (by omega)]
  have e11 : L 173 11 = x := by rw [← hL, mset_ne _ _ (by omega), mset_eq]
  have e13 : L 173 13 = y := by rw [← hL, mset_eq]
  refine ⟨⟨hM.mono (o1 _ _ (by omega)) (fun k => o1 _ _ (by omega)), hO⟩, h1.1, fun z hz => (o1 _ _ (by omega)).trans (hH z hz), fun c hc => ?_, (o1 _ _ (by omega)).trans h12, (o1 _ _ (by omega)).trans h2, ⟨(o1 _ _ (by omega)).trans h28, (o1 _ _ (by omega)).trans h29, (o1 _ _ (by omega)).trans h30, (o1 _ _ (by omega)).trans h31⟩, (o1 _ _ (by omega)).trans h3, (o1 _ _ (by omega)).trans h4, (o1 _ _ (by omega)).trans h5⟩
  unfold mkd
  rw [e11, e13]
  by_cases q : (c : Int) = x ∨ (c : Int) = y
  · rw [if_pos q, if_pos ((hm c hc).mp q)]
  · rw [if_neg q, if_neg (fun z => q ((hm c hc).mpr z))]
/-- and given back -/
theorem mas_back {L L' : Mem} (h : MAS v hd day 1 G) (hL : ∀ o j, ¬ (o = 173 ∧ (j = 11 ∨ j = 13)) → L o j = G o j) (hL2 : ∀ o k, o ≠ 183 → o ≠ 184 → ¬ (o = 173 ∧ k = 27) → L' o k = L o k) : MAS v hd day 1 (mset (mset L' 173 11 (-1)) 173 13 (-1)) ∧ kM G (mset (mset L' 173 11 (-1)) 173 13 (-1)) := by
  refine mas_ref h (fun o j o1 o2 o3 => ?_)
  have n27 : ¬ (o = 173 ∧ j = 27) := fun z => o3 ⟨z.1, Or.inl z.2⟩
  by_cases y1 : o = 173 ∧ j = 13
  · rw [y1.1, y1.2, mset_eq]; exact h.2.2.2.1.2.2.symm
  · rw [mset_ne _ _ y1]
    by_cases y2 : o = 173 ∧ j = 11
    · rw [y2.1, y2.2, mset_eq]; exact h.2.2.2.1.1.symm
    · rw [mset_ne _ _ y2, hL2 o j o1 o2 n27, hL o j (by omega)]
theorem m_lesson (h : MAS v hd day 1 G) (hne : yD v hd day ≠ BD) : ∃ G', fX10_lessonOf 173 G = some ((lsF (fun h => yl v hd day (xshl 1 (h : Int))) (yl v hd day 0) (v 5).toNat).2, G') ∧ kM G G' := by
  have hO := h.1.2
  have b5 := hO.2.2.2.1
  obtain ⟨G1, p1, p2⟩ := m_yield (mat0 h) hne
  have m1 := mas_ref (L := G1) h (fun o j o1 o2 o3 => p2 o j o1 o2 (fun z => o3 ⟨z.1, Or.inl z.2⟩))
  have yr := fun m => yl_range hO hne m
  unfold fX10_lessonOf
  rw [p1, Option.bind_some]
  dsimp only
  refine lp (fun n k (st : (Int × Int) × Mem) => fX10_lessonOf_b12 n 173 (yl v hd day 0) st.1.1 st.1.2 (k : Int) st.2) (v 5).toNat (fun k st => (st.1.2 + yl v hd day 0, st.1.1) = lsF (fun h => yl v hd day (xshl 1 (h : Int))) (yl v hd day 0) k ∧ MAS v hd day 1 st.2 ∧ kM G st.2) (fun r => ∃ G', r = some ((lsF (fun h => yl v hd day (xshl 1 (h : Int))) (yl v hd day 0) (v 5).toNat).2, G') ∧ kM G G') ?_ ?_ FU 0 ((-1, 0), G1) (by omega) ⟨by show ((0 : Int) + yl v hd day 0, (-1 : Int)) = (yl v hd day 0, -1); rw [Int.zero_add], m1.1, m1.2⟩ (FU_gt (by omega))
  · rintro n k ⟨⟨x2, x3⟩, K⟩ hk ⟨e0, hK, kK⟩
    dsimp only at e0 hK kK ⊢
    left
    have n5 : ¬ v 5 ≤ (k : Int) := by omega
    have k8 : k < 8 := by omega
    have hk1 : k < 2147483647 := by omega
    have e11 : mset K 173 11 (k : Int) = mset (mset K 173 11 (k : Int)) 173 13 (-1) := by
      funext o j
      by_cases y : o = 173 ∧ j = 13
      · rw [y.1, y.2, mset_eq, mset_ne _ _ (by omega)]; exact hK.2.2.2.1.2.2
      · rw [mset_ne _ _ y]
    have hT : MAT v hd day (xshl 1 (k : Int)) (mset K 173 11 (k : Int)) := by
      rw [e11]
      refine mat_set hK (fun c hc => ?_)
      rw [bits1 k k8 c hc]
      omega
    obtain ⟨K2, q1, q2⟩ := m_yield hT hne
    have hb := mas_back (L := mset K 173 11 (k : Int)) (L' := K2) hK (fun o j ho => mset_ne _ _ (by omega)) q2
    have eb : mset K2 173 11 (-1) = mset (mset K2 173 11 (-1)) 173 13 (-1) := by
      funext o j
      by_cases y : o = 173 ∧ j = 13
      · rw [y.1, y.2, mset_eq, mset_ne _ _ (by omega), q2 _ _ (by decide) (by decide) (by omega), mset_ne _ _ (by omega)]; exact hK.2.2.2.1.2.2
      · rw [mset_ne _ _ y]
    rw [← eb] at hb
    have e : lsF (fun h => yl v hd day (xshl 1 (h : Int))) (yl v hd day 0) (k + 1) = if (lsF (fun h => yl v hd day (xshl 1 (h : Int))) (yl v hd day 0) k).1 < yl v hd day (xshl 1 (k : Int)) then (yl v hd day (xshl 1 (k : Int)), (k : Int)) else lsF (fun h => yl v hd day (xshl 1 (h : Int))) (yl v hd day 0) k := rfl
    have hy0 := yr 0
    have hyk := yr (xshl 1 (k : Int))
    show ∃ s' : (Int × Int) × Mem, _ ∧ fX10_lessonOf_b12 (n + 1) 173 (yl v hd day 0) x2 x3 (k : Int) K = fX10_lessonOf_b12 n 173 (yl v hd day 0) s'.1.1 s'.1.2 ((k + 1 : Nat) : Int) s'.2
    rw [fX10_lessonOf_b12, m_of hK.1.1 (i := 5) (x := 5) rfl (by omega), Option.bind_some, if_neg n5, q1, Option.bind_some]
    dsimp only
    rw [xwS hk1, e, ← e0]
    clear e e0 hT q1
    generalize yl v hd day (xshl 1 (k : Int)) = yk at *
    generalize yl v hd day 0 = y0 at *
    rw [xwn (x := yk - y0) (by omega) (by omega)]
    by_cases q : x3 < yk - y0
    · rw [if_pos q, if_pos (show (x3 + y0, x2).1 < yk by show x3 + y0 < yk; omega)]
      exact ⟨(((k : Int), yk - y0), mset K2 173 11 (-1)), ⟨by show (yk - y0 + y0, (k : Int)) = (yk, (k : Int)); rw [Int.sub_add_cancel], hb.1, kK.tr hb.2⟩, rfl⟩
    · rw [if_neg q, if_neg (show ¬ (x3 + y0, x2).1 < yk by show ¬ x3 + y0 < yk; omega)]
      exact ⟨((x2, x3), mset K2 173 11 (-1)), ⟨rfl, hb.1, kK.tr hb.2⟩, rfl⟩
  · rintro n ⟨⟨x2, x3⟩, K⟩ ⟨e0, hK, kK⟩
    dsimp only at e0 hK kK ⊢
    have n5 : v 5 ≤ (((v 5).toNat : Nat) : Int) := by omega
    refine ⟨K, ?_, kK⟩
    rw [fX10_lessonOf_b12, m_of hK.1.1 (i := 5) (x := 5) rfl (by omega), Option.bind_some, if_pos n5, ← e0]
end YLD
