/-! ===== both sides solved ===== -/
theorem Pa_any {I J : Ins} (hs : sameI I J) : ∀ n s h t g x, Pa I n s h t g x → ∃ y, Pa J n s h t g y := by
  obtain ⟨e1, e2, e3, e4, e5⟩ := id hs
  intro n
  induction n with
  | zero => rintro s h t g x ⟨a, b, c⟩; exact ⟨x, a, b, c⟩
  | succ n ih =>
    rintro s h t g x ⟨s1, h1, x1, x2, ⟨a1, a2⟩, a3, a4⟩
    obtain ⟨y, hy⟩ := ih s1 h1 t g x2 a3
    rcases a2 with ⟨b1, b2, b3, b4, b5⟩ | ⟨b1, b2, b3, b4, b5⟩
    · exact ⟨_, s1, h1, iG J s h * 65536, y, ⟨by rw [e2]; exact a1, Or.inl ⟨b1, b2, by rw [e1]; exact b3, by rw [e3]; exact b4, rfl⟩⟩, hy, rfl⟩
    · exact ⟨_, s1, h1, -(iS J h h1), y, ⟨by rw [e2]; exact a1, Or.inr ⟨b1, by rw [e4]; exact b2, by rw [e1]; exact b3, by rw [e4, same_fre hs]; exact b4, rfl⟩⟩, hy, rfl⟩
/-- there is a plan, whatever is gained -/
theorem feas {I J : Ins} {X Y : Nat → Nat → Int} (hW : WF I) (hV : WF J) (hs : sameI I J) (hX : IsX I tv0 X) (hY : IsX J tv0 Y) {s h : Nat} (h1 : s ≤ iN I) (hh : h < iH I) (hne : X s h ≠ BD) : Y s h ≠ BD := by
  obtain ⟨g, n, hp⟩ := PB_at hW hX h1 hh hne
  obtain ⟨y, hy⟩ := Pa_any hs n s h (iN I) g _ hp
  refine (PB_le hV hY (x := y) (by rw [hs.1]; exact h1) (by rw [hs.2.1]; exact hh) ⟨g, n, ?_⟩).1
  rw [hs.1]
  exact hy
section SOL
variable {v hd : Nat → Int} {V day days : Nat} {F : Mem} {c m : Int}
theorem PLd.mono {G : Mem} (h : PLd v hd V day days c m F) (hG : ∀ o k, o ≤ 66 ∨ o = 68 ∨ o = 69 → G o k = F o k) : PLd v hd V day days c m G := by
  obtain ⟨h1, h2, h3, h4, h5⟩ := h
  exact ⟨h1.mono (fun o k ho => hG o k (by omega)), fun k hk => (hG _ _ (by omega)).trans (h2 k hk), fun s k hs hk => (hG _ _ (by omega)).trans (h3 s k hs hk), fun s hs => (hG _ _ (by omega)).trans (h4 s hs), fun a b ha hb => ⟨(hG _ _ (by omega)).trans (h5 a b ha hb).1, (hG _ _ (by omega)).trans (h5 a b ha hb).2⟩⟩
/-- the class stands at a plan solved -/
def CSV (v hd : Nat → Int) (V day days : Nat) (c m : Int) (F : Mem) : Prop := PLd v hd V day days c m F ∧ IsX (insD v hd day days c m) tv0 (tbl F) ∧ (∀ s, s ≤ iN (insD v hd day days c m) → F 67 s = (fre (insD v hd day days c m) s : Int))
theorem PLd_solve (h : PLd v hd V day days c m F) : ∃ F', fX1_solve 63 (-1) F = some (gof (tbl F' 0 (v 4).toNat), F') ∧ CSV v hd V day days c m F' ∧ (∀ o k, o ≠ 67 → o ≠ 70 → F' o k = F o k) := by
  obtain ⟨F', a1, a2, a3, a4⟩ := x_solve (PIc_PL h) (-1)
  rw [tvG_m1] at a2
  exact ⟨F', a1, ⟨h.mono (fun o k ho => a4 o k (by omega) (by omega)), a2, a3⟩, a4⟩
theorem kX_pl {F F' : Mem} (h : ∀ o k, ¬ isPL o → F' o k = F o k) : kX F F' := fun o k ho => h o k (by unfold isPL; omega)
theorem kX_67 {F F' : Mem} (h : ∀ o k, o ≠ 67 → o ≠ 70 → F' o k = F o k) : kX F F' := fun o k ho => h o k (by omega) (by omega)
theorem st_lt (hO : VO v) : (v 4).toNat < (v 5).toNat := by have := hO.2.2.2.1; omega
/-- laid out and solved anew, with some touch or a crack -/
theorem PO_plan (h : PO v hd V day days F) (c m : Int) : ∃ F' F2, fX1_fill 63 c m F = some F2 ∧ fX1_solve 63 (-1) F2 = some (gof (tbl F' 0 (v 4).toNat), F') ∧ CSV v hd V day days c m F' ∧ kX F F' ∧ (∀ o k, (o ≤ 63 ∨ 71 ≤ o) → F' o k = F o k) := by
  obtain ⟨F2, p1, p2, p3⟩ := x_fill h c m
  obtain ⟨F3, q1, q2, q3⟩ := PLd_solve p2
  refine ⟨F3, F2, p1, q1, q2, (kX_pl p3).tr (kX_67 q3), fun o k ho => ?_⟩
  rw [q3 o k (by omega) (by omega), p3 o k (by unfold isPL; omega)]
theorem insD_H (v hd : Nat → Int) (day days : Nat) (c m : Int) : iH (insD v hd day days c m) = (v 5).toNat := rfl
theorem insP_same (v : Nat → Int) (p : Int) (N : Nat) (mu : Nat → Int) (g g' : Nat → Nat → Int) : sameI (insP v p N mu g) (insP v p N mu g') := ⟨rfl, rfl, rfl, rfl, rfl⟩
theorem insD_same (v hd hd' : Nat → Int) (day days : Nat) (c m c' m' : Int) : sameI (insD v hd day days c m) (insD v hd' day days c' m') := insP_same v (v 1) (days * (v 0).toNat) (muD v) _ _
/-- the score of all, and its GAIN -/
theorem all_bd {X : Nat → Nat → Int} (hO : VO v) (h7 : days ≤ 7) (hX : IsX (insD v hd day days c m) tv0 X) : X 0 (v 4).toNat = BD ∨ ((-33264 ≤ X 0 (v 4).toNat ∧ X 0 (v 4).toNat ≤ 198180864) ∧ 0 ≤ gof (X 0 (v 4).toNat) ∧ gof (X 0 (v 4).toNat) ≤ 3024) := by
  have hN := nd_le hO h7
  have bd := X_bd (insD_WF hO h7 c m) tv0_01 hX (s := 0) (h := (v 4).toNat) (Nat.zero_le _) (st_lt hO)
  rw [insD_N] at bd
  generalize days * (v 0).toNat = N at *
  generalize X 0 (v 4).toNat = x at *
  rcases bd with w | w
  · exact Or.inl w
  · right
    have hx : x ≠ -1000000000 := by omega
    have hg : gof x = (x + 65535) / 65536 := if_neg hx
    rw [hg]
    omega
end SOL
/-- BEST of a day on both sides, or none on either -/
theorem gain2 {F : Mem} (hR : RR F) (a l n d : Int) :
    (∃ (F1 : Mem) (V day : Nat) (v hd : Nat → Int), fX9_gainOfDay 1 a l n d F = some (gof (tbl F1 0 (v 4).toNat), F1) ∧ kX F F1 ∧ CSV v hd V day 1 0 0 F1 ∧ tbl F1 0 (v 4).toNat ≠ BD ∧ d = (day : Int) ∧ ∀ G, kX F G → ∃ G', fX10_isAsked 173 a l n d 1 G = some (1, G') ∧ kM G G' ∧ MSV v hd day 1 G' ∧ dcd G' 0 (v 4).toNat = tbl F1 0 (v 4).toNat) ∨
    (∃ F1, fX9_gainOfDay 1 a l n d F = some (-1, F1) ∧ kX F F1 ∧ ∀ G, kX F G → ∃ G', fX10_isAsked 173 a l n d 1 G = some (0, G') ∧ kM G G') := by
  unfold fX9_gainOfDay
  rcases ask2 hR a l n d 1 with ⟨F1, V, day, days, v, hd, s1, s2, s3, s4, s5, s6⟩ | ⟨F1, s1, s2, s3⟩
  · have hd1 : days = 1 := by omega
    subst hd1
    rw [s1, Option.bind_some]
    dsimp only
    rw [if_neg (by decide)]
    obtain ⟨F2, q1, q2, q3⟩ := PLd_solve s3
    have k2 : kX F F2 := s2.tr (kX_67 q3)
    simp only [Nat.reduceAdd]
    rw [q1, Option.bind_some]
    have hO := s3.1.1.2.2.2.2
    have hW := insD_WF (hd := hd) (day := day) hO (show 1 ≤ 7 by decide) 0 0
    have eq : ∀ G' : Mem, IsX (insD v hd day 1 0 0) tv0 (dcd G') → dcd G' 0 (v 4).toNat = tbl F2 0 (v 4).toNat := fun G' hG' => X_eq hW hG' q2.2.1 (Nat.zero_le _) (st_lt hO)
    by_cases y : tbl F2 0 (v 4).toNat = BD
    · right
      refine ⟨F2, by rw [y, gof_bd], k2, fun G hG => ?_⟩
      obtain ⟨G', r1, r2, r3⟩ := s6 G hG
      rw [eq G' r3.2.2, if_pos y] at r1
      exact ⟨G', r1, r2⟩
    · left
      refine ⟨F2, V, day, v, hd, rfl, k2, q2, y, s4, fun G hG => ?_⟩
      obtain ⟨G', r1, r2, r3⟩ := s6 G hG
      rw [eq G' r3.2.2, if_neg y] at r1
      exact ⟨G', r1, r2, r3, eq G' r3.2.2⟩
  · right
    rw [s1, Option.bind_some]
    dsimp only
    rw [if_pos rfl]
    exact ⟨F1, rfl, s2, s3⟩
theorem m_areSlots {v : Nat → Int} {G : Mem} (hM : MV v G) (f t : Int) : fX10_areSlots 173 f t G = some (if 0 ≤ f ∧ f < t ∧ t ≤ v 0 then 1 else 0) := by
  unfold fX10_areSlots
  rw [m_of hM (i := 0) (x := 0) rfl (by omega), Option.bind_some]
  by_cases q1 : f < 0
  · rw [if_pos q1, if_neg (by omega)]
  · rw [if_neg q1]
    by_cases q2 : t ≤ f
    · rw [if_pos q2, if_neg (by omega)]
    · rw [if_neg q2]
      by_cases q3 : v 0 < t
      · rw [if_pos q3, if_neg (by omega)]
      · rw [if_neg q3, if_pos (by omega)]
/-- what comes after a call that found no BEST -/
theorem no_best {gx gm : XG} {As : List PV} {F : Mem} (hR : RR F) {z : Int} {F1 G' : Mem} (hx : gx (vR 1 :: As) F (some (vI z)) F1) (hm : gm (vR 173 :: As) F1 (some (vI z)) G') (k1 : kX F F1) (k2 : kM F1 G') : ∃ (z : Int) (F1 F2 : Mem), gx (vR 1 :: As) F (some (vI z)) F1 ∧ gm (vR 173 :: As) F1 (some (vI z)) F2 ∧ RR F2 := ⟨z, F1, G', hx, hm, hR.step k1 k2⟩
theorem kX_of {F F' : Mem} (h : ∀ o k, (o ≤ 63 ∨ 80 ≤ o) → F' o k = F o k) : kX F F' := fun o k ho => h o k (by omega)
