section SLW
variable {I : Ins} {v : Nat → Int} {V : Nat} {F : Mem}
theorem x_gof {x : Int} (h : x = BD ∨ (-65535 ≤ x ∧ x ≤ 1000000000)) : fX1_gainOf x = gof x := by
  unfold fX1_gainOf gof
  rcases h with rfl | ⟨h1, h2⟩
  · rw [if_neg (fun z => z rfl), if_pos rfl]
  · have hne : x ≠ -1000000000 := by omega
    have hq : 0 ≤ (x + 65535) / 65536 ∧ (x + 65535) / 65536 < 2147483648 := by omega
    rw [if_pos hne, if_neg hne, xwn (x := x + 65536) (by omega) (by omega), xwn (x := x + 65536 - 1) (by omega) (by omega), Int.tdiv_eq_ediv_of_nonneg (by omega), show x + 65536 - 1 = x + 65535 by omega, xwn (by omega) (by omega)]
def tvG (goal : Int) (h : Nat) : Int := if goal = -1 ∨ goal = (h : Int) then 0 else BD
theorem tvG_01 (goal : Int) : tv01 (tvG goal) := fun h => by
  unfold tvG
  split
  · exact Or.inr rfl
  · exact Or.inl rfl
theorem tvG_m1 : tvG (-1) = tv0 := funext fun h => if_pos (Or.inl rfl)
theorem bsv_rows {X Y : Nat → Nat → Int} (hW : WF I) {s h : Nat} (hs : s < iN I) (hh : h < iH I) (e : ∀ t b, s < t → t ≤ iN I → b < iH I → X t b = Y t b) : bsv I X s h (iH I) = bsv I Y s h (iH I) := by
  have hfs := (fre_sp (I := I) (iN I - s) s (by omega)).1
  refine bsv_congr ?_ _ (fun b hb => ?_)
  · unfold stv
    rw [e (s + 1) h (by omega) (by omega) hh]
  · unfold gov
    by_cases y : b = h ∨ fre I s < iT I h b
    · rw [if_pos (y.elim Or.inl (fun z => Or.inr (Or.inl z))), if_pos (y.elim Or.inl (fun z => Or.inr (Or.inl z)))]
    · have t1 := hW.2.2.1 h b hh hb (fun z => y (Or.inl z.symm))
      rw [e (s + iT I h b) b (by omega) (by omega) hb]
/-- the table is there -/
theorem tbl_set {s h : Nat} {x : Int} {t b : Nat} (hh : h < 8) (hb : b < 8) : tbl (mset F 70 (8 * s + h) x) t b = if t = s ∧ b = h then x else tbl F t b := by
  unfold tbl
  by_cases y : t = s ∧ b = h
  · rw [if_pos y, y.1, y.2, mset_eq]
  · rw [if_neg y, mset_ne _ _ (by omega)]
theorem x_solve (hP : PIc I v V F) (goal : Int) : ∃ F', fX1_solve 63 goal F = some (gof (tbl F' 0 (v 4).toNat), F') ∧ IsX I (tvG goal) (tbl F') ∧ (∀ s, s ≤ iN I → F' 67 s = (fre I s : Int)) ∧ (∀ o k, o ≠ 67 → o ≠ 70 → F' o k = F o k) := by
  obtain ⟨h1, h2, h3, hW, h5, h6, h7, h8⟩ := id hP
  have hN := hW.1
  have hO := h1.2.2.2.2
  have b4 := hO.2.2.2.1
  obtain ⟨G, g1, g2, g3⟩ := x_countFree hP
  have hPG : PIc I v V G := hP.mono (fun o k ho => g3 o k (by omega))
  unfold fX1_solve
  rw [g1, Option.bind_some, pv_n hPG.1, if_neg h1.2.1, pv_5 hPG.1, h3]
  -- the rows
  have rowsL : ∀ Z : Mem, (∀ o j, o ≠ 70 → Z o j = G o j) → (∀ h, h < iH I → tbl Z (iN I) h = tvG goal h) → ∃ F', fX1_solve_b65 FU 63 (iH I : Int) (xw (Z 63 4 - 1)) Z = some (gof (tbl F' 0 (v 4).toNat), F') ∧ IsX I (tvG goal) (tbl F') ∧ (∀ s, s ≤ iN I → F' 67 s = (fre I s : Int)) ∧ (∀ o k, o ≠ 67 → o ≠ 70 → F' o k = F o k) := by
    intro Z z1 z2
    have e0 : xw (Z 63 4 - 1) = (iN I : Int) - 1 - ((0 : Nat) : Int) := by rw [z1 63 4 (by omega), hPG.2.1, xwn (by omega) (by omega)]; omega
    rw [e0]
    clear e0
    refine lp (fun n k (X : Mem) => fX1_solve_b65 n 63 (iH I : Int) ((iN I : Int) - 1 - (k : Int)) X) (iN I) (fun k X => (∀ o j, o ≠ 70 → X o j = G o j) ∧ IsXf I (tvG goal) (tbl X) (iN I - k)) (fun r => ∃ F', r = some (gof (tbl F' 0 (v 4).toNat), F') ∧ IsX I (tvG goal) (tbl F') ∧ (∀ s, s ≤ iN I → F' 67 s = (fre I s : Int)) ∧ (∀ o k, o ≠ 67 → o ≠ 70 → F' o k = F o k)) ?_ ?_ FU 0 Z (by omega) ⟨z1, z2, fun s s1 s2 => by omega⟩ (FU_gt (by omega))
    · rintro n k X hk ⟨q1, q2⟩
      left
      obtain ⟨s, hs⟩ : ∃ s : Nat, (iN I : Int) - 1 - (k : Int) = (s : Int) ∧ s + k + 1 = iN I := ⟨iN I - 1 - k, by omega, by omega⟩
      have n0 : ¬ (s : Int) < 0 := by omega
      have ek : (iN I : Int) - 1 - ((k + 1 : Nat) : Int) = (s : Int) + -1 := by omega
      have E : fX1_solve_b65 (n + 1) 63 (iH I : Int) (s : Int) X = fX1_solve_b72 (fX1_solve_b65 n) FU 63 (iH I : Int) (s : Int) 0 X := by
        rw [fX1_solve_b65, if_neg n0]
      show ∃ s', _ ∧ fX1_solve_b65 (n + 1) 63 (iH I : Int) ((iN I : Int) - 1 - (k : Int)) X = fX1_solve_b65 n 63 (iH I : Int) ((iN I : Int) - 1 - ((k + 1 : Nat) : Int)) s'
      rw [hs.1, ek, E]
      have hbd : ∀ t b, s < t → t ≤ iN I → b < iH I → sbd (iN I - t) (tbl X t b) := fun t b t1 t2 hb => Xf_bdd hW (tvG_01 goal) q2 (iN I - t) t (by omega) (by omega) t2 b hb
      refine lp (fun m j (Y : Mem) => fX1_solve_b72 (fX1_solve_b65 n) m 63 (iH I : Int) (s : Int) (j : Int) Y) (iH I) (fun j Y => (∀ o i, o ≠ 70 → Y o i = G o i) ∧ (∀ t b, s < t → b < iH I → tbl Y t b = tbl X t b) ∧ (∀ b, b < j → tbl Y s b = bsv I (tbl X) s b (iH I))) (fun r => ∃ s' : Mem, ((∀ o j, o ≠ 70 → s' o j = G o j) ∧ IsXf I (tvG goal) (tbl s') (iN I - (k + 1))) ∧ r = fX1_solve_b65 n 63 (iH I : Int) ((s : Int) + -1) s') ?_ ?_ FU 0 X (Nat.zero_le _) ⟨q1, fun _ _ _ _ => rfl, fun b hb => absurd hb (by omega)⟩ (FU_gt (by omega))
      · rintro m j Y hj ⟨p1, p2, p3⟩
        left
        have hPY : PIc I v V Y := hPG.mono (fun o i ho => p1 o i (by omega))
        have hf : Y 67 s = (fre I s : Int) := (p1 67 s (by omega)).trans (g2 s (by omega))
        have bf := x_bestFrom hPY (s := s) (h := j) (by omega) hj hf (fun t b t1 t2 hb => by rw [p2 t b t1 hb]; exact hbd t b t1 t2 hb)
        rw [bsv_rows hW (s := s) (h := j) (by omega) hj (X := tbl Y) (Y := tbl X) (fun t b t1 t2 hb => p2 t b t1 hb)] at bf
        have nH : ¬ (iH I : Int) ≤ (j : Int) := by omega
        have s4 : s ≤ 400 := by omega
        have j4 : j ≤ 400 := by omega
        have hk1 : j < 2147483647 := by omega
        have b1 := b2696 (a := s) (b := j) (by omega) (by omega)
        have j8 : j < 8 := by omega
        refine ⟨mset Y 70 (8 * s + j) (bsv I (tbl X) s j (iH I)), ⟨fun o i ho => ?_, fun t b t1 hb => ?_, fun b hb => ?_⟩, ?_⟩
        · rw [mset_ne _ _ (by omega)]; exact p1 o i ho
        · rw [tbl_set j8 (by omega), if_neg (by omega)]; exact p2 t b t1 hb
        · rw [tbl_set j8 (by omega)]
          by_cases y : b = j
          · subst y; rw [if_pos ⟨rfl, rfl⟩]
          · rw [if_neg (by omega)]; exact p3 b (by omega)
        · show fX1_solve_b72 (fX1_solve_b65 n) (m + 1) 63 (iH I : Int) (s : Int) (j : Int) Y = _
          rw [fX1_solve_b72, if_neg nH, bf, Option.bind_some, xw8 s4 j4, a70, if_pos b1, Int.toNat_natCast, xwS hk1]
      · rintro m Y ⟨p1, p2, p3⟩
        have w : xw ((s : Int) + -1) = (s : Int) + -1 := xwn (by omega) (by omega)
        refine ⟨Y, ⟨p1, fun h hh => ?_, fun t t1 t2 h hh => ?_⟩, ?_⟩
        · rw [p2 _ _ (by omega) hh]; exact q2.1 h hh
        · by_cases y : t = s
          · subst y
            rw [p3 h hh]
            exact (bsv_rows hW (by omega) hh (fun u b u1 u2 hb => p2 u b u1 hb)).symm
          · rw [p2 t h (by omega) hh, q2.2 t (by omega) t2 h hh]
            exact (bsv_rows hW (by omega) hh (fun u b u1 u2 hb => p2 u b (by omega) hb)).symm
        · show fX1_solve_b72 (fX1_solve_b65 n) (m + 1) 63 (iH I : Int) (s : Int) ((iH I : Nat) : Int) Y = _
          rw [fX1_solve_b72, if_pos (Int.le_refl _), w]
    · rintro n X ⟨q1, q2⟩
      have hPX : PIc I v V X := hPG.mono (fun o i ho => q1 o i (by omega))
      have n0 : (iN I : Int) - 1 - ((iN I : Nat) : Int) < 0 := by omega
      have hX : IsX I (tvG goal) (tbl X) := ⟨q2.1, fun s hs h hh => q2.2 s (by omega) hs h hh⟩
      obtain ⟨st, hst⟩ := nat_of b4.1
      have hst2 : (v 4).toNat = st := by omega
      have bst : (0 : Int) ≤ (st : Int) ∧ (st : Int) < ((2696 : Nat) : Int) := by omega
      have bd := X_bd hW (tvG_01 goal) hX (s := 0) (h := st) (by omega) (by omega)
      have bd2 : tbl X 0 st = BD ∨ (-65535 ≤ tbl X 0 st ∧ tbl X 0 st ≤ 1000000000) := by
        rcases bd with w | w
        · exact Or.inl w
        · right; omega
      refine ⟨X, ?_, hX, fun s hs => (q1 67 s (by omega)).trans (g2 s hs), fun o k o1 o2 => (q1 o k o2).trans (g3 o k o1)⟩
      show fX1_solve_b65 (n + 1) 63 (iH I : Int) ((iN I : Int) - 1 - ((iN I : Nat) : Int)) X = _
      rw [fX1_solve_b65, if_pos n0, pv_n hPX.1, if_neg h1.2.1, pv_4 hPX.1, hst2, hst, a70, if_pos bst, show (63 + 7 : Nat) = 70 from rfl]
      have et : X 70 st = tbl X 0 st := by unfold tbl; rw [Nat.mul_zero, Nat.zero_add]
      rw [et, x_gof bd2]
  refine lp (fun n h (X : Mem) => fX1_solve_b17 n 63 goal (iH I : Int) (h : Int) X) (iH I) (fun h X => (∀ o j, o ≠ 70 → X o j = G o j) ∧ ∀ j, j < h → tbl X (iN I) j = tvG goal j) (fun r => ∃ F', r = some (gof (tbl F' 0 (v 4).toNat), F') ∧ IsX I (tvG goal) (tbl F') ∧ (∀ s, s ≤ iN I → F' 67 s = (fre I s : Int)) ∧ (∀ o k, o ≠ 67 → o ≠ 70 → F' o k = F o k)) ?_ ?_ FU 0 G (Nat.zero_le _) ⟨fun _ _ _ => rfl, fun j hj => absurd hj (by omega)⟩ (FU_gt (by omega))
  · rintro n h X hh ⟨q1, q2⟩
    left
    have nH : ¬ (iH I : Int) ≤ (h : Int) := by omega
    have N4 : iN I ≤ 400 := by omega
    have h4 : h ≤ 400 := by omega
    have b1 := b2696 (a := iN I) (b := h) (by omega) (by omega)
    have h8' : h < 8 := by omega
    have hk1 : h < 2147483647 := by omega
    have e63 : X 63 4 = (iN I : Int) := (q1 63 4 (by omega)).trans hPG.2.1
    refine ⟨mset X 70 (8 * iN I + h) (tvG goal h), ⟨fun o j ho => ?_, fun j hj => ?_⟩, ?_⟩
    · rw [mset_ne _ _ (by omega)]; exact q1 o j ho
    · rw [tbl_set h8' (by omega)]
      by_cases y : j = h
      · subst y; rw [if_pos ⟨rfl, rfl⟩]
      · rw [if_neg (by omega)]; exact q2 j (by omega)
    · show fX1_solve_b17 (n + 1) 63 goal (iH I : Int) (h : Int) X = fX1_solve_b17 n 63 goal (iH I : Int) ((h + 1 : Nat) : Int) _
      rw [fX1_solve_b17, if_neg nH, e63, xw8 N4 h4, a70, xwS hk1]
      simp only [if_pos b1, Int.toNat_natCast, Nat.reduceAdd]
      unfold tvG
      by_cases y1 : goal = -1
      · rw [if_pos y1, if_pos (Or.inl y1)]
      · rw [if_neg y1]
        by_cases y2 : goal = (h : Int)
        · rw [if_neg (fun z => z y2), if_pos (Or.inr y2)]
        · rw [if_pos y2, if_neg (fun z => z.elim y1 y2)]
  · rintro n X ⟨q1, q2⟩
    show ∃ F', fX1_solve_b17 (n + 1) 63 goal (iH I : Int) ((iH I : Nat) : Int) X = _ ∧ _
    rw [fX1_solve_b17, if_pos (Int.le_refl _)]
    exact rowsL X q1 q2
theorem x_climb (hP : PIc I v V F) (hb : sbd (iN I) (tbl F 0 (v 4).toNat)) : fX1_climb 63 F = some (if tbl F 0 (v 4).toNat = BD then -1 else gof (tbl F 0 (v 4).toNat) * 65536 - tbl F 0 (v 4).toNat) := by
  obtain ⟨h1, h2, h3, hW, -⟩ := id hP
  have hN := hW.1
  have b4 := h1.2.2.2.2.2.2.2.1
  obtain ⟨st, hst⟩ := nat_of b4.1
  have hst2 : (v 4).toNat = st := by omega
  have bst : (0 : Int) ≤ (st : Int) ∧ (st : Int) < ((2696 : Nat) : Int) := by omega
  rw [hst2] at hb ⊢
  have et : F 70 st = tbl F 0 st := by unfold tbl; rw [Nat.mul_zero, Nat.zero_add]
  have bd2 : tbl F 0 st = BD ∨ (-65535 ≤ tbl F 0 st ∧ tbl F 0 st ≤ 1000000000) := by
    rcases hb with w | w
    · exact Or.inl w
    · right; omega
  unfold fX1_climb
  rw [pv_n h1, if_neg h1.2.1, pv_4 h1, hst, a70, if_pos bst, Int.toNat_natCast, show (63 + 7 : Nat) = 70 from rfl, et, x_gof bd2]
  generalize tbl F 0 st = y at *
  by_cases q : y = -1000000000
  · rw [if_neg (fun z => z q), if_pos q]
  · rw [if_pos q, if_neg q]
    have hg : gof y = (y + 65535) / 65536 := by unfold gof; rw [if_neg q]
    rw [hg]
    have : y ≠ BD := q
    rcases bd2 with w | w
    · exact absurd w q
    · rw [xwn (x := (y + 65535) / 65536 * 65536) (by omega) (by omega), xwn (by omega) (by omega)]
end SLW
