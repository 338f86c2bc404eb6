section RFU
variable {I : Ins} {v : Nat → Int} {F : Mem}
def mgoal (v : Nat → Int) (F : Mem) : Int := if F 173 31 = 0 then -1 else v 4
/-- solved: the table, its cells, and what stayed -/
def SLm (I : Ins) (goal : Int) (F F' : Mem) : Prop := IsX I (tvG goal) (dcd F') ∧ (∀ t b, t ≤ iN I → b < iH I → cok (iN I - t) (F' 183 (8 * t + b)) (F' 184 (8 * t + b))) ∧ F' 173 27 = (iN I : Int) ∧ (∀ o k, o ≠ 183 → o ≠ 184 → ¬ (o = 173 ∧ k = 27) → F' o k = F o k)
theorem bsv_row2 {X Y : Nat → Nat → Int} (hW : WF I) {s h : Nat} (hs : s < iN I) (hh : h < iH I) (e : ∀ t b, s < t → X t b = Y t b) : bsv I X s h (iH I) = bsv I Y s h (iH I) := bsv_rows hW hs hh (fun t b t1 _ _ => e t b t1)
theorem m_solves (hP : PIm I v F) {days : Nat} (hd : days ≤ 7) (hN : days * (v 0).toNat = iN I) : ∃ F', fX10_solves 173 (days : Int) F = some F' ∧ SLm I (mgoal v F) F F' := by
  have hW := hP.2.2.2.2.1
  have hO := hP.2.1
  have b0 := hO.1
  have hN3 := hW.1
  have b4 := hO.2.2.2.1
  have ew : xw ((days : Int) * v 0) = (iN I : Int) := by
    rw [cast_mul (show 0 ≤ v 0 by omega), hN]; exact xwN (by omega)
  unfold fX10_solves
  rw [m_of hP.1 (i := 0) (x := 0) rfl (by omega), Option.bind_some, ew]
  generalize hG : mset F 173 27 (iN I : Int) = G
  have g1 : ∀ o k, ¬ (o = 173 ∧ k = 27) → G o k = F o k := fun o k h => by rw [← hG, mset_ne _ _ h]
  have g2 : G 173 27 = (iN I : Int) := by rw [← hG, mset_eq]
  have hPG : PIm I v G := hP.mono ⟨fun k hk => g1 _ _ (by omega), fun k => g1 _ _ (by omega), fun k => g1 _ _ (by omega)⟩
  -- rows
  have S : ∀ Z : Mem, (∀ o k, o ≠ 183 → o ≠ 184 → Z o k = G o k) → (∀ h, h < iH I → dcd Z (iN I) h = tvG (mgoal v F) h ∧ cok (iN I - iN I) (Z 183 (8 * iN I + h)) (Z 184 (8 * iN I + h))) → ∃ F', fX10_solves_b87 FU 173 (xw (Z 173 27 - 1)) Z = some F' ∧ SLm I (mgoal v F) F F' := by
    intro Z z1 z2
    have e0 : xw (Z 173 27 - 1) = (iN I : Int) - 1 - ((0 : Nat) : Int) := by rw [z1 173 27 (by omega) (by omega), g2, xwn (by omega) (by omega)]; omega
    rw [e0]
    clear e0
    refine lp (fun n k (X : Mem) => fX10_solves_b87 n 173 ((iN I : Int) - 1 - (k : Int)) X) (iN I) (fun k X => (∀ o j, o ≠ 183 → o ≠ 184 → X o j = G o j) ∧ IsXf I (tvG (mgoal v F)) (dcd X) (iN I - k) ∧ ∀ t b, iN I - k ≤ t → t ≤ iN I → b < iH I → cok (iN I - t) (X 183 (8 * t + b)) (X 184 (8 * t + b))) (fun r => ∃ F', r = some F' ∧ SLm I (mgoal v F) F F') ?_ ?_ FU 0 Z (by omega) ⟨z1, ⟨fun h hh => (z2 h hh).1, fun s s1 s2 => by omega⟩, fun t b t1 t2 hb => ?_⟩ (FU_gt (by omega))
    · rintro n k X hk ⟨q1, q2, q3⟩
      left
      obtain ⟨s, hs⟩ : ∃ s : Nat, (iN I : Int) - 1 - (k : Int) = (s : Int) ∧ s + k + 1 = iN I := ⟨iN I - 1 - k, by omega, by omega⟩
      have n0 : ¬ (s : Int) < 0 := by omega
      have ek : (iN I : Int) - 1 - ((k + 1 : Nat) : Int) = (s : Int) + -1 := by omega
      have w : xw ((s : Int) + -1) = (s : Int) + -1 := xwn (by omega) (by omega)
      have hPX := hPG.mono (sq_of q1)
      obtain ⟨Y, r1, r2, r3, r4⟩ := m_row1 hPX ((q1 173 27 (by decide) (by decide)).trans g2) (s := s) (by omega) (fun t b t1 t2 hb => q3 t b (by omega) t2 hb) (fX10_solves_b87 n)
      have hrow : ∀ t b, s < t → dcd Y t b = dcd X t b := fun t b ht => by
        unfold dcd
        rw [(r3 (8 * t + b) (by omega)).1, (r3 (8 * t + b) (by omega)).2]
      refine ⟨Y, ⟨fun o j a b => (r2 o j a b).trans (q1 o j a b), ⟨fun h hh => ?_, fun t t1 t2 h hh => ?_⟩, fun t b t1 t2 hb => ?_⟩, ?_⟩
      · rw [hrow _ _ (by omega)]; exact q2.1 h hh
      · by_cases y : t = s
        · subst y
          rw [(r4 h hh).1]
          exact (bsv_row2 hW (by omega) hh (fun u b hu => hrow u b hu)).symm
        · rw [hrow t h (by omega), q2.2 t (by omega) t2 h hh]
          exact (bsv_row2 hW t2 hh (fun u b hu => hrow u b (by omega))).symm
      · by_cases y : t = s
        · subst y; exact (r4 b hb).2
        · rw [(r3 (8 * t + b) (by omega)).1, (r3 (8 * t + b) (by omega)).2]
          exact q3 t b (by omega) t2 hb
      · show fX10_solves_b87 (n + 1) 173 ((iN I : Int) - 1 - (k : Int)) X = fX10_solves_b87 n 173 ((iN I : Int) - 1 - ((k + 1 : Nat) : Int)) Y
        rw [hs.1, ek, fX10_solves_b87, if_neg n0, pim_M hPX (show s < iN I by omega), Option.bind_some, r1, w]
    · rintro n X ⟨q1, q2, q3⟩
      have n0 : (iN I : Int) - 1 - ((iN I : Nat) : Int) < 0 := by omega
      refine ⟨X, ?_, ⟨q2.1, fun s hs h hh => q2.2 s (by omega) hs h hh⟩, fun t b t2 hb => q3 t b (by omega) t2 hb, (q1 173 27 (by decide) (by decide)).trans g2, fun o k a b c => (q1 o k a b).trans (g1 o k c)⟩
      show fX10_solves_b87 (n + 1) 173 ((iN I : Int) - 1 - ((iN I : Nat) : Int)) X = _
      rw [fX10_solves_b87, if_pos n0]
    · have : t = iN I := by omega
      subst this
      exact (z2 b hb).2
  refine lp (fun n h (X : Mem) => fX10_solves_b13 n 173 (h : Int) X) (iH I) (fun h X => (∀ o k, o ≠ 183 → o ≠ 184 → X o k = G o k) ∧ ∀ j, j < h → dcd X (iN I) j = tvG (mgoal v F) j ∧ cok (iN I - iN I) (X 183 (8 * iN I + j)) (X 184 (8 * iN I + j))) (fun r => ∃ F', r = some F' ∧ SLm I (mgoal v F) F F') ?_ ?_ FU 0 G (Nat.zero_le _) ⟨fun _ _ _ _ => rfl, fun j hj => absurd hj (Nat.not_lt_zero j)⟩ (FU_gt (by omega))
  · rintro n h X hh ⟨q1, q2⟩
    left
    have hPX := hPG.mono (sq_of q1)
    have nH : ¬ (iH I : Int) ≤ (h : Int) := by omega
    have N4 : iN I ≤ 400 := by omega
    have h4 : h ≤ 400 := by omega
    have h8 : h < 8 := by omega
    have b1 := b2696 (a := iN I) (b := h) (by omega) h8
    have hk1 : h < 2147483647 := by omega
    have e27 : X 173 27 = (iN I : Int) := (q1 173 27 (by decide) (by decide)).trans g2
    have e31 : X 173 31 = F 173 31 := (q1 173 31 (by decide) (by decide)).trans (g1 173 31 (by decide))
    have E : ∃ u : Int, ((u = 0 ∧ tvG (mgoal v F) h = 0) ∨ (u = -1000000 ∧ tvG (mgoal v F) h = BD)) ∧ fX10_solves_b13 (n + 1) 173 (h : Int) X = fX10_solves_b13 n 173 ((h + 1 : Nat) : Int) (mset (mset X 183 (8 * iN I + h) u) 184 (8 * iN I + h) 0) := by
      have m27 : ∀ u : Int, mset X 183 (8 * iN I + h) u 173 27 = (iN I : Int) := fun u => by rw [mset_ne _ _ (by omega)]; exact e27
      rw [fX10_solves_b13, pim_5 hPX, Option.bind_some, if_neg nH, e27, e31, xw8' N4 h4, al183, al184, xwS hk1]
      simp only [if_pos b1, Int.toNat_natCast, Nat.reduceAdd, m27]
      rw [xw8' N4 h4]
      simp only [if_pos b1, Int.toNat_natCast]
      unfold tvG mgoal
      by_cases y1 : F 173 31 = 0
      · exact ⟨0, Or.inl ⟨rfl, by rw [if_pos y1, if_pos (Or.inl rfl)]⟩, by rw [if_pos y1]⟩
      · rw [if_neg y1, m_of hPX.1 (i := 4) (x := 4) rfl (by omega), Option.bind_some]
        by_cases y2 : (h : Int) = v 4
        · exact ⟨0, Or.inl ⟨rfl, by rw [if_pos (Or.inr y2.symm)]⟩, by rw [if_pos y2, ite_self]⟩
        · exact ⟨-1000000, Or.inr ⟨rfl, by rw [if_neg (fun z => z.elim (fun w => by omega) (fun w => y2 w.symm))]⟩, by rw [if_neg y2, if_neg y1]⟩
    obtain ⟨u, hu, E⟩ := E
    refine ⟨_, ⟨fun o k a b => ?_, fun j hj => ?_⟩, E⟩
    · rw [mset_ne _ _ (by omega), mset_ne _ _ (by omega)]; exact q1 o k a b
    · rw [dcd_set h8 (by omega)]
      by_cases y : j = h
      · subst y
        rw [if_pos ⟨rfl, rfl⟩, mset_ne _ _ (by omega), mset_eq, mset_eq]
        rcases hu with ⟨h1, h2⟩ | ⟨h1, h2⟩
        · rw [h1, h2]
          exact ⟨rfl, Or.inr (by omega)⟩
        · rw [h1, h2]
          exact ⟨rfl, Or.inl ⟨rfl, rfl⟩⟩
      · rw [if_neg (by omega), mset_ne _ _ (by omega), mset_ne _ _ (by omega), mset_ne _ _ (by omega), mset_ne _ _ (by omega)]
        exact q2 j (by omega)
  · rintro n X ⟨q1, q2⟩
    have hPX := hPG.mono (sq_of q1)
    show ∃ F', fX10_solves_b13 (n + 1) 173 ((iH I : Nat) : Int) X = some F' ∧ _
    rw [fX10_solves_b13, pim_5 hPX, Option.bind_some, if_pos (Int.le_refl _)]
    exact S X q1 q2
/-- GAIN of the whole plan, as it stands in the reference -/
def grw (x : Int) : Int := if x = BD then -1000000 else gof x
theorem m_gain (hM : MV v F) (hO : VO v) (hc : cok (iN I) (F 183 (v 4).toNat) (F 184 (v 4).toNat)) (hN : iN I ≤ 336) : fX10_gain 173 F = some (grw (dcd F 0 (v 4).toNat)) := by
  have b4 := hO.2.2.2.1
  obtain ⟨z, hz⟩ := nat_of b4.1
  have hz2 : (v 4).toNat = z := by omega
  have bz : (0 : Int) ≤ (z : Int) ∧ (z : Int) < ((2696 : Nat) : Int) := by omega
  rw [hz2] at hc ⊢
  unfold fX10_gain
  rw [m_of hM (i := 4) (x := 4) rfl (by omega), Option.bind_some, hz, al183, if_pos bz, Int.toNat_natCast]
  have ed : dcd F 0 z = sco (F 183 z) (F 184 z) := by unfold dcd; rw [Nat.mul_zero, Nat.zero_add]
  obtain ⟨h1, h2⟩ := sco_gof hN hc
  rw [ed]
  unfold grw
  by_cases q : sco (F 183 z) (F 184 z) = BD
  · rw [if_pos q, ← h1 q]
  · rw [if_neg q, (h2 q).2.1]
theorem sl_gain {goal : Int} {F' : Mem} (hP : PIm I v F) (hS : SLm I goal F F') : PIm I v F' ∧ fX10_gain 173 F' = some (grw (dcd F' 0 (v 4).toNat)) := by
  have hW := hP.2.2.2.2.1
  have hN := hW.1
  have b4 := hP.2.1.2.2.2.1
  obtain ⟨h1, h2, h3, h4⟩ := hS
  have hP' : PIm I v F' := hP.mono ⟨fun k hk => h4 _ _ (by decide) (by decide) (by omega), fun k => h4 _ _ (by decide) (by decide) (by omega), fun k => h4 _ _ (by decide) (by decide) (by omega)⟩
  have hc := h2 0 (v 4).toNat (Nat.zero_le _) (by have := hP.2.2.2.1; omega)
  rw [Nat.mul_zero, Nat.zero_add] at hc
  exact ⟨hP', m_gain hP'.1 hP'.2.1 hc hN.1⟩
end RFU
