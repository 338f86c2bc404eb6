section RFT
variable {I : Ins} {v : Nat → Int} {F : Mem}
theorem dcd_ge {k : Nat} (hk : k ≤ 336) {s h : Nat} (hc : cok k (F 183 (8 * s + h)) (F 184 (8 * s + h))) : ¬ dcd F s h < BD := by
  rcases sbd_ge hk (sco_bd hc) with w | w
  · have w : dcd F s h = BD := w
    rw [w]; exact Int.lt_irrefl _
  · exact Int.not_lt.mpr (Int.le_of_lt w)
theorem m_goesTo (hP : PIm I v F) (h27 : F 173 27 = (iN I : Int)) {s h g : Nat} (hs : s < iN I) (hh : h < iH I) (hg : g < iH I) (hr : ∀ t b, s < t → t ≤ iN I → b < iH I → cok (iN I - t) (F 183 (8 * t + b)) (F 184 (8 * t + b))) (hc : cok (iN I - s) (F 183 (8 * s + h)) (F 184 (8 * s + h))) :
    ∃ F', fX10_goesTo 173 (h : Int) (g : Int) (s : Int) ((8 * s + h : Nat) : Int) F = some F' ∧ dcd F' s h = (if dcd F s h < gov I (dcd F) s h g then gov I (dcd F) s h g else dcd F s h) ∧ cok (iN I - s) (F' 183 (8 * s + h)) (F' 184 (8 * s + h)) ∧ (∀ o k, ¬ ((o = 183 ∨ o = 184) ∧ k = 8 * s + h) → F' o k = F o k) := by
  have hW := hP.2.2.2.2.1
  have hN := hW.1
  have t99 := hP.2.2.2.2.2.1 h g hh hg
  have stay : gov I (dcd F) s h g = BD → ∃ F', some F = some F' ∧ dcd F' s h = (if dcd F s h < gov I (dcd F) s h g then gov I (dcd F) s h g else dcd F s h) ∧ cok (iN I - s) (F' 183 (8 * s + h)) (F' 184 (8 * s + h)) ∧ (∀ o k, ¬ ((o = 183 ∨ o = 184) ∧ k = 8 * s + h) → F' o k = F o k) := by
    intro e
    refine ⟨F, rfl, ?_, hc, fun _ _ _ => rfl⟩
    rw [e, if_neg (dcd_ge (by omega) hc)]
  have hst : s + iT I h g < 2147483648 := by omega
  unfold fX10_goesTo
  rw [pim_T hP hh hg, Option.bind_some, xwA hst, h27]
  by_cases q1 : g = h
  · rw [if_pos (by omega)]
    exact stay (by unfold gov; rw [if_pos (Or.inl q1)])
  · rw [if_neg (by omega)]
    have hfs := (fre_sp (I := I) (iN I - s) s (by omega)).1
    by_cases q2 : iN I < s + iT I h g
    · rw [if_pos (by omega)]
      exact stay (by unfold gov; rw [if_pos (Or.inr (Or.inl (by omega)))])
    · have t1 := hW.2.2.1 h g hh hg (fun z => q1 z.symm)
      have s4 : s + iT I h g ≤ 400 := by omega
      have g4 : g ≤ 400 := by omega
      have bt := b2696 (a := s + iT I h g) (b := g) (by omega) (by omega)
      have w8 : xw (xw (8 * ((s + iT I h g : Nat) : Int)) + (g : Int)) = ((8 * (s + iT I h g) + g : Nat) : Int) := by
        rw [Int.mul_comm]; exact xw8 s4 g4
      have hct := hr (s + iT I h g) g (by omega) (by omega) hg
      have fr := m_free hP (s := s) (t := s + iT I h g) (by omega) (by omega)
      rw [if_neg (by omega), w8, al183, al184, fr]
      simp only [if_pos bt, Int.toNat_natCast, Nat.reduceAdd, Option.bind_some]
      rw [i11]
      have ed : dcd F (s + iT I h g) g = sco (F 183 (8 * (s + iT I h g) + g)) (F 184 (8 * (s + iT I h g) + g)) := rfl
      generalize F 183 (8 * (s + iT I h g) + g) = gg at *
      generalize F 184 (8 * (s + iT I h g) + g) = cc at *
      by_cases q3 : gg < 0
      · have e : dcd F (s + iT I h g) g = BD := by rw [ed]; exact if_pos q3
        rw [if_pos q3]
        exact stay (by unfold gov; rw [if_pos (Or.inr (Or.inr e))])
      · rw [if_neg q3]
        by_cases q4 : iT I h g ≤ fre I s
        · have c1 := hW.2.2.2 h g hh hg
          have ec : dcd F (s + iT I h g) g = 65536 * gg - cc := by rw [ed]; exact if_neg q3
          have hne : dcd F (s + iT I h g) g ≠ BD := by
            rw [ec]
            intro z
            have z : 65536 * gg - cc = -1000000000 := z
            rcases hct with w | w <;> omega
          have eg : gov I (dcd F) s h g = 65536 * gg - (cc + iS I h g) := by
            unfold gov
            rw [if_neg (fun z => z.elim q1 (fun w => w.elim (by omega) hne)), ec]; omega
          have cb : 0 ≤ cc + iS I h g ∧ cc + iS I h g ≤ 99 * ((iN I - s : Nat) : Int) := by
            rcases hct with w | w <;> omega
          have gb : 0 ≤ gg ∧ gg ≤ 9 * ((iN I - s : Nat) : Int) := by
            rcases hct with w | w <;> omega
          have tk := m_takesUp (F := F) (s := s) (h := h) (k := iN I - s) (j := iN I - s) (by omega) (by omega) (by omega) (by omega) hc gb.1 cb
          rw [if_pos (by omega), pim_S hP hh hg, Option.bind_some, xwn (by omega) (by omega), tk, Option.bind_some, ← eg]
          by_cases q5 : dcd F s h < gov I (dcd F) s h g
          · rw [if_pos q5]
            refine ⟨_, rfl, ?_, ?_, fun o k ho => ?_⟩
            · rw [dcd_set (by omega) (by omega), if_pos ⟨rfl, rfl⟩, if_pos q5, eg]
              exact if_neg q3
            · rw [mset_ne _ _ (by omega), mset_eq, mset_eq]
              exact Or.inr ⟨gb, cb⟩
            · rw [mset_ne _ _ (by omega), mset_ne _ _ (by omega)]
          · rw [if_neg q5]
            exact ⟨F, rfl, by rw [if_neg q5], hc, fun _ _ _ => rfl⟩
        · rw [if_neg (by omega)]
          exact stay (by unfold gov; rw [if_pos (Or.inr (Or.inl (by omega)))])
theorem sq_of {G : Mem} (h : ∀ o k, o ≠ 183 → o ≠ 184 → G o k = F o k) : sameQ F G := ⟨fun k _ => h 173 k (by decide) (by decide), fun k => h 174 k (by decide) (by decide), fun k => h 179 k (by decide) (by decide)⟩
theorem xw8' {a b : Nat} (ha : a ≤ 400) (hb : b ≤ 400) : xw (xw (8 * (a : Int)) + (b : Int)) = ((8 * a + b : Nat) : Int) := by rw [Int.mul_comm]; exact xw8 ha hb
/-- one row of the reference's table -/
theorem m_row1 (hP : PIm I v F) (h27 : F 173 27 = (iN I : Int)) {s : Nat} (hs : s < iN I) (hr : ∀ t b, s < t → t ≤ iN I → b < iH I → cok (iN I - t) (F 183 (8 * t + b)) (F 184 (8 * t + b))) (k87 : Nat → Int → Mem → Option Mem) :
    ∃ F', fX10_solves_b100 k87 FU 173 (s : Int) (iM I s) 0 F = k87 173 (xw ((s : Int) + -1)) F' ∧ (∀ o k, o ≠ 183 → o ≠ 184 → F' o k = F o k) ∧ (∀ k, 8 * (s + 1) ≤ k → F' 183 k = F 183 k ∧ F' 184 k = F 184 k) ∧ (∀ b, b < iH I → dcd F' s b = bsv I (dcd F) s b (iH I) ∧ cok (iN I - s) (F' 183 (8 * s + b)) (F' 184 (8 * s + b))) := by
  have hW := hP.2.2.2.2.1
  have hN := hW.1
  have hrow : ∀ Y : Mem, (∀ k, 8 * (s + 1) ≤ k → Y 183 k = F 183 k ∧ Y 184 k = F 184 k) → ∀ t b, s < t → dcd Y t b = dcd F t b := fun Y hY t b ht => by
    unfold dcd
    rw [(hY (8 * t + b) (by omega)).1, (hY (8 * t + b) (by omega)).2]
  have govr : ∀ Y : Mem, (∀ k, 8 * (s + 1) ≤ k → Y 183 k = F 183 k ∧ Y 184 k = F 184 k) → ∀ h g, h < iH I → g < iH I → gov I (dcd Y) s h g = gov I (dcd F) s h g := fun Y hY h g hh hg => by
    unfold gov
    by_cases y : g = h
    · rw [if_pos (Or.inl y), if_pos (Or.inl y)]
    · have t1 := hW.2.2.1 h g hh hg (fun z => y z.symm)
      rw [hrow Y hY (s + iT I h g) g (by omega)]
  refine lp (fun n j (Y : Mem) => fX10_solves_b100 k87 n 173 (s : Int) (iM I s) (j : Int) Y) (iH I) (fun j Y => (∀ o k, o ≠ 183 → o ≠ 184 → Y o k = F o k) ∧ (∀ k, 8 * (s + 1) ≤ k → Y 183 k = F 183 k ∧ Y 184 k = F 184 k) ∧ (∀ b, b < j → dcd Y s b = bsv I (dcd F) s b (iH I) ∧ cok (iN I - s) (Y 183 (8 * s + b)) (Y 184 (8 * s + b))))
    (fun r => ∃ F', r = k87 173 (xw ((s : Int) + -1)) F' ∧ (∀ o k, o ≠ 183 → o ≠ 184 → F' o k = F o k) ∧ (∀ k, 8 * (s + 1) ≤ k → F' 183 k = F 183 k ∧ F' 184 k = F 184 k) ∧ (∀ b, b < iH I → dcd F' s b = bsv I (dcd F) s b (iH I) ∧ cok (iN I - s) (F' 183 (8 * s + b)) (F' 184 (8 * s + b)))) ?_ ?_ FU 0 F (Nat.zero_le _) ⟨fun _ _ _ _ => rfl, fun _ _ => ⟨rfl, rfl⟩, fun b hb => absurd hb (Nat.not_lt_zero b)⟩ (FU_gt (by omega))
  · rintro n h Y hh ⟨y1, y2, y3⟩
    left
    have hPY := hP.mono (sq_of y1)
    have s4 : s ≤ 400 := by omega
    have h4 : h ≤ 400 := by omega
    have h8 : h < 8 := by omega
    have b1 := b2696 (a := s) (b := h) (by omega) h8
    have nH : ¬ (iH I : Int) ≤ (h : Int) := by omega
    have hk1 : h < 2147483647 := by omega
    generalize hZ : mset (mset Y 183 (8 * s + h) (-1000000)) 184 (8 * s + h) 0 = Z
    have z1 : ∀ o k, o ≠ 183 → o ≠ 184 → Z o k = F o k := fun o k a b => by rw [← hZ, mset_ne _ _ (by omega), mset_ne _ _ (by omega)]; exact y1 o k a b
    have z2 : ∀ k, 8 * (s + 1) ≤ k → Z 183 k = F 183 k ∧ Z 184 k = F 184 k := fun k hk => by
      rw [← hZ, mset_ne _ _ (by omega), mset_ne _ _ (by omega), mset_ne _ _ (by omega), mset_ne _ _ (by omega)]; exact y2 k hk
    have z3 : ∀ b, b < h → dcd Z s b = bsv I (dcd F) s b (iH I) ∧ cok (iN I - s) (Z 183 (8 * s + b)) (Z 184 (8 * s + b)) := fun b hb => by
      have := y3 b hb
      rw [← hZ, dcd_set h8 (by omega), if_neg (by omega), mset_ne _ _ (by omega), mset_ne _ _ (by omega), mset_ne _ _ (by omega), mset_ne _ _ (by omega)]
      exact this
    have z4 : dcd Z s h = BD := by rw [← hZ, dcd_set h8 h8, if_pos ⟨rfl, rfl⟩]; rfl
    have z5 : cok (iN I - s) (Z 183 (8 * s + h)) (Z 184 (8 * s + h)) := by rw [← hZ, mset_ne _ _ (by omega), mset_eq, mset_eq]; exact Or.inl ⟨rfl, rfl⟩
    have hPZ := hP.mono (sq_of z1)
    -- going on
    have L : ∀ W : Mem, (∀ o k, o ≠ 183 → o ≠ 184 → W o k = F o k) → (∀ k, 8 * (s + 1) ≤ k → W 183 k = F 183 k ∧ W 184 k = F 184 k) → (∀ b, b < h → dcd W s b = bsv I (dcd F) s b (iH I) ∧ cok (iN I - s) (W 183 (8 * s + b)) (W 184 (8 * s + b))) → dcd W s h = stv I (dcd F) s h → cok (iN I - s) (W 183 (8 * s + h)) (W 184 (8 * s + h)) →
        ∃ s' : Mem, ((∀ o k, o ≠ 183 → o ≠ 184 → s' o k = F o k) ∧ (∀ k, 8 * (s + 1) ≤ k → s' 183 k = F 183 k ∧ s' 184 k = F 184 k) ∧ (∀ b, b < h + 1 → dcd s' s b = bsv I (dcd F) s b (iH I) ∧ cok (iN I - s) (s' 183 (8 * s + b)) (s' 184 (8 * s + b)))) ∧ fX10_solves_b198 k87 (fX10_solves_b100 k87 n) FU 173 (s : Int) (iM I s) (h : Int) ((8 * s + h : Nat) : Int) 0 W = fX10_solves_b100 k87 n 173 (s : Int) (iM I s) ((h + 1 : Nat) : Int) s' := by
      intro W w1 w2 w3 w4 w5
      refine lp (fun m g (U : Mem) => fX10_solves_b198 k87 (fX10_solves_b100 k87 n) m 173 (s : Int) (iM I s) (h : Int) ((8 * s + h : Nat) : Int) (g : Int) U) (iH I) (fun g U => (∀ o k, o ≠ 183 → o ≠ 184 → U o k = F o k) ∧ (∀ k, 8 * (s + 1) ≤ k → U 183 k = F 183 k ∧ U 184 k = F 184 k) ∧ (∀ b, b < h → dcd U s b = bsv I (dcd F) s b (iH I) ∧ cok (iN I - s) (U 183 (8 * s + b)) (U 184 (8 * s + b))) ∧ dcd U s h = bsv I (dcd F) s h g ∧ cok (iN I - s) (U 183 (8 * s + h)) (U 184 (8 * s + h)))
        (fun r => ∃ s' : Mem, ((∀ o k, o ≠ 183 → o ≠ 184 → s' o k = F o k) ∧ (∀ k, 8 * (s + 1) ≤ k → s' 183 k = F 183 k ∧ s' 184 k = F 184 k) ∧ (∀ b, b < h + 1 → dcd s' s b = bsv I (dcd F) s b (iH I) ∧ cok (iN I - s) (s' 183 (8 * s + b)) (s' 184 (8 * s + b)))) ∧ r = fX10_solves_b100 k87 n 173 (s : Int) (iM I s) ((h + 1 : Nat) : Int) s') ?_ ?_ FU 0 W (Nat.zero_le _) ⟨w1, w2, w3, w4, w5⟩ (FU_gt (by omega))
      · rintro m g U hg ⟨u1, u2, u3, u4, u5⟩
        left
        have hPU := hP.mono (sq_of u1)
        obtain ⟨U', r1, r2, r3, r4⟩ := m_goesTo hPU ((u1 173 27 (by decide) (by decide)).trans h27) hs hh hg (fun t b t1 t2 hb => by
          rw [(u2 (8 * t + b) (by omega)).1, (u2 (8 * t + b) (by omega)).2]; exact hr t b t1 t2 hb) u5
        have nG : ¬ (iH I : Int) ≤ (g : Int) := by omega
        have hg1 : g < 2147483647 := by omega
        refine ⟨U', ⟨fun o k a b => (r4 o k (by omega)).trans (u1 o k a b), fun k hk => ⟨(r4 _ _ (by omega)).trans (u2 k hk).1, (r4 _ _ (by omega)).trans (u2 k hk).2⟩, fun b hb => ?_, ?_, r3⟩, ?_⟩
        · have := u3 b hb
          unfold dcd at this ⊢
          rw [r4 183 _ (by omega), r4 184 _ (by omega)]
          exact this
        · rw [r2, u4, govr U u2 h g hh hg]; rfl
        · show fX10_solves_b198 k87 (fX10_solves_b100 k87 n) (m + 1) 173 (s : Int) (iM I s) (h : Int) ((8 * s + h : Nat) : Int) (g : Int) U = _
          rw [fX10_solves_b198, pim_5 hPU, Option.bind_some, if_neg nG, r1, Option.bind_some, xwS hg1]
      · rintro m U ⟨u1, u2, u3, u4, u5⟩
        have hPU := hP.mono (sq_of u1)
        refine ⟨U, ⟨u1, u2, fun b hb => ?_⟩, ?_⟩
        · by_cases y : b = h
          · subst y; exact ⟨u4, u5⟩
          · exact u3 b (by omega)
        · show fX10_solves_b198 k87 (fX10_solves_b100 k87 n) (m + 1) 173 (s : Int) (iM I s) (h : Int) ((8 * s + h : Nat) : Int) ((iH I : Nat) : Int) U = _
          rw [fX10_solves_b198, pim_5 hPU, Option.bind_some, if_pos (Int.le_refl _), xwS hk1]
    -- staying
    have b2 := b2696 (a := s + 1) (b := h) (by omega) h8
    have w8 : xw (((8 * s + h : Nat) : Int) + 8) = ((8 * (s + 1) + h : Nat) : Int) := by rw [xwn (by omega) (by omega)]; omega
    have hc1 := hr (s + 1) h (by omega) (by omega) hh
    have ez1 := (z2 (8 * (s + 1) + h) (by omega)).1
    have ez2 := (z2 (8 * (s + 1) + h) (by omega)).2
    have ed : dcd F (s + 1) h = sco (F 183 (8 * (s + 1) + h)) (F 184 (8 * (s + 1) + h)) := rfl
    have S148 : (iM I s = -1 ∨ iM I s = (h : Int)) → ∃ s' : Mem, ((∀ o k, o ≠ 183 → o ≠ 184 → s' o k = F o k) ∧ (∀ k, 8 * (s + 1) ≤ k → s' 183 k = F 183 k ∧ s' 184 k = F 184 k) ∧ (∀ b, b < h + 1 → dcd s' s b = bsv I (dcd F) s b (iH I) ∧ cok (iN I - s) (s' 183 (8 * s + b)) (s' 184 (8 * s + b)))) ∧ fX10_solves_b148 k87 (fX10_solves_b100 k87 n) 173 (s : Int) (iM I s) (h : Int) ((8 * s + h : Nat) : Int) Z = fX10_solves_b100 k87 n 173 (s : Int) (iM I s) ((h + 1 : Nat) : Int) s' := by
      intro hcan
      unfold fX10_solves_b148
      rw [w8, al183, al184]
      simp only [if_pos b2, Int.toNat_natCast, Nat.reduceAdd, ez1, ez2]
      generalize F 183 (8 * (s + 1) + h) = gg at *
      generalize F 184 (8 * (s + 1) + h) = cc at *
      by_cases q : gg < 0
      · rw [if_pos q]
        refine L Z z1 z2 z3 ?_ z5
        rw [z4]
        unfold stv
        rw [if_pos (Or.inl (by rw [ed]; exact if_pos q))]
      · have hg := hW.2.1 s h hs hh
        have gb : 0 ≤ gg + iG I s h ∧ gg + iG I s h ≤ 9 * ((iN I - s : Nat) : Int) := by rcases hc1 with w | w <;> omega
        have cb : 0 ≤ cc ∧ cc ≤ 99 * ((iN I - s : Nat) : Int) := by rcases hc1 with w | w <;> omega
        have hne : dcd F (s + 1) h ≠ BD := by
          rw [ed]
          intro z
          have z : (if gg < 0 then BD else 65536 * gg - cc) = -1000000000 := z
          rw [if_neg q] at z
          omega
        have es : stv I (dcd F) s h = 65536 * (gg + iG I s h) - cc := by
          unfold stv
          rw [if_neg (fun z => z.elim hne (fun w => w hcan)), ed]
          show (if gg < 0 then BD else 65536 * gg - cc) + _ = _
          rw [if_neg q]; omega
        have tk := m_takesUp (F := Z) (s := s) (h := h) (k := iN I - s) (j := iN I - s) (by omega) h8 (by omega) (by omega) z5 gb.1 cb
        have lt : dcd Z s h < 65536 * (gg + iG I s h) - cc := by rw [z4]; show (-1000000000 : Int) < _; omega
        rw [if_pos lt] at tk
        rw [if_neg q, pim_G hPZ hs hh, Option.bind_some, xwn (by omega) (by omega), tk, Option.bind_some]
        refine L _ (fun o k a b => ?_) (fun k hk => ?_) (fun b hb => ?_) ?_ ?_
        · rw [mset_ne _ _ (by omega), mset_ne _ _ (by omega)]; exact z1 o k a b
        · rw [mset_ne _ _ (by omega), mset_ne _ _ (by omega), mset_ne _ _ (by omega), mset_ne _ _ (by omega)]; exact z2 k hk
        · rw [dcd_set h8 (by omega), if_neg (by omega), mset_ne _ _ (by omega), mset_ne _ _ (by omega), mset_ne _ _ (by omega), mset_ne _ _ (by omega)]; exact z3 b hb
        · rw [dcd_set h8 h8, if_pos ⟨rfl, rfl⟩, es]
          exact if_neg (by omega)
        · rw [mset_ne _ _ (by omega), mset_eq, mset_eq]; exact Or.inr ⟨gb, cb⟩
    show ∃ s' : Mem, _ ∧ fX10_solves_b100 k87 (n + 1) 173 (s : Int) (iM I s) (h : Int) Y = fX10_solves_b100 k87 n 173 (s : Int) (iM I s) ((h + 1 : Nat) : Int) s'
    rw [fX10_solves_b100, pim_5 hPY, Option.bind_some, if_neg nH, xw8' s4 h4, al183, al184]
    simp only [if_pos b1, Int.toNat_natCast, Nat.reduceAdd]
    rw [hZ]
    by_cases q1 : iM I s = -1
    · rw [if_pos q1]
      exact S148 (Or.inl q1)
    · rw [if_neg q1]
      by_cases q2 : iM I s = (h : Int)
      · rw [if_neg (fun z => z q2)]
        exact S148 (Or.inr q2)
      · rw [if_pos q2]
        refine L Z z1 z2 z3 ?_ z5
        rw [z4]
        unfold stv
        rw [if_pos (Or.inr (fun z => z.elim q1 q2))]
  · rintro n Y ⟨y1, y2, y3⟩
    have hPY := hP.mono (sq_of y1)
    refine ⟨Y, ?_, y1, y2, y3⟩
    show fX10_solves_b100 k87 (n + 1) 173 (s : Int) (iM I s) ((iH I : Nat) : Int) Y = _
    rw [fX10_solves_b100, pim_5 hPY, Option.bind_some, if_pos (Int.le_refl _)]
end RFT
