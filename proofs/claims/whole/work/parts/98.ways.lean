/-! ===== ways, on both sides ===== -/
theorem al186 : alen (173 + 13) = 2696 := rfl
def mnm (F : Mem) (s h : Nat) : Int := F 186 (8 * s + h)
theorem mnm_set {s h : Nat} {F : Mem} {x : Int} {t b : Nat} (hh : h < 8) (hb : b < 8) : mnm (mset F 186 (8 * s + h) x) t b = if t = s ∧ b = h then x else mnm F t b := by
  unfold mnm
  by_cases y : t = s ∧ b = h
  · rw [if_pos y, y.1, y.2, mset_eq]
  · rw [if_neg y, mset_ne _ _ (by omega)]
section MWY
variable {I : Ins} {v : Nat → Int} {F : Mem}
theorem m_cap {k23 : Nat → Int → Mem → Option (Int × Mem)} {k31 : Nat → Int → Int → Mem → Option (Int × Mem)} {s h : Nat} {x : Int} (hs : s ≤ 336) (hh : h < 8) (hx : 0 ≤ x) : fX10_ways_b262 k23 k31 173 (s : Int) (h : Int) ((8 * s + h : Nat) : Int) x F = k31 173 (s : Int) ((h + 1 : Nat) : Int) (mset F 186 (8 * s + h) (cap x)) := by
  have b1 := b2696 (a := s) (b := h) hs hh
  have hk1 : h < 2147483647 := by omega
  unfold fX10_ways_b262 cap
  rw [al186, if_pos b1, if_pos b1, Int.toNat_natCast, xwS hk1]
  by_cases y : 1000000000000 < x
  · rw [if_pos y, if_neg]
    unfold xcmp
    split <;> (try split) <;> omega
  · rw [if_neg y, if_pos]
    unfold xcmp
    split <;> (try split) <;> omega
theorem m_wsum (hP : PIm I v F) (hT : TBm I F) {k23 : Nat → Int → Mem → Option (Int × Mem)} {k31 : Nat → Int → Int → Mem → Option (Int × Mem)} {s h : Nat} (hs : s < iN I) (hh : h < iH I) (hw : ∀ t b, s < t → t ≤ iN I → b < iH I → wbd (mnm F t b)) {a : Int} (ha : wbd a) (h0 : dcd F s h = BD → a = 0) :
    fX10_ways_b190 k23 k31 FU 173 (s : Int) (h : Int) ((8 * s + h : Nat) : Int) a 0 F = k31 173 (s : Int) ((h + 1 : Nat) : Int) (mset F 186 (8 * s + h) (if dcd F s h = BD then 0 else cap (wsum I (dcd F) (mnm F) a s h (iH I)))) := by
  have hW := hP.2.2.2.2.1
  have hN := hW.1
  have bat := b2696 (a := s) (b := h) (by omega) (by omega)
  have hc0 := hT.1 s h (by omega) hh
  have e0 : dcd F s h = sco (F 183 (8 * s + h)) (F 184 (8 * s + h)) := rfl
  have hhk := sco_gof (by omega) hc0
  rw [← e0] at hhk
  have hwb : dcd F s h ≠ BD → ∀ b, b < iH I → gov I (dcd F) s h b = dcd F s h → (b ≠ h ∧ s + iT I h b ≤ iN I) ∧ wbd (mnm F (s + iT I h b) b) := by
    intro q b hb hg
    have zc : ¬ (b = h ∨ fre I s < iT I h b ∨ dcd F (s + iT I h b) b = BD) := fun w => q (by rw [← hg]; unfold gov; rw [if_pos w])
    have t1 := hW.2.2.1 h b hh hb (fun z => zc (Or.inl z.symm))
    have hfs := (fre_sp (I := I) (iN I - s) s (by omega)).1
    have hle : ¬ fre I s < iT I h b := fun z => zc (Or.inr (Or.inl z))
    exact ⟨⟨fun z => zc (Or.inl z), by omega⟩, hw _ b (by omega) (by omega) hb⟩
  refine lp (fun n g x => fX10_ways_b190 k23 k31 n 173 (s : Int) (h : Int) ((8 * s + h : Nat) : Int) x (g : Int) F) (iH I) (fun g x => (dcd F s h = BD ∧ x = 0) ∨ (dcd F s h ≠ BD ∧ x = wsum I (dcd F) (mnm F) a s h g)) (fun r => r = k31 173 (s : Int) ((h + 1 : Nat) : Int) (mset F 186 (8 * s + h) (if dcd F s h = BD then 0 else cap (wsum I (dcd F) (mnm F) a s h (iH I))))) ?_ ?_ FU 0 a (Nat.zero_le _) ?_ (FU_gt (by omega))
  · rintro n g x hg hx
    left
    have nG : ¬ (iH I : Int) ≤ (g : Int) := by omega
    have hg1 : g < 2147483647 := by omega
    have g4 : g ≤ 400 := by omega
    have t99 := hP.2.2.2.2.2.1 h g hh hg
    have hst : s + iT I h g < 2147483648 := by omega
    show ∃ s' : Int, _ ∧ fX10_ways_b190 k23 k31 (n + 1) 173 (s : Int) (h : Int) ((8 * s + h : Nat) : Int) x (g : Int) F = fX10_ways_b190 k23 k31 n 173 (s : Int) (h : Int) ((8 * s + h : Nat) : Int) s' ((g + 1 : Nat) : Int) F
    rw [fX10_ways_b190, pim_5 hP, Option.bind_some, if_neg nG, al183, if_pos bat, Int.toNat_natCast, show (173 + 10 : Nat) = 183 from rfl, xwS hg1]
    rcases hx with ⟨hx, rfl⟩ | ⟨hx, rfl⟩
    · have := hhk.1 hx
      rw [if_pos (by omega)]
      have wl : xwl ((0 : Int) + 0) = 0 := rfl
      rw [wl]
      exact ⟨0, Or.inl ⟨hx, rfl⟩, rfl⟩
    · have hg0 := (hhk.2 hx).1
      have bd := wsum_bd (I := I) (X := dcd F) (W := mnm F) (s := s) (h := h) ha g (fun c hc hgc => (hwb hx c (by omega) hgc).2)
      have eq : wsum I (dcd F) (mnm F) a s h (g + 1) = wsum I (dcd F) (mnm F) a s h g + (if gov I (dcd F) s h g = dcd F s h then mnm F (s + iT I h g) g else 0) := rfl
      have hwg := hwb hx g hg
      rw [if_neg (Int.not_lt.mpr hg0), m_isNext hP hT hs hh hg hx, Option.bind_some, i10]
      refine ⟨wsum I (dcd F) (mnm F) a s h (g + 1), Or.inr ⟨hx, rfl⟩, ?_⟩
      rw [eq]
      generalize wsum I (dcd F) (mnm F) a s h g = x at *
      by_cases y : gov I (dcd F) s h g = dcd F s h
      · obtain ⟨⟨-, c2⟩, c3⟩ := hwg y
        have st4 : s + iT I h g ≤ 400 := by omega
        have bb := b2696 (a := s + iT I h g) (b := g) (by omega) (by omega)
        unfold wbd at c3
        have em : F 186 (8 * (s + iT I h g) + g) = mnm F (s + iT I h g) g := rfl
        have wl : xwl (x + mnm F (s + iT I h g) g) = x + mnm F (s + iT I h g) g := xwl_id ⟨by omega, by omega⟩
        rw [if_pos y, if_pos y, pim_T hP hh hg, Option.bind_some, xwA hst, xw8' st4 g4, al186]
        simp only [if_pos bb, Int.toNat_natCast, Nat.reduceAdd, em]
        rw [wl]
      · have wl : xwl (x + 0) = x + 0 := xwl_id ⟨by omega, by omega⟩
        rw [if_neg y, if_neg y, wl]
  · rintro n x hx
    show fX10_ways_b190 k23 k31 (n + 1) 173 (s : Int) (h : Int) ((8 * s + h : Nat) : Int) x ((iH I : Nat) : Int) F = _
    rw [fX10_ways_b190, pim_5 hP, Option.bind_some, if_pos (Int.le_refl _)]
    rcases hx with ⟨hx, rfl⟩ | ⟨hx, rfl⟩
    · rw [m_cap (by omega) (by omega) (Int.le_refl _), if_pos hx]; rfl
    · have bd := wsum_bd (I := I) (X := dcd F) (W := mnm F) (s := s) (h := h) ha (iH I) (fun c hc hgc => (hwb hx c (by omega) hgc).2)
      rw [m_cap (by omega) (by omega) bd.1, if_neg hx]
  · by_cases q : dcd F s h = BD
    · exact Or.inl ⟨q, h0 q⟩
    · exact Or.inr ⟨q, rfl⟩
theorem m_wcell (hP : PIm I v F) (hT : TBm I F) {k23 : Nat → Int → Mem → Option (Int × Mem)} {k31 : Nat → Int → Int → Mem → Option (Int × Mem)} {s h : Nat} (hs : s < iN I) (hh : h < iH I) (hw : ∀ t b, s < t → t ≤ iN I → b < iH I → wbd (mnm F t b)) :
    fX10_ways_b65 k23 k31 173 (s : Int) (h : Int) ((8 * s + h : Nat) : Int) 0 F = k31 173 (s : Int) ((h + 1 : Nat) : Int) (mset F 186 (8 * s + h) (if dcd F s h = BD then 0 else cap (wsum I (dcd F) (mnm F) (wst I (dcd F) (mnm F) s h) s h (iH I)))) := by
  have hW := hP.2.2.2.2.1
  have hN := hW.1
  have nN : ¬ (iN I : Int) ≤ (s : Int) := by omega
  have bat := b2696 (a := s) (b := h) (by omega) (by omega)
  have bat8 := b2696 (a := s + 1) (b := h) (by omega) (by omega)
  have w8 : xw (((8 * s + h : Nat) : Int) + 8) = ((8 * (s + 1) + h : Nat) : Int) := by rw [xwn (by omega) (by omega)]; omega
  have gi := pim_G hP hs hh
  have hm := pim_M hP hs
  have hc0 := hT.1 s h (by omega) hh
  have hc1 := hT.1 (s + 1) h (by omega) hh
  have hg9 := hW.2.1 s h hs hh
  have e0 : dcd F s h = sco (F 183 (8 * s + h)) (F 184 (8 * s + h)) := rfl
  have hhk := sco_gof (by omega) hc0
  rw [← e0] at hhk
  have sbd0 : wbd 0 := by unfold wbd; omega
  -- not staying
  have NO : (dcd F s h ≠ BD → ¬ stv I (dcd F) s h = dcd F s h) → fX10_ways_b164 k23 k31 173 (s : Int) (h : Int) ((8 * s + h : Nat) : Int) 0 F = k31 173 (s : Int) ((h + 1 : Nat) : Int) (mset F 186 (8 * s + h) (if dcd F s h = BD then 0 else cap (wsum I (dcd F) (mnm F) (wst I (dcd F) (mnm F) s h) s h (iH I)))) := by
    intro hn
    unfold fX10_ways_b164
    rw [if_pos rfl, m_wsum hP hT hs hh hw sbd0 (fun _ => rfl)]
    by_cases y : dcd F s h = BD
    · rw [if_pos y, if_pos y]
    · have : wst I (dcd F) (mnm F) s h = 0 := if_neg (hn y)
      rw [if_neg y, if_neg y, this]
  have YES : dcd F s h ≠ BD → stv I (dcd F) s h = dcd F s h → fX10_ways_b164 k23 k31 173 (s : Int) (h : Int) ((8 * s + h : Nat) : Int) 1 F = k31 173 (s : Int) ((h + 1 : Nat) : Int) (mset F 186 (8 * s + h) (if dcd F s h = BD then 0 else cap (wsum I (dcd F) (mnm F) (wst I (dcd F) (mnm F) s h) s h (iH I)))) := by
    intro hne hy
    have : wst I (dcd F) (mnm F) s h = mnm F (s + 1) h := if_pos hy
    have em : F 186 (8 * (s + 1) + h) = mnm F (s + 1) h := rfl
    unfold fX10_ways_b164
    rw [if_neg (show ¬ (1 : Int) = 0 by decide), w8, al186, if_pos bat8, Int.toNat_natCast, show (173 + 13 : Nat) = 186 from rfl, em, m_wsum hP hT hs hh hw (hw (s + 1) h (by omega) (by omega) hh) (fun z => absurd z hne), this]
  have A97 : (iM I s = -1 ∨ iM I s = (h : Int)) → fX10_ways_b97 k23 k31 173 (s : Int) (h : Int) ((8 * s + h : Nat) : Int) F = k31 173 (s : Int) ((h + 1 : Nat) : Int) (mset F 186 (8 * s + h) (if dcd F s h = BD then 0 else cap (wsum I (dcd F) (mnm F) (wst I (dcd F) (mnm F) s h) s h (iH I)))) := by
    intro hc
    unfold fX10_ways_b97
    rw [w8, al183, al184, gi, Option.bind_some]
    simp only [if_pos bat, if_pos bat8, Int.toNat_natCast, Nat.reduceAdd]
    by_cases r1 : F 183 (8 * (s + 1) + h) < 0
    · rw [if_pos r1]
      exact NO (fun hne e => absurd ((m_stays hP hT hs hh hne).mpr e).1 (Int.not_le.mpr r1))
    · rw [if_neg r1]
      by_cases r2 : xw (F 183 (8 * (s + 1) + h) + iG I s h) = F 183 (8 * s + h)
      · rw [if_neg (dnn r2)]
        have hne : dcd F s h ≠ BD := by
          intro z
          have g0 := hhk.1 z
          rw [g0] at r2
          clear w8
          rcases hc1 with w | w
          · omega
          · rw [xwn (by omega) (by omega)] at r2
            omega
        by_cases r3 : F 184 (8 * (s + 1) + h) = F 184 (8 * s + h)
        · rw [if_neg (dnn r3)]
          exact YES hne ((m_stays hP hT hs hh hne).mp ⟨Int.not_lt.mp r1, hc, r2, r3⟩)
        · rw [if_pos r3]
          exact NO (fun hne e => r3 ((m_stays hP hT hs hh hne).mpr e).2.2.2)
      · rw [if_pos r2]
        exact NO (fun hne e => r2 ((m_stays hP hT hs hh hne).mpr e).2.2.1)
  unfold fX10_ways_b65
  rw [hT.2, if_neg nN, hm, Option.bind_some]
  by_cases q1 : iM I s = -1
  · rw [if_pos q1]
    exact A97 (Or.inl q1)
  · rw [if_neg q1]
    by_cases q2 : iM I s = (h : Int)
    · rw [if_neg (dnn q2)]
      exact A97 (Or.inr q2)
    · rw [if_pos q2]
      exact NO (fun hne e => ((m_stays hP hT hs hh hne).mpr e).2.1.elim q1 q2)
theorem m_ways (hP : PIm I v F) (hT : TBm I F) : ∃ F', fX10_ways_b23 FU 173 (iN I : Int) F = some (mnm F' 0 (v 4).toNat, F') ∧ IsW I (dcd F) (mnm F') 0 ∧ (∀ o k, o ≠ 186 → F' o k = F o k) := by
  have hW := hP.2.2.2.2.1
  have hN := hW.1
  have b4 := hP.2.1.2.2.2.1
  have hH := hP.2.2.2.1
  obtain ⟨z, hz⟩ := nat_of b4.1
  have hz2 : (v 4).toNat = z := by omega
  rw [hz2]
  have keep : ∀ G : Mem, (∀ o k, o ≠ 186 → G o k = F o k) → PIm I v G ∧ TBm I G ∧ dcd G = dcd F := fun G hG =>
    ⟨hP.mono ⟨fun k _ => hG _ _ (by decide), fun k => hG _ _ (by decide), fun k => hG _ _ (by decide)⟩, ⟨fun t b ht hb => by rw [hG _ _ (by decide), hG _ _ (by decide)]; exact hT.1 t b ht hb, (hG _ _ (by decide)).trans hT.2⟩, funext fun s => funext fun h => by unfold dcd; rw [hG _ _ (by decide), hG _ _ (by decide)]⟩
  have eK : (iN I : Int) = (iN I : Int) - ((0 : Nat) : Int) := by omega
  rw [eK]
  refine lp (fun n k (X : Mem) => fX10_ways_b23 n 173 ((iN I : Int) - (k : Int)) X) (iN I + 1) (fun k X => (∀ o j, o ≠ 186 → X o j = F o j) ∧ (1 ≤ k → IsW I (dcd F) (mnm X) (iN I + 1 - k)) ∧ ∀ t b, iN I < t + k → t ≤ iN I → b < iH I → wbd (mnm X t b)) (fun r => ∃ F', r = some (mnm F' 0 z, F') ∧ IsW I (dcd F) (mnm F') 0 ∧ (∀ o k, o ≠ 186 → F' o k = F o k)) ?_ ?_ FU 0 F (Nat.zero_le _) ⟨fun _ _ _ => rfl, fun h => by omega, fun t b t1 t2 => by omega⟩ (FU_gt (by omega))
  · rintro n k X hk ⟨q1, q2, q3⟩
    left
    obtain ⟨s, hs⟩ : ∃ s : Nat, (iN I : Int) - (k : Int) = (s : Int) ∧ s + k = iN I := ⟨iN I - k, by omega, by omega⟩
    have n0 : ¬ (s : Int) < 0 := by omega
    have ek : (iN I : Int) - ((k + 1 : Nat) : Int) = (s : Int) + -1 := by omega
    have w : xw ((s : Int) + -1) = (s : Int) + -1 := xwn (by omega) (by omega)
    have E : fX10_ways_b23 (n + 1) 173 (s : Int) X = fX10_ways_b31 (fX10_ways_b23 n) FU 173 (s : Int) 0 X := by
      rw [fX10_ways_b23, if_neg n0]
    show ∃ s' : Mem, _ ∧ fX10_ways_b23 (n + 1) 173 ((iN I : Int) - (k : Int)) X = fX10_ways_b23 n 173 ((iN I : Int) - ((k + 1 : Nat) : Int)) s'
    rw [hs.1, ek, E]
    clear w
    have hbX : ∀ t b, s < t → t ≤ iN I → b < iH I → wbd (mnm X t b) := fun t b t1 t2 hb => q3 t b (by omega) t2 hb
    refine lp (fun m j (Y : Mem) => fX10_ways_b31 (fX10_ways_b23 n) m 173 (s : Int) (j : Int) Y) (iH I) (fun j Y => (∀ o i, o ≠ 186 → Y o i = F o i) ∧ (∀ t b, s < t → b < iH I → mnm Y t b = mnm X t b) ∧ (∀ b, b < j → mnm Y s b = if s = iN I then 1 else if dcd F s b = BD then 0 else cap (wsum I (dcd F) (mnm X) (wst I (dcd F) (mnm X) s b) s b (iH I)))) (fun r => ∃ s' : Mem, ((∀ o j, o ≠ 186 → s' o j = F o j) ∧ (1 ≤ k + 1 → IsW I (dcd F) (mnm s') (iN I + 1 - (k + 1))) ∧ ∀ t b, iN I < t + (k + 1) → t ≤ iN I → b < iH I → wbd (mnm s' t b)) ∧ r = fX10_ways_b23 n 173 ((s : Int) + -1) s') ?_ ?_ FU 0 X (Nat.zero_le _) ⟨q1, fun _ _ _ _ => rfl, fun b hb => absurd hb (Nat.not_lt_zero b)⟩ (FU_gt (by omega))
    · rintro m j Y hj ⟨p1, p2, p3⟩
      left
      obtain ⟨hPY, hTY, eD⟩ := keep Y p1
      have nH : ¬ (iH I : Int) ≤ (j : Int) := by omega
      have s4 : s ≤ 400 := by omega
      have j4 : j ≤ 400 := by omega
      have j8 : j < 8 := by omega
      refine ⟨mset Y 186 (8 * s + j) (if s = iN I then 1 else if dcd F s j = BD then 0 else cap (wsum I (dcd F) (mnm X) (wst I (dcd F) (mnm X) s j) s j (iH I))), ⟨fun o i ho => ?_, fun t b t1 hb => ?_, fun b hb => ?_⟩, ?_⟩
      · rw [mset_ne _ _ (by omega)]; exact p1 o i ho
      · rw [mnm_set j8 (by omega), if_neg (by omega)]; exact p2 t b t1 hb
      · rw [mnm_set j8 (by omega)]
        by_cases y : b = j
        · subst y; rw [if_pos ⟨rfl, rfl⟩]
        · rw [if_neg (by omega)]; exact p3 b (by omega)
      · show fX10_ways_b31 (fX10_ways_b23 n) (m + 1) 173 (s : Int) (j : Int) Y = _
        rw [fX10_ways_b31, pim_5 hPY, Option.bind_some, if_neg nH, xw8' s4 j4, hTY.2]
        by_cases y : s = iN I
        · rw [if_neg (show ¬ (s : Int) ≠ (iN I : Int) by omega), if_pos y]
          unfold fX10_ways_b65
          rw [hTY.2, if_pos (show (iN I : Int) ≤ (s : Int) by omega), m_cap (by omega) j8 (by decide)]
          rfl
        · rw [if_pos (show (s : Int) ≠ (iN I : Int) by omega), if_neg y, m_wcell hPY hTY (show s < iN I by omega) hj (fun t b t1 t2 hb => by rw [p2 t b t1 hb]; exact hbX t b t1 t2 hb), eD]
          have wr := W_row (X := dcd F) (W := mnm Y) (Z := mnm X) hW (s := s) (h := j) (by omega) hj (fun t b t1 t2 hb => p2 t b t1 hb)
          rw [wr]
    · rintro m Y ⟨p1, p2, p3⟩
      obtain ⟨hPY, hTY, eD⟩ := keep Y p1
      have rows : ∀ b, b < iH I → s < iN I → mnm Y s b = if dcd F s b = BD then 0 else cap (wsum I (dcd F) (mnm Y) (wst I (dcd F) (mnm Y) s b) s b (iH I)) := fun b hb hsN => by
        rw [p3 b hb, if_neg (show ¬ s = iN I by omega)]
        exact (W_row (X := dcd F) (W := mnm Y) (Z := mnm X) hW (s := s) (h := b) hsN hb (fun t c t1 t2 hc => p2 t c t1 hc)).symm
      refine ⟨Y, ⟨p1, fun _ => ⟨fun h hh => ?_, fun t t1 t2 h hh => ?_⟩, fun t b t1 t2 hb => ?_⟩, ?_⟩
      · by_cases y : s = iN I
        · rw [← y, p3 h hh, if_pos y]
        · rw [p2 _ _ (by omega) hh]; exact (q2 (by omega)).1 h hh
      · by_cases y : t = s
        · subst y; exact rows h hh t2
        · rw [p2 t h (by omega) hh, (q2 (by omega)).2 t (by omega) t2 h hh]
          exact (W_row hW t2 hh (fun u c u1 u2 hc => p2 u c (by omega) hc)).symm
      · by_cases y : t = s
        · subst y
          rw [p3 b hb]
          by_cases y1 : t = iN I
          · rw [if_pos y1]; unfold wbd; omega
          · rw [if_neg y1]
            by_cases y2 : dcd F t b = BD
            · rw [if_pos y2]; unfold wbd; omega
            · rw [if_neg y2]
              refine cap_bd (wsum_bd (I := I) (X := dcd F) (W := mnm X) (s := t) (h := b) ?_ (iH I) (fun c hc hg => ?_)).1
              · unfold wst
                split
                · exact hbX _ _ (by omega) (by omega) hb
                · unfold wbd; omega
              · have zc : ¬ (c = b ∨ fre I t < iT I b c ∨ dcd F (t + iT I b c) c = BD) := fun w2 => y2 (by rw [← hg]; unfold gov; rw [if_pos w2])
                have u1 := hW.2.2.1 b c hb hc (fun z => zc (Or.inl z.symm))
                have hfs := (fre_sp (I := I) (iN I - t) t (by omega)).1
                have hle : ¬ fre I t < iT I b c := fun z => zc (Or.inr (Or.inl z))
                exact hbX _ c (by omega) (by omega) hc
        · rw [p2 t b (by omega) hb]; exact q3 t b (by omega) t2 hb
      · have w : xw ((s : Int) + -1) = (s : Int) + -1 := xwn (by omega) (by omega)
        show fX10_ways_b31 (fX10_ways_b23 n) (m + 1) 173 (s : Int) ((iH I : Nat) : Int) Y = _
        rw [fX10_ways_b31, pim_5 hPY, Option.bind_some, if_pos (Int.le_refl _), w]
  · rintro n X ⟨q1, q2, q3⟩
    obtain ⟨hPX, hTX, eD⟩ := keep X q1
    have n0 : (iN I : Int) - ((iN I + 1 : Nat) : Int) < 0 := by omega
    have bst : (0 : Int) ≤ (z : Int) ∧ (z : Int) < ((2696 : Nat) : Int) := by omega
    have hw0 := q2 (by omega)
    refine ⟨X, ?_, ⟨hw0.1, fun s _ s2 h hh => hw0.2 s (by omega) s2 h hh⟩, q1⟩
    show fX10_ways_b23 (n + 1) 173 ((iN I : Int) - ((iN I + 1 : Nat) : Int)) X = _
    have em : X 186 z = mnm X 0 z := by unfold mnm; rw [Nat.mul_zero, Nat.zero_add]
    rw [fX10_ways_b23, if_pos n0, m_of hPX.1 (i := 4) (x := 4) rfl (by omega), Option.bind_some, hz, al186, if_pos bst, Int.toNat_natCast, show (173 + 13 : Nat) = 186 from rfl, em]
end MWY
theorem W_tab {I : Ins} {X Y W Z : Nat → Nat → Int} (hW : WF I) (hX : IsX I tv0 X) (hY : IsX I tv0 Y) (h : IsW I X W 0) : IsW I Y W 0 := by
  have e : ∀ s h, s ≤ iN I → h < iH I → X s h = Y s h := fun s h a b => X_eq hW hX hY a b
  refine ⟨h.1, fun s s1 s2 k hk => ?_⟩
  rw [h.2 s s1 s2 k hk, e s k (by omega) hk]
  have e1 : wst I X W s k = wst I Y W s k := by
    unfold wst stv
    rw [e (s + 1) k (by omega) hk, e s k (by omega) hk]
  have e2 : ∀ n, n ≤ iH I → wsum I X W (wst I Y W s k) s k n = wsum I Y W (wst I Y W s k) s k n := by
    intro n
    induction n with
    | zero => intro _; rfl
    | succ n ih =>
      intro hn
      have e3 : gov I X s k n = gov I Y s k n := by
        unfold gov
        by_cases y : n = k ∨ fre I s < iT I k n
        · rw [if_pos (y.elim Or.inl (fun z => Or.inr (Or.inl z))), if_pos (y.elim Or.inl (fun z => Or.inr (Or.inl z)))]
        · have hfs := (fre_sp (I := I) (iN I - s) s (by omega)).1
          rw [e (s + iT I k n) n (by omega) (by omega)]
      show wsum I X W _ s k n + _ = wsum I Y W _ s k n + _
      rw [ih (by omega), e3, e s k (by omega) hk]
  rw [e1, e2 _ (Nat.le_refl _)]
theorem pc_ways (a b c d : Int) : pcaseL RR gX9_ways gX10_ways [vI a, vI b, vI c, vI d] := by
  intro F hR hm
  rcases gain2 hR a b c d with ⟨F1, V, day, v, hd, s1, s2, s3, s4, s5, s6⟩ | ⟨F1, s1, s2, s3⟩
  · have hPV := s3.1.1.1
    have hO := hPV.2.2.2.2
    have hW := insD_WF (hd := hd) (day := day) hO (show 1 ≤ 7 by decide) 0 0
    obtain ⟨F2, p1, p2, p3⟩ := x_countWays (PIc_PL s3.1) (N48 hO) tv0_01 s3.2.1 s3.2.2
    have k2 : kX F F2 := s2.tr (fun o k ho => p3 o k (by omega))
    obtain ⟨G', r1, r2, r3, r4⟩ := s6 F2 k2
    obtain ⟨G2, t1, t2, t3⟩ := m_ways (mas_pim r3.1) r3.2.1
    have e := W_uniq hW p2 (W_tab (Z := mnm G2) hW r3.2.2 s3.2.1 t2) (iN (insD v hd day 1 0 0)) 0 (by omega) (Nat.zero_le _) _ (st_lt hO)
    have hx : fX9_ways 1 a b c d F = some (mny F2 0 (v 4).toNat, F2) := by
      unfold fX9_ways
      rw [s1, Option.bind_some]
      dsimp only
      simp only [Nat.reduceAdd]
      rw [if_pos (csv_1 s3 s4), p1, Option.bind_some]
    have hy : fX10_ways 173 a b c d F2 = some (mny F2 0 (v 4).toNat, G2) := by
      unfold fX10_ways
      rw [r1, Option.bind_some]
      dsimp only
      rw [if_pos (show (1 : Int) ≠ 0 by decide), r3.2.1.2, t1, e]
    have kk : kM G' G2 := ⟨fun o k ho => t3 o k (by omega), t3 _ _ (by decide), t3 _ _ (by decide), t3 _ _ (by decide)⟩
    exact ⟨_, F2, G2, ⟨1, a, b, c, d, _, rfl, k9, hx, rfl, rfl⟩, ⟨173, a, b, c, d, _, rfl, k10, hy, rfl, rfl⟩, hR.step k2 (r2.tr kk)⟩
  · obtain ⟨G', r1, r2⟩ := s3 F1 s2
    refine ⟨-2, F1, G', ⟨1, a, b, c, d, (-2, F1), rfl, k9, ?_, rfl, rfl⟩, ⟨173, a, b, c, d, (-2, G'), rfl, k10, ?_, rfl, rfl⟩, hR.step s2 r2⟩
    · unfold fX9_ways
      rw [s1, Option.bind_some]
      dsimp only
      rw [if_neg (dnn rfl)]
    · unfold fX10_ways
      rw [r1, Option.bind_some]
      dsimp only
      rw [if_neg (dnn rfl)]
