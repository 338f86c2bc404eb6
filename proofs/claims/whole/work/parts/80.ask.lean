/-! ===== the class's plan, what is asked of it ===== -/
section ASK
variable {I : Ins} {v : Nat → Int} {V : Nat} {F : Mem}
/-- harm, by what is reached and what comes behind -/
theorem x_harmOf (hP : PIc I v V F) (h48 : iN I ≤ 48) {most : Int} (hm : -10000 ≤ most ∧ most ≤ 10000) {k f t : Nat} (hk : k < iH I) (hft : f < t) (ht : t ≤ iN I) (hbR : sbd f (rch F f k)) (hbX : sbd (iN I - t) (tbl F t k)) {y : Int}
    (hy : (y = BD ∧ (rch F f k = BD ∨ tbl F t k = BD ∨ ¬ (∀ r, f ≤ r → r < t → iM I r = -1 ∨ iM I r = (k : Int)))) ∨ (rch F f k ≠ BD ∧ tbl F t k ≠ BD ∧ (∀ r, f ≤ r → r < t → iM I r = -1 ∨ iM I r = (k : Int)) ∧ y = rch F f k + tbl F t k + gsum I k f (t - f))) :
    fX1_harmOf 63 most (k : Int) (f : Int) (t : Int) F = some (if y = BD then -1 else most - gof y) := by
  obtain ⟨h1, h2, h3, hW, h5, h6, h7, h8⟩ := id hP
  have hN := hW.1
  have f4 : f ≤ 400 := by omega
  have t4 : t ≤ 400 := by omega
  have k4 : k ≤ 400 := by omega
  have b1 := b392 (a := f) (b := k) (by omega) (by omega)
  have b2 := b2696 (a := t) (b := k) (by omega) (by omega)
  have eR : F 71 (8 * f + k) = rch F f k := rfl
  have eX : F 70 (8 * t + k) = tbl F t k := rfl
  unfold fX1_harmOf
  rw [xw8 f4 k4, xw8 t4 k4, a70, a71]
  simp only [if_pos b1, if_pos b2, Int.toNat_natCast, Nat.reduceAdd, eR, eX]
  by_cases q1 : rch F f k = BD
  · have : y = BD := by
      rcases hy with w | w
      · exact w.1
      · exact absurd q1 w.1
    rw [if_pos q1, if_pos this]
  · by_cases q2 : tbl F t k = BD
    · have : y = BD := by
        rcases hy with w | w
        · exact w.1
        · exact absurd q2 w.2.1
      rw [if_neg q1, if_neg (fun z => z q2), if_pos this]
    · rw [if_neg q1, if_pos q2]
      have gb : ∀ d, f + d ≤ iN I → 0 ≤ gsum I k f d ∧ gsum I k f d ≤ 589824 * (d : Int) := by
        intro d
        induction d with
        | zero => intro _; exact ⟨Int.le_refl _, Int.le_refl _⟩
        | succ d ih =>
          intro h
          have := ih (by omega)
          have hg := hW.2.1 (f + d) k (by omega) hk
          show 0 ≤ gsum I k f d + iG I (f + d) k * 65536 ∧ gsum I k f d + iG I (f + d) k * 65536 ≤ 589824 * ((d + 1 : Nat) : Int)
          omega
      have b0 : -10000 ≤ rch F f k + tbl F t k ∧ rch F f k + tbl F t k ≤ 56623104 := by
        rcases hbR with w | w
        · exact absurd w q1
        · rcases hbX with u | u
          · exact absurd u q2
          · generalize hk2 : iN I - t = j at u
            omega
      rw [xwn (x := rch F f k + tbl F t k) (by omega) (by omega)]
      refine lp (fun n d x => fX1_harmOf_b53 F n 63 most (k : Int) (t : Int) x ((f + d : Nat) : Int)) (t - f) (fun d x => x = rch F f k + tbl F t k + gsum I k f d ∧ ∀ r, f ≤ r → r < f + d → iM I r = -1 ∨ iM I r = (k : Int)) (fun r => r = some (if y = BD then -1 else most - gof y)) ?_ ?_ FU 0 _ (Nat.zero_le _) ⟨by show _ = _ + 0; omega, fun r r1 r2 => by omega⟩ (FU_gt (by omega))
      · rintro n d x hd ⟨rfl, hc⟩
        have nt : ¬ (t : Int) ≤ ((f + d : Nat) : Int) := by omega
        have hs : f + d < iN I := by omega
        have fd4 : f + d ≤ 400 := by omega
        have b3 := bk8 (a := f + d) (k := k) (by omega) (by omega)
        have g7 := h7 (f + d) k hs hk
        have hg := hW.2.1 (f + d) k hs hk
        have gd := gb d (by omega)
        have hk1 : f + d < 2147483647 := by omega
        have E : fX1_harmOf_b53 F (n + 1) 63 most (k : Int) (t : Int) (rch F f k + tbl F t k + gsum I k f d) ((f + d : Nat) : Int) = if iM I (f + d) = -1 ∨ iM I (f + d) = (k : Int) then fX1_harmOf_b53 F n 63 most (k : Int) (t : Int) (rch F f k + tbl F t k + gsum I k f (d + 1)) ((f + (d + 1) : Nat) : Int) else some (-1) := by
          have w2 : rch F f k + tbl F t k + gsum I k f d + iG I (f + d) k * 65536 = rch F f k + tbl F t k + gsum I k f (d + 1) := by
            show _ = rch F f k + tbl F t k + (gsum I k f d + iG I (f + d) k * 65536); omega
          have w1 : ∀ x : Int, -10000 ≤ x → x ≤ 200000000 → xw (x + xw (iG I (f + d) k * 65536)) = x + iG I (f + d) k * 65536 := fun x x1 x2 => by rw [xwn (x := iG I (f + d) k * 65536) (by omega) (by omega), xwn (by omega) (by omega)]
          rw [fX1_harmOf_b53, if_neg nt, x_canStay hP hs, Option.bind_some, i11, xw8 fd4 k4, a65]
          simp only [if_pos b3, Int.toNat_natCast, Nat.reduceAdd, g7]
          rw [w1 _ (by omega) (by omega), w2, xwS hk1]
          rfl
        by_cases c : iM I (f + d) = -1 ∨ iM I (f + d) = (k : Int)
        · left
          refine ⟨_, ⟨rfl, fun r r1 r2 => ?_⟩, ?_⟩
          · by_cases w : r = f + d
            · rw [w]; exact c
            · exact hc r r1 (by omega)
          · show fX1_harmOf_b53 F (n + 1) 63 most (k : Int) (t : Int) (rch F f k + tbl F t k + gsum I k f d) ((f + d : Nat) : Int) = _
            rw [E, if_pos c]
        · right
          have : y = BD := by
            rcases hy with w | w
            · exact w.1
            · exact absurd (w.2.2.1 (f + d) (by omega) (by omega)) c
          show fX1_harmOf_b53 F (n + 1) 63 most (k : Int) (t : Int) (rch F f k + tbl F t k + gsum I k f d) ((f + d : Nat) : Int) = _
          rw [E, if_neg c, if_pos this]
      · rintro n x ⟨rfl, hc⟩
        have hc2 : ∀ r, f ≤ r → r < t → iM I r = -1 ∨ iM I r = (k : Int) := fun r r1 r2 => hc r r1 (by omega)
        have hy2 : y = rch F f k + tbl F t k + gsum I k f (t - f) := by
          rcases hy with ⟨-, w | w | w⟩ | w
          · exact absurd w q1
          · exact absurd w q2
          · exact absurd hc2 w
          · exact w.2.2.2
        have gd := gb (t - f) (by omega)
        have nt : (t : Int) ≤ ((f + (t - f) : Nat) : Int) := by omega
        show fX1_harmOf_b53 F (n + 1) 63 most (k : Int) (t : Int) (rch F f k + tbl F t k + gsum I k f (t - f)) ((f + (t - f) : Nat) : Int) = _
        rw [fX1_harmOf_b53, if_pos nt, ← hy2, x_gof (Or.inr ⟨by omega, by omega⟩)]
        have hyn : ¬ y = -1000000000 := by omega
        have hg : gof y = (y + 65535) / 65536 := by unfold gof; rw [if_neg hyn]
        rw [if_neg hyn, hg, xwn (by omega) (by omega)]
/-- the most of ways that are somewhere at a slot -/
def gth (R X : Nat → Nat → Int) (t : Nat) : Nat → Int
  | 0 => -1
  | n + 1 => if R t n = BD ∨ X t n = BD then gth R X t n else if gth R X t n < gof (R t n + X t n) then gof (R t n + X t n) else gth R X t n
theorem gth_sp (R X : Nat → Nat → Int) (t : Nat) : ∀ n, (-1 ≤ gth R X t n ∧ ∀ h, h < n → R t h ≠ BD → X t h ≠ BD → gof (R t h + X t h) ≤ gth R X t n) ∧ (gth R X t n = -1 ∨ ∃ h, h < n ∧ R t h ≠ BD ∧ X t h ≠ BD ∧ gth R X t n = gof (R t h + X t h)) := by
  intro n
  induction n with
  | zero => exact ⟨⟨Int.le_refl _, fun h hh => absurd hh (by omega)⟩, Or.inl rfl⟩
  | succ n ih =>
    obtain ⟨⟨i1, i2⟩, i3⟩ := ih
    have e : gth R X t (n + 1) = if R t n = BD ∨ X t n = BD then gth R X t n else if gth R X t n < gof (R t n + X t n) then gof (R t n + X t n) else gth R X t n := rfl
    rw [e]
    by_cases q : R t n = BD ∨ X t n = BD
    · rw [if_pos q]
      refine ⟨⟨i1, fun h hh a b => ?_⟩, i3.imp id (fun ⟨h, x⟩ => ⟨h, by omega, x.2⟩)⟩
      by_cases y : h = n
      · subst y; exact absurd q (fun z => z.elim a b)
      · exact i2 h (by omega) a b
    · rw [if_neg q]
      by_cases q2 : gth R X t n < gof (R t n + X t n)
      · rw [if_pos q2]
        refine ⟨⟨by omega, fun h hh a b => ?_⟩, Or.inr ⟨n, by omega, fun z => q (Or.inl z), fun z => q (Or.inr z), rfl⟩⟩
        by_cases y : h = n
        · subst y; exact Int.le_refl _
        · have := i2 h (by omega) a b; omega
      · rw [if_neg q2]
        refine ⟨⟨i1, fun h hh a b => ?_⟩, i3.imp id (fun ⟨h, x⟩ => ⟨h, by omega, x.2⟩)⟩
        by_cases y : h = n
        · subst y; omega
        · exact i2 h (by omega) a b
theorem x_gainThrough (hP : PIc I v V F) (h48 : iN I ≤ 48) {t : Nat} (ht : t ≤ iN I) (hbR : ∀ h, h < iH I → sbd t (rch F t h)) (hbX : ∀ h, h < iH I → sbd (iN I - t) (tbl F t h)) : fX1_gainThrough 63 (t : Int) F = some (gth (rch F) (tbl F) t (iH I)) := by
  obtain ⟨h1, h2, h3, hW, h5, h6, h7, h8⟩ := id hP
  have hN := hW.1
  unfold fX1_gainThrough
  refine lp (fun n h x => fX1_gainThrough_b4 F n 63 (t : Int) x (h : Int)) (iH I) (fun h x => x = gth (rch F) (tbl F) t h) (fun r => r = some (gth (rch F) (tbl F) t (iH I))) ?_ ?_ FU 0 (-1) (Nat.zero_le _) rfl (FU_gt (by omega))
  · rintro n h x hh rfl
    left
    refine ⟨_, rfl, ?_⟩
    have nH : ¬ (iH I : Int) ≤ (h : Int) := by omega
    have t4 : t ≤ 400 := by omega
    have h4 : h ≤ 400 := by omega
    have b1 := b392 (a := t) (b := h) (by omega) (by omega)
    have b2 := b2696 (a := t) (b := h) (by omega) (by omega)
    have hk1 : h < 2147483647 := by omega
    have eR : F 71 (8 * t + h) = rch F t h := rfl
    have eX : F 70 (8 * t + h) = tbl F t h := rfl
    have sR := hbR h hh
    have sX := hbX h hh
    generalize hg : gth (rch F) (tbl F) t h = g
    have e : gth (rch F) (tbl F) t (h + 1) = if rch F t h = BD ∨ tbl F t h = BD then g else if g < gof (rch F t h + tbl F t h) then gof (rch F t h + tbl F t h) else g := by rw [← hg]; rfl
    show fX1_gainThrough_b4 F (n + 1) 63 (t : Int) g (h : Int) = fX1_gainThrough_b4 F n 63 (t : Int) (gth (rch F) (tbl F) t (h + 1)) ((h + 1 : Nat) : Int)
    rw [e, fX1_gainThrough_b4, pv_n h1, if_neg h1.2.1, pv_5 h1, h3, if_neg nH, xw8 t4 h4, a70, a71, xwS hk1]
    simp only [if_pos b1, if_pos b2, Int.toNat_natCast, Nat.reduceAdd, eR, eX]
    by_cases q1 : rch F t h = BD
    · rw [if_pos q1, if_pos (Or.inl q1)]
    · by_cases q2 : tbl F t h = BD
      · rw [if_neg q1, if_pos q2, if_pos (Or.inr q2)]
      · have b0 : -10000 ≤ rch F t h + tbl F t h ∧ rch F t h + tbl F t h ≤ 56623104 := by
          rcases sR with w | w
          · exact absurd w q1
          · rcases sX with u | u
            · exact absurd u q2
            · generalize hk2 : iN I - t = j at u
              omega
        rw [if_neg q1, if_neg q2, if_neg (fun z => z.elim q1 q2), xwn (by omega) (by omega), x_gof (Or.inr ⟨by omega, by omega⟩)]
        rfl
  · rintro n x rfl
    show fX1_gainThrough_b4 F (n + 1) 63 (t : Int) _ ((iH I : Nat) : Int) = _
    rw [fX1_gainThrough_b4, pv_n h1, if_neg h1.2.1, pv_5 h1, h3, if_pos (Int.le_refl _)]
theorem x_gainStaying (hP : PIc I v V F) (h48 : iN I ≤ 48) {s k : Nat} (hs : s < iN I) (hk : k < iH I) (hbR : sbd s (rch F s k)) (hbX : sbd (iN I - (s + 1)) (tbl F (s + 1) k)) {g : Int} (hg : fX1_gainIfHeld 63 (s : Int) (k : Int) F = some g) (hg9 : 0 ≤ g ∧ g ≤ 9) {y : Int}
    (hy : ((rch F s k ≠ BD ∧ tbl F (s + 1) k ≠ BD ∧ (iM I s = -1 ∨ iM I s = (k : Int))) → y = gof (rch F s k + tbl F (s + 1) k + g * 65536))) (hy2 : ¬ (rch F s k ≠ BD ∧ tbl F (s + 1) k ≠ BD ∧ (iM I s = -1 ∨ iM I s = (k : Int))) → y = -1) : fX1_gainStaying 63 (s : Int) (k : Int) F = some y := by
  obtain ⟨h1, h2, h3, hW, h5, h6, h7, h8⟩ := id hP
  have hN := hW.1
  have s4 : s ≤ 400 := by omega
  have s3 : s ≤ 399 := by omega
  have k4 : k ≤ 400 := by omega
  have b1 := b392 (a := s) (b := k) (by omega) (by omega)
  have b2 := b2696 (a := s + 1) (b := k) (by omega) (by omega)
  have eR : F 71 (8 * s + k) = rch F s k := rfl
  have eX : F 70 (8 * (s + 1) + k) = tbl F (s + 1) k := rfl
  unfold fX1_gainStaying
  rw [xw8 s4 k4, xw8p s3 k4, a70, a71]
  simp only [if_pos b1, if_pos b2, Int.toNat_natCast, Nat.reduceAdd, eR, eX]
  by_cases q1 : rch F s k = BD
  · rw [if_pos q1, hy2 (fun z => z.1 q1)]
  · by_cases q2 : tbl F (s + 1) k = BD
    · rw [if_neg q1, if_pos q2, hy2 (fun z => z.2.1 q2)]
    · rw [if_neg q1, if_neg q2, x_canStay hP hs, Option.bind_some, i11, hg, Option.bind_some]
      by_cases q3 : iM I s = -1 ∨ iM I s = (k : Int)
      · have b0 : -10000 ≤ rch F s k + tbl F (s + 1) k ∧ rch F s k + tbl F (s + 1) k ≤ 56623104 := by
          rcases hbR with w | w
          · exact absurd w q1
          · rcases hbX with u | u
            · exact absurd u q2
            · generalize hk2 : iN I - (s + 1) = j at u
              omega
        rw [if_pos q3, hy ⟨q1, q2, q3⟩, xwn (x := rch F s k + tbl F (s + 1) k) (by omega) (by omega), xwn (x := g * 65536) (by omega) (by omega), xwn (by omega) (by omega), x_gof (Or.inr ⟨by omega, by omega⟩)]
      · rw [if_neg q3, hy2 (fun z => q3 z.2.2)]
/-! what a step of the way looks at -/
theorem x_scoreAt {s h : Nat} (hs : s ≤ 336) (hh : h < 8) : fX1_scoreAt 63 (s : Int) (h : Int) F = some (tbl F s h) := by
  have b2 := b2696 (a := s) (b := h) hs hh
  have s4 : s ≤ 400 := by omega
  have h4 : h ≤ 400 := by omega
  unfold fX1_scoreAt
  rw [xw8 s4 h4, a70]
  simp only [if_pos b2, Int.toNat_natCast, Nat.reduceAdd]
  rfl
theorem x_gainIn (hP : PIc I v V F) {s h : Nat} (hs : s < iN I) (hh : h < iH I) : fX1_gainIn 63 (s : Int) (h : Int) F = some (iG I s h) := by
  have hW := hP.2.2.2.1
  have hN := hW.1
  have b2 := bk8 (a := s) (k := h) (by omega) (by omega)
  have s4 : s ≤ 400 := by omega
  have h4 : h ≤ 400 := by omega
  unfold fX1_gainIn
  rw [xw8 s4 h4, a65]
  simp only [if_pos b2, Int.toNat_natCast, Nat.reduceAdd]
  rw [hP.2.2.2.2.2.2.1 s h hs hh]
theorem x_timeOf (hP : PIc I v V F) {a b : Nat} (ha : a < iH I) (hb : b < iH I) : fX1_timeOf 63 (a : Int) (b : Int) F = some (iT I a b : Int) := by
  have hW := hP.2.2.2.1
  have hN := hW.1
  have b2 := b64 (a := a) (b := b) (by omega) (by omega)
  have s4 : a ≤ 400 := by omega
  have h4 : b ≤ 400 := by omega
  unfold fX1_timeOf
  rw [xw8 s4 h4, a69]
  simp only [if_pos b2, Int.toNat_natCast, Nat.reduceAdd]
  rw [(hP.2.2.2.2.2.2.2 a b ha hb).2]
theorem x_going (hP : PIc I v V F) {s h b : Nat} (hs : s < iN I) (hh : h < iH I) (hb : b < iH I) (hbh : b ≠ h) (hf : F 67 s = (fre I s : Int)) (hbd : ∀ t c, s < t → t ≤ iN I → c < iH I → sbd (iN I - t) (tbl F t c)) : fX1_going 63 (s : Int) (h : Int) (b : Int) F = some (gov I (tbl F) s h b) := by
  obtain ⟨h1, h2, h3, hW, h5, h6, h7, h8⟩ := id hP
  have hN := hW.1
  have hfs := (fre_sp (I := I) (iN I - s) s (by omega)).1
  have bs := b337 (show s ≤ 336 by omega)
  have bhb := b64 (a := h) (b := b) (by omega) (by omega)
  have e8 := (h8 h b hh hb).2
  have e8s := (h8 h b hh hb).1
  have t99 := h5 h b hh hb
  have t1 := hW.2.2.1 h b hh hb (fun z => hbh z.symm)
  have c1 := hW.2.2.2 h b hh hb
  have h4 : h ≤ 400 := by omega
  have b4 : b ≤ 400 := by omega
  have lim : s + fre I s < 2147483648 := by omega
  have hst : s + iT I h b < 2147483648 := by omega
  unfold fX1_going
  rw [xw8 h4 b4, a69, a68, a67, a70]
  simp only [if_pos bhb, if_pos bs, Int.toNat_natCast, Nat.reduceAdd, e8, e8s, hf]
  rw [xwA lim, xwA hst]
  unfold gov
  by_cases q2 : fre I s < iT I h b
  · rw [if_neg (by omega), if_pos (Or.inr (Or.inl q2))]
  · have b1 := b2696 (a := s + iT I h b) (b := b) (by omega) (by omega)
    have s4 : s + iT I h b ≤ 400 := by omega
    have sb := hbd (s + iT I h b) b (by omega) (by omega) hb
    rw [if_pos (by omega), xw8 s4 b4]
    simp only [if_pos b1, Int.toNat_natCast]
    have et : F 70 (8 * (s + iT I h b) + b) = tbl F (s + iT I h b) b := rfl
    rw [et]
    by_cases q3 : tbl F (s + iT I h b) b = BD
    · rw [if_neg (fun z => z q3), if_pos (Or.inr (Or.inr q3))]
    · have sr : -33264 ≤ tbl F (s + iT I h b) b ∧ tbl F (s + iT I h b) b ≤ 198180864 := by
        rcases sb with w | w
        · exact absurd w q3
        · generalize hk : iN I - (s + iT I h b) = k at w
          omega
      rw [if_pos q3, if_neg (fun z => z.elim hbh (fun w => w.elim q2 q3)), xwn (by omega) (by omega)]
end ASK
