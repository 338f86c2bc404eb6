/-! ===== in how many ways ===== -/
def wsum (I : Ins) (X W : Nat → Nat → Int) (stays : Int) (s h : Nat) : Nat → Int
  | 0 => stays
  | n + 1 => wsum I X W stays s h n + (if gov I X s h n = X s h then W (s + iT I h n) n else 0)
noncomputable def wst (I : Ins) (X W : Nat → Nat → Int) (s h : Nat) : Int := if stv I X s h = X s h then W (s + 1) h else 0
def cap (x : Int) : Int := if 1000000000000 < x then 1000000000000 else x
def IsW (I : Ins) (X W : Nat → Nat → Int) (k : Nat) : Prop := (∀ h, h < iH I → W (iN I) h = 1) ∧ ∀ s, k ≤ s → s < iN I → ∀ h, h < iH I → W s h = if X s h = BD then 0 else cap (wsum I X W (wst I X W s h) s h (iH I))
theorem wsum_congr {I : Ins} {X W Z : Nat → Nat → Int} {a : Int} {s h : Nat} (hW : WF I) (hs : s < iN I) (hh : h < iH I) (hne : X s h ≠ BD) (e : ∀ t b, s < t → t ≤ iN I → b < iH I → W t b = Z t b) : ∀ n, n ≤ iH I → wsum I X W a s h n = wsum I X Z a s h n := by
  intro n
  induction n with
  | zero => intro _; rfl
  | succ n ih =>
    intro hn
    show wsum I X W a s h n + _ = wsum I X Z a s h n + _
    rw [ih (by omega)]
    by_cases q : gov I X s h n = X s h
    · have zc : ¬ (n = h ∨ fre I s < iT I h n ∨ X (s + iT I h n) n = BD) := fun w => hne (by rw [← q]; unfold gov; rw [if_pos w])
      have t1 := hW.2.2.1 h n hh (by omega) (fun z => zc (Or.inl z.symm))
      have hfs := (fre_sp (I := I) (iN I - s) s (by omega)).1
      have hle : ¬ fre I s < iT I h n := fun z => zc (Or.inr (Or.inl z))
      rw [if_pos q, if_pos q, e (s + iT I h n) n (by omega) (by omega) (by omega)]
    · rw [if_neg q, if_neg q]
theorem W_row {I : Ins} {X W Z : Nat → Nat → Int} {s h : Nat} (hW : WF I) (hs : s < iN I) (hh : h < iH I) (e : ∀ t b, s < t → t ≤ iN I → b < iH I → W t b = Z t b) : (if X s h = BD then 0 else cap (wsum I X W (wst I X W s h) s h (iH I))) = (if X s h = BD then 0 else cap (wsum I X Z (wst I X Z s h) s h (iH I))) := by
  by_cases q : X s h = BD
  · rw [if_pos q, if_pos q]
  · rw [if_neg q, if_neg q]
    have e0 : wst I X W s h = wst I X Z s h := by unfold wst; rw [e (s + 1) h (by omega) (by omega) hh]
    rw [e0, wsum_congr hW hs hh q e _ (Nat.le_refl _)]
theorem W_uniq {I : Ins} {X W Z : Nat → Nat → Int} (hW : WF I) (h1 : IsW I X W 0) (h2 : IsW I X Z 0) : ∀ d s, iN I ≤ s + d → s ≤ iN I → ∀ h, h < iH I → W s h = Z s h := by
  intro d
  induction d with
  | zero =>
    intro s a1 a2 h hh
    have : s = iN I := by omega
    subst this
    rw [h1.1 h hh, h2.1 h hh]
  | succ d ih =>
    intro s a1 a2 h hh
    by_cases q : s = iN I
    · subst q
      rw [h1.1 h hh, h2.1 h hh]
    · rw [h1.2 s (by omega) (by omega) h hh, h2.2 s (by omega) (by omega) h hh]
      exact W_row hW (by omega) hh (fun t b t1 t2 hb => ih t (by omega) t2 b hb)
def wbd (x : Int) : Prop := 0 ≤ x ∧ x ≤ 1000000000000
theorem wsum_bd {I : Ins} {X W : Nat → Nat → Int} {a : Int} {s h : Nat} (ha : wbd a) : ∀ n, (∀ b, b < n → gov I X s h b = X s h → wbd (W (s + iT I h b) b)) → 0 ≤ wsum I X W a s h n ∧ wsum I X W a s h n ≤ 1000000000000 * ((n : Int) + 1) := by
  intro n
  induction n with
  | zero => intro _; exact ⟨ha.1, by have := ha.2; show a ≤ _; omega⟩
  | succ n ih =>
    intro h1
    have i1 := ih (fun b hb => h1 b (by omega))
    show 0 ≤ wsum I X W a s h n + _ ∧ wsum I X W a s h n + _ ≤ _
    by_cases q : gov I X s h n = X s h
    · have := h1 n (by omega) q
      unfold wbd at this
      rw [if_pos q]; omega
    · rw [if_neg q]; omega
theorem cap_bd {x : Int} (h : 0 ≤ x) : wbd (cap x) := by unfold wbd cap; split <;> omega
section CNT
variable {I : Ins} {v : Nat → Int} {V : Nat} {F : Mem} {tv : Nat → Int}
def mny (F : Mem) (s h : Nat) : Int := F 77 (8 * s + h)
theorem mny_set {s h : Nat} {F : Mem} {x : Int} {t b : Nat} (hh : h < 8) (hb : b < 8) : mny (mset F 77 (8 * s + h) x) t b = if t = s ∧ b = h then x else mny F t b := by
  unfold mny
  by_cases y : t = s ∧ b = h
  · rw [if_pos y, y.1, y.2, mset_eq]
  · rw [if_neg y, mset_ne _ _ (by omega)]
theorem x_waysFrom (hP : PIc I v V F) (h48 : iN I ≤ 48) (ht : tv01 tv) (hX : IsX I tv (tbl F)) (hfr : ∀ s, s ≤ iN I → F 67 s = (fre I s : Int)) {s h : Nat} (hs : s < iN I) (hh : h < iH I) (hw : ∀ t b, s < t → t ≤ iN I → b < iH I → wbd (mny F t b)) : fX6_waysFrom 72 63 (s : Int) (h : Int) F = some (if tbl F s h = BD then 0 else wsum I (tbl F) (mny F) (wst I (tbl F) (mny F) s h) s h (iH I)) := by
  obtain ⟨h1, h2, h3, hW, -⟩ := id hP
  have hN := hW.1
  have n63 : ¬ (63 : Nat) = 0 := by decide
  have hbd : ∀ t c, t ≤ iN I → c < iH I → sbd (iN I - t) (tbl F t c) := fun t c t1 t2 => X_bd hW ht hX t1 t2
  have h8 : h < 8 := by omega
  have s336 : s ≤ 336 := by omega
  have s3 : s ≤ 399 := by omega
  have h4 : h ≤ 400 := by omega
  have bs1 := b392 (a := s + 1) (b := h) (by omega) h8
  unfold fX6_waysFrom
  rw [if_neg n63, x_scoreAt s336 h8, Option.bind_some]
  by_cases q : tbl F s h = BD
  · have e : fX1_isWay (tbl F s h) = 0 := if_pos q
    rw [e, if_neg (by decide), if_pos q]
  · have e : fX1_isWay (tbl F s h) = 1 := if_neg q
    rw [e, if_pos (by decide), if_neg n63, x_staying hP hs hh (hbd _ _ (by omega) hh), Option.bind_some, if_neg q]
    have L : ∀ a : Int, wbd a → fX6_waysFrom_b51 F FU 72 63 (s : Int) (h : Int) (tbl F s h) a 0 = some (wsum I (tbl F) (mny F) a s h (iH I)) := by
      intro a ha
      have hwb : ∀ b, b < iH I → gov I (tbl F) s h b = tbl F s h → (b ≠ h ∧ s + iT I h b ≤ iN I) ∧ wbd (mny F (s + iT I h b) b) := by
        intro b hb hg
        have zc : ¬ (b = h ∨ fre I s < iT I h b ∨ tbl F (s + iT I h b) b = BD) := fun w => q (by rw [← hg]; unfold gov; rw [if_pos w])
        have t1 := hW.2.2.1 h b hh hb (fun z => zc (Or.inl z.symm))
        have hfs := (fre_sp (I := I) (iN I - s) s (by omega)).1
        have hle : ¬ fre I s < iT I h b := fun z => zc (Or.inr (Or.inl z))
        exact ⟨⟨fun z => zc (Or.inl z), by omega⟩, hw _ b (by omega) (by omega) hb⟩
      refine lp (fun n b x => fX6_waysFrom_b51 F n 72 63 (s : Int) (h : Int) (tbl F s h) x (b : Int)) (iH I) (fun b x => x = wsum I (tbl F) (mny F) a s h b) (fun r => r = some (wsum I (tbl F) (mny F) a s h (iH I))) ?_ ?_ FU 0 a (Nat.zero_le _) rfl (FU_gt (by omega))
      · rintro n b x hb rfl
        left
        refine ⟨_, rfl, ?_⟩
        have nH : ¬ (iH I : Int) ≤ (b : Int) := by omega
        have hk1 : b < 2147483647 := by omega
        have b4 : b ≤ 400 := by omega
        have bd := wsum_bd (I := I) (X := tbl F) (W := mny F) (s := s) (h := h) ha b (fun c hc hg => (hwb c (by omega) hg).2)
        have eq : wsum I (tbl F) (mny F) a s h (b + 1) = wsum I (tbl F) (mny F) a s h b + (if gov I (tbl F) s h b = tbl F s h then mny F (s + iT I h b) b else 0) := rfl
        rw [eq]
        generalize wsum I (tbl F) (mny F) a s h b = x at *
        show fX6_waysFrom_b51 F (n + 1) 72 63 (s : Int) (h : Int) (tbl F s h) x (b : Int) = _
        rw [fX6_waysFrom_b51, if_neg n63, pv_n h1, if_neg h1.2.1, pv_5 h1, h3, if_neg nH, xwS hk1]
        by_cases y : b = h
        · have : gov I (tbl F) s h b = BD := by unfold gov; rw [if_pos (Or.inl y)]
          rw [if_pos (by omega), this, if_neg (fun z => q z.symm), Int.add_zero]
        · rw [if_neg (by omega), if_neg n63, x_going hP hs hh hb y (hfr s (by omega)) (fun t c t1 t2 t3 => hbd t c t2 t3), Option.bind_some]
          by_cases y2 : gov I (tbl F) s h b = tbl F s h
          · obtain ⟨⟨-, c2⟩, c3⟩ := hwb b hb y2
            have hst : s + iT I h b < 2147483648 := by omega
            have st4 : s + iT I h b ≤ 400 := by omega
            have bb := b392 (a := s + iT I h b) (b := b) (by omega) (by omega)
            unfold wbd at c3
            have em : F 77 (8 * (s + iT I h b) + b) = mny F (s + iT I h b) b := rfl
            have wl : xwl (x + mny F (s + iT I h b) b) = x + mny F (s + iT I h b) b := xwl_id ⟨by omega, by omega⟩
            rw [if_neg (fun z => z y2), if_neg n63, x_timeOf hP hh hb, Option.bind_some, xwA hst, xw8 st4 b4, a77]
            simp only [if_pos bb, Int.toNat_natCast, Nat.reduceAdd, em]
            rw [wl, if_pos y2]
          · rw [if_pos y2, if_neg y2, Int.add_zero]
      · rintro n x rfl
        show fX6_waysFrom_b51 F (n + 1) 72 63 (s : Int) (h : Int) (tbl F s h) _ ((iH I : Nat) : Int) = _
        rw [fX6_waysFrom_b51, if_neg n63, pv_n h1, if_neg h1.2.1, pv_5 h1, h3, if_pos (Int.le_refl _)]
    unfold wst
    by_cases y : stv I (tbl F) s h = tbl F s h
    · have em : F 77 (8 * (s + 1) + h) = mny F (s + 1) h := rfl
      rw [if_neg (fun z => z y), if_pos y, xw8p s3 h4, a77, if_pos bs1, Int.toNat_natCast, show (72 + 5 : Nat) = 77 from rfl, em]
      exact L _ (hw _ _ (by omega) (by omega) hh)
    · rw [if_pos y, if_neg y]
      exact L 0 (by unfold wbd; omega)
theorem x_countWays (hP : PIc I v V F) (h48 : iN I ≤ 48) (ht : tv01 tv) (hX : IsX I tv (tbl F)) (hfr : ∀ s, s ≤ iN I → F 67 s = (fre I s : Int)) : ∃ F', fX6_countWays 72 63 F = some (mny F' 0 (v 4).toNat, F') ∧ IsW I (tbl F) (mny F') 0 ∧ (∀ o k, o ≠ 77 → F' o k = F o k) := by
  obtain ⟨h1, h2, h3, hW, -⟩ := id hP
  have hN := hW.1
  have n63 : ¬ (63 : Nat) = 0 := by decide
  have b4 := h1.2.2.2.2.2.2.2.1
  obtain ⟨z, hz⟩ := nat_of b4.1
  have hz2 : (v 4).toNat = z := by omega
  rw [hz2]
  unfold fX6_countWays
  have keep : ∀ G : Mem, (∀ o k, o ≠ 77 → G o k = F o k) → PIc I v V G ∧ tbl G = tbl F := fun G hG => ⟨hP.mono (fun o k ho => hG o k (by omega)), funext fun s => funext fun h => hG 70 _ (by omega)⟩
  have S : ∀ Z : Mem, (∀ o k, o ≠ 77 → Z o k = F o k) → (∀ h, h < iH I → mny Z (iN I) h = 1) → ∃ F', fX6_countWays_b44 FU 72 63 (xw (Z 63 4 - 1)) Z = some (mny F' 0 z, F') ∧ IsW I (tbl F) (mny F') 0 ∧ (∀ o k, o ≠ 77 → F' o k = F o k) := by
    intro Z z1 z2
    have e0 : xw (Z 63 4 - 1) = (iN I : Int) - 1 - ((0 : Nat) : Int) := by rw [z1 63 4 (by omega), h2, xwn (by omega) (by omega)]; omega
    rw [e0]
    clear e0
    refine lp (fun n k (X : Mem) => fX6_countWays_b44 n 72 63 ((iN I : Int) - 1 - (k : Int)) X) (iN I) (fun k X => (∀ o j, o ≠ 77 → X o j = F o j) ∧ IsW I (tbl F) (mny X) (iN I - k) ∧ ∀ t b, iN I - k ≤ t → t ≤ iN I → b < iH I → wbd (mny X t b)) (fun r => ∃ F', r = some (mny F' 0 z, F') ∧ IsW I (tbl F) (mny F') 0 ∧ (∀ o k, o ≠ 77 → F' o k = F o k)) ?_ ?_ FU 0 Z (by omega) ⟨z1, ⟨z2, fun s s1 s2 => by omega⟩, fun t b t1 t2 hb => ?_⟩ (FU_gt (by omega))
    · rintro n k X hk ⟨q1, q2, q3⟩
      left
      obtain ⟨s, hs⟩ : ∃ s : Nat, (iN I : Int) - 1 - (k : Int) = (s : Int) ∧ s + k + 1 = iN I := ⟨iN I - 1 - k, by omega, by omega⟩
      have n0 : ¬ (s : Int) < 0 := by omega
      have ek : (iN I : Int) - 1 - ((k + 1 : Nat) : Int) = (s : Int) + -1 := by omega
      have E : fX6_countWays_b44 (n + 1) 72 63 (s : Int) X = fX6_countWays_b50 (fX6_countWays_b44 n) FU 72 63 (s : Int) 0 X := by
        rw [fX6_countWays_b44, if_neg n0]
      show ∃ s' : Mem, _ ∧ fX6_countWays_b44 (n + 1) 72 63 ((iN I : Int) - 1 - (k : Int)) X = fX6_countWays_b44 n 72 63 ((iN I : Int) - 1 - ((k + 1 : Nat) : Int)) s'
      rw [hs.1, ek, E]
      have hbX : ∀ t b, s < t → t ≤ iN I → b < iH I → wbd (mny X t b) := fun t b t1 t2 hb => q3 t b (by omega) t2 hb
      refine lp (fun m j (Y : Mem) => fX6_countWays_b50 (fX6_countWays_b44 n) m 72 63 (s : Int) (j : Int) Y) (iH I) (fun j Y => (∀ o i, o ≠ 77 → Y o i = F o i) ∧ (∀ t b, s < t → b < iH I → mny Y t b = mny X t b) ∧ (∀ b, b < j → mny Y s b = if tbl F s b = BD then 0 else cap (wsum I (tbl F) (mny X) (wst I (tbl F) (mny X) s b) s b (iH I)))) (fun r => ∃ s' : Mem, ((∀ o j, o ≠ 77 → s' o j = F o j) ∧ IsW I (tbl F) (mny s') (iN I - (k + 1)) ∧ ∀ t b, iN I - (k + 1) ≤ t → t ≤ iN I → b < iH I → wbd (mny s' t b)) ∧ r = fX6_countWays_b44 n 72 63 ((s : Int) + -1) s') ?_ ?_ FU 0 X (Nat.zero_le _) ⟨q1, fun _ _ _ _ => rfl, fun b hb => absurd hb (by omega)⟩ (FU_gt (by omega))
      · rintro m j Y hj ⟨p1, p2, p3⟩
        left
        obtain ⟨hPY, eT⟩ := keep Y p1
        have wf := x_waysFrom hPY h48 ht (by rw [eT]; exact hX) (fun t ht2 => (p1 67 t (by omega)).trans (hfr t ht2)) (s := s) (h := j) (by omega) hj (fun t b t1 t2 hb => by rw [p2 t b t1 hb]; exact hbX t b t1 t2 hb)
        rw [eT] at wf
        have nH : ¬ (iH I : Int) ≤ (j : Int) := by omega
        have s4 : s ≤ 400 := by omega
        have j4 : j ≤ 400 := by omega
        have hk1 : j < 2147483647 := by omega
        have b1 := b392 (a := s) (b := j) (by omega) (by omega)
        have j8 : j < 8 := by omega
        have ec : ∀ x : Int, xmin x 1000000000000 = cap x := fun x => rfl
        have wr := W_row (X := tbl F) (W := mny Y) (Z := mny X) hW (s := s) (h := j) (by omega) hj (fun t b t1 t2 hb => p2 t b t1 hb)
        refine ⟨mset Y 77 (8 * s + j) (if tbl F s j = BD then 0 else cap (wsum I (tbl F) (mny X) (wst I (tbl F) (mny X) s j) s j (iH I))), ⟨fun o i ho => ?_, fun t b t1 hb => ?_, fun b hb => ?_⟩, ?_⟩
        · rw [mset_ne _ _ (by omega)]; exact p1 o i ho
        · rw [mny_set j8 (by omega), if_neg (by omega)]; exact p2 t b t1 hb
        · rw [mny_set j8 (by omega)]
          by_cases y : b = j
          · subst y; rw [if_pos ⟨rfl, rfl⟩]
          · rw [if_neg (by omega)]; exact p3 b (by omega)
        · show fX6_countWays_b50 (fX6_countWays_b44 n) (m + 1) 72 63 (s : Int) (j : Int) Y = _
          rw [fX6_countWays_b50, if_neg n63, pv_n hPY.1, if_neg h1.2.1, pv_5 hPY.1, h3, if_neg nH, wf, Option.bind_some, xw8 s4 j4, a77, if_pos b1, Int.toNat_natCast, xwS hk1, ec, ← wr]
          by_cases y : tbl F s j = BD
          · rw [if_pos y, if_pos y]; rfl
          · rw [if_neg y, if_neg y]
      · rintro m Y ⟨p1, p2, p3⟩
        obtain ⟨hPY, eT⟩ := keep Y p1
        have w : xw ((s : Int) + -1) = (s : Int) + -1 := xwn (by omega) (by omega)
        have rows : ∀ b, b < iH I → mny Y s b = if tbl F s b = BD then 0 else cap (wsum I (tbl F) (mny Y) (wst I (tbl F) (mny Y) s b) s b (iH I)) := fun b hb => by
          rw [p3 b hb]
          exact (W_row (X := tbl F) (W := mny Y) (Z := mny X) hW (s := s) (h := b) (by omega) hb (fun t c t1 t2 hc => p2 t c t1 hc)).symm
        refine ⟨Y, ⟨p1, ⟨fun h hh => ?_, fun t t1 t2 h hh => ?_⟩, fun t b t1 t2 hb => ?_⟩, ?_⟩
        · rw [p2 _ _ (by omega) hh]; exact q2.1 h hh
        · by_cases y : t = s
          · rw [y]; exact rows h hh
          · rw [p2 t h (by omega) hh, q2.2 t (by omega) t2 h hh]
            exact (W_row hW (by omega) hh (fun u c u1 u2 hc => p2 u c (by omega) hc)).symm
        · by_cases y : t = s
          · rw [y, p3 b hb]
            by_cases y2 : tbl F s b = BD
            · rw [if_pos y2]; unfold wbd; omega
            · rw [if_neg y2]
              refine cap_bd (wsum_bd (I := I) (X := tbl F) (W := mny X) (s := s) (h := b) ?_ (iH I) (fun c hc hg => ?_)).1
              · unfold wst
                split
                · exact hbX _ _ (by omega) (by omega) hb
                · unfold wbd; omega
              · have zc : ¬ (c = b ∨ fre I s < iT I b c ∨ tbl F (s + iT I b c) c = BD) := fun w2 => y2 (by rw [← hg]; unfold gov; rw [if_pos w2])
                have t1 := hW.2.2.1 b c hb hc (fun z => zc (Or.inl z.symm))
                have hfs := (fre_sp (I := I) (iN I - s) s (by omega)).1
                have hle : ¬ fre I s < iT I b c := fun z => zc (Or.inr (Or.inl z))
                exact hbX _ c (by omega) (by omega) hc
          · rw [p2 t b (by omega) hb]; exact q3 t b (by omega) t2 hb
        · show fX6_countWays_b50 (fX6_countWays_b44 n) (m + 1) 72 63 (s : Int) ((iH I : Nat) : Int) Y = _
          rw [fX6_countWays_b50, if_neg n63, pv_n hPY.1, if_neg h1.2.1, pv_5 hPY.1, h3, if_pos (Int.le_refl _), w]
    · rintro n X ⟨q1, q2, q3⟩
      obtain ⟨hPX, eT⟩ := keep X q1
      have n0 : (iN I : Int) - 1 - ((iN I : Nat) : Int) < 0 := by omega
      have bst : (0 : Int) ≤ (z : Int) ∧ (z : Int) < ((392 : Nat) : Int) := by omega
      refine ⟨X, ?_, ⟨q2.1, fun s _ s2 h hh => q2.2 s (by omega) s2 h hh⟩, q1⟩
      show fX6_countWays_b44 (n + 1) 72 63 ((iN I : Int) - 1 - ((iN I : Nat) : Int)) X = _
      have em : X 77 z = mny X 0 z := by unfold mny; rw [Nat.mul_zero, Nat.zero_add]
      rw [fX6_countWays_b44, if_pos n0, if_neg n63, pv_n hPX.1, if_neg h1.2.1, pv_4 hPX.1, hz, a77, if_pos bst, Int.toNat_natCast, show (72 + 5 : Nat) = 77 from rfl, em]
    · have : t = iN I := by omega
      rw [this, z2 b hb]
      unfold wbd; omega
  refine lp (fun n h (X : Mem) => fX6_countWays_b2 n 72 63 (h : Int) X) (iH I) (fun h X => (∀ o k, o ≠ 77 → X o k = F o k) ∧ ∀ j, j < h → mny X (iN I) j = 1) (fun r => ∃ F', r = some (mny F' 0 z, F') ∧ IsW I (tbl F) (mny F') 0 ∧ (∀ o k, o ≠ 77 → F' o k = F o k)) ?_ ?_ FU 0 F (Nat.zero_le _) ⟨fun _ _ _ => rfl, fun j hj => absurd hj (by omega)⟩ (FU_gt (by omega))
  · rintro n h X hh ⟨q1, q2⟩
    left
    obtain ⟨hPX, eT⟩ := keep X q1
    have nH : ¬ (iH I : Int) ≤ (h : Int) := by omega
    have N4 : iN I ≤ 400 := by omega
    have h4 : h ≤ 400 := by omega
    have b1 := b392 (a := iN I) (b := h) (by omega) (by omega)
    have h8' : h < 8 := by omega
    have hk1 : h < 2147483647 := by omega
    have e63 : X 63 4 = (iN I : Int) := (q1 63 4 (by omega)).trans h2
    refine ⟨mset X 77 (8 * iN I + h) 1, ⟨fun o j ho => ?_, fun j hj => ?_⟩, ?_⟩
    · rw [mset_ne _ _ (by omega)]; exact q1 o j ho
    · rw [mny_set h8' (by omega)]
      by_cases y : j = h
      · subst y; rw [if_pos ⟨rfl, rfl⟩]
      · rw [if_neg (by omega)]; exact q2 j (by omega)
    · show fX6_countWays_b2 (n + 1) 72 63 (h : Int) X = _
      rw [fX6_countWays_b2, if_neg n63, pv_n hPX.1, if_neg h1.2.1, pv_5 hPX.1, h3, if_neg nH, if_neg n63, e63, xw8 N4 h4, a77, if_pos b1, Int.toNat_natCast, xwS hk1]
  · rintro n X ⟨q1, q2⟩
    obtain ⟨hPX, eT⟩ := keep X q1
    show ∃ F', fX6_countWays_b2 (n + 1) 72 63 ((iH I : Nat) : Int) X = _ ∧ _
    rw [fX6_countWays_b2, if_neg n63, pv_n hPX.1, if_neg h1.2.1, pv_5 hPX.1, h3, if_pos (Int.le_refl _), if_neg n63]
    exact S X q1 q2
end CNT
