/-! ===== text ===== -/
section TT1
variable {F : Mem} {st : Nat}
theorem cp_al (hst : st < 4) : (st ≠ 0 → (alen (fX4_sheetsOf 2 (st : Int)) : Int) = cp st) ∧ (st = 0 → (alen (2 + 3) : Int) = cp st) := by
  obtain rfl | rfl | rfl | rfl : st = 0 ∨ st = 1 ∨ st = 2 ∨ st = 3 := by omega
  · exact ⟨fun z => absurd rfl z, fun _ => rfl⟩
  · exact ⟨fun _ => rfl, fun z => absurd z (by decide)⟩
  · exact ⟨fun _ => rfl, fun z => absurd z (by decide)⟩
  · exact ⟨fun _ => rfl, fun z => absurd z (by decide)⟩
theorem x_num (hT : TR (F 174) F 2) (hst : st < 4) (y : Int) : fX4_numberFor 2 (st : Int) y F = some (if y = -1 then (if F 174 st < cp st then F 174 st else -2) else (if 0 ≤ y ∧ y < F 174 st then y else -2)) := by
  have c4 : F (2 + 2) st = F 174 st := hT.2.2.2.2.1 st hst
  have a4 : alen (2 + 2) = 4 := rfl
  have b : fX4_numberFor_b51 F 2 (st : Int) (cp st) = some (if F 174 st < cp st then F 174 st else -2) := by
    have bs : (0 : Int) ≤ (st : Int) ∧ (st : Int) < ((4 : Nat) : Int) := by omega
    unfold fX4_numberFor_b51
    rw [a4, if_pos bs, if_pos bs, Int.toNat_natCast, c4]
    by_cases q : F 174 st < cp st
    · rw [if_neg (by omega), if_pos q]
    · rw [if_pos (by omega), if_neg q]
  unfold fX4_numberFor
  rw [if_neg (by omega), if_pos (by omega)]
  by_cases hy : y = -1
  · rw [if_pos hy, if_pos hy]
    by_cases s0 : st = 0
    · have hs : ¬ ((st : Nat) : Int) ≠ 0 := by omega
      rw [if_neg hs, (cp_al hst).2 s0]; exact b
    · have hs : ((st : Nat) : Int) ≠ 0 := by omega
      rw [if_pos hs, (cp_al hst).1 s0]; exact b
  · rw [if_neg hy, if_neg hy, t_there hT hst y rfl, Option.bind_some, i10]
    by_cases q : 0 ≤ y ∧ y < F 174 st
    · rw [if_pos q, if_pos q]
    · rw [if_neg q, if_neg q]
theorem m_isOf2 {G : Mem} (hst : st < 4) {c : Int} (hc : G 174 st = c) (hb : 0 ≤ c ∧ c ≤ 3) (y : Int) : fX10_isOf 173 (st : Int) y G = some (if 0 ≤ y ∧ y < c then 1 else 0) := by
  unfold fX10_isOf
  rw [al174, if_pos (by omega), m_isIn, if_pos b01, Int.toNat_natCast, show (173 + 1 : Nat) = 174 from rfl, hc, xwn (by omega) (by omega)]
  congr 1
  by_cases h : 0 ≤ y ∧ y < c
  · rw [if_pos h, if_pos (by omega)]
  · rw [if_neg h, if_neg (by omega)]
theorem m_text (hst : st < 4) {F1 : Mem} {c : Int} (hc : F1 174 st = c) (hb : 0 ≤ c ∧ c ≤ 3) (y : Int) : fX10_text 173 (st : Int) y F1 = if (y = -1 ∧ c < cp st) ∨ (y ≠ -1 ∧ 0 ≤ y ∧ y < c) then fX10_text_b95 FU 173 (st : Int) y 0 (mset (mset (clr F1) 173 3 0) 173 8 0) else some (-2, clr F1) := by
  have bb6 : (0 : Int) ≤ 6 ∧ (6 : Int) < ((5268 : Nat) : Int) := by decide
  have bb7 : (0 : Int) ≤ 7 ∧ (7 : Int) < ((5268 : Nat) : Int) := by decide
  have bb8 : (0 : Int) ≤ 8 ∧ (8 : Int) < ((5268 : Nat) : Int) := by decide
  have bs : (0 : Int) ≤ (st : Int) ∧ (st : Int) < ((5268 : Nat) : Int) := by omega
  have h4 : (0 : Int) ≤ (st : Int) ∧ (st : Int) ≤ 3 := by omega
  have e : mset (mset (mset (mset F1 173 2 (F1 (173 + 1) 6)) (173 + 1) 6 0) (173 + 1) 7 0) (173 + 1) 8 (-1) = clr F1 := rfl
  have hcc : clr F1 174 st = c := (clr_f F1 174 st (by omega) (by omega) (by omega)).trans hc
  have hcc2 : clr F1 (173 + 1) st = c := hcc
  unfold fX10_text
  rw [al174, if_pos bb6, if_pos bb6, if_pos bb7, if_pos bb8, e, m_isIn, i10, if_pos h4]
  by_cases hy : y = -1
  · have e65 : ∀ z : Int, z = cp st → fX10_text_b65 173 (st : Int) y c z (clr F1) = if (y = -1 ∧ c < cp st) ∨ (y ≠ -1 ∧ 0 ≤ y ∧ y < c) then fX10_text_b95 FU 173 (st : Int) y 0 (mset (mset (clr F1) 173 3 0) 173 8 0) else some (-2, clr F1) := fun z hz => by
      unfold fX10_text_b65
      rw [hz]
      by_cases q : c < cp st
      · rw [if_pos q, if_pos (Or.inl ⟨hy, q⟩)]
      · rw [if_neg q, if_neg (fun w => w.elim (fun w => q w.2) (fun w => w.1 hy))]
    rw [if_neg (dnn hy), if_pos bs, Int.toNat_natCast, hcc2]
    by_cases s1 : st = 1
    · have hs : ¬ ((st : Nat) : Int) ≠ 1 := by omega
      rw [if_neg hs]
      exact e65 3 (by unfold cp; rw [if_pos s1])
    · have hs : ((st : Nat) : Int) ≠ 1 := by omega
      rw [if_pos hs]
      exact e65 2 (by unfold cp; rw [if_neg s1])
  · rw [if_pos hy, m_isOf2 hst hcc hb, Option.bind_some, i11]
    by_cases q : 0 ≤ y ∧ y < c
    · rw [if_pos q, if_pos (Or.inr ⟨hy, q⟩)]
    · rw [if_neg q, if_neg (fun w => w.elim (fun w => hy w.1) (fun w => q w.2))]
theorem t_bad {a b : Int} (hR : RR F) (e1 : fX4_numberFor 2 a b F = some (-2)) (e2 : ∀ F1 : Mem, (∀ k, F1 174 k = F 174 k) → fX10_text 173 a b F1 = some (-2, clr F1)) : ∃ (z : Int) (F1 F2 : Mem), gX9_text (vR 1 :: [vI a, vI b]) F (some (vI z)) F1 ∧ gX10_text (vR 173 :: [vI a, vI b]) F1 (some (vI z)) F2 ∧ RR F2 := by
  obtain ⟨hA, hT, hI, h11, h12, h13⟩ := id hR
  have eX : fX9_text 1 a b F = some (-2, fX4_takeTape 2 0 (-1) F) := by
    unfold fX9_text
    rw [show (1 + 1 : Nat) = 2 from rfl, e1, Option.bind_some, if_neg (by decide)]
  generalize eF : fX4_takeTape 2 0 (-1) F = F1 at eX
  unfold fX4_takeTape at eF
  have f1 : ∀ o k, ¬ (o = 2 ∧ 1 ≤ k ∧ k ≤ 3) → F1 o k = F o k := fun o k z => by rw [← eF, mset_ne _ _ (by omega), mset_ne _ _ (by omega), mset_ne _ _ (by omega)]
  have g1 : F1 2 1 = 0 := by rw [← eF, mset_ne _ _ (by omega), mset_ne _ _ (by omega), mset_eq]
  have g2 : F1 2 2 = 0 := by rw [← eF, mset_ne _ _ (by omega), mset_eq]
  have g3 : F1 2 3 = -1 := by rw [← eF, mset_eq]
  have cf := clr_f F1
  have c6 : clr F1 174 6 = 0 := by unfold clr; rw [mset_ne _ _ (by omega), mset_ne _ _ (by omega), mset_eq]
  have c7 : clr F1 174 7 = 0 := by unfold clr; rw [mset_ne _ _ (by omega), mset_eq]
  have c8 : clr F1 174 8 = -1 := by unfold clr; rw [mset_eq]
  refine ⟨-2, F1, clr F1, ⟨1, a, b, _, rfl, k9, eX, rfl, rfl⟩, ⟨173, a, b, _, rfl, k10, e2 F1 (fun k => f1 _ _ (by omega)), rfl, rfl⟩, ?_⟩
  refine hR.tape (fun o k z1 z2 z3 z4 => (cf o k (by omega) (by omega) (by omega)).trans (f1 o k (by omega))) (fun k hk => (cf 174 k (by omega) (by omega) (by omega)).trans (f1 _ _ (by omega))) ⟨?_, ?_, ?_⟩ ⟨by omega, by omega⟩ (fun k hk => ?_) (fun k hk => absurd hk (by omega)) ?_ ?_ ?_
  · rw [cf 2 1 (by omega) (by omega) (by omega), g1, c6]
  · rw [cf 2 2 (by omega) (by omega) (by omega), g2, c7]
  · rw [cf 2 3 (by omega) (by omega) (by omega), g3, c8]
  · rw [cf 3 k (by omega) (by omega) (by omega), f1 _ _ (by omega)]; exact hT.2.2.1 k hk
  · rw [cf 173 11 (by omega) (by omega) (by omega), f1 _ _ (by omega)]; exact h11
  · rw [cf 173 12 (by omega) (by omega) (by omega), f1 _ _ (by omega)]; exact h12
  · rw [cf 173 13 (by omega) (by omega) (by omega), f1 _ _ (by omega)]; exact h13
def wd (st : Nat) : Nat := if st = 0 then 4 else 1
/-- the class keeps what it read -/
theorem x_keepA {M : Mem} {r : Nat} {c : Int} (hst : st < 4) (hr : (r : Int) < cp st) (hc : M 4 st = c) : ∃ F1, fX4_keep 2 (st : Int) (r : Int) 35 M = some F1 ∧ F1 4 st = xmax c ((r + 1 : Nat) : Int) ∧ ((st = 0 → ∀ v, VO v → VR v M 37 → VR v F1 (2 + 7 + 9 * r)) ∧ (st = 1 → ∀ v, SR 3 16 v M 42 → SR 3 16 v F1 (2 + 25 + 2 * r)) ∧ (st = 2 → ∀ v, SR 6 30 v M 44 → SR 6 30 v F1 (2 + 12 + 9 * r)) ∧ (st = 3 → ∀ v, SR 2 20 v M 46 → SR 2 20 v F1 (2 + 14 + 9 * r))) ∧ ∀ o k, ¬ (o = 4 ∧ k = st) → ¬ (dst st r ≤ o ∧ o ≤ dst st r + wd st) → F1 o k = M o k := by
  obtain rfl | rfl | rfl | rfl : st = 0 ∨ st = 1 ∨ st = 2 ∨ st = 3 := by omega
  · have hr2 : (r : Int) < 2 := hr
    obtain ⟨F1, u1, u2, u3, u4⟩ := x_keepV (M := M) (r := r) (c := c) (by omega) hc
    exact ⟨F1, u1, u2, ⟨fun _ => u3, fun z => absurd z (by decide), fun z => absurd z (by decide), fun z => absurd z (by decide)⟩, u4⟩
  · have hr2 : (r : Int) < 3 := hr
    have hd : isK (dst 1 r) 3 ∧ cst (dst 1 r) 1 = ((3 : Nat) : Int) ∧ cst (dst 1 r) 0 = ((16 : Nat) : Int) ∧ alen (dst 1 r + 1) = 3 * 16 := by
      obtain rfl | rfl | rfl : r = 0 ∨ r = 1 ∨ r = 2 := by omega
      all_goals exact ⟨rfl, rfl, rfl, rfl⟩
    obtain ⟨F1, u1, u2, u3, u4⟩ := x_keepS (M := M) (st := 1) (r := r) (s := 42) (c := c) (by decide) hr hc rfl (by decide) rfl hd.1 hd.2.1 hd.2.2.1 hd.2.2.2
    exact ⟨F1, u1, u2, ⟨fun z => absurd z (by decide), fun _ => u3, fun z => absurd z (by decide), fun z => absurd z (by decide)⟩, u4⟩
  · have hr2 : (r : Int) < 2 := hr
    have hd : isK (dst 2 r) 3 ∧ cst (dst 2 r) 1 = ((6 : Nat) : Int) ∧ cst (dst 2 r) 0 = ((30 : Nat) : Int) ∧ alen (dst 2 r + 1) = 6 * 30 := by
      obtain rfl | rfl : r = 0 ∨ r = 1 := by omega
      all_goals exact ⟨rfl, rfl, rfl, rfl⟩
    obtain ⟨F1, u1, u2, u3, u4⟩ := x_keepS (M := M) (st := 2) (r := r) (s := 44) (c := c) (by decide) hr hc rfl (by decide) rfl hd.1 hd.2.1 hd.2.2.1 hd.2.2.2
    exact ⟨F1, u1, u2, ⟨fun z => absurd z (by decide), fun z => absurd z (by decide), fun _ => u3, fun z => absurd z (by decide)⟩, u4⟩
  · have hr2 : (r : Int) < 2 := hr
    have hd : isK (dst 3 r) 3 ∧ cst (dst 3 r) 1 = ((2 : Nat) : Int) ∧ cst (dst 3 r) 0 = ((20 : Nat) : Int) ∧ alen (dst 3 r + 1) = 2 * 20 := by
      obtain rfl | rfl : r = 0 ∨ r = 1 := by omega
      all_goals exact ⟨rfl, rfl, rfl, rfl⟩
    obtain ⟨F1, u1, u2, u3, u4⟩ := x_keepS (M := M) (st := 3) (r := r) (s := 46) (c := c) (by decide) hr hc rfl (by decide) rfl hd.1 hd.2.1 hd.2.2.1 hd.2.2.2
    exact ⟨F1, u1, u2, ⟨fun z => absurd z (by decide), fun z => absurd z (by decide), fun z => absurd z (by decide), fun _ => u3⟩, u4⟩
/-- a row kept: the relation between calls -/
theorem RR.kept {M F1 H F2 G : Mem} {r : Nat} {c : Int} (hR : RR F) (hst : st < 4) (hr : (r : Int) < cp st) (hc : F 174 st = c) (hrc : (r : Int) ≤ c) (gF : kXt F G) (hM : ∀ o k, ¬ (o = 2 ∧ 1 ≤ k ∧ k ≤ 3) → M o k = G o k) (m1 : M 2 1 = 0) (m2 : M 2 2 = H 174 7) (m3 : M 2 3 = H 174 8) (f1 : F1 4 st = xmax c ((r + 1 : Nat) : Int)) (fr : (st = 0 → ∀ v, VO v → VR v M 37 → VR v F1 (2 + 7 + 9 * r)) ∧ (st = 1 → ∀ v, SR 3 16 v M 42 → SR 3 16 v F1 (2 + 25 + 2 * r)) ∧ (st = 2 → ∀ v, SR 6 30 v M 44 → SR 6 30 v F1 (2 + 12 + 9 * r)) ∧ (st = 3 → ∀ v, SR 2 20 v M 46 → SR 2 20 v F1 (2 + 14 + 9 * r))) (ff : ∀ o k, ¬ (o = 4 ∧ k = st) → ¬ (dst st r ≤ o ∧ o ≤ dst st r + wd st) → F1 o k = M o k) (hK : K0 st G H) (hH : kMt F1 H) (h6 : H 174 6 = 0) (g1 : F2 174 st = xmax c ((r + 1 : Nat) : Int)) (g2 : ∀ i, i < szo st → F2 174 (plc st r + i) = H 176 i) (g3 : ∀ o k, ¬ (o = 174 ∧ (k = st ∨ (plc st r ≤ k ∧ k < plc st r + szo st))) → F2 o k = H o k) : RR F2 := by
  obtain ⟨hA, hT, hI, h11, h12, h13⟩ := id hR
  obtain ⟨a0, a1, a2, a3, -⟩ := id hA
  have hr3 : (r : Int) < 3 := by unfold cp at hr; split at hr <;> omega
  have c0 : 0 ≤ c := by omega
  have hx : xmax c ((r + 1 : Nat) : Int) = if c = (r : Int) then c + 1 else c := by
    unfold xmax
    by_cases q : c = (r : Int)
    · rw [if_pos q, if_pos (by omega)]; omega
    · rw [if_neg q, if_neg (by omega)]
  -- where the row lies
  have hp : (610 ≤ plc st r ∧ plc st r + szo st ≤ 1317) ∧ (9 ≤ dst st r ∧ dst st r + wd st ≤ 33) := by
    obtain rfl | rfl | rfl | rfl : st = 0 ∨ st = 1 ∨ st = 2 ∨ st = 3 := by omega
    · have hr2 : (r : Int) < 2 := hr
      have e1 : plc 0 r = 610 + 58 * r := rfl
      have e2 : szo 0 = 58 := rfl
      have e3 : dst 0 r = 2 + 7 + 9 * r := rfl
      have e4 : wd 0 = 4 := rfl
      omega
    · have e1 : plc 1 r = 726 + 49 * r := rfl
      have e2 : szo 1 = 49 := rfl
      have e3 : dst 1 r = 2 + 25 + 2 * r := rfl
      have e4 : wd 1 = 1 := rfl
      omega
    · have hr2 : (r : Int) < 2 := hr
      have e1 : plc 2 r = 873 + 181 * r := rfl
      have e2 : szo 2 = 181 := rfl
      have e3 : dst 2 r = 2 + 12 + 9 * r := rfl
      have e4 : wd 2 = 1 := rfl
      omega
    · have hr2 : (r : Int) < 2 := hr
      have e1 : plc 3 r = 1235 + 41 * r := rfl
      have e2 : szo 3 = 41 := rfl
      have e3 : dst 3 r = 2 + 14 + 9 * r := rfl
      have e4 : wd 3 = 1 := rfl
      omega
  have O : ∀ o k, (o ≤ 34 ∨ (48 ≤ o ∧ o ≤ 172) ∨ o = 175) → ¬ (o = 2 ∧ 1 ≤ k ∧ k ≤ 3) → ¬ (o = 4 ∧ k = st) → ¬ (dst st r ≤ o ∧ o ≤ dst st r + wd st) → F2 o k = F o k := fun o k z1 z2 z3 z4 => by
    rw [g3 o k (by omega), hH o k (by omega) (by omega) (by omega), ff o k z3 z4, hM o k z2, gF o k (by omega)]
  have E0 : ∀ k, ¬ (6 ≤ k ∧ k ≤ 8) → H 174 k = F 174 k := fun k z => by
    rw [hH 174 k (by omega) (by omega) (by omega), ff 174 k (by omega) (by omega), hM 174 k (by omega), gF 174 k (by omega)]
  have E : ∀ k, k ≠ st → ¬ (6 ≤ k ∧ k ≤ 8) → ¬ (plc st r ≤ k ∧ k < plc st r + szo st) → F2 174 k = F 174 k := fun k z1 z2 z3 => by
    rw [g3 174 k (by omega)]; exact E0 k z2
  have D : ∀ o k, dst st r ≤ o → o ≤ dst st r + wd st → F2 o k = F1 o k := fun o k z1 z2 => by
    rw [g3 o k (by omega), hH o k (by omega) (by omega) (by omega)]
  have e7 : F2 174 7 = H 174 7 := g3 _ _ (by omega)
  have e8 : F2 174 8 = H 174 8 := g3 _ _ (by omega)
  have e6 : F2 174 6 = 0 := (g3 _ _ (by omega)).trans h6
  have two : ∀ k, F2 2 k = M 2 k := fun k => by rw [g3 2 k (by omega), hH 2 k (by omega) (by omega) (by omega), ff 2 k (by omega) (by omega)]
  have hc4 : F2 4 st = F2 174 st := by rw [g3 4 st (by omega), hH 4 st (by omega) (by omega) (by omega), f1, g1]
  have x173 : ∀ k, 9 ≤ k → F2 173 k = F 173 k := fun k hk => by rw [g3 173 k (by omega), hH 173 k (by omega) (by omega) (by omega), ff 173 k (by omega) (by omega), hM 173 k (by omega), gF 173 k (by omega)]
  have ct : ∀ i, i < 4 → i ≠ st → F2 174 i = F 174 i := fun i hi z => E i z (by omega) (by omega)
  have cst2 : F2 174 st = if c = (r : Int) then c + 1 else c := g1.trans hx
  have toM : ∀ o k, 35 ≤ o → o ≤ 47 → M o k = G o k := fun o k z1 z2 => hM o k (by omega)
  have hput : pV F2 → pR F2 → pL F2 → pE F2 → ((0 ≤ F2 174 0 ∧ F2 174 0 ≤ 2) ∧ (0 ≤ F2 174 1 ∧ F2 174 1 ≤ 3) ∧ (0 ≤ F2 174 2 ∧ F2 174 2 ≤ 2) ∧ (0 ≤ F2 174 3 ∧ F2 174 3 ≤ 2)) → RR F2 := fun p1 p2 p3 p4 hcs => by
    refine hR.put (fun o k z => O o k (by omega) (by omega) (by omega) (by omega)) (fun k hk => E k (by omega) (by omega) (by omega)) hcs ⟨?_, ?_, ?_⟩ e6 (fun k hk => ?_) (fun i hi => ?_) p1 p2 p3 p4 ((x173 11 (by omega)).trans h11) ((x173 12 (by omega)).trans h12) ((x173 13 (by omega)).trans h13)
    · rw [two, m1, e6]
    · rw [two, m2, e7]
    · rw [two, m3, e8]
    · rw [O 3 k (by omega) (by omega) (by omega) (by omega)]; exact hT.2.2.1 k hk
    · by_cases q : i = st
      · rw [q]; exact hc4
      · rw [O 4 i (by omega) (by omega) (by omega) (by omega), ct i hi q]; exact hT.2.2.2.2.1 i hi
  obtain ⟨k0, k1, k2, k3⟩ := hK
  obtain ⟨fr0, fr1, fr2, fr3⟩ := fr
  obtain rfl | rfl | rfl | rfl : st = 0 ∨ st = 1 ∨ st = 2 ∨ st = 3 := by omega
  · have hr2 : (r : Int) < 2 := hr
    have e1 : plc 0 r = 610 + 58 * r := rfl
    have e2 : szo 0 = 58 := rfl
    have e3 : dst 0 r = 2 + 7 + 9 * r := rfl
    have e4 : wd 0 = 4 := rfl
    have c1 := ct 1 (by decide) (by decide)
    have c2 := ct 2 (by decide) (by decide)
    have c3 := ct 3 (by decide) (by decide)
    refine hput (fun i hi => ?_) (keepR hR c1 (fun k z1 z2 => E k (by omega) (by omega) (by omega)) (fun o k z => O o k (by omega) (by omega) (by omega) (by omega))) (keepL hR c2 (fun k z1 z2 => E k (by omega) (by omega) (by omega)) (fun o k z => O o k (by omega) (by omega) (by omega) (by omega))) (keepE hR c3 (fun k z1 z2 => E k (by omega) (by omega) (by omega)) (fun o k z => O o k (by omega) (by omega) (by omega) (by omega))) ?_
    · by_cases q : i = r
      · subst q
        obtain ⟨y1, y2⟩ := k0 rfl
        have qq : ∀ j, j < 58 → vOf (F2 174) i j = H 176 j := fun j hj => g2 j hj
        have y3 : VR (H 176) M 37 := y2.mono (fun o k z1 z2 => toM o k (by omega) (by omega))
        exact ⟨y1.cg qq, ((fr0 rfl _ y1 y3).mono (F' := F2) (fun o k z1 z2 => D o k (by omega) (by omega))).congr y1 qq⟩
      · have hi2 : (i : Int) < F 174 0 := by rw [cst2] at hi; split at hi <;> omega
        have a := hA.2.2.2.2.2.2.1 i hi2
        have b := hT.2.2.2.2.2.1 i hi2
        have qq : ∀ j, j < 58 → vOf (F2 174) i j = vOf (F 174) i j := fun j hj => E _ (by omega) (by omega) (by omega)
        exact ⟨a.cg qq, (b.mono (F' := F2) (fun o k x y => O o k (by omega) (by omega) (by omega) (by omega))).congr a qq⟩
    · rw [cst2, c1, c2, c3]
      refine ⟨?_, a1, a2, a3⟩
      split <;> omega
  · have e1 : plc 1 r = 726 + 49 * r := rfl
    have e2 : szo 1 = 49 := rfl
    have e3 : dst 1 r = 2 + 25 + 2 * r := rfl
    have e4 : wd 1 = 1 := rfl
    have c0 := ct 0 (by decide) (by decide)
    have c2 := ct 2 (by decide) (by decide)
    have c3 := ct 3 (by decide) (by decide)
    refine hput (keepV hR c0 (fun k z1 z2 => E k (by omega) (by omega) (by omega)) (fun o k z => O o k (by omega) (by omega) (by omega) (by omega))) (fun i hi => ?_) (keepL hR c2 (fun k z1 z2 => E k (by omega) (by omega) (by omega)) (fun o k z => O o k (by omega) (by omega) (by omega) (by omega))) (keepE hR c3 (fun k z1 z2 => E k (by omega) (by omega) (by omega)) (fun o k z => O o k (by omega) (by omega) (by omega) (by omega))) ?_
    · by_cases q : i = r
      · subst q
        obtain ⟨y1, y2⟩ := k1 rfl
        have qq : ∀ j, j < 49 → rOf (F2 174) i j = H 176 j := fun j hj => g2 j hj
        have y3 : SR 3 16 (H 176) M 42 := y2.mono (fun o k z1 z2 => toM o k (by omega) (by omega))
        exact ⟨y1.cg qq, ((fr1 rfl _ y3).mono (F' := F2) (fun o k z1 z2 => D o k (by omega) (by omega))).congr qq⟩
      · have hi2 : (i : Int) < F 174 1 := by rw [cst2] at hi; split at hi <;> omega
        have a := hA.2.2.2.2.2.2.2.1 i hi2
        have b := hT.2.2.2.2.2.2.1 i hi2
        have qq : ∀ j, j < 49 → rOf (F2 174) i j = rOf (F 174) i j := fun j hj => E _ (by omega) (by omega) (by omega)
        exact ⟨a.cg qq, (b.mono (F' := F2) (fun o k x y => O o k (by omega) (by omega) (by omega) (by omega))).congr qq⟩
    · rw [cst2, c0, c2, c3]
      refine ⟨a0, ?_, a2, a3⟩
      split <;> omega
  · have hr2 : (r : Int) < 2 := hr
    have e1 : plc 2 r = 873 + 181 * r := rfl
    have e2 : szo 2 = 181 := rfl
    have e3 : dst 2 r = 2 + 12 + 9 * r := rfl
    have e4 : wd 2 = 1 := rfl
    have c0 := ct 0 (by decide) (by decide)
    have c1 := ct 1 (by decide) (by decide)
    have c3 := ct 3 (by decide) (by decide)
    refine hput (keepV hR c0 (fun k z1 z2 => E k (by omega) (by omega) (by omega)) (fun o k z => O o k (by omega) (by omega) (by omega) (by omega))) (keepR hR c1 (fun k z1 z2 => E k (by omega) (by omega) (by omega)) (fun o k z => O o k (by omega) (by omega) (by omega) (by omega))) (fun i hi => ?_) (keepE hR c3 (fun k z1 z2 => E k (by omega) (by omega) (by omega)) (fun o k z => O o k (by omega) (by omega) (by omega) (by omega))) ?_
    · by_cases q : i = r
      · subst q
        obtain ⟨y1, y2⟩ := k2 rfl
        have qq : ∀ j, j < 181 → gOf (F2 174) i j = H 176 j := fun j hj => g2 j hj
        have y3 : SR 6 30 (H 176) M 44 := y2.mono (fun o k z1 z2 => toM o k (by omega) (by omega))
        exact ⟨y1.cg qq, ((fr2 rfl _ y3).mono (F' := F2) (fun o k z1 z2 => D o k (by omega) (by omega))).congr qq⟩
      · have hi2 : (i : Int) < F 174 2 := by rw [cst2] at hi; split at hi <;> omega
        have a := hA.2.2.2.2.2.2.2.2.1 i hi2
        have b := hT.2.2.2.2.2.2.2.1 i hi2
        have qq : ∀ j, j < 181 → gOf (F2 174) i j = gOf (F 174) i j := fun j hj => E _ (by omega) (by omega) (by omega)
        exact ⟨a.cg qq, (b.mono (F' := F2) (fun o k x y => O o k (by omega) (by omega) (by omega) (by omega))).congr qq⟩
    · rw [cst2, c0, c1, c3]
      refine ⟨a0, a1, ?_, a3⟩
      split <;> omega
  · have hr2 : (r : Int) < 2 := hr
    have e1 : plc 3 r = 1235 + 41 * r := rfl
    have e2 : szo 3 = 41 := rfl
    have e3 : dst 3 r = 2 + 14 + 9 * r := rfl
    have e4 : wd 3 = 1 := rfl
    have c0 := ct 0 (by decide) (by decide)
    have c1 := ct 1 (by decide) (by decide)
    have c2 := ct 2 (by decide) (by decide)
    refine hput (keepV hR c0 (fun k z1 z2 => E k (by omega) (by omega) (by omega)) (fun o k z => O o k (by omega) (by omega) (by omega) (by omega))) (keepR hR c1 (fun k z1 z2 => E k (by omega) (by omega) (by omega)) (fun o k z => O o k (by omega) (by omega) (by omega) (by omega))) (keepL hR c2 (fun k z1 z2 => E k (by omega) (by omega) (by omega)) (fun o k z => O o k (by omega) (by omega) (by omega) (by omega))) (fun i hi => ?_) ?_
    · by_cases q : i = r
      · subst q
        obtain ⟨y1, y2⟩ := k3 rfl
        have qq : ∀ j, j < 41 → eOf (F2 174) i j = H 176 j := fun j hj => g2 j hj
        have y3 : SR 2 20 (H 176) M 46 := y2.mono (fun o k z1 z2 => toM o k (by omega) (by omega))
        exact ⟨y1.cg qq, ((fr3 rfl _ y3).mono (F' := F2) (fun o k z1 z2 => D o k (by omega) (by omega))).congr qq⟩
      · have hi2 : (i : Int) < F 174 3 := by rw [cst2] at hi; split at hi <;> omega
        have a := hA.2.2.2.2.2.2.2.2.2 i hi2
        have b := hT.2.2.2.2.2.2.2.2 i hi2
        have qq : ∀ j, j < 41 → eOf (F2 174) i j = eOf (F 174) i j := fun j hj => E _ (by omega) (by omega) (by omega)
        exact ⟨a.cg qq, (b.mono (F' := F2) (fun o k x y => O o k (by omega) (by omega) (by omega) (by omega))).congr qq⟩
    · rw [cst2, c0, c1, c2]
      refine ⟨a0, a1, a2, ?_⟩
      split <;> omega
theorem t_good {y : Int} {r : Nat} {c : Int} (hR : RR F) (hst : st < 4) (hr : (r : Int) < cp st) (hc : F 174 st = c) (hrc : (y = -1 ∧ c = (r : Int)) ∨ (y ≠ -1 ∧ y = (r : Int) ∧ (r : Int) < c)) : ∃ (z : Int) (F1 F2 : Mem), gX9_text (vR 1 :: [vI (st : Int), vI y]) F (some (vI z)) F1 ∧ gX10_text (vR 173 :: [vI (st : Int), vI y]) F1 (some (vI z)) F2 ∧ RR F2 := by
  obtain ⟨hA, hT, hI, h11, h12, h13⟩ := id hR
  have cb : 0 ≤ c ∧ c ≤ 3 := by
    obtain ⟨a0, a1, a2, a3, -⟩ := hA
    obtain rfl | rfl | rfl | rfl : st = 0 ∨ st = 1 ∨ st = 2 ∨ st = 3 := by omega
    all_goals omega
  have en : fX4_numberFor 2 (st : Int) y F = some (r : Int) := by
    rw [x_num hT hst, hc]
    rcases hrc with ⟨h1, h2⟩ | ⟨h1, h2, h3⟩
    · rw [if_pos h1, if_pos (by omega), h2]
    · rw [if_neg h1, if_pos (by omega), h2]
  have et : ∀ F1 : Mem, (∀ k, F1 174 k = F 174 k) → fX10_text 173 (st : Int) y F1 = fX10_text_b95 FU 173 (st : Int) y 0 (mset (mset (clr F1) 173 3 0) 173 8 0) := fun F1 h => by
    rw [m_text hst ((h st).trans hc) cb, if_pos]
    rcases hrc with ⟨h1, h2⟩ | ⟨h1, h2, h3⟩
    · exact Or.inl ⟨h1, by omega⟩
    · exact Or.inr ⟨h1, by omega⟩
  obtain ⟨G, -, j1, -, -, -, -, j6, -⟩ := j_text hA hT hst (F1 := F) (fun _ => rfl) y
  generalize eM : fX4_takeTape 2 (G 35 7) (G 35 8) G = M
  have eMd := eM
  unfold fX4_takeTape at eMd
  have hM : ∀ o k, ¬ (o = 2 ∧ 1 ≤ k ∧ k ≤ 3) → M o k = G o k := fun o k z => by rw [← eMd, mset_ne _ _ (by omega), mset_ne _ _ (by omega), mset_ne _ _ (by omega)]
  have m1 : M 2 1 = 0 := by rw [← eMd, mset_ne _ _ (by omega), mset_ne _ _ (by omega), mset_eq]
  have m2 : M 2 2 = G 35 7 := by rw [← eMd, mset_ne _ _ (by omega), mset_eq]
  have m3 : M 2 3 = G 35 8 := by rw [← eMd, mset_eq]
  have m7 : M 35 7 = G 35 7 := hM _ _ (by omega)
  have eX0 : fX9_text 1 (st : Int) y F = if G 35 7 = 0 then (fX4_keep 2 (st : Int) (r : Int) 35 M).bind fun q7 => some ((r : Int), q7) else some (-1, M) := by
    unfold fX9_text
    rw [show (1 + 1 : Nat) = 2 from rfl, show (1 + 34 : Nat) = 35 from rfl, show (2 + 1 : Nat) = 3 from rfl, en, Option.bind_some, if_pos (by omega), j1, Option.bind_some, eM, m7]
  by_cases f : G 35 7 = 0
  · have m4 : M 4 st = c := by
      rw [hM 4 st (by omega), j6 4 st (by omega)]
      exact (hT.2.2.2.2.1 st hst).trans hc
    obtain ⟨F1, u1, u2, u3, u4⟩ := x_keepA hst hr m4
    have hd : 9 ≤ dst st r ∧ dst st r + wd st ≤ 33 := by
      obtain rfl | rfl | rfl | rfl : st = 0 ∨ st = 1 ∨ st = 2 ∨ st = 3 := by omega
      · have hr2 : (r : Int) < 2 := hr
        have e3 : dst 0 r = 2 + 7 + 9 * r := rfl
        have e4 : wd 0 = 4 := rfl
        omega
      · have hr2 : (r : Int) < 3 := hr
        have e3 : dst 1 r = 2 + 25 + 2 * r := rfl
        have e4 : wd 1 = 1 := rfl
        omega
      · have hr2 : (r : Int) < 2 := hr
        have e3 : dst 2 r = 2 + 12 + 9 * r := rfl
        have e4 : wd 2 = 1 := rfl
        omega
      · have hr2 : (r : Int) < 2 := hr
        have e3 : dst 3 r = 2 + 14 + 9 * r := rfl
        have e4 : wd 3 = 1 := rfl
        omega
    have h174 : ∀ k, F1 174 k = F 174 k := fun k => by rw [u4 174 k (by omega) (by omega), hM 174 k (by omega), j6 174 k (by omega)]
    obtain ⟨G2, H, i1, i2, i3, i4, i5, i6, i7, i8⟩ := j_text hA hT hst h174 y
    obtain rfl : G = G2 := Option.some.inj (j1.symm.trans i1)
    have h7 : H 174 7 = 0 := i3.symm.trans f
    have hst2 : H 174 st = c := by rw [i7 174 st (by omega) (by omega) (by omega), h174]; exact hc
    obtain ⟨F2, q1, q2, q3, q4⟩ := m_keep hst hr h7 hst2 (y := y) (hrc.elim Or.inl (fun z => Or.inr ⟨z.1, z.2.1, z.2.2, cb.2⟩))
    have eX : fX9_text 1 (st : Int) y F = some ((r : Int), F1) := by rw [eX0, if_pos f, u1, Option.bind_some]
    have eY : fX10_text 173 (st : Int) y F1 = some ((r : Int), F2) := by rw [et F1 h174, i2]; exact q1
    exact ⟨(r : Int), F1, F2, ⟨1, (st : Int), y, _, rfl, k9, eX, rfl, rfl⟩, ⟨173, (st : Int), y, _, rfl, k10, eY, rfl, rfl⟩, hR.kept hst hr hc (hrc.elim (fun z => by omega) (fun z => by omega)) i6 hM m1 (m2.trans i3) (m3.trans i4) u2 u3 u4 (i5 h7) i7 i8 q2 q3 q4⟩
  · have h174 : ∀ k, M 174 k = F 174 k := fun k => by rw [hM 174 k (by omega), j6 174 k (by omega)]
    obtain ⟨G2, H, i1, i2, i3, i4, i5, i6, i7, i8⟩ := j_text hA hT hst h174 y
    obtain rfl : G = G2 := Option.some.inj (j1.symm.trans i1)
    have h7 : ¬ H 174 7 = 0 := fun z => f (i3.trans z)
    have h7b : ¬ H (173 + 1) 7 = 0 := h7
    have eX : fX9_text 1 (st : Int) y F = some (-1, M) := by rw [eX0, if_neg f]
    have eY : fX10_text 173 (st : Int) y M = some (-1, H) := by
      rw [et M h174, i2]
      unfold fX10_text_b233
      rw [al174, if_pos (by decide), if_neg h7b]
    refine ⟨-1, M, H, ⟨1, (st : Int), y, _, rfl, k9, eX, rfl, rfl⟩, ⟨173, (st : Int), y, _, rfl, k10, eY, rfl, rfl⟩, ?_⟩
    refine hR.tape (fun o k z1 z2 z3 z4 => ?_) (fun k hk => ?_) ⟨?_, ?_, ?_⟩ ⟨by omega, by omega⟩ (fun k hk => ?_) (fun k hk => absurd hk (by omega)) ?_ ?_ ?_
    · rw [i7 o k (by omega) (by omega) (by omega), hM o k (by omega), j6 o k (by omega)]
    · rw [i7 174 k (by omega) (by omega) (by omega)]; exact h174 k
    · rw [i7 2 1 (by omega) (by omega) (by omega), m1, i8]
    · rw [i7 2 2 (by omega) (by omega) (by omega), m2, i3]
    · rw [i7 2 3 (by omega) (by omega) (by omega), m3, i4]
    · rw [i7 3 k (by omega) (by omega) (by omega), hM 3 k (by omega), j6 3 k (by omega)]; exact hT.2.2.1 k hk
    · rw [i7 173 11 (by omega) (by omega) (by omega), hM 173 11 (by omega), j6 173 11 (by omega)]; exact h11
    · rw [i7 173 12 (by omega) (by omega) (by omega), hM 173 12 (by omega), j6 173 12 (by omega)]; exact h12
    · rw [i7 173 13 (by omega) (by omega) (by omega), hM 173 13 (by omega), j6 173 13 (by omega)]; exact h13
end TT1
theorem pc_text (a b : Int) (_ha : in32 a) (_hb : in32 b) : pcase RR gX9_text gX10_text [vI a, vI b] := by
  intro F hR hm
  obtain ⟨hA, hT, -⟩ := id hR
  by_cases h4 : 0 ≤ a ∧ a < 4
  · obtain ⟨st, rfl⟩ := nat_of h4.1
    have hst : st < 4 := by omega
    have cb : 0 ≤ F 174 st ∧ F 174 st ≤ 3 ∧ F 174 st ≤ cp st := by
      obtain ⟨a0, a1, a2, a3, -⟩ := hA
      obtain rfl | rfl | rfl | rfl : st = 0 ∨ st = 1 ∨ st = 2 ∨ st = 3 := by omega
      · have e : cp 0 = 2 := rfl
        omega
      · have e : cp 1 = 3 := rfl
        omega
      · have e : cp 2 = 2 := rfl
        omega
      · have e : cp 3 = 2 := rfl
        omega
    by_cases hg : (b = -1 ∧ F 174 st < cp st) ∨ (b ≠ -1 ∧ 0 ≤ b ∧ b < F 174 st)
    · rcases hg with ⟨h1, h2⟩ | ⟨h1, h2, h3⟩
      · obtain ⟨r, hr⟩ := nat_of cb.1
        exact t_good hR hst (r := r) (by omega) rfl (Or.inl ⟨h1, hr⟩)
      · obtain ⟨r, hr⟩ := nat_of h2
        exact t_good hR hst (r := r) (by omega) rfl (Or.inr ⟨h1, hr, by omega⟩)
    · refine t_bad hR ?_ (fun F1 h => ?_)
      · rw [x_num hT hst]
        congr 1
        by_cases h1 : b = -1
        · rw [if_pos h1, if_neg (fun z => hg (Or.inl ⟨h1, z⟩))]
        · rw [if_neg h1, if_neg (fun z => hg (Or.inr ⟨h1, z⟩))]
      · rw [m_text hst (h st) ⟨cb.1, cb.2.1⟩, if_neg hg]
  · refine t_bad hR ?_ (fun F1 h => ?_)
    · unfold fX4_numberFor
      by_cases q : a < 0
      · rw [if_pos q]
      · rw [if_neg q, if_neg (by omega)]
    · have bb6 : (0 : Int) ≤ 6 ∧ (6 : Int) < ((5268 : Nat) : Int) := by decide
      have bb7 : (0 : Int) ≤ 7 ∧ (7 : Int) < ((5268 : Nat) : Int) := by decide
      have bb8 : (0 : Int) ≤ 8 ∧ (8 : Int) < ((5268 : Nat) : Int) := by decide
      unfold fX10_text
      rw [al174, if_pos bb6, if_pos bb6, if_pos bb7, if_pos bb8, m_isIn, i10, if_neg (by omega)]
      rfl
