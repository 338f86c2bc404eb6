/-! ===== text: the class keeps a line ===== -/
/-- a sheet's shape -/
def SL (w n s : Nat) : Prop := cst s 1 = (w : Int) ∧ cst s 0 = (n : Int) ∧ alen (s + 1) = w * n ∧ s ≠ 0 ∧ (s ≠ 35 ∧ s ≠ 36 ∧ s + 1 ≠ 35 ∧ s + 1 ≠ 36) ∧ w * n ≤ 200 ∧ n ≤ 40
theorem sl38 : SL 4 8 38 := by refine ⟨rfl, rfl, rfl, by decide, by decide, by decide, by decide⟩
theorem sl40 : SL 3 6 40 := by refine ⟨rfl, rfl, rfl, by decide, by decide, by decide, by decide⟩
theorem sl42 : SL 3 16 42 := by refine ⟨rfl, rfl, rfl, by decide, by decide, by decide, by decide⟩
theorem sl44 : SL 6 30 44 := by refine ⟨rfl, rfl, rfl, by decide, by decide, by decide, by decide⟩
theorem sl46 : SL 2 20 46 := by refine ⟨rfl, rfl, rfl, by decide, by decide, by decide, by decide⟩
section TL
variable {G : Mem} {w n s c : Nat}
theorem sl_q (h : SL w n s) (hc : c < n) : w * c + w ≤ w * n ∧ w * n ≤ 200 := by
  have h4 : w * c + w ≤ w * n := by rw [← Nat.mul_succ]; exact Nat.mul_le_mul_left _ (by omega)
  exact ⟨h4, h.2.2.2.2.2.1⟩
theorem sl_x {q i c w : Nat} (e : w * c = q) (h : q + i ≤ 1000) : xw (xw ((c : Int) * (w : Int)) + (i : Int)) = ((q + i : Nat) : Int) := by
  have e1 : (c : Int) * (w : Int) = (q : Int) := by rw [← e, Int.mul_comm]; rfl
  rw [e1, xwn (x := (q : Int)) (by omega) (by omega), xwn (by omega) (by omega)]
  rfl
theorem x_full (h : SL w n s) (hc : G s 3 = (c : Int)) : fX3_isFull s G = if c < n then 0 else 1 := by
  unfold fX3_isFull
  rw [hc, h.2.1]
  by_cases y : c < n
  · rw [if_pos (by omega), if_pos y]
  · rw [if_neg (by omega), if_neg y]
theorem x_addRow (h : SL w n s) (hc : G s 3 = (c : Int)) (hc2 : c < n) : ∃ G', fX3_addRow s G = some G' ∧ G' s 3 = ((c + 1 : Nat) : Int) ∧ (∀ i, i < w → G' (s + 1) (w * c + i) = -1) ∧ ∀ o k, ¬ (o = s ∧ k = 3) → ¬ (o = s + 1 ∧ w * c ≤ k ∧ k < w * c + w) → G' o k = G o k := by
  obtain ⟨b1, b2⟩ := sl_q h hc2
  have hn := h.2.2.2.2.2.2
  have ef : fX3_isFull s G = 0 := by rw [x_full h hc, if_pos hc2]
  generalize eq : w * c = q at b1 ⊢
  unfold fX3_addRow
  rw [ef, if_pos rfl]
  refine lp (fun n k (F : Mem) => fX3_addRow_b10 n s (k : Int) F) w (fun k F => F s 3 = (c : Int) ∧ (∀ i, i < k → F (s + 1) (q + i) = -1) ∧ ∀ o j, ¬ (o = s + 1 ∧ q ≤ j ∧ j < q + w) → F o j = G o j) (fun r => ∃ G', r = some G' ∧ G' s 3 = ((c + 1 : Nat) : Int) ∧ (∀ i, i < w → G' (s + 1) (q + i) = -1) ∧ ∀ o k, ¬ (o = s ∧ k = 3) → ¬ (o = s + 1 ∧ q ≤ k ∧ k < q + w) → G' o k = G o k) ?_ ?_ FU 0 G (Nat.zero_le _) ⟨hc, fun i z => absurd z (Nat.not_lt_zero i), fun _ _ _ => rfl⟩ (FUa (by omega))
  · rintro m k F hk ⟨f1, f2, f3⟩
    left
    have hqk : q + k ≤ 1000 := by omega
    have hwk : ¬ (w : Int) ≤ (k : Int) := by omega
    have hqb : (0 : Int) ≤ ((q + k : Nat) : Int) ∧ ((q + k : Nat) : Int) < ((w * n : Nat) : Int) := by omega
    refine ⟨mset F (s + 1) (q + k) (-1), ⟨?_, fun i hi => ?_, fun o j hz => ?_⟩, ?_⟩
    · rw [mset_ne _ _ (by omega)]; exact f1
    · by_cases y : i = k
      · rw [y, mset_eq]
      · rw [mset_ne _ _ (by omega)]; exact f2 i (by omega)
    · rw [mset_ne _ _ (by omega)]; exact f3 o j hz
    · show fX3_addRow_b10 (m + 1) s (k : Int) F = fX3_addRow_b10 m s ((k + 1 : Nat) : Int) _
      rw [fX3_addRow_b10, h.1, if_neg hwk, f1, sl_x eq hqk, h.2.2.1, if_pos hqb, Int.toNat_natCast, xwS (by omega)]
  · rintro m F ⟨f1, f2, f3⟩
    show ∃ G', fX3_addRow_b10 (m + 1) s (w : Int) F = some G' ∧ _
    rw [fX3_addRow_b10, h.1, if_pos (Int.le_refl _), f1, xwS (by omega)]
    refine ⟨_, rfl, mset_eq _ _ _ _, fun i hi => ?_, fun o k z1 z2 => ?_⟩
    · rw [mset_ne _ _ (by omega)]; exact f2 i hi
    · rw [mset_ne _ _ z1]; exact f3 o k z2
theorem x_write (h : SL w n s) (hc : G s 3 = ((c + 1 : Nat) : Int)) (hc2 : c < n) {i : Nat} (hi : i < w) {y : Int} (hy : y = (i : Int)) (v : Int) : fX3_write s y v G = some (mset G (s + 1) (w * c + i) v) := by
  subst hy
  obtain ⟨b1, b2⟩ := sl_q h hc2
  have hn := h.2.2.2.2.2.2
  generalize eq : w * c = q at b1 ⊢
  have hqk : q + i ≤ 1000 := by omega
  have hqb : (0 : Int) ≤ ((q + i : Nat) : Int) ∧ ((q + i : Nat) : Int) < ((w * n : Nat) : Int) := by omega
  have hcc : (0 : Int) ≤ (c : Int) ∧ (c : Int) < ((c + 1 : Nat) : Int) ∧ (0 : Int) ≤ (i : Int) ∧ (i : Int) < (w : Int) := by omega
  have hcell : fX3_isCell s (c : Int) (i : Int) G = 1 := by rw [isCell_any h.1, hc, if_pos hcc]
  have ec : xw (((c + 1 : Nat) : Int) - 1) = (c : Int) := by rw [xwn (by omega) (by omega)]; omega
  unfold fX3_write
  rw [hc, ec, hcell, e10, h.1, sl_x eq hqk, h.2.2.1, if_pos hqb, Int.toNat_natCast]
theorem x_k194 (h : SL w n s) (hc : G s 3 = ((c + 1 : Nat) : Int)) (hc2 : c < n) {d many : Nat} (hd : d = 0 ∨ d = 1) (hm : many + d ≤ w) (hm5 : many ≤ 5) : ∃ G', fX2_keepLine_b194 FU 35 s (many : Int) (d : Int) 0 G = some G' ∧ (∀ j, j < many → G' (s + 1) (w * c + (j + d)) = G 36 j) ∧ ∀ o k, ¬ (o = s + 1 ∧ w * c + d ≤ k ∧ k < w * c + d + many) → G' o k = G o k := by
  have hs0 := h.2.2.2.1
  have hs := h.2.2.2.2.1
  have hn := h.2.2.2.2.2.2
  refine lp (fun n k (F : Mem) => fX2_keepLine_b194 n 35 s (many : Int) (d : Int) (k : Int) F) many (fun k F => (∀ j, j < k → F (s + 1) (w * c + (j + d)) = G 36 j) ∧ ∀ o i, ¬ (o = s + 1 ∧ w * c + d ≤ i ∧ i < w * c + d + k) → F o i = G o i) (fun r => ∃ G', r = some G' ∧ (∀ j, j < many → G' (s + 1) (w * c + (j + d)) = G 36 j) ∧ ∀ o k, ¬ (o = s + 1 ∧ w * c + d ≤ k ∧ k < w * c + d + many) → G' o k = G o k) ?_ ?_ FU 0 G (Nat.zero_le _) ⟨fun i z => absurd z (Nat.not_lt_zero i), fun _ _ _ => rfl⟩ (FUa (by omega))
  · rintro m k F hk ⟨f2, f3⟩
    left
    have fc : F s 3 = ((c + 1 : Nat) : Int) := (f3 s 3 (by omega)).trans hc
    have f36 : F 36 k = G 36 k := f3 36 k (by omega)
    have hwr : fX3_write s ((k + d : Nat) : Int) (F 36 k) F = some (mset F (s + 1) (w * c + (k + d)) (F 36 k)) := x_write h fc hc2 (i := k + d) (by omega) rfl _
    have E : fX2_keepLine_b194 (m + 1) 35 s (many : Int) (d : Int) (k : Int) F = fX2_keepLine_b194 m 35 s (many : Int) (d : Int) ((k + 1 : Nat) : Int) (mset F (s + 1) (w * c + (k + d)) (F 36 k)) := by
      rw [fX2_keepLine_b194, if_neg (by omega)]
      unfold fX2_keepLine_b215
      rw [al36, xwS (by omega)]
      rcases hd with rfl | rfl
      · rw [if_pos (by decide), if_pos (by omega), if_neg hs0, show (35 + 1 : Nat) = 36 from rfl, Int.toNat_natCast, show ((k : Nat) : Int) = ((k + 0 : Nat) : Int) from rfl, hwr, Option.bind_some]
      · rw [if_neg (by decide), if_pos (by omega), if_neg hs0, show (35 + 1 : Nat) = 36 from rfl, Int.toNat_natCast, hwr, Option.bind_some]
    refine ⟨mset F (s + 1) (w * c + (k + d)) (F 36 k), ⟨fun j hj => ?_, fun o i z => ?_⟩, E⟩
    · by_cases y : j = k
      · rw [y, mset_eq]; exact f36
      · rw [mset_ne _ _ (by omega)]; exact f2 j (by omega)
    · rw [mset_ne _ _ (by omega)]; exact f3 o i (by omega)
  · rintro m F ⟨f2, f3⟩
    refine ⟨F, ?_, f2, f3⟩
    show fX2_keepLine_b194 (m + 1) 35 s (many : Int) (d : Int) (many : Int) F = some F
    rw [fX2_keepLine_b194, if_pos (Int.le_refl _)]
theorem kl_in {x1 : Int} (h : 4 ≤ x1) (hs0 : s ≠ 0) (many : Int) : fX2_keepLine 35 x1 s many G = (fX3_addRow s G).bind fun q11 =>
    if 7 < x1 then
      if x1 < 10 then
        fX2_keepLine_b175 35 x1 s many 0 q11
      else
        if 15 < x1 then
          fX2_keepLine_b175 35 x1 s many 0 q11
        else
          fX2_keepLine_b175 35 x1 s many 1 q11
    else
      if (0 : Int) ≤ 0 ∧ 0 < (alen (35 + 1) : Int) then
        (fX3_write s 0 (q11 (35 + 1) 0) q11).bind fun q17 =>
        (fX3_write s 1 (xw (x1 - 4)) q17).bind fun q19 =>
        if (0 : Int) ≤ 1 ∧ 1 < (alen (35 + 1) : Int) then
          (fX3_write s 2 (q19 (35 + 1) 1) q19).bind fun q22 =>
          if (0 : Int) ≤ 2 ∧ 2 < (alen (35 + 1) : Int) then
            (fX3_write s 3 (q22 (35 + 1) 2) q22).bind fun q25 =>
            some q25
          else none
        else none
      else none := by
  unfold fX2_keepLine
  rw [if_neg (by omega), if_neg (by omega), if_neg (by omega), if_neg (by omega), if_neg hs0]
/-- a row of numbers as they were read -/
theorem x_keepN (h : SL w n s) (hc : G s 3 = (c : Int)) (hc2 : c < n) {x1 : Int} (hx : x1 = 8 ∨ x1 = 9 ∨ x1 = 16) {many : Nat} (hm : many ≤ w) (hm5 : many ≤ 5) : ∃ G', fX2_keepLine 35 x1 s (many : Int) G = some G' ∧ G' s 3 = ((c + 1 : Nat) : Int) ∧ (∀ j, j < many → G' (s + 1) (w * c + j) = G 36 j) ∧ (∀ k, k < w * c → G' (s + 1) k = G (s + 1) k) ∧ ∀ o k, o ≠ s → o ≠ s + 1 → G' o k = G o k := by
  obtain ⟨G1, r1, r2, r3, r4⟩ := x_addRow h hc hc2
  have hs0 := h.2.2.2.1
  have hs := h.2.2.2.2.1
  have hn := h.2.2.2.2.2.2
  obtain ⟨G2, u1, u2, u3⟩ := x_k194 h r2 hc2 (d := 0) (many := many) (Or.inl rfl) (by omega) hm5
  have E : fX2_keepLine_b175 35 x1 s (many : Int) 0 G1 = some G2 := by
    unfold fX2_keepLine_b175
    rw [if_pos rfl]
    exact u1
  refine ⟨G2, ?_, (u3 s 3 (by omega)).trans r2, fun j hj => ?_, fun k hk => ?_, fun o k z1 z2 => ?_⟩
  · rw [kl_in (by omega) hs0, r1, Option.bind_some]
    rcases hx with rfl | rfl | rfl
    · rw [if_pos (by decide), if_pos (by decide)]; exact E
    · rw [if_pos (by decide), if_pos (by decide)]; exact E
    · rw [if_pos (by decide), if_neg (by decide), if_pos (by decide)]; exact E
  · show G2 (s + 1) (w * c + (j + 0)) = _
    rw [u2 j hj, r4 36 j (by omega) (by omega)]
  · rw [u3 _ _ (by omega), r4 _ _ (by omega) (by omega)]
  · rw [u3 _ _ (by omega), r4 _ _ (by omega) (by omega)]
/-- a deed's row -/
theorem x_keepD (h : SL w n s) (hc : G s 3 = (c : Int)) (hc2 : c < n) {x1 : Int} (hx : 10 ≤ x1 ∧ x1 ≤ 15) {many : Nat} (hm : many + 1 ≤ w) (hm5 : many ≤ 5) : ∃ G', fX2_keepLine 35 x1 s (many : Int) G = some G' ∧ G' s 3 = ((c + 1 : Nat) : Int) ∧ G' (s + 1) (w * c) = x1 - 10 ∧ (∀ j, j < many → G' (s + 1) (w * c + (j + 1)) = G 36 j) ∧ (∀ i, many + 1 ≤ i → i < w → G' (s + 1) (w * c + i) = -1) ∧ (∀ k, k < w * c → G' (s + 1) k = G (s + 1) k) ∧ ∀ o k, o ≠ s → o ≠ s + 1 → G' o k = G o k := by
  obtain ⟨G1, r1, r2, r3, r4⟩ := x_addRow h hc hc2
  have hs0 := h.2.2.2.1
  have hs := h.2.2.2.2.1
  have hn := h.2.2.2.2.2.2
  have hwr : fX3_write s 0 (x1 - 10) G1 = some (mset G1 (s + 1) (w * c + 0) (x1 - 10)) := x_write h r2 hc2 (i := 0) (by omega) rfl _
  have r2b : mset G1 (s + 1) (w * c + 0) (x1 - 10) s 3 = ((c + 1 : Nat) : Int) := by rw [mset_ne _ _ (by omega)]; exact r2
  obtain ⟨G2, u1, u2, u3⟩ := x_k194 h r2b hc2 (d := 1) (many := many) (Or.inr rfl) (by omega) hm5
  have E : fX2_keepLine_b175 35 x1 s (many : Int) 1 G1 = some G2 := by
    unfold fX2_keepLine_b175
    rw [if_neg (by decide), if_neg hs0, xwn (x := x1 - 10) (by omega) (by omega), hwr, Option.bind_some]
    exact u1
  refine ⟨G2, ?_, (u3 s 3 (by omega)).trans r2b, ?_, fun j hj => ?_, fun i i1 i2 => ?_, fun k hk => ?_, fun o k z1 z2 => ?_⟩
  · rw [kl_in (by omega) hs0, r1, Option.bind_some, if_pos (by omega), if_neg (by omega), if_neg (by omega)]
    exact E
  · rw [u3 _ _ (by omega)]
    exact mset_eq G1 (s + 1) (w * c) (x1 - 10)
  · rw [u2 j hj, mset_ne _ _ (by omega), r4 36 j (by omega) (by omega)]
  · rw [u3 _ _ (by omega), mset_ne _ _ (by omega)]; exact r3 i i2
  · rw [u3 _ _ (by omega), mset_ne _ _ (by omega), r4 _ _ (by omega) (by omega)]
  · rw [u3 _ _ (by omega), mset_ne _ _ (by omega), r4 _ _ (by omega) (by omega)]
/-- a house's row -/
theorem x_keepH (hc : G 38 3 = (c : Int)) (hc2 : c < 8) {x1 : Int} (hx : 4 ≤ x1 ∧ x1 ≤ 7) {many : Int} : ∃ G', fX2_keepLine 35 x1 38 many G = some G' ∧ G' 38 3 = ((c + 1 : Nat) : Int) ∧ G' 39 (4 * c) = G 36 0 ∧ G' 39 (4 * c + 1) = x1 - 4 ∧ G' 39 (4 * c + 2) = G 36 1 ∧ G' 39 (4 * c + 3) = G 36 2 ∧ (∀ k, k < 4 * c → G' 39 k = G 39 k) ∧ ∀ o k, o ≠ 38 → o ≠ 39 → G' o k = G o k := by
  obtain ⟨G1, r1, r2, r3, r4⟩ := x_addRow sl38 hc hc2
  have a1 : ∀ (F : Mem), F 38 3 = ((c + 1 : Nat) : Int) → ∀ (i : Nat) (y v : Int), i < 4 → y = (i : Int) → fX3_write 38 y v F = some (mset F 39 (4 * c + i) v) := fun F hF i y v hi hy => x_write sl38 hF hc2 hi hy v
  have g36 : ∀ j, G1 36 j = G 36 j := fun j => r4 36 j (by omega) (by omega)
  generalize e0 : mset G1 39 (4 * c + 0) (G 36 0) = F0
  have f0 : ∀ o k, ¬ (o = 39 ∧ k = 4 * c + 0) → F0 o k = G1 o k := fun o k z => by rw [← e0, mset_ne _ _ z]
  generalize e1 : mset F0 39 (4 * c + 1) (x1 - 4) = F1
  have f1 : ∀ o k, ¬ (o = 39 ∧ k = 4 * c + 1) → F1 o k = F0 o k := fun o k z => by rw [← e1, mset_ne _ _ z]
  generalize e2 : mset F1 39 (4 * c + 2) (G 36 1) = F2
  have f2 : ∀ o k, ¬ (o = 39 ∧ k = 4 * c + 2) → F2 o k = F1 o k := fun o k z => by rw [← e2, mset_ne _ _ z]
  have c0 : F0 38 3 = ((c + 1 : Nat) : Int) := (f0 _ _ (by omega)).trans r2
  have c1 : F1 38 3 = ((c + 1 : Nat) : Int) := (f1 _ _ (by omega)).trans c0
  have c2 : F2 38 3 = ((c + 1 : Nat) : Int) := (f2 _ _ (by omega)).trans c1
  have h1 : F1 36 1 = G 36 1 := by rw [f1 _ _ (by omega), f0 _ _ (by omega), g36]
  have h2 : F2 36 2 = G 36 2 := by rw [f2 _ _ (by omega), f1 _ _ (by omega), f0 _ _ (by omega), g36]
  refine ⟨mset F2 39 (4 * c + 3) (G 36 2), ?_, ?_, ?_, ?_, ?_, mset_eq _ _ _ _, fun k hk => ?_, fun o k z1 z2 => ?_⟩
  · rw [kl_in (by omega) (by decide), r1, Option.bind_some, if_neg (by omega), al36, if_pos (by decide), show (35 + 1 : Nat) = 36 from rfl, g36, a1 G1 r2 0 0 _ (by decide) rfl, Option.bind_some, e0, xwn (x := x1 - 4) (by omega) (by omega), a1 F0 c0 1 1 _ (by decide) rfl, Option.bind_some, e1, if_pos (by decide), h1, a1 F1 c1 2 2 _ (by decide) rfl, Option.bind_some, e2, if_pos (by decide), h2, a1 F2 c2 3 3 _ (by decide) rfl, Option.bind_some]
  · rw [mset_ne _ _ (by omega)]; exact c2
  · rw [mset_ne _ _ (by omega), f2 _ _ (by omega), f1 _ _ (by omega), ← e0]
    exact mset_eq G1 39 (4 * c) (G 36 0)
  · rw [mset_ne _ _ (by omega), f2 _ _ (by omega), ← e1, mset_eq]
  · rw [mset_ne _ _ (by omega), ← e2, mset_eq]
  · rw [mset_ne _ _ (by omega), f2 _ _ (by omega), f1 _ _ (by omega), f0 _ _ (by omega), r4 _ _ (by omega) (by omega)]
  · rw [mset_ne _ _ (by omega), f2 _ _ (by omega), f1 _ _ (by omega), f0 _ _ (by omega), r4 _ _ (by omega) (by omega)]
/-- a row more, here and there -/
theorem SR.more {u v : Nat → Int} {G' : Mem} (h : SR w n u G s) (hu : u 0 = (c : Int)) (hc2 : c < n) (hv : v 0 = ((c + 1 : Nat) : Int)) (hvu : ∀ k, k ≠ 0 → k < 1 + w * c → v k = u k) (g3 : G' s 3 = ((c + 1 : Nat) : Int)) (gr : ∀ i, i < w → G' (s + 1) (w * c + i) = v (1 + w * c + i)) (go : ∀ k, k < w * c → G' (s + 1) k = G (s + 1) k) : SR w n v G' s := by
  obtain ⟨h0, h1, h1b, h1c, h2, h2b, h3⟩ := h
  refine ⟨h0, h1, h1b, h1c, g3.trans hv.symm, by rw [hv]; omega, fun k i hk hi => ?_⟩
  rw [hv] at hk
  by_cases y : k = c
  · subst y; exact gr i hi
  · have h4 : w * k + w ≤ w * c := by rw [← Nat.mul_succ]; exact Nat.mul_le_mul_left _ (by omega)
    rw [go _ (by omega), h3 k i (by rw [hu]; omega) hi, hvu _ (by omega) (by omega)]
end TL
