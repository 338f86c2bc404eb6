/-! ===== image, again ===== -/
theorem img_b {j k : Nat} (hj : j < 3) (hk : k < 1317) : xw (xw (1317 * xw ((j : Int) + 1)) + (k : Int)) = ((1317 * (j + 1) + k : Nat) : Int) := by
  rw [xwS (by omega), xwn (x := 1317 * _) (by omega) (by omega), xwn (by omega) (by omega)]
  omega
theorem m_image {F : Mem} {j : Nat} (hj : j < 3) : ∃ F', fX10_image_b20 FU 173 (j : Int) 0 F = some (1, F') ∧ (∀ k, k < 1317 → F' 174 (1317 * (j + 1) + k) = F 174 k) ∧ (∀ o k, ¬ (o = 174 ∧ 1317 * (j + 1) ≤ k ∧ k < 1317 * (j + 1) + 1317) → F' o k = F o k) := by
  refine lp (fun n k (G : Mem) => fX10_image_b20 n 173 (j : Int) (k : Int) G) 1317 (fun k G => (∀ i, i < k → G 174 (1317 * (j + 1) + i) = F 174 i) ∧ (∀ o i, ¬ (o = 174 ∧ 1317 * (j + 1) ≤ i ∧ i < 1317 * (j + 1) + 1317) → G o i = F o i)) (fun r => ∃ F', r = some (1, F') ∧ (∀ k, k < 1317 → F' 174 (1317 * (j + 1) + k) = F 174 k) ∧ (∀ o k, ¬ (o = 174 ∧ 1317 * (j + 1) ≤ k ∧ k < 1317 * (j + 1) + 1317) → F' o k = F o k)) ?_ ?_ FU 0 F (by omega) ⟨fun i hi => absurd hi (by omega), fun _ _ _ => rfl⟩ (FU_gt (by omega))
  · rintro n k G hk ⟨h1, h2⟩
    left
    refine ⟨mset G 174 (1317 * (j + 1) + k) (F 174 k), ⟨fun i hi => ?_, fun o i hi => ?_⟩, ?_⟩
    · by_cases y : i = k
      · subst y; rw [mset_eq]
      · rw [mset_ne _ _ (by omega)]; exact h1 i (by omega)
    · rw [mset_ne _ _ (by omega)]; exact h2 o i hi
    · have g : G (173 + 1) k = F 174 k := h2 174 k (by omega)
      show fX10_image_b20 (n + 1) 173 (j : Int) (k : Int) G = fX10_image_b20 n 173 (j : Int) ((k + 1 : Nat) : Int) (mset G (173 + 1) (1317 * (j + 1) + k) (F 174 k))
      rw [fX10_image_b20, if_neg (by omega), img_b hj hk, al174, if_pos (by omega), if_pos (by omega), Int.toNat_natCast, Int.toNat_natCast, xwS (by omega), g]
  · rintro n G ⟨h1, h2⟩
    refine ⟨G, ?_, h1, h2⟩
    show fX10_image_b20 (n + 1) 173 (j : Int) ((1317 : Nat) : Int) G = _
    rw [fX10_image_b20, if_pos (by omega)]
theorem m_again {F : Mem} {j : Nat} (hj : j < 3) : ∃ F', fX10_again_b22 FU 173 (j : Int) 0 F = some (1, F') ∧ (∀ k, k < 1317 → F' 174 k = F 174 (1317 * (j + 1) + k)) ∧ (∀ o k, ¬ (o = 174 ∧ k < 1317) → F' o k = F o k) := by
  refine lp (fun n k (G : Mem) => fX10_again_b22 n 173 (j : Int) (k : Int) G) 1317 (fun k G => (∀ i, i < k → G 174 i = F 174 (1317 * (j + 1) + i)) ∧ (∀ o i, ¬ (o = 174 ∧ i < 1317) → G o i = F o i)) (fun r => ∃ F', r = some (1, F') ∧ (∀ k, k < 1317 → F' 174 k = F 174 (1317 * (j + 1) + k)) ∧ (∀ o k, ¬ (o = 174 ∧ k < 1317) → F' o k = F o k)) ?_ ?_ FU 0 F (by omega) ⟨fun i hi => absurd hi (by omega), fun _ _ _ => rfl⟩ (FU_gt (by omega))
  · rintro n k G hk ⟨h1, h2⟩
    left
    refine ⟨mset G 174 k (F 174 (1317 * (j + 1) + k)), ⟨fun i hi => ?_, fun o i hi => ?_⟩, ?_⟩
    · by_cases y : i = k
      · subst y; rw [mset_eq]
      · rw [mset_ne _ _ (by omega)]; exact h1 i (by omega)
    · rw [mset_ne _ _ (by omega)]; exact h2 o i hi
    · have g : G (173 + 1) (1317 * (j + 1) + k) = F 174 (1317 * (j + 1) + k) := h2 174 _ (by omega)
      show fX10_again_b22 (n + 1) 173 (j : Int) (k : Int) G = fX10_again_b22 n 173 (j : Int) ((k + 1 : Nat) : Int) (mset G (173 + 1) k (F 174 (1317 * (j + 1) + k)))
      rw [fX10_again_b22, if_neg (by omega), img_b hj hk, al174, if_pos (by omega), if_pos (by omega), Int.toNat_natCast, Int.toNat_natCast, xwS (by omega), g]
  · rintro n G ⟨h1, h2⟩
    refine ⟨G, ?_, h1, h2⟩
    show fX10_again_b22 (n + 1) 173 (j : Int) ((1317 : Nat) : Int) G = _
    rw [fX10_again_b22, if_pos (by omega)]
theorem isK4 {j : Nat} (hj : j < 3) : isK (80 + 31 * j) 4 := by
  obtain rfl | rfl | rfl : j = 0 ∨ j = 1 ∨ j = 2 := by omega
  · rfl
  · rfl
  · rfl
theorem ar33 {j : Nat} (hj : j < 3) : aref (1 + 32) j = 80 + 31 * j := by
  obtain rfl | rfl | rfl : j = 0 ∨ j = 1 ∨ j = 2 := by omega
  · rfl
  · rfl
  · rfl
theorem pc_image (a : Int) : pcase RR gX9_image gX10_image [vI a] := by
  intro F hR hm
  obtain ⟨hA, hT, hI, h11, h12, h13⟩ := id hR
  by_cases h : 0 ≤ a ∧ a ≤ 2
  · obtain ⟨j, rfl⟩ := nat_of h.1
    have hj : j < 3 := by omega
    have l1 : alen (1 + 32) = 3 := rfl
    have l2 : alen (1 + 33) = 3 := rfl
    have l3 : alen (173 + 2) = 3 := rfl
    obtain ⟨F1, u1, u2, u3⟩ := x4_copy (d := 80 + 31 * j) hA hT (isK4 hj) (by omega)
    obtain ⟨M, w1, w2, w3⟩ := m_image (F := mset (mset F1 (1 + 33) j 1) (173 + 2) j 1) hj
    have f1 : ∀ q k, ¬ (80 + 31 * j ≤ q ∧ q ≤ 80 + 31 * j + 30) → q ≠ 34 → q ≠ 175 → q ≠ 174 → M q k = F q k := fun q k x1 x2 x3 x4 => by
      rw [w3 _ _ (by omega), mset_ne _ _ (by omega), mset_ne _ _ (by omega), u3 _ _ x1]
    have f2 : ∀ q k, 80 + 31 * j ≤ q → q ≤ 80 + 31 * j + 30 → M q k = F1 q k := fun q k x1 x2 => by
      rw [w3 _ _ (by omega), mset_ne _ _ (by omega), mset_ne _ _ (by omega)]
    have f3 : ∀ k, ¬ (1317 * (j + 1) ≤ k ∧ k < 1317 * (j + 1) + 1317) → M 174 k = F 174 k := fun k x1 => by
      rw [w3 _ _ (by omega), mset_ne _ _ (by omega), mset_ne _ _ (by omega), u3 _ _ (by omega)]
    have f4 : ∀ k, k < 1317 → M 174 (1317 * (j + 1) + k) = F 174 k := fun k hk => by
      rw [w2 k hk, mset_ne _ _ (by omega), mset_ne _ _ (by omega), u3 _ _ (by omega)]
    have hA2 : AO (M 174) := hA.congr (fun k hk => f3 k (by omega))
    refine ⟨1, mset F1 (1 + 33) j 1, M, ⟨1, (j : Int), (1, mset F1 (1 + 33) j 1), rfl, k9, ?_, rfl, rfl⟩, ⟨173, (j : Int), (1, M), rfl, k10, ?_, rfl, rfl⟩, hA2, ?_, fun i hi => ?_, ?_, ?_, ?_⟩
    · unfold fX9_image
      rw [if_neg (by omega), if_pos (by omega), l1, if_pos (by omega), Int.toNat_natCast, ar33 hj, u1, Option.bind_some, l2, if_pos (by omega)]
    · unfold fX10_image
      rw [m_isIn, if_pos h, if_pos (by decide), l3, if_pos (by omega), Int.toNat_natCast, w1]
    · exact (hT.congr hA (fun k hk => f3 k (by omega))).mono hA2 (fun q k x1 x2 => f1 q k (by omega) (by omega) (by omega) (by omega))
    · obtain ⟨c1, c2⟩ := hI i hi
      by_cases y : i = j
      · subst y
        have e1 : M 175 i = 1 := by rw [w3 _ _ (by omega)]; exact mset_eq _ _ _ _
        have e2 : M 34 i = 1 := by rw [w3 _ _ (by omega), mset_ne _ _ (by omega)]; exact mset_eq _ _ _ _
        rw [e1, e2]
        refine ⟨rfl, Or.inr ⟨rfl, hA.congr (fun k hk => f4 k hk), ?_⟩⟩
        exact (u2.congr hA (fun k hk => f4 k hk)).mono (hA.congr (fun k hk => f4 k hk)) (fun q k x1 x2 => f2 q k x1 x2)
      · have e1 : M 175 i = F 175 i := by rw [w3 _ _ (by omega), mset_ne _ _ (by omega), mset_ne _ _ (by omega), u3 _ _ (by omega)]
        have e2 : M 34 i = F 34 i := by rw [w3 _ _ (by omega), mset_ne _ _ (by omega), mset_ne _ _ (by omega), u3 _ _ (by omega)]
        rw [e1, e2]
        refine ⟨c1, c2.elim Or.inl (fun ⟨x, y, z⟩ => Or.inr ⟨x, ?_, ?_⟩)⟩
        · exact y.congr (fun k hk => f3 _ (by omega))
        · exact (z.congr y (fun k hk => f3 _ (by omega))).mono (y.congr (fun k hk => f3 _ (by omega))) (fun q k x1 x2 => f1 q k (by omega) (by omega) (by omega) (by omega))
    · rw [f1 _ _ (by omega) (by omega) (by omega) (by omega)]; exact h11
    · rw [f1 _ _ (by omega) (by omega) (by omega) (by omega)]; exact h12
    · rw [f1 _ _ (by omega) (by omega) (by omega) (by omega)]; exact h13
  · refine ⟨0, F, F, ⟨1, a, (0, F), rfl, k9, ?_, rfl, rfl⟩, ⟨173, a, (0, F), rfl, k10, ?_, rfl, rfl⟩, hR⟩
    · unfold fX9_image
      by_cases x : a < 0
      · rw [if_pos x]
      · rw [if_neg x, if_neg (by omega)]
    · unfold fX10_image
      rw [m_isIn, if_neg h, if_neg (by decide)]
theorem pc_again (a : Int) : pcase RR gX9_again gX10_again [vI a] := by
  intro F hR hm
  obtain ⟨hA, hT, hI, h11, h12, h13⟩ := id hR
  by_cases h : 0 ≤ a ∧ a ≤ 2
  · obtain ⟨j, rfl⟩ := nat_of h.1
    have hj : j < 3 := by omega
    have l1 : alen (1 + 32) = 3 := rfl
    have l2 : alen (1 + 33) = 3 := rfl
    have l3 : alen (173 + 2) = 3 := rfl
    obtain ⟨c1, c2⟩ := hI j hj
    rcases c2 with c0 | ⟨c0, y, z⟩
    · refine ⟨0, F, F, ⟨1, (j : Int), (0, F), rfl, k9, ?_, rfl, rfl⟩, ⟨173, (j : Int), (0, F), rfl, k10, ?_, rfl, rfl⟩, hR⟩
      · have e : F (1 + 33) j = 0 := c0
        unfold fX9_again
        rw [if_neg (by omega), if_neg (by omega), l2, if_pos (by omega), Int.toNat_natCast, e, if_neg (by decide)]
      · have e : F (173 + 2) j = 0 := c1.trans c0
        unfold fX10_again
        rw [m_isIn, if_pos h, if_neg (by decide), l3, if_pos (by omega), Int.toNat_natCast, e, if_neg (by decide)]
    · obtain ⟨F1, u1, u2, u3⟩ := x4_copy (d := 2) y z (show isK 2 4 from rfl) (by omega)
      obtain ⟨M, w1, w2, w3⟩ := m_again (F := F1) hj
      have f1 : ∀ q k, ¬ (2 ≤ q ∧ q ≤ 2 + 30) → q ≠ 174 → M q k = F q k := fun q k x1 x2 => by
        rw [w3 _ _ (by omega), u3 _ _ x1]
      have f3 : ∀ k, 1317 ≤ k → M 174 k = F 174 k := fun k x1 => by rw [w3 _ _ (by omega), u3 _ _ (by omega)]
      have f4 : ∀ k, k < 1317 → M 174 k = imgA (F 174) j k := fun k hk => by
        rw [w2 k hk, u3 _ _ (by omega)]; rfl
      have hA2 : AO (M 174) := y.congr (fun k hk => f4 k hk)
      refine ⟨1, F1, M, ⟨1, (j : Int), (1, F1), rfl, k9, ?_, rfl, rfl⟩, ⟨173, (j : Int), (1, M), rfl, k10, ?_, rfl, rfl⟩, hA2, ?_, fun i hi => ?_, ?_, ?_, ?_⟩
      · have e : F (1 + 33) j = 1 := c0
        unfold fX9_again
        rw [if_neg (by omega), if_neg (by omega), l2, if_pos (by omega), Int.toNat_natCast, e, if_pos (by decide), l1, if_pos (by omega), ar33 hj]
        simp only [Nat.reduceAdd, u1, Option.bind_some]
      · have e : F1 (173 + 2) j = 1 := by rw [u3 _ _ (by omega)]; exact c1.trans c0
        unfold fX10_again
        rw [m_isIn, if_pos h, if_neg (by decide), l3, if_pos (by omega), Int.toNat_natCast, e, if_pos (by decide), w1]
      · exact (u2.congr y (fun k hk => f4 k hk)).mono hA2 (fun q k x1 x2 => by rw [w3 _ _ (by omega)])
      · obtain ⟨d1, d2⟩ := hI i hi
        rw [f1 175 i (by omega) (by omega), f1 34 i (by omega) (by omega)]
        have eq : imgA (M 174) i = imgA (F 174) i := funext fun k => f3 _ (by omega)
        rw [eq]
        exact ⟨d1, d2.elim Or.inl (fun ⟨x, y, z⟩ => Or.inr ⟨x, y, z.mono y (fun q k x1 x2 => f1 q k (by omega) (by omega))⟩)⟩
      · rw [f1 _ _ (by omega) (by omega)]; exact h11
      · rw [f1 _ _ (by omega) (by omega)]; exact h12
      · rw [f1 _ _ (by omega) (by omega)]; exact h13
  · refine ⟨0, F, F, ⟨1, a, (0, F), rfl, k9, ?_, rfl, rfl⟩, ⟨173, a, (0, F), rfl, k10, ?_, rfl, rfl⟩, hR⟩
    · unfold fX9_again
      by_cases x : a < 0
      · rw [if_pos x]
      · rw [if_neg x, if_pos (by omega)]
    · unfold fX10_again
      rw [m_isIn, if_neg h, if_pos rfl]
