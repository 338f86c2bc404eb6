/-! ===== valley, feed ===== -/
theorem RR.tape {F G : Mem} (hR : RR F) (h1 : ∀ o k, o ≠ 2 → o ≠ 3 → o ≠ 174 → (o ≤ 34 ∨ (80 ≤ o ∧ o ≤ 172) ∨ o = 175) → G o k = F o k) (h2 : ∀ k, k < 6 ∨ 610 ≤ k → G 174 k = F 174 k) (h6 : G 2 1 = G 174 6 ∧ G 2 2 = G 174 7 ∧ G 2 3 = G 174 8) (hL : 0 ≤ G 174 6 ∧ G 174 6 ≤ 600) (hb : ∀ k, k < 600 → -128 ≤ G 3 k ∧ G 3 k < 128) (ht : ∀ k : Nat, (k : Int) < G 174 6 → (0 ≤ G 174 (10 + k) ∧ G 174 (10 + k) ≤ 255) ∧ G 3 k = sb (G 174 (10 + k))) (h11 : G 173 11 = -1) (h12 : G 173 12 = 0) (h13 : G 173 13 = -1) : RR G := by
  obtain ⟨hA, hT, hI, -⟩ := hR
  obtain ⟨a0, a1, a2, a3, a4, a5, a6, a7, a8, a9⟩ := hA
  obtain ⟨t0, t1, t2, t3, t4, t5, t6, t7, t8⟩ := hT
  have e0 := h2 0 (by omega)
  have e1 := h2 1 (by omega)
  have e2 := h2 2 (by omega)
  have e3 := h2 3 (by omega)
  have q7 : ∀ i, vOf (G 174) i = vOf (F 174) i := fun i => funext fun j => h2 _ (by omega)
  have q8 : ∀ i, rOf (G 174) i = rOf (F 174) i := fun i => funext fun j => h2 _ (by omega)
  have q9 : ∀ i, gOf (G 174) i = gOf (F 174) i := fun i => funext fun j => h2 _ (by omega)
  have q10 : ∀ i, eOf (G 174) i = eOf (F 174) i := fun i => funext fun j => h2 _ (by omega)
  have qi : ∀ j, imgA (G 174) j = imgA (F 174) j := fun j => funext fun k => h2 _ (by omega)
  refine ⟨⟨by omega, by omega, by omega, by omega, hL, fun k hk => (ht k hk).1, fun i hi => ?_, fun i hi => ?_, fun i hi => ?_, fun i hi => ?_⟩, ⟨t0, h6, hb, fun k hk => (ht k hk).2, fun i hi => ?_, fun i hi => ?_, fun i hi => ?_, fun i hi => ?_, fun i hi => ?_⟩, fun j hj => ?_, h11, h12, h13⟩
  · rw [q7]; exact a6 i (by omega)
  · rw [q8]; exact a7 i (by omega)
  · rw [q9]; exact a8 i (by omega)
  · rw [q10]; exact a9 i (by omega)
  · rw [h1 _ _ (by omega) (by omega) (by omega) (by omega), h2 i (by omega)]; exact t4 i hi
  · rw [q7]; exact (t5 i (by omega)).mono (fun q k x1 x2 => h1 _ _ (by omega) (by omega) (by omega) (by omega))
  · rw [q8]; exact (t6 i (by omega)).mono (fun q k x1 x2 => h1 _ _ (by omega) (by omega) (by omega) (by omega))
  · rw [q9]; exact (t7 i (by omega)).mono (fun q k x1 x2 => h1 _ _ (by omega) (by omega) (by omega) (by omega))
  · rw [q10]; exact (t8 i (by omega)).mono (fun q k x1 x2 => h1 _ _ (by omega) (by omega) (by omega) (by omega))
  · obtain ⟨c1, c2⟩ := hI j hj
    rw [h1 175 j (by omega) (by omega) (by omega) (by omega), h1 34 j (by omega) (by omega) (by omega) (by omega), qi]
    exact ⟨c1, c2.elim Or.inl (fun ⟨x, y, z⟩ => Or.inr ⟨x, y, z.mono y (fun q k x1 x2 => h1 _ _ (by omega) (by omega) (by omega) (by omega))⟩)⟩
def bX (x : Int) (j : Nat) : Int := xi2b (xi2b (xushr x (24 - 8 * (j : Int))))
def bM (x : Int) (j : Nat) : Int := xand (xshr x (24 - 8 * (j : Int))) 255
theorem bX_bM {x : Int} (hx : in32 x) {j : Nat} (hj : j < 4) : bX x j = sb (bM x j) ∧ (0 ≤ bM x j ∧ bM x j ≤ 255) := by
  unfold bX bM
  obtain rfl | rfl | rfl | rfl : j = 0 ∨ j = 1 ∨ j = 2 ∨ j = 3 := by omega
  · refine ⟨byte24 hx, ?_⟩
    show 0 ≤ xand (xshr x 24) 255 ∧ xand (xshr x 24) 255 ≤ 255
    rw [shr24 hx, and255 (by unfold in32 at *; omega)]; omega
  · refine ⟨byte16 hx, ?_⟩
    show 0 ≤ xand (xshr x 16) 255 ∧ xand (xshr x 16) 255 ≤ 255
    rw [shr16 hx, and255 (by unfold in32 at *; omega)]; omega
  · refine ⟨byte8 hx, ?_⟩
    show 0 ≤ xand (xshr x 8) 255 ∧ xand (xshr x 8) 255 ≤ 255
    rw [shr8 hx, and255 (by unfold in32 at *; omega)]; omega
  · refine ⟨byte0 hx, ?_⟩
    show 0 ≤ xand (xshr x 0) 255 ∧ xand (xshr x 0) 255 ≤ 255
    rw [shr0 hx, and255 hx]; omega
theorem x_append {F : Mem} (x : Int) {L : Nat} (hL : F 2 1 = (L : Int)) (hL2 : L + 4 ≤ 600) : ∃ F', fX4_append 2 x F = some F' ∧ F' 2 1 = ((L + 4 : Nat) : Int) ∧ (∀ j, j < 4 → F' 3 (L + j) = bX x j) ∧ (∀ o k, ¬ (o = 2 ∧ k = 1) → ¬ (o = 3 ∧ L ≤ k ∧ k < L + 4) → F' o k = F o k) := by
  unfold fX4_append
  refine lp (fun n k (G : Mem) => fX4_append_b3 n 2 x (24 - 8 * (k : Int)) G) 4 (fun k G => G 2 1 = ((L + k : Nat) : Int) ∧ (∀ j, j < k → G 3 (L + j) = bX x j) ∧ (∀ o i, ¬ (o = 2 ∧ i = 1) → ¬ (o = 3 ∧ L ≤ i ∧ i < L + k) → G o i = F o i)) (fun r => ∃ F', r = some F' ∧ F' 2 1 = ((L + 4 : Nat) : Int) ∧ (∀ j, j < 4 → F' 3 (L + j) = bX x j) ∧ (∀ o k, ¬ (o = 2 ∧ k = 1) → ¬ (o = 3 ∧ L ≤ k ∧ k < L + 4) → F' o k = F o k)) ?_ ?_ FU 0 F (by omega) ⟨hL, fun j hj => absurd hj (by omega), fun _ _ _ _ => rfl⟩ (FU_gt (by omega))
  · rintro n k G hk ⟨h1, h2, h3⟩
    left
    have l1 : alen (2 + 1) = 600 := rfl
    refine ⟨mset (mset G 3 (L + k) (bX x k)) 2 1 ((L + (k + 1) : Nat) : Int), ⟨mset_eq _ _ _ _, fun j hj => ?_, fun o i x1 x2 => ?_⟩, ?_⟩
    · rw [mset_ne _ _ (by omega)]
      by_cases y : j = k
      · subst y; rw [mset_eq]
      · rw [mset_ne _ _ (by omega)]; exact h2 j (by omega)
    · rw [mset_ne _ _ x1, mset_ne _ _ (by omega)]; exact h3 o i x1 (by omega)
    · show fX4_append_b3 (n + 1) 2 x (24 - 8 * (k : Int)) G = fX4_append_b3 n 2 x (24 - 8 * ((k + 1 : Nat) : Int)) _
      rw [fX4_append_b3, if_neg (by omega), h1, if_neg (by omega), l1, if_pos (by omega), Int.toNat_natCast, xwn (x := 24 - 8 * (k : Int) + -8) (by omega) (by omega)]
      have e1 : mset G (2 + 1) (L + k) (xi2b (xi2b (xushr x (24 - 8 * (k : Int))))) 2 1 = ((L + k : Nat) : Int) := by rw [mset_ne _ _ (by omega)]; exact h1
      rw [e1, xwS (by omega)]
      congr 1
      omega
  · rintro n G ⟨h1, h2, h3⟩
    refine ⟨G, ?_, h1, h2, h3⟩
    show fX4_append_b3 (n + 1) 2 x (24 - 8 * ((4 : Nat) : Int)) G = some G
    rw [fX4_append_b3, if_pos (by omega)]
def wF (a b c d e : Int) (i : Nat) : Int := if i < 4 then a else if i < 8 then b else if i < 12 then c else if i < 16 then d else e
theorem feed_sh {k : Nat} : xw (24 - xw (8 * Int.tmod (k : Int) 4)) = 24 - 8 * ((k % 4 : Nat) : Int) := by
  rw [Int.tmod_eq_emod_of_nonneg (by omega)]
  have e : (k : Int) % 4 = ((k % 4 : Nat) : Int) := by omega
  have b : k % 4 < 4 := Nat.mod_lt _ (by decide)
  rw [e]
  generalize k % 4 = r at b
  rw [xwn (x := 8 * (r : Int)) (by omega) (by omega), xwn (by omega) (by omega)]
theorem feed_ix {L k : Nat} (h : L + k < 5000) : xw (10 + ((L + k : Nat) : Int)) = ((10 + (L + k) : Nat) : Int) := by
  rw [xwn (by omega) (by omega)]; omega
theorem feed_bt {L k : Nat} (h : L + k < 5000) : (0 : Int) ≤ ((10 + (L + k) : Nat) : Int) ∧ ((10 + (L + k) : Nat) : Int) < ((5268 : Nat) : Int) := by omega
theorem feed_st {G : Mem} {a b c d e : Int} {L n k : Nat} (hk : k < 20) (hL2 : L + 20 ≤ 600) (g6 : G (173 + 1) 6 = ((L + k : Nat) : Int)) {w : Int} (hw : w = wF a b c d e k) : fX10_feed_b74 (fX10_feed_b21 n) 173 a b c d e (k : Int) w G = fX10_feed_b21 n 173 a b c d e ((k + 1 : Nat) : Int) (mset (mset G 174 (10 + (L + k)) (bM (wF a b c d e k) (k % 4))) 174 6 ((L + (k + 1) : Nat) : Int)) := by
  have hb : L + k < 5000 := by omega
  have e8 : mset G (173 + 1) (10 + (L + k)) (bM w (k % 4)) (173 + 1) 6 = ((L + k : Nat) : Int) := by rw [mset_ne _ _ (by omega)]; exact g6
  have e9 : xw (((L + k : Nat) : Int) + 1) = ((L + (k + 1) : Nat) : Int) := xwS (by omega)
  have e10 : xw ((k : Int) + 1) = ((k + 1 : Nat) : Int) := xwS (by omega)
  have b6 : (0 : Int) ≤ 6 ∧ (6 : Int) < ((5268 : Nat) : Int) := by decide
  have bt := feed_bt hb
  unfold bM at e8
  unfold fX10_feed_b74
  rw [al174, if_pos b6, g6, feed_ix hb, if_pos bt, Int.toNat_natCast, feed_sh, e8, e9, e10, hw]
  rfl
theorem m_feed {F : Mem} {a b c d e : Int} {L : Nat} (hL : F 174 6 = (L : Int)) (hL2 : L + 20 ≤ 600) : ∃ F', fX10_feed 173 a b c d e F = some (((L + 20 : Nat) : Int), F') ∧ F' 174 6 = ((L + 20 : Nat) : Int) ∧ (∀ j, j < 20 → F' 174 (10 + (L + j)) = bM (wF a b c d e j) (j % 4)) ∧ (∀ o k, ¬ (o = 174 ∧ (k = 6 ∨ (10 + L ≤ k ∧ k < 10 + L + 20))) → F' o k = F o k) := by
  have e6 : F (173 + 1) 6 = (L : Int) := hL
  unfold fX10_feed
  rw [al174, if_pos (by decide), e6, xwn (x := (L : Int) + 20) (by omega) (by omega), if_pos (by omega)]
  refine lp (fun n k (G : Mem) => fX10_feed_b21 n 173 a b c d e (k : Int) G) 20 (fun k G => G 174 6 = ((L + k : Nat) : Int) ∧ (∀ j, j < k → G 174 (10 + (L + j)) = bM (wF a b c d e j) (j % 4)) ∧ (∀ o i, ¬ (o = 174 ∧ (i = 6 ∨ (10 + L ≤ i ∧ i < 10 + L + k))) → G o i = F o i)) (fun r => ∃ F', r = some (((L + 20 : Nat) : Int), F') ∧ F' 174 6 = ((L + 20 : Nat) : Int) ∧ (∀ j, j < 20 → F' 174 (10 + (L + j)) = bM (wF a b c d e j) (j % 4)) ∧ (∀ o k, ¬ (o = 174 ∧ (k = 6 ∨ (10 + L ≤ k ∧ k < 10 + L + 20))) → F' o k = F o k)) ?_ ?_ FU 0 F (by omega) ⟨hL, fun j hj => absurd hj (by omega), fun _ _ _ => rfl⟩ (FU_gt (by omega))
  · rintro n k G hk ⟨h1, h2, h3⟩
    left
    have g6 : G (173 + 1) 6 = ((L + k : Nat) : Int) := h1
    refine ⟨mset (mset G 174 (10 + (L + k)) (bM (wF a b c d e k) (k % 4))) 174 6 ((L + (k + 1) : Nat) : Int), ⟨mset_eq _ _ _ _, fun j hj => ?_, fun o i x1 => ?_⟩, ?_⟩
    · rw [mset_ne _ _ (by omega)]
      by_cases y : j = k
      · subst y; rw [mset_eq]
      · rw [mset_ne _ _ (by omega)]; exact h2 j (by omega)
    · rw [mset_ne _ _ (by omega), mset_ne _ _ (by omega)]; exact h3 o i (by omega)
    · have st := fun w hw => feed_st (b := b) (c := c) (d := d) (e := e) (a := a) (n := n) hk hL2 g6 (w := w) hw
      show fX10_feed_b21 (n + 1) 173 a b c d e (k : Int) G = _
      rw [fX10_feed_b21, if_neg (by omega)]
      by_cases c4 : 4 ≤ (k : Int)
      · rw [if_pos c4]
        by_cases c8 : 8 ≤ (k : Int)
        · rw [if_pos c8]
          by_cases c12 : 12 ≤ (k : Int)
          · rw [if_pos c12]
            by_cases c16 : 16 ≤ (k : Int)
            · rw [if_pos c16]
              exact st e (by unfold wF; rw [if_neg (by omega), if_neg (by omega), if_neg (by omega), if_neg (by omega)])
            · rw [if_neg c16]
              exact st d (by unfold wF; rw [if_neg (by omega), if_neg (by omega), if_neg (by omega), if_pos (by omega)])
          · rw [if_neg c12]
            exact st c (by unfold wF; rw [if_neg (by omega), if_neg (by omega), if_pos (by omega)])
        · rw [if_neg c8]
          exact st b (by unfold wF; rw [if_neg (by omega), if_pos (by omega)])
      · rw [if_neg c4]
        exact st a (by unfold wF; rw [if_pos (by omega)])
  · rintro n G ⟨h1, h2, h3⟩
    refine ⟨G, ?_, h1, h2, h3⟩
    have g6 : G (173 + 1) 6 = ((L + 20 : Nat) : Int) := h1
    show fX10_feed_b21 (n + 1) 173 a b c d e ((20 : Nat) : Int) G = _
    rw [fX10_feed_b21, if_pos (by omega), al174, if_pos (by decide), g6]
theorem pc_feed (a b c d e : Int) (ha : in32 a) (hb : in32 b) (hc : in32 c) (hd : in32 d) (he : in32 e) : pcase RR gX9_feed gX10_feed [vI a, vI b, vI c, vI d, vI e] := by
  intro F hR hm
  obtain ⟨hA, hT, hI, h11, h12, h13⟩ := id hR
  have h6 := hT.2.1.1
  have hL := hA.2.2.2.2.1
  obtain ⟨L, eL⟩ := nat_of hL.1
  rw [eL] at h6
  by_cases q : L + 20 ≤ 600
  · obtain ⟨F1, u1, u2, u3, u4⟩ := x_append a (F := F) h6 (by omega)
    obtain ⟨F2, v1, v2, v3, v4⟩ := x_append b (F := F1) u2 (by omega)
    obtain ⟨F3, w1, w2, w3, w4⟩ := x_append c (F := F2) v2 (by omega)
    obtain ⟨F4, y1, y2, y3, y4⟩ := x_append d (F := F3) w2 (by omega)
    obtain ⟨F5, z1, z2, z3, z4⟩ := x_append e (F := F4) y2 (by omega)
    have g1 : ∀ o k, o ≠ 3 → ¬ (o = 2 ∧ k = 1) → F5 o k = F o k := fun o k p1 p2 => by
      rw [z4 o k p2 (by omega), y4 o k p2 (by omega), w4 o k p2 (by omega), v4 o k p2 (by omega), u4 o k p2 (by omega)]
    have g2 : ∀ k, k < L → F5 3 k = F 3 k := fun k hk => by
      rw [z4 3 k (by omega) (by omega), y4 3 k (by omega) (by omega), w4 3 k (by omega) (by omega), v4 3 k (by omega) (by omega), u4 3 k (by omega) (by omega)]
    have g2b : ∀ k, L + 20 ≤ k → F5 3 k = F 3 k := fun k hk => by
      rw [z4 3 k (by omega) (by omega), y4 3 k (by omega) (by omega), w4 3 k (by omega) (by omega), v4 3 k (by omega) (by omega), u4 3 k (by omega) (by omega)]
    have g3 : ∀ j, j < 20 → F5 3 (L + j) = bX (wF a b c d e j) (j % 4) := by
      intro j hj
      unfold wF
      by_cases c4 : j < 4
      · rw [if_pos c4, z4 3 _ (by omega) (by omega), y4 3 _ (by omega) (by omega), w4 3 _ (by omega) (by omega), v4 3 _ (by omega) (by omega), u3 j c4, show j % 4 = j by omega]
      · rw [if_neg c4]
        by_cases c8 : j < 8
        · have := v3 (j - 4) (by omega)
          rw [show L + 4 + (j - 4) = L + j by omega] at this
          rw [if_pos c8, z4 3 _ (by omega) (by omega), y4 3 _ (by omega) (by omega), w4 3 _ (by omega) (by omega), this, show j % 4 = j - 4 by omega]
        · rw [if_neg c8]
          by_cases c12 : j < 12
          · have := w3 (j - 8) (by omega)
            rw [show L + 4 + 4 + (j - 8) = L + j by omega] at this
            rw [if_pos c12, z4 3 _ (by omega) (by omega), y4 3 _ (by omega) (by omega), this, show j % 4 = j - 8 by omega]
          · rw [if_neg c12]
            by_cases c16 : j < 16
            · have := y3 (j - 12) (by omega)
              rw [show L + 4 + 4 + 4 + (j - 12) = L + j by omega] at this
              rw [if_pos c16, z4 3 _ (by omega) (by omega), this, show j % 4 = j - 12 by omega]
            · have := z3 (j - 16) (by omega)
              rw [show L + 4 + 4 + 4 + 4 + (j - 16) = L + j by omega] at this
              rw [if_neg c16, this, show j % 4 = j - 16 by omega]
    have e5 : F5 174 6 = (L : Int) := (g1 174 6 (by omega) (by omega)).trans eL
    obtain ⟨M, m1, m2, m3, m4⟩ := m_feed (F := F5) (a := a) (b := b) (c := c) (d := d) (e := e) e5 q
    have hw : ∀ j, in32 (wF a b c d e j) := fun j => by
      unfold wF
      split
      · exact ha
      · split
        · exact hb
        · split
          · exact hc
          · split
            · exact hd
            · exact he
    have eX : fX9_feed 1 a b c d e F = some (((L + 20 : Nat) : Int), F5) := by
      unfold fX9_feed
      have e0 : F (1 + 1) 1 = (L : Int) := h6
      rw [e0, if_pos (by omega)]
      simp only [Nat.reduceAdd, u1, v1, w1, y1, z1, Option.bind_some, z2]
    refine ⟨_, F5, M, ⟨1, a, b, c, d, e, _, rfl, k9, eX, rfl, rfl⟩, ⟨173, a, b, c, d, e, _, rfl, k10, m1, rfl, rfl⟩, ?_⟩
    refine hR.tape (fun o k p1 p2 p3 p4 => (m4 o k (by omega)).trans (g1 o k p2 (by omega))) (fun k hk => (m4 174 k (by omega)).trans (g1 174 k (by omega) (by omega))) ⟨?_, ?_, ?_⟩ ⟨by omega, by omega⟩ (fun k hk => ?_) (fun k hk => ?_) ?_ ?_ ?_
    · rw [m4 2 1 (by omega), m2]; exact z2
    · rw [m4 2 2 (by omega), m4 174 7 (by omega), g1 2 2 (by omega) (by omega), g1 174 7 (by omega) (by omega)]; exact hT.2.1.2.1
    · rw [m4 2 3 (by omega), m4 174 8 (by omega), g1 2 3 (by omega) (by omega), g1 174 8 (by omega) (by omega)]; exact hT.2.1.2.2
    · rw [m4 3 k (by omega)]
      by_cases p : k < L
      · rw [g2 k p]; exact hT.2.2.1 k hk
      · by_cases p2 : k < L + 20
        · have := g3 (k - L) (by omega)
          rw [show L + (k - L) = k by omega] at this
          rw [this]
          exact i2b_in _
        · rw [g2b k (by omega)]; exact hT.2.2.1 k hk
    · rw [m2] at hk
      rw [m4 3 k (by omega)]
      by_cases p : k < L
      · rw [g2 k p, m4 174 (10 + k) (by omega), g1 174 _ (by omega) (by omega)]
        exact ⟨hA.2.2.2.2.2.1 k (by omega), hT.2.2.2.1 k (by omega)⟩
      · have r1 := g3 (k - L) (by omega)
        have r2 := m3 (k - L) (by omega)
        rw [show L + (k - L) = k by omega] at r1 r2
        rw [r1, r2]
        have r3 := bX_bM (hw (k - L)) (j := (k - L) % 4) (by omega)
        exact ⟨r3.2, r3.1⟩
    · rw [m4 173 11 (by omega), g1 173 11 (by omega) (by omega)]; exact h11
    · rw [m4 173 12 (by omega), g1 173 12 (by omega) (by omega)]; exact h12
    · rw [m4 173 13 (by omega), g1 173 13 (by omega) (by omega)]; exact h13
  · refine ⟨-1, F, F, ⟨1, a, b, c, d, e, (-1, F), rfl, k9, ?_, rfl, rfl⟩, ⟨173, a, b, c, d, e, (-1, F), rfl, k10, ?_, rfl, rfl⟩, hR⟩
    · unfold fX9_feed
      have e0 : F (1 + 1) 1 = (L : Int) := h6
      rw [e0, if_neg (by omega)]
    · have e6 : F (173 + 1) 6 = (L : Int) := eL
      unfold fX10_feed
      rw [al174, if_pos (by decide), e6, xwn (x := (L : Int) + 20) (by omega) (by omega), if_neg (by omega)]
theorem pc_valley (a b : Int) : pcase RR gX9_valley gX10_valley [vI a, vI b] := by
  intro F hR hm
  obtain ⟨hA, hT, -⟩ := id hR
  obtain ⟨z, F2, h1, h2, h3⟩ : ∃ z F2, fX9_valley 1 a b F = some z ∧ fX10_valley 173 a b F = some (z, F2) ∧ kM F F2 := by
    unfold fX9_valley fX10_valley
    simp only [t_valley hA hT, m_valley hA, Option.bind_some, Nat.reduceAdd]
    by_cases h : 0 ≤ a ∧ a < F 174 0
    · have h0 := hA.1
      obtain ⟨hM, hO⟩ := m_valleyMV hA h
      have hV := hT.2.2.2.2.2.1 a.toNat (by omega)
      have n0 : ¬ 2 + 7 + 9 * a.toNat = 0 := by omega
      have b6 := hO.2.2.2.2.1
      generalize vOf (F 174) a.toNat = v at *
      obtain ⟨hk, ⟨w0, w1, w2, w3, w4⟩, w5, w6, -⟩ := id hV
      simp only [if_pos h, if_neg n0, e11, m_isIn, i10]
      by_cases q : 0 ≤ b ∧ b ≤ 6
      · obtain ⟨k, rfl⟩ := nat_of q.1
        refine ⟨v k, mset F 173 10 (610 + 58 * a), ?_, ?_, kM_v0 _ _⟩
        · obtain rfl | rfl | rfl | rfl | rfl | rfl | rfl : k = 0 ∨ k = 1 ∨ k = 2 ∨ k = 3 ∨ k = 4 ∨ k = 5 ∨ k = 6 := by omega
          · rw [if_pos (by decide), w0]
          · rw [if_neg (by decide), if_pos (by decide), w1]
          · rw [if_neg (by decide), if_neg (by decide), if_pos (by decide), w2]
          · rw [if_neg (by decide), if_neg (by decide), if_neg (by decide), if_pos (by decide), w3]
          · rw [if_neg (by decide), if_neg (by decide), if_neg (by decide), if_neg (by decide), if_pos (by decide), w4]
          · rw [if_neg (by decide), if_neg (by decide), if_neg (by decide), if_neg (by decide), if_neg (by decide), if_pos (by decide), w5]
          · rw [if_neg (by decide), if_neg (by decide), if_neg (by decide), if_neg (by decide), if_neg (by decide), if_neg (by decide), if_pos (by decide), w6]
        · rw [if_pos q, m_of hM (i := k) rfl (by omega), Option.bind_some]
      · rw [if_neg q, if_neg (by omega), if_neg (by omega), if_neg (by omega), if_neg (by omega), if_neg (by omega), if_neg (by omega), if_neg (by omega)]
        -- the reference's three rows
        have st : ∀ (n i : Nat), i < 3 → fX10_valley_b28 (n + 1) 173 b (i : Int) (mset F 173 10 (610 + 58 * a)) = if 10 + 10 * (i : Int) ≤ b ∧ b ≤ 9 + 10 * (i : Int) + v 6 then some (v (40 + 3 * (b - 10 - 10 * (i : Int)).toNat + i), mset F 173 10 (610 + 58 * a)) else fX10_valley_b28 n 173 b ((i + 1 : Nat) : Int) (mset F 173 10 (610 + 58 * a)) := by
          intro n i hi
          rw [fX10_valley_b28, if_neg (by omega), m_of hM (i := 6) (x := 6) rfl (by omega), Option.bind_some, m_isIn, i10, xwn (x := 10 * (i : Int)) (by omega) (by omega), xwn (x := 10 + 10 * (i : Int)) (by omega) (by omega), xwn (x := 9 + 10 * (i : Int)) (by omega) (by omega), xwn (x := 9 + 10 * (i : Int) + v 6) (by omega) (by omega), xwS (by omega)]
          by_cases c : 10 + 10 * (i : Int) ≤ b ∧ b ≤ 9 + 10 * (i : Int) + v 6
          · rw [if_pos c, if_pos c, xwn (x := b - 10) (by omega) (by omega), xwn (x := b - 10 - 10 * (i : Int)) (by omega) (by omega)]
            obtain ⟨k, ek⟩ := nat_of (show 0 ≤ b - 10 - 10 * (i : Int) by omega)
            rw [ek, m_must hM (h := k) (i := i) (y := (i : Int)) (by omega) hi rfl, Option.bind_some, Int.toNat_natCast]
          · rw [if_neg c, if_neg c]
        have fin : ∀ n, fX10_valley_b28 (n + 1) 173 b ((3 : Nat) : Int) (mset F 173 10 (610 + 58 * a)) = some (-1, mset F 173 10 (610 + 58 * a)) := fun n => by
          rw [fX10_valley_b28, if_pos (by omega)]
        have all : fX10_valley_b28 FU 173 b 0 (mset F 173 10 (610 + 58 * a)) = if 10 ≤ b ∧ b ≤ 9 + v 6 then some (v (40 + 3 * (b - 10).toNat + 0), mset F 173 10 (610 + 58 * a)) else if 20 ≤ b ∧ b ≤ 19 + v 6 then some (v (40 + 3 * (b - 20).toNat + 1), mset F 173 10 (610 + 58 * a)) else if 30 ≤ b ∧ b ≤ 29 + v 6 then some (v (40 + 3 * (b - 30).toNat + 2), mset F 173 10 (610 + 58 * a)) else some (-1, mset F 173 10 (610 + 58 * a)) := by
          have s0 := st 99999 0 (by omega)
          have s1 := st 99998 1 (by omega)
          have s2 := st 99997 2 (by omega)
          have s3 := fin 99996
          rw [s1, s2, s3] at s0
          have t0 : (b - 10 - 10 * ((0 : Nat) : Int)).toNat = (b - 10).toNat := by omega
          have t1 : (b - 10 - 10 * ((1 : Nat) : Int)).toNat = (b - 20).toNat := by omega
          have t2 : (b - 10 - 10 * ((2 : Nat) : Int)).toNat = (b - 30).toNat := by omega
          rw [t0, t1, t2] at s0
          exact s0
        rw [all]
        by_cases c1 : 10 ≤ b ∧ b ≤ 39
        · have eT : Int.tmod b 10 = b % 10 := Int.tmod_eq_emod_of_nonneg (by omega)
          have eD : Int.tdiv b 10 = b / 10 := Int.tdiv_eq_ediv_of_nonneg (by omega)
          rw [if_neg (by omega), if_pos c1.2, eT, eD, xwn (x := b / 10) (by omega) (by omega), xwn (x := b / 10 - 1) (by omega) (by omega), v_mustA hV hO, Option.bind_some]
          refine ⟨if 0 ≤ b % 10 ∧ b % 10 < v 6 ∧ 0 ≤ b / 10 - 1 ∧ b / 10 - 1 < 3 then v (40 + 3 * (b % 10).toNat + (b / 10 - 1).toNat) else -1, mset F 173 10 (610 + 58 * a), rfl, ?_, kM_v0 _ _⟩
          by_cases d1 : b < 20
          · by_cases d2 : b ≤ 9 + v 6
            · rw [if_pos ⟨c1.1, d2⟩, if_pos (by omega), show (b % 10).toNat = (b - 10).toNat by omega, show (b / 10 - 1).toNat = 0 by omega]
            · rw [if_neg (by omega), if_neg (by omega), if_neg (by omega), if_neg (by omega)]
          · by_cases d3 : b < 30
            · by_cases d2 : b ≤ 19 + v 6
              · rw [if_neg (by omega), if_pos ⟨by omega, d2⟩, if_pos (by omega), show (b % 10).toNat = (b - 20).toNat by omega, show (b / 10 - 1).toNat = 1 by omega]
              · rw [if_neg (by omega), if_neg (by omega), if_neg (by omega), if_neg (by omega)]
            · by_cases d2 : b ≤ 29 + v 6
              · rw [if_neg (by omega), if_neg (by omega), if_pos ⟨by omega, d2⟩, if_pos (by omega), show (b % 10).toNat = (b - 30).toNat by omega, show (b / 10 - 1).toNat = 2 by omega]
              · rw [if_neg (by omega), if_neg (by omega), if_neg (by omega), if_neg (by omega)]
        · rw [if_neg (c := 10 ≤ b ∧ b ≤ 9 + v 6) (by omega), if_neg (c := 20 ≤ b ∧ b ≤ 19 + v 6) (by omega), if_neg (c := 30 ≤ b ∧ b ≤ 29 + v 6) (by omega)]
          refine ⟨-1, mset F 173 10 (610 + 58 * a), ?_, rfl, kM_v0 _ _⟩
          by_cases d1 : b < 10
          · rw [if_pos d1]
          · rw [if_neg d1, if_neg (by omega)]
    · simp only [if_neg h, e01, if_true]
      exact ⟨_, _, rfl, rfl, kM.rf _⟩
  exact ⟨z, F, F2, ⟨1, a, b, _, rfl, k9, h1, rfl, rfl⟩, ⟨173, a, b, _, rfl, k10, h2, rfl, rfl⟩, hR.step (kX.rf F) h3⟩
