/-! ===== has, cross, lawful ===== -/
def cnI (f : Nat → Int) (h : Int) (s : Nat) : Int := if f s = h then 1 else 0
theorem cnI_bd (f : Nat → Int) (h : Int) (s : Nat) : 0 ≤ cnI f h s ∧ cnI f h s ≤ ((1 : Nat) : Int) := by unfold cnI; split <;> omega
theorem x_slotsOf {F : Mem} {o a : Nat} {f : Nat → Int} (ha : alen a = 336) (ha0 : a ≠ 0) (hf : ∀ s, s < 336 → F a s = f s) (h : Int) : fX0_slotsOf o a h F = some (sm 336 (cnI f h)) := by
  unfold fX0_slotsOf
  refine lpS (fun n k x => fX0_slotsOf_b5 F n a h x (k : Int)) 336 (cnI f h) 1 some (fun i _ => cnI_bd f h i) (fun n k hk h1 h2 => ?_) (fun n _ _ => ?_) (by omega)
  · show fX0_slotsOf_b5 F (n + 1) a h (sm k (cnI f h)) (k : Int) = fX0_slotsOf_b5 F n a h (sm k (cnI f h) + cnI f h k) ((k + 1 : Nat) : Int)
    rw [fX0_slotsOf_b5, if_neg ha0, ha, if_neg (by omega), if_neg ha0, if_pos (by omega), Int.toNat_natCast, hf k hk, xwS (by omega), xwn (x := _ + 0) (by omega) (by omega), xwn (x := _ + 1) (by omega) (by omega)]
    unfold cnI
    by_cases q : f k = h
    · rw [if_neg (by omega), if_pos q]
    · rw [if_pos q, if_neg q]
  · show fX0_slotsOf_b5 F (n + 1) a h (sm 336 (cnI f h)) ((336 : Nat) : Int) = _
    rw [fX0_slotsOf_b5, if_neg ha0, ha, if_pos (by omega)]
theorem m_hasSum {F : Mem} {t : LSt} (hX : XS 177 F t) (h what : Int) (hw : what = 0 ∨ what = 1) : fX10_has_b74 FU 173 h what 0 0 F = some (sm 336 (cnI (if what = 0 then t.1 else t.2.1) h), F) := by
  refine lpS (fun n k x => fX10_has_b74 n 173 h what x (k : Int) F) 336 (cnI (if what = 0 then t.1 else t.2.1) h) 1 (fun x => some (x, F)) (fun i _ => cnI_bd _ h i) (fun n k hk h1 h2 => ?_) (fun n _ _ => ?_) (by omega)
  · have q := hX.1 k hk
    have q5 : F (173 + 5) k = t.1 k := q.1
    have q6 : F (173 + 6) k = t.2.1 k := q.2
    have bt : (0 : Int) ≤ (k : Int) ∧ (k : Int) < ((336 : Nat) : Int) := by omega
    generalize ha : sm k (cnI (if what = 0 then t.1 else t.2.1) h) = a at h1 h2
    show fX10_has_b74 (n + 1) 173 h what a (k : Int) F = fX10_has_b74 n 173 h what (a + cnI (if what = 0 then t.1 else t.2.1) h k) ((k + 1 : Nat) : Int) F
    rw [fX10_has_b74, if_neg (by omega)]
    unfold fX10_has_b106 cnI
    simp only [al5, al6, if_pos bt, Int.toNat_natCast, q5, q6, xwS (show k < 2147483647 by omega), xwn (x := a + 0) (by omega) (by omega), xwn (x := a + 1) (by omega) (by omega)]
    by_cases w : what = 0
    · rw [if_neg (by omega), if_pos w]
      by_cases c : t.1 k = h
      · rw [if_neg (by omega), if_pos c]
      · rw [if_pos c, if_neg c]
    · rw [if_pos w, if_neg w]
      by_cases c : t.2.1 k = h
      · rw [if_neg (by omega), if_pos c]
      · rw [if_pos c, if_neg c]
  · show fX10_has_b74 (n + 1) 173 h what (sm 336 _) ((336 : Nat) : Int) F = _
    rw [fX10_has_b74, if_pos (by omega)]
theorem pc_has (a b c d : Int) : pcase RR gX9_has gX10_has [vI a, vI b, vI c, vI d] := by
  intro F hR hm
  obtain ⟨F1, F2, z, s1, s2, s3, s4, s5, s6⟩ := state2 hR a b
  by_cases q : (0 ≤ c ∧ c ≤ 7) ∧ (0 ≤ d ∧ d ≤ 3)
  · have n1 : ¬ c < 0 := by omega
    have n2 : c < 8 := by omega
    rcases s5 with rfl | rfl
    · refine ⟨-2, F1, F2, ⟨1, a, b, c, d, (-2, F1), rfl, k9, ?_, rfl, rfl⟩, ⟨173, a, b, c, d, (-2, F2), rfl, k10, ?_, rfl, rfl⟩, hR.step s3.x s4.m⟩
      · unfold fX9_has
        simp only [s1, Option.bind_some, if_true]
      · unfold fX10_has
        simp only [m_isIn, i10, e10, if_pos q.1, if_pos q.2, s2, Option.bind_some, e01]
    · obtain ⟨t, -, -, t1, t2⟩ := s6 rfl
      obtain ⟨kc, rfl⟩ := nat_of q.1.1
      have l1 : alen 51 = 8 := rfl
      have l2 : alen 52 = 8 := rfl
      have l3 : alen 180 = 8 := rfl
      have l4 : alen 181 = 8 := rfl
      have v1 := t1.2.1 kc (by omega)
      have v2 := t2.2.1 kc (by omega)
      have bt : (0 : Int) ≤ (kc : Int) ∧ (kc : Int) < ((8 : Nat) : Int) := by omega
      simp only [Nat.reduceAdd] at v1 v2
      have so := x_slotsOf (F := F1) (o := 48) (a := 49) (f := t.1) rfl (by decide) (fun s hs => (t1.1 s hs).1) (kc : Int)
      have sh := x_slotsOf (F := F1) (o := 48) (a := 50) (f := t.2.1) rfl (by decide) (fun s hs => (t1.1 s hs).2) (kc : Int)
      obtain ⟨z, h1, h2⟩ : ∃ z, fX9_has 1 a b (kc : Int) d F = some (z, F1) ∧ fX10_has 173 a b (kc : Int) d F1 = some (z, F2) := by
        unfold fX9_has fX10_has
        simp only [s1, s2, Option.bind_some, e10, e11, m_isIn, i10, if_pos q.1, if_pos q.2, if_neg n1, if_pos n2, Nat.reduceAdd, so, sh, l1, l2, l3, l4, if_pos bt, Int.toNat_natCast, v1.1, v1.2, v2.1, v2.2]
        by_cases d0 : d = 0
        · have hs := m_hasSum t2 (kc : Int) d (Or.inl d0)
          simp only [if_pos d0] at hs
          have d1 : d ≤ 1 := by omega
          simp only [if_pos d0, if_pos d1, hs]
          exact ⟨_, rfl, rfl⟩
        · by_cases d1 : d = 1
          · have hs := m_hasSum t2 (kc : Int) d (Or.inr d1)
            simp only [if_neg d0] at hs
            have d2 : d ≤ 1 := by omega
            simp only [if_neg d0, if_pos d1, if_pos d2, hs]
            exact ⟨_, rfl, rfl⟩
          · have d2 : ¬ d ≤ 1 := by omega
            by_cases d3 : d = 2
            · have d4 : ¬ d ≠ 2 := by omega
              simp only [if_neg d0, if_neg d1, if_neg d2, if_pos d3, if_neg d4]
              exact ⟨_, rfl, rfl⟩
            · have d4 : d ≠ 2 := d3
              have d5 : d = 3 := by omega
              simp only [if_neg d0, if_neg d1, if_neg d2, if_neg d3, if_pos d4, if_pos d5]
              by_cases w : t.2.2.2.1 kc = 0
              · simp only [if_pos w]; exact ⟨_, rfl, rfl⟩
              · simp only [if_neg w]; exact ⟨_, rfl, rfl⟩
      exact ⟨z, F1, F2, ⟨1, a, b, _, d, _, rfl, k9, h1, rfl, rfl⟩, ⟨173, a, b, _, d, _, rfl, k10, h2, rfl, rfl⟩, hR.step s3.x s4.m⟩
  · have hz : fX10_has 173 a b c d F1 = some (-2, F1) := by
      unfold fX10_has
      simp only [m_isIn, i10]
      by_cases w : 0 ≤ c ∧ c ≤ 7
      · rw [if_pos w, if_neg (fun y => q ⟨w, y⟩)]
      · rw [if_neg w]
    -- the class counts before it looks at what: its answer is -2 all the same
    have hx : fX9_has 1 a b c d F = some (-2, F1) := by
      unfold fX9_has
      simp only [s1, Option.bind_some]
      rcases s5 with rfl | rfl
      · rw [if_pos rfl]
      · rw [if_neg (by decide)]
        by_cases w0 : c < 0
        · rw [if_pos w0]
        · rw [if_neg w0]
          by_cases w1 : c < 8
          · rw [if_pos w1, if_neg (by omega), if_neg (by omega), if_neg (by omega), if_neg (by omega)]
          · rw [if_neg w1]
    exact ⟨-2, F1, F1, ⟨1, a, b, c, d, _, rfl, k9, hx, rfl, rfl⟩, ⟨173, a, b, c, d, _, rfl, k10, hz, rfl, rfl⟩, hR.step s3.x (kM.rf F1)⟩
/-! cross -/
def neI (f g : Nat → Int) (s : Nat) : Int := if f s = g s then 0 else 1
theorem neI_bd (f g : Nat → Int) (s : Nat) : 0 ≤ neI f g s ∧ neI f g s ≤ ((1 : Nat) : Int) := by unfold neI; split <;> omega
theorem x_unlike {F : Mem} {f g : Nat → Int} (hf : ∀ s, s < 336 → F 50 s = f s) (hg : ∀ s, s < 336 → F 56 s = g s) : fX0_slotsHeldUnlike 48 54 F = some (sm 336 (neI f g)) := by
  unfold fX0_slotsHeldUnlike
  refine lpS (fun n k x => fX0_slotsHeldUnlike_b4 F n 48 54 x (k : Int)) 336 (neI f g) 1 some (fun i _ => neI_bd f g i) (fun n k hk h1 h2 => ?_) (fun n _ _ => ?_) (by omega)
  · have bt : (0 : Int) ≤ (k : Int) ∧ (k : Int) < ((336 : Nat) : Int) := by omega
    have l1 : alen (48 + 2) = 336 := rfl
    have l2 : alen (54 + 2) = 336 := rfl
    have q1 : F (48 + 2) k = f k := hf k hk
    have q2 : F (54 + 2) k = g k := hg k hk
    show fX0_slotsHeldUnlike_b4 F (n + 1) 48 54 (sm k (neI f g)) (k : Int) = fX0_slotsHeldUnlike_b4 F n 48 54 (sm k (neI f g) + neI f g k) ((k + 1 : Nat) : Int)
    rw [fX0_slotsHeldUnlike_b4, if_neg (by omega), l1, if_pos bt, if_neg (by decide), l2, if_pos bt, Int.toNat_natCast, q1, q2, xwS (by omega), xwn (x := _ + 1) (by omega) (by omega), xwn (x := _ + 0) (by omega) (by omega)]
    unfold neI
    by_cases q : f k = g k
    · rw [if_neg (by omega), if_pos q]
    · rw [if_pos q, if_neg q]
  · show fX0_slotsHeldUnlike_b4 F (n + 1) 48 54 (sm 336 (neI f g)) ((336 : Nat) : Int) = _
    rw [fX0_slotsHeldUnlike_b4, if_pos (by omega)]
theorem m_unlike {F : Mem} {f g : Nat → Int} (hf : ∀ s, s < 336 → F 185 s = f s) (hg : ∀ s, s < 336 → F 179 s = g s) : fX10_cross_b66 FU 173 0 0 F = some (sm 336 (neI f g), F) := by
  refine lpS (fun n k x => fX10_cross_b66 n 173 x (k : Int) F) 336 (neI f g) 1 (fun x => some (x, F)) (fun i _ => neI_bd f g i) (fun n k hk h1 h2 => ?_) (fun n _ _ => ?_) (by omega)
  · have bt : (0 : Int) ≤ (k : Int) ∧ (k : Int) < ((336 : Nat) : Int) := by omega
    have l1 : alen (173 + 12) = 336 := rfl
    have q1 : F (173 + 12) k = f k := hf k hk
    have q2 : F (173 + 6) k = g k := hg k hk
    show fX10_cross_b66 (n + 1) 173 (sm k (neI f g)) (k : Int) F = fX10_cross_b66 n 173 (sm k (neI f g) + neI f g k) ((k + 1 : Nat) : Int) F
    rw [fX10_cross_b66, if_neg (by omega), l1, if_pos bt, al6, if_pos bt, Int.toNat_natCast, q1, q2, xwS (by omega), xwn (x := _ + 1) (by omega) (by omega), xwn (x := _ + 0) (by omega) (by omega)]
    unfold neI
    by_cases q : f k = g k
    · rw [if_neg (by omega), if_pos q]
    · rw [if_pos q, if_neg q]
  · show fX10_cross_b66 (n + 1) 173 (sm 336 (neI f g)) ((336 : Nat) : Int) F = _
    rw [fX10_cross_b66, if_pos (by omega)]
/-- a stop at thirty is the stop at all -/
theorem stop30 {g : Nat → Int} (hg : LO g) {q : Nat} (h : isStopL g 30 q) : isStopL g (g 0) q := by
  have gb := hg.1
  refine ⟨⟨h.1.2, h.1.2⟩, h.2.1, ?_⟩
  rcases h.2.2 with w | w | w
  · exact Or.inl (by have := h.1.2; omega)
  · exact Or.inl w
  · exact Or.inr (Or.inr w)
theorem pc_cross (a b : Int) : pcase RR gX9_cross gX10_cross [vI a, vI b] := by
  intro F hR hm
  obtain ⟨hA, hT, -⟩ := id hR
  obtain ⟨z, F1, F2, h1, h2, h3, h4⟩ : ∃ z F1 F2, fX9_cross 1 a b F = some (z, F1) ∧ fX10_cross 173 a b F1 = some (z, F2) ∧ kX F F1 ∧ kM F1 F2 := by
    unfold fX9_cross fX10_cross
    simp only [Nat.reduceAdd]
    rw [t_sheet hA hT (s := 2) (x := 2) (by omega) (by omega) a rfl, Option.bind_some, t_sheet hA hT (s := 2) (x := 2) (by omega) (by omega) b rfl, Option.bind_some]
    have hb := hA.2.2.1
    by_cases ha : 0 ≤ a ∧ a < F 174 2
    · have ea : shO 2 2 a.toNat = 2 + 12 + 9 * a.toNat := rfl
      have na : ¬ 2 + 12 + 9 * a.toNat = 0 := by omega
      rw [if_pos ha, ea, if_neg na]
      by_cases hbb : 0 ≤ b ∧ b < F 174 2
      · have eb : shO 2 2 b.toNat = 2 + 12 + 9 * b.toNat := rfl
        have nb : ¬ 2 + 12 + 9 * b.toNat = 0 := by omega
        have hSa := hT.2.2.2.2.2.2.2.1 a.toNat (by omega)
        have hSb := hT.2.2.2.2.2.2.2.1 b.toNat (by omega)
        have hga := hA.2.2.2.2.2.2.2.2.1 a.toNat (by omega)
        have hgb := hA.2.2.2.2.2.2.2.2.1 b.toNat (by omega)
        have eSa : F (2 + 12 + 9 * a.toNat) 3 = gOf (F 174) a.toNat 0 := hSa.2.2.2.2.1
        have gba := hga.1
        have gbb := hgb.1
        obtain ⟨G1, q1, r1, r2, r3, r4⟩ := x_replay k48 hSa hga na (by omega) (m := gOf (F 174) a.toNat 0) (by omega)
        have hSb1 : SR 6 30 (gOf (F 174) b.toNat) G1 (2 + 12 + 9 * b.toNat) := hSb.mono (fun q k x1 x2 => r4 q k (by omega))
        have eSb : G1 (2 + 12 + 9 * b.toNat) 3 = gOf (F 174) b.toNat 0 := hSb1.2.2.2.2.1
        obtain ⟨G2, q2, u1, u2, u3, u4⟩ := x_replay (o := 54) k54 hSb1 hgb nb (by omega) (m := gOf (F 174) b.toNat 0) (by omega)
        have r3' : XS 48 G2 (stL (gOf (F 174) a.toNat) q1) := r3.mono (fun q k x1 x2 => u4 q k (by omega))
        have kk : kX F G2 := r4.x.tr (fun o k ho => u4 o k (by omega))
        have hu := x_unlike (F := G2) (fun s hs => (r3'.1 s hs).2) (fun s hs => (u3.1 s hs).2)
        have hR2 := hR.x kk
        have eA := RR.A kk
        obtain ⟨ia, rfl⟩ := nat_of ha.1
        obtain ⟨ib, rfl⟩ := nat_of hbb.1
        rw [Int.toNat_natCast] at *
        rw [Int.toNat_natCast] at *
        obtain ⟨M1, p1, y1, y2, y3, y4, y5⟩ := m_goesBy (F := G2) hR2.1 (i := ia) (by rw [eA]; exact ha.2) (m := 30) (by decide)
        rw [eA] at y2 y4
        have ep1 : q1 = p1 := stopL_uniq r2 (stop30 hga y2)
        subst ep1
        -- the copy
        have copy : ∃ M2, fX10_cross_b29 FU 173 (ib : Int) 0 M1 = some (sm 336 (neI (stL (gOf (F 174) ia) q1).2.1 (stL (gOf (F 174) ib) q2).2.1), M2) ∧ kM M1 M2 := by
          refine lp (fun n k (G : Mem) => fX10_cross_b29 n 173 (ib : Int) (k : Int) G) 336 (fun k G => (∀ s, s < k → G 185 s = (stL (gOf (F 174) ia) q1).2.1 s) ∧ ∀ q j, q ≠ 185 → G q j = M1 q j) (fun r => ∃ M2, r = some (sm 336 (neI (stL (gOf (F 174) ia) q1).2.1 (stL (gOf (F 174) ib) q2).2.1), M2) ∧ kM M1 M2) ?_ ?_ FU 0 M1 (by omega) ⟨fun j hj => absurd hj (by omega), fun _ _ _ => rfl⟩ (FU_gt (by omega))
          · rintro n k G hk ⟨g1, g2⟩
            left
            have bt : (0 : Int) ≤ (k : Int) ∧ (k : Int) < ((336 : Nat) : Int) := by omega
            have l1 : alen (173 + 12) = 336 := rfl
            have e6 : G (173 + 6) k = (stL (gOf (F 174) ia) q1).2.1 k := (g2 179 k (by omega)).trans (y4.1 k hk).2
            refine ⟨mset G 185 k ((stL (gOf (F 174) ia) q1).2.1 k), ⟨fun s hs => ?_, fun q j hq => ?_⟩, ?_⟩
            · by_cases w : s = k
              · subst w; rw [mset_eq]
              · rw [mset_ne _ _ (by omega)]; exact g1 s (by omega)
            · rw [mset_ne _ _ (by omega)]; exact g2 q j hq
            · show fX10_cross_b29 (n + 1) 173 (ib : Int) (k : Int) G = fX10_cross_b29 n 173 (ib : Int) ((k + 1 : Nat) : Int) _
              rw [fX10_cross_b29, if_neg (by omega), al6, if_pos bt, l1, if_pos bt, Int.toNat_natCast, e6, xwS (by omega)]
          · rintro n G ⟨g1, g2⟩
            have eG : G 174 = F 174 := funext fun k => (g2 174 k (by omega)).trans ((y5 174 k (by omega) (by omega)).trans (congrFun eA k))
            obtain ⟨M2, p2, w1, w2, w3, w4, w5⟩ := m_goesBy (F := G) (by rw [eG]; exact hA) (i := ib) (by rw [eG]; exact hbb.2) (m := 30) (by decide)
            rw [eG] at w2 w4
            have ep2 : q2 = p2 := stopL_uniq u2 (stop30 hgb w2)
            subst ep2
            have hu2 := m_unlike (F := M2) (f := (stL (gOf (F 174) ia) q1).2.1) (g := (stL (gOf (F 174) ib) q2).2.1) (fun s hs => (w5 185 s (by omega) (by omega)).trans (g1 s hs)) (fun s hs => (w4.1 s hs).2)
            refine ⟨M2, ?_, ?_⟩
            · show fX10_cross_b29 (n + 1) 173 (ib : Int) ((336 : Nat) : Int) G = _
              rw [fX10_cross_b29, if_pos (by omega), w1, Option.bind_some, hu2]
            · exact kM.tr ⟨fun o k ho => g2 o k (by omega), g2 _ _ (by omega), g2 _ _ (by omega), g2 _ _ (by omega)⟩ (kS.m w5)
        obtain ⟨M2, m1, m2⟩ := copy
        refine ⟨sm 336 (neI (stL (gOf (F 174) ia) q1).2.1 (stL (gOf (F 174) ib) q2).2.1), G2, M2, ?_, ?_, kk, (kS.m y5).tr m2⟩
        · rw [if_pos hbb, eb, if_neg nb, eSa, r1, Option.bind_some]
          dsimp only
          rw [eSb, u1, Option.bind_some]
          dsimp only
          rw [hu, Option.bind_some]
        · rw [m_isOf hR2.1 (s := 2) (x := 2) (by omega) _ rfl, Option.bind_some, i10, eA, if_pos ha, m_isOf hR2.1 (s := 2) (x := 2) (by omega) _ rfl, Option.bind_some, i11, eA, if_pos hbb, y1, Option.bind_some, m1]
      · refine ⟨-1, F, F, ?_, ?_, kX.rf F, kM.rf F⟩
        · rw [if_neg hbb, if_pos rfl]
        · rw [m_isOf hA (s := 2) (x := 2) (by omega) _ rfl, Option.bind_some, i10, if_pos ha, m_isOf hA (s := 2) (x := 2) (by omega) _ rfl, Option.bind_some, i11, if_neg hbb]
    · refine ⟨-1, F, F, ?_, ?_, kX.rf F, kM.rf F⟩
      · rw [if_neg ha, if_pos rfl]
      · rw [m_isOf hA (s := 2) (x := 2) (by omega) _ rfl, Option.bind_some, i10, if_neg ha]
  exact ⟨z, F1, F2, ⟨1, a, b, _, rfl, k9, h1, rfl, rfl⟩, ⟨173, a, b, _, rfl, k10, h2, rfl, rfl⟩, hR.step h3 h4⟩
