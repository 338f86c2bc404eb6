/-! ===== an image, the class ===== -/
theorem xmin_self (a : Int) : xmin a a = a := by unfold xmin; split <;> rfl
theorem mc0 (G : Mem) (s d L : Nat) : mcopy G s 0 d 0 (L : Int) = fun o k => if o = d ∧ k < L then G s k else G o k := by
  funext o k
  unfold mcopy
  have e0 : (0 : Int).toNat = 0 := rfl
  rw [e0, Int.toNat_natCast, Nat.zero_add, Nat.zero_add, Nat.sub_zero]
  by_cases h : o = d ∧ k < L
  · rw [if_pos h, if_pos ⟨h.1, by omega, h.2⟩]
  · rw [if_neg h, if_neg (fun q => h ⟨q.1, q.2.2⟩)]
theorem x3_copy (F : Mem) {d s L : Nat} (hs : s ≠ 0) (l1 : alen (d + 1) = L) (l2 : alen (s + 1) = L) (hds : d + 1 < s ∨ s + 1 < d) : ∃ F', fX3_copyFrom d s F = some F' ∧ F' d 3 = xmin (F s 3) (cst d 0) ∧ (∀ k, k < L → F' (d + 1) k = F (s + 1) k) ∧ (∀ o k, ¬ (d ≤ o ∧ o ≤ d + 1) → F' o k = F o k) := by
  unfold fX3_copyFrom
  rw [if_neg hs, if_neg hs, if_neg hs, l1, l2, xmin_self, if_pos (by omega), mc0]
  refine ⟨_, rfl, ?_, fun k hk => ?_, fun o k h => ?_⟩
  · rw [if_neg (by omega), mset_eq]
  · rw [if_pos ⟨rfl, hk⟩, mset_ne _ _ (by omega)]
  · rw [if_neg (by omega), mset_ne _ _ (by omega)]
theorem SR.copy {w n : Nat} {a : Nat → Int} {F F' : Mem} {s d : Nat} (h : SR w n a F s) (hd : isK d 3) (c1 : cst d 1 = (w : Int)) (c0 : cst d 0 = (n : Int)) (l : alen (d + 1) = w * n) (e3 : F' d 3 = xmin (F s 3) (cst d 0)) (ec : ∀ k, k < w * n → F' (d + 1) k = F (s + 1) k) : SR w n a F' d := by
  obtain ⟨h0, h1, h1b, h1c, h2, h2b, h3⟩ := h
  refine ⟨hd, c1, c0, l, ?_, h2b, fun k i hk hi => ?_⟩
  · rw [e3, h2, c0]; unfold xmin; rw [if_neg (by omega)]
  · have h4 : w * k + w ≤ w * n := by rw [← Nat.mul_succ]; exact Nat.mul_le_mul_left _ (by omega)
    rw [ec _ (by omega)]; exact h3 k i hk hi
theorem mset5 (F : Mem) {d s : Nat} (h : s ≠ d) : ∃ G : Mem, (mset (mset (mset (mset (mset F d 0 (F s 0)) d 1 ((mset F d 0 (F s 0)) s 1)) d 2 ((mset (mset F d 0 (F s 0)) d 1 ((mset F d 0 (F s 0)) s 1)) s 2)) d 3 ((mset (mset (mset F d 0 (F s 0)) d 1 ((mset F d 0 (F s 0)) s 1)) d 2 ((mset (mset F d 0 (F s 0)) d 1 ((mset F d 0 (F s 0)) s 1)) s 2)) s 3)) d 4 ((mset (mset (mset (mset F d 0 (F s 0)) d 1 ((mset F d 0 (F s 0)) s 1)) d 2 ((mset (mset F d 0 (F s 0)) d 1 ((mset F d 0 (F s 0)) s 1)) s 2)) d 3 ((mset (mset (mset F d 0 (F s 0)) d 1 ((mset F d 0 (F s 0)) s 1)) d 2 ((mset (mset F d 0 (F s 0)) d 1 ((mset F d 0 (F s 0)) s 1)) s 2)) s 3)) s 4)) = G ∧ (∀ k, k < 5 → G d k = F s k) ∧ (∀ o k, ¬ (o = d ∧ k < 5) → G o k = F o k) := by
  simp only [mset_ne F _ (show ¬ (s = d ∧ 1 = 0) by omega)]
  have e : ∀ (G : Mem) (a k : Nat) (x : Int), mset G d a x s k = G s k := fun G a k x => mset_ne _ _ (by omega)
  simp only [e]
  refine ⟨_, rfl, fun k hk => ?_, fun o k hk => ?_⟩
  · obtain rfl | rfl | rfl | rfl | rfl : k = 0 ∨ k = 1 ∨ k = 2 ∨ k = 3 ∨ k = 4 := by omega
    · rw [mset_ne _ _ (by omega), mset_ne _ _ (by omega), mset_ne _ _ (by omega), mset_ne _ _ (by omega), mset_eq]
    · rw [mset_ne _ _ (by omega), mset_ne _ _ (by omega), mset_ne _ _ (by omega), mset_eq]
    · rw [mset_ne _ _ (by omega), mset_ne _ _ (by omega), mset_eq]
    · rw [mset_ne _ _ (by omega), mset_eq]
    · rw [mset_eq]
  · rw [mset_ne _ _ (by omega), mset_ne _ _ (by omega), mset_ne _ _ (by omega), mset_ne _ _ (by omega), mset_ne _ _ (by omega)]
theorem x7_copy (F : Mem) {d s : Nat} (hd : isK d 7) (hs : isK s 7) (hds : d + 4 < s ∨ s + 4 < d) : ∃ F', fX7_copyFrom d s F = some F' ∧ (∀ v, VO v → VR v F s → VR v F' d) ∧ (∀ o k, ¬ (d ≤ o ∧ o ≤ d + 4) → F' o k = F o k) := by
  obtain ⟨n0, -, -, -, -, l1, -, -, l2⟩ := vlay hs
  obtain ⟨-, -, -, c1, -, m1, c2, -, m2⟩ := vlay hd
  obtain ⟨G, eG, g1, g2⟩ := mset5 F (d := d) (s := s) (by omega)
  obtain ⟨F1, u1, u2, u3, u4⟩ := x3_copy G (d := d + 1) (s := s + 1) (L := 32) (by omega) m1 l1 (by omega)
  obtain ⟨F2, w1, w2, w3, w4⟩ := x3_copy F1 (d := d + 3) (s := s + 3) (L := 18) (by omega) m2 l2 (by omega)
  unfold fX7_copyFrom
  rw [if_neg n0, if_neg n0, if_neg n0, if_neg n0, if_neg n0, if_neg n0, eG, u1, Option.bind_some, if_neg n0, w1]
  refine ⟨F2, rfl, fun v hO hv => ?_, fun o k h => ?_⟩
  · obtain ⟨h0, ⟨h1, h2, h3, h4, h5⟩, h6, h7, h8, h9⟩ := hv
    have b5 := hO.2.2.2.1
    have b6 := hO.2.2.2.2.1
    have fd : ∀ k, k < 5 → F2 d k = F s k := fun k hk => by
      rw [w4 _ _ (by omega), u4 _ _ (by omega), g1 k hk]
    have gs : ∀ q k, q ≠ d → G q k = F q k := fun q k hq => g2 q k (by omega)
    refine ⟨hd, ⟨(fd 0 (by omega)).trans h1, (fd 1 (by omega)).trans h2, (fd 2 (by omega)).trans h3, (fd 3 (by omega)).trans h4, (fd 4 (by omega)).trans h5⟩, ?_, ?_, fun a i ha hi => ?_, fun a i ha hi => ?_⟩
    · rw [w4 _ _ (by omega), u2, gs _ _ (by omega), h6, c1]; unfold xmin; rw [if_neg (by omega)]
    · rw [w2, u4 _ _ (by omega), gs _ _ (by omega), h7, c2]; unfold xmin; rw [if_neg (by omega)]
    · rw [w4 _ _ (by omega), show d + 2 = d + 1 + 1 from rfl, u3 _ (by omega), gs _ _ (by omega)]; exact h8 a i ha hi
    · rw [show d + 4 = d + 3 + 1 from rfl, w3 _ (by omega), u4 _ _ (by omega), gs _ _ (by omega)]; exact h9 a i ha hi
  · rw [w4 _ _ (by omega), u4 _ _ (by omega), g2 _ _ (by omega)]
theorem dlay {o : Nat} (h : isK o 4) : (∀ i, i < 2 → isK (o + 7 + 9 * i) 7 ∧ (isK (o + 12 + 9 * i) 3 ∧ cst (o + 12 + 9 * i) 1 = 6 ∧ cst (o + 12 + 9 * i) 0 = 30 ∧ alen (o + 12 + 9 * i + 1) = 180) ∧ (isK (o + 14 + 9 * i) 3 ∧ cst (o + 14 + 9 * i) 1 = 2 ∧ cst (o + 14 + 9 * i) 0 = 20 ∧ alen (o + 14 + 9 * i + 1) = 40)) ∧ (∀ i, i < 3 → isK (o + 25 + 2 * i) 3 ∧ cst (o + 25 + 2 * i) 1 = 3 ∧ cst (o + 25 + 2 * i) 0 = 16 ∧ alen (o + 25 + 2 * i + 1) = 48) := by
  have h1 := layq (P := fun o => (List.range 2).all fun i => isKb (o + 7 + 9 * i) 7 && ((isKb (o + 12 + 9 * i) 3 && (decide (cst (o + 12 + 9 * i) 1 = 6) && (decide (cst (o + 12 + 9 * i) 0 = 30) && decide (alen (o + 12 + 9 * i + 1) = 180)))) && (isKb (o + 14 + 9 * i) 3 && (decide (cst (o + 14 + 9 * i) 1 = 2) && (decide (cst (o + 14 + 9 * i) 0 = 20) && decide (alen (o + 14 + 9 * i + 1) = 40)))))) (by decide +kernel) h
  have h2 := layq (P := fun o => (List.range 3).all fun i => isKb (o + 25 + 2 * i) 3 && (decide (cst (o + 25 + 2 * i) 1 = 3) && (decide (cst (o + 25 + 2 * i) 0 = 16) && decide (alen (o + 25 + 2 * i + 1) = 48)))) (by decide +kernel) h
  refine ⟨fun i hi => ?_, fun i hi => ?_⟩
  · have := List.all_eq_true.mp h1 i (List.mem_range.mpr hi)
    simp only [Bool.and_eq_true, decide_eq_true_eq, isKb] at this
    exact this
  · have := List.all_eq_true.mp h2 i (List.mem_range.mpr hi)
    simp only [Bool.and_eq_true, decide_eq_true_eq, isKb] at this
    exact this
/-- what has been copied, k of the two and j of the three -/
def CP (A : Nat → Int) (F G : Mem) (d k j : Nat) : Prop := (∀ q n, ¬ (d + 7 ≤ q ∧ q ≤ d + 30) → G q n = F q n) ∧ (∀ i : Nat, i < k → (i : Int) < A 0 → VR (vOf A i) G (d + 7 + 9 * i)) ∧ (∀ i : Nat, i < k → (i : Int) < A 2 → SR 6 30 (gOf A i) G (d + 12 + 9 * i)) ∧ (∀ i : Nat, i < k → (i : Int) < A 3 → SR 2 20 (eOf A i) G (d + 14 + 9 * i)) ∧ (∀ i : Nat, i < j → (i : Int) < A 1 → SR 3 16 (rOf A i) G (d + 25 + 2 * i))
theorem x4_copy3 {A : Nat → Int} {F G : Mem} {d s : Nat} (hT : TR A F s) (hd : isK d 4) (hds : d + 30 < s ∨ s + 30 < d) (hC : CP A F G d 2 0) : ∃ F', fX4_copyFrom_b114 FU d s 0 G = some F' ∧ CP A F F' d 2 3 := by
  obtain ⟨n0, -, -, -, ls, -, -, -, rs, -⟩ := tlay hT.1
  obtain ⟨-, -, -, -, ld, -, -, -, rd, -⟩ := tlay hd
  obtain ⟨-, es⟩ := dlay hT.1
  obtain ⟨-, ed⟩ := dlay hd
  refine lp (fun n k (G : Mem) => fX4_copyFrom_b114 n d s (k : Int) G) 3 (fun k G => CP A F G d 2 k) (fun r => ∃ F', r = some F' ∧ CP A F F' d 2 3) ?_ ?_ FU 0 G (by omega) hC (FU_gt (by omega))
  · rintro n k G hk ⟨h1, h2, h3, h4, h5⟩
    left
    obtain ⟨k1, k2, k3, k4⟩ := ed k hk
    obtain ⟨-, -, -, k8⟩ := es k hk
    obtain ⟨F', u1, u2, u3, u4⟩ := x3_copy G (d := d + 25 + 2 * k) (s := s + 25 + 2 * k) (L := 48) (by omega) k4 k8 (by omega)
    refine ⟨F', ⟨fun q n hq => (u4 q n (by omega)).trans (h1 q n hq), fun i x y => (h2 i x y).mono (fun q n x1 x2 => u4 q n (by omega)), fun i x y => (h3 i x y).mono (fun q n x1 x2 => u4 q n (by omega)), fun i x y => (h4 i x y).mono (fun q n x1 x2 => u4 q n (by omega)), fun i x y => ?_⟩, ?_⟩
    · by_cases p : i < k
      · exact (h5 i p y).mono (fun q n x1 x2 => u4 q n (by omega))
      · obtain rfl : i = k := by omega
        refine ((hT.2.2.2.2.2.2.1 i y).mono (F' := G) (fun q n x1 x2 => h1 q n (by omega))).copy k1 k2 k3 k4 u2 u3
    · show fX4_copyFrom_b114 (n + 1) d s (k : Int) G = fX4_copyFrom_b114 n d s ((k + 1 : Nat) : Int) F'
      rw [fX4_copyFrom_b114, if_neg (by omega), ld, if_pos (by omega), if_neg n0, ls, if_pos (by omega), Int.toNat_natCast, rd k hk, rs k hk, u1, Option.bind_some, xwS (by omega)]
  · intro n G hG
    refine ⟨G, ?_, hG⟩
    show fX4_copyFrom_b114 (n + 1) d s ((3 : Nat) : Int) G = _
    rw [fX4_copyFrom_b114, if_pos (by omega)]
theorem x4_copy2 {A : Nat → Int} {F G : Mem} {d s : Nat} (hA : AO A) (hT : TR A F s) (hd : isK d 4) (hds : d + 30 < s ∨ s + 30 < d) (hC : CP A F G d 0 0) : ∃ F', fX4_copyFrom_b56 FU d s 0 G = some F' ∧ CP A F F' d 2 3 := by
  obtain ⟨n0, -, -, ls3, -, ls5, ls6, rs3, -, rs5, rs6⟩ := tlay hT.1
  obtain ⟨-, -, -, ld3, -, ld5, ld6, rd3, -, rd5, rd6⟩ := tlay hd
  obtain ⟨es, -⟩ := dlay hT.1
  obtain ⟨ed, -⟩ := dlay hd
  obtain ⟨-, -, -, -, -, -, a6, -⟩ := id hA
  refine lp (fun n k (G : Mem) => fX4_copyFrom_b56 n d s (k : Int) G) 2 (fun k G => CP A F G d k 0) (fun r => ∃ F', r = some F' ∧ CP A F F' d 2 3) ?_ ?_ FU 0 G (by omega) hC (FU_gt (by omega))
  · rintro n k G hk ⟨h1, h2, h3, h4, h5⟩
    left
    obtain ⟨p1, ⟨p2, p3, p4, p5⟩, p6, p7, p8, p9⟩ := ed k hk
    obtain ⟨q1, ⟨-, -, -, q5⟩, -, -, -, q9⟩ := es k hk
    obtain ⟨F1, u1, u2, u3⟩ := x7_copy G (d := d + 7 + 9 * k) (s := s + 7 + 9 * k) p1 q1 (by omega)
    obtain ⟨F2, w1, w2, w3, w4⟩ := x3_copy F1 (d := d + 12 + 9 * k) (s := s + 12 + 9 * k) (L := 180) (by omega) p5 q5 (by omega)
    obtain ⟨F3, y1, y2, y3, y4⟩ := x3_copy F2 (d := d + 14 + 9 * k) (s := s + 14 + 9 * k) (L := 40) (by omega) p9 q9 (by omega)
    have fr : ∀ q n, ¬ (d + 7 + 9 * k ≤ q ∧ q ≤ d + 15 + 9 * k) → F3 q n = G q n := fun q n hq => by
      rw [y4 q n (by omega), w4 q n (by omega), u3 q n (by omega)]
    refine ⟨F3, ⟨fun q n hq => (fr q n (by omega)).trans (h1 q n hq), fun i x y => ?_, fun i x y => ?_, fun i x y => ?_, fun i x y => absurd x (by omega)⟩, ?_⟩
    · by_cases p : i < k
      · exact (h2 i p y).mono (fun q n x1 x2 => fr q n (by omega))
      · obtain rfl : i = k := by omega
        have t := (hT.2.2.2.2.2.1 i y).mono (F' := G) (fun q n x1 x2 => h1 q n (by omega))
        exact (u2 _ (a6 i y) t).mono (fun q n x1 x2 => (y4 q n (by omega)).trans (w4 q n (by omega)))
    · by_cases p : i < k
      · exact (h3 i p y).mono (fun q n x1 x2 => fr q n (by omega))
      · obtain rfl : i = k := by omega
        have t := (hT.2.2.2.2.2.2.2.1 i y).mono (F' := F1) (fun q n x1 x2 => (u3 q n (by omega)).trans (h1 q n (by omega)))
        exact (t.copy p2 p3 p4 p5 w2 w3).mono (fun q n x1 x2 => y4 q n (by omega))
    · by_cases p : i < k
      · exact (h4 i p y).mono (fun q n x1 x2 => fr q n (by omega))
      · obtain rfl : i = k := by omega
        have t := (hT.2.2.2.2.2.2.2.2 i y).mono (F' := F2) (fun q n x1 x2 => (w4 q n (by omega)).trans ((u3 q n (by omega)).trans (h1 q n (by omega))))
        exact t.copy p6 p7 p8 p9 y2 y3
    · show fX4_copyFrom_b56 (n + 1) d s (k : Int) G = fX4_copyFrom_b56 n d s ((k + 1 : Nat) : Int) F3
      rw [fX4_copyFrom_b56, if_neg (by omega), ld3, if_pos (by omega), if_neg n0, ls3, if_pos (by omega), Int.toNat_natCast, rd3 k hk, rs3 k hk, u1, Option.bind_some, ld5, if_pos (by omega), if_neg n0, ls5, if_pos (by omega), rd5 k hk, rs5 k hk, w1, Option.bind_some, ld6, if_pos (by omega), if_neg n0, ls6, if_pos (by omega), rd6 k hk, rs6 k hk, y1, Option.bind_some, xwS (by omega)]
  · intro n G hG
    show ∃ F', fX4_copyFrom_b56 (n + 1) d s ((2 : Nat) : Int) G = some F' ∧ CP A F F' d 2 3
    rw [fX4_copyFrom_b56, if_pos (by omega)]
    exact x4_copy3 hT hd hds hG
theorem x4_copy {A : Nat → Int} {F : Mem} {d s : Nat} (hA : AO A) (hT : TR A F s) (hd : isK d 4) (hds : d + 30 < s ∨ s + 30 < d) : ∃ F', fX4_copyFrom d s F = some F' ∧ TR A F' d ∧ (∀ q k, ¬ (d ≤ q ∧ q ≤ d + 30) → F' q k = F q k) := by
  obtain ⟨n0, ls1, ls2, -⟩ := tlay hT.1
  obtain ⟨-, ld1, ld2, -⟩ := tlay hd
  obtain ⟨a0, a1, a2, a3, a4, a5, -⟩ := id hA
  obtain ⟨t0, ⟨t1, t1b, t1c⟩, t2, t3, t4, t5, t6, t7, t8⟩ := id hT
  have bo : bytesOk F (s + 1) 0 600 = true := by
    unfold bytesOk
    rw [ls1]
    refine List.all_eq_true.mpr fun k hk => ?_
    have := t2 k (List.mem_range.mp hk)
    simp only [Bool.or_eq_true, Bool.and_eq_true, decide_eq_true_eq]
    omega
  unfold fX4_copyFrom
  rw [if_neg n0, ls1, ld1, if_pos ⟨by omega, by omega, by omega, by omega, by omega, bo⟩, if_neg n0, if_neg n0, if_neg n0, if_neg n0, ls2, ld2, if_pos (by omega)]
  have e : ∀ (G : Mem) (a k : Nat) (x : Int), mset G d a x s k = G s k := fun G a k x => mset_ne _ _ (by omega)
  simp only [e]
  have m1 : mcopy F (s + 1) 0 (d + 1) 0 600 = fun o k => if o = d + 1 ∧ k < 600 then F (s + 1) k else F o k := mc0 F (s + 1) (d + 1) 600
  generalize eG : mcopy F (s + 1) 0 (d + 1) 0 600 = G at m1 ⊢
  have g1 : ∀ k, k < 600 → G (d + 1) k = F (s + 1) k := fun k hk => by rw [m1]; dsimp only; rw [if_pos ⟨rfl, hk⟩]
  have g2 : ∀ o k, o ≠ d + 1 → G o k = F o k := fun o k ho => by rw [m1]; dsimp only; rw [if_neg (by omega)]
  rw [g2 s 1 (by omega), g2 s 2 (by omega), g2 s 3 (by omega)]
  generalize eH : mset (mset (mset G d 1 (F s 1)) d 2 (F s 2)) d 3 (F s 3) = H
  have h1 : H d 1 = F s 1 := by rw [← eH, mset_ne _ _ (by omega), mset_ne _ _ (by omega), mset_eq]
  have h2 : H d 2 = F s 2 := by rw [← eH, mset_ne _ _ (by omega), mset_eq]
  have h3 : H d 3 = F s 3 := by rw [← eH, mset_eq]
  have h4 : ∀ o k, o ≠ d → H o k = G o k := fun o k ho => by rw [← eH, mset_ne _ _ (by omega), mset_ne _ _ (by omega), mset_ne _ _ (by omega)]
  have m2 : mcopy H (s + 2) 0 (d + 2) 0 4 = fun o k => if o = d + 2 ∧ k < 4 then H (s + 2) k else H o k := mc0 H (s + 2) (d + 2) 4
  generalize eK : mcopy H (s + 2) 0 (d + 2) 0 4 = K at m2 ⊢
  have k1 : ∀ k, k < 4 → K (d + 2) k = F (s + 2) k := fun k hk => by rw [m2]; dsimp only; rw [if_pos ⟨rfl, hk⟩, h4 _ _ (by omega), g2 _ _ (by omega)]
  have k2 : ∀ o k, o ≠ d + 2 → K o k = H o k := fun o k ho => by rw [m2]; dsimp only; rw [if_neg (by omega)]
  have kf : ∀ q k, ¬ (d ≤ q ∧ q ≤ d + 2) → K q k = F q k := fun q k hq => by rw [k2 _ _ (by omega), h4 _ _ (by omega), g2 _ _ (by omega)]
  have hT2 : TR A K s := hT.mono hA (fun q k x1 x2 => kf q k (by omega))
  obtain ⟨F', r1, c1, c2, c3, c4, c5⟩ := x4_copy2 hA hT2 hd hds (G := K) ⟨fun _ _ _ => rfl, fun i x => absurd x (by omega), fun i x => absurd x (by omega), fun i x => absurd x (by omega), fun i x => absurd x (by omega)⟩
  refine ⟨F', r1, ⟨hd, ⟨?_, ?_, ?_⟩, fun k hk => ?_, fun k hk => ?_, fun i hi => ?_, fun i hi => c2 i (by omega) hi, fun i hi => c5 i (by omega) hi, fun i hi => c3 i (by omega) hi, fun i hi => c4 i (by omega) hi⟩, fun q k hq => ?_⟩
  · rw [c1 _ _ (by omega), k2 _ _ (by omega), h1]; exact t1
  · rw [c1 _ _ (by omega), k2 _ _ (by omega), h2]; exact t1b
  · rw [c1 _ _ (by omega), k2 _ _ (by omega), h3]; exact t1c
  · rw [c1 _ _ (by omega), k2 _ _ (by omega), h4 _ _ (by omega), g1 k hk]; exact t2 k hk
  · rw [c1 _ _ (by omega), k2 _ _ (by omega), h4 _ _ (by omega), g1 k (by omega)]; exact t3 k hk
  · rw [c1 _ _ (by omega), k1 i hi]; exact t4 i hi
  · rw [c1 _ _ (by omega), kf q k (by omega)]
