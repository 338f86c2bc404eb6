section XD2
variable {o : Nat} {F : Mem} {t : LSt} {g : Nat → Int} {s : Nat}
theorem x_giveBack (ho : isK o 0) (hX : XS o F t) {x fr to : Int} (hx : 0 ≤ x ∧ x ≤ 29) (h5 : F o 5 = fr) (h6 : F o 6 = to) (hf : 0 ≤ fr) (hft : fr ≤ to) (ht : to ≤ 336) : ∃ F', fX0_giveBack o x F = some F' ∧ XS o F' (t.1, (fun s : Nat => if fr ≤ (s : Int) ∧ (s : Int) < to then t.1 s else t.2.1 s), t.2.2.1, t.2.2.2.1, setF x 1 t.2.2.2.2) ∧ kC o F F' := by
  obtain ⟨l1, l2, l3, l4, l5⟩ := clay ho
  obtain ⟨a, rfl⟩ := nat_of hf
  obtain ⟨b, rfl⟩ := nat_of (Int.le_trans hf hft)
  obtain ⟨y, rfl⟩ := nat_of hx.1
  unfold fX0_giveBack
  rw [if_neg (by omega), if_pos (by omega), l5, if_pos (by omega), Int.toNat_natCast]
  generalize hF0 : mset F (o + 5) y 1 = F0
  have f0 : ∀ q j, q ≠ o + 5 → F0 q j = F q j := fun q j h => by rw [← hF0, mset_ne _ _ (by omega)]
  have f1 : ∀ j, j < 30 → F0 (o + 5) j = setF (y : Int) 1 t.2.2.2.2 j := fun j hj => by
    rw [← hF0]
    by_cases z : j = y
    · subst z; rw [mset_eq, setF_at rfl]
    · rw [mset_ne _ _ (by omega), setF_ne (by omega)]; exact hX.2.2 j hj
  rw [(f0 o 5 (by omega)).trans h5]
  refine lp (fun n k (G : Mem) => fX0_giveBack_b23 n o (k : Int) G) b
    (fun k G => a ≤ k ∧ (∀ s, s < 336 → G (o + 2) s = (if a ≤ s ∧ s < k then t.1 s else t.2.1 s)) ∧ (∀ q j, q ≠ o + 2 → G q j = F0 q j))
    (fun r => ∃ F', r = some F' ∧ XS o F' (t.1, (fun s : Nat => if (a : Int) ≤ (s : Int) ∧ (s : Int) < (b : Int) then t.1 s else t.2.1 s), t.2.2.1, t.2.2.2.1, setF (y : Int) 1 t.2.2.2.2) ∧ kC o F F') ?_ ?_ FU a F0 (by omega) ⟨Nat.le_refl _, fun s hs => ?_, fun _ _ _ => rfl⟩ (show b < 100000 + a by omega)
  · rintro n k G hk ⟨h0, h1, h2⟩
    left
    have e6 : G o 6 = (b : Int) := ((h2 _ _ (by omega)).trans (f0 _ _ (by omega))).trans h6
    have e1 : G (o + 1) k = t.1 k := ((h2 _ _ (by omega)).trans (f0 _ _ (by omega))).trans (hX.1 k (by omega)).1
    refine ⟨mset G (o + 2) k (t.1 k), ⟨by omega, fun s hs => ?_, fun q j hq => ?_⟩, ?_⟩
    · by_cases z : s = k
      · subst z; rw [mset_eq, if_pos (by omega)]
      · rw [mset_ne _ _ (by omega), h1 s hs]
        by_cases y2 : a ≤ s ∧ s < k
        · rw [if_pos y2, if_pos (by omega)]
        · rw [if_neg y2, if_neg (by omega)]
    · rw [mset_ne _ _ (by omega)]; exact h2 q j hq
    · show fX0_giveBack_b23 (n + 1) o (k : Int) G = fX0_giveBack_b23 n o ((k + 1 : Nat) : Int) _
      rw [fX0_giveBack_b23, e6, if_neg (by omega), l1, if_pos (by omega), l2, if_pos (by omega), xwS (by omega), Int.toNat_natCast, e1]
  · rintro n G ⟨h0, h1, h2⟩
    have e6 : G o 6 = (b : Int) := ((h2 _ _ (by omega)).trans (f0 _ _ (by omega))).trans h6
    refine ⟨G, ?_, ⟨fun s hs => ⟨?_, ?_⟩, fun h hh => ?_, fun j hj => ?_⟩, fun q j hq => (h2 q j (by omega)).trans (f0 _ _ (by omega))⟩
    · show fX0_giveBack_b23 (n + 1) o (b : Int) G = some G
      rw [fX0_giveBack_b23, e6, if_pos (by omega)]
    · exact ((h2 _ _ (by omega)).trans (f0 _ _ (by omega))).trans (hX.1 s hs).1
    · rw [h1 s hs]
      dsimp only
      by_cases y2 : a ≤ s ∧ s < b
      · rw [if_pos y2, if_pos (by omega)]
      · rw [if_neg y2, if_neg (by omega)]
    · rw [h2 _ _ (by omega), h2 _ _ (by omega), f0 _ _ (by omega), f0 _ _ (by omega)]; exact hX.2.1 h hh
    · rw [h2 _ _ (by omega)]; exact f1 j hj
  · rw [if_neg (c := a ≤ s ∧ s < a) (by omega), f0 _ _ (by omega)]; exact (hX.1 s hs).2
theorem x_bequeath (ho : isK o 0) (hX : XS o F t) {x b : Int} (hx : 0 ≤ x ∧ x ≤ 7) (hl : t.2.2.2.1 x.toNat = 0) : ∃ F', fX0_bequeath o x b F = some F' ∧ XS o F' (t.1, t.2.1, setF x b t.2.2.1, t.2.2.2.1, t.2.2.2.2) ∧ kC o F F' := by
  obtain ⟨l1, l2, l3, l4, l5⟩ := clay ho
  unfold fX0_bequeath
  rw [x_lives ho hX hx, Option.bind_some, i10, if_pos hl, l3, if_pos (by omega)]
  obtain ⟨y, rfl⟩ := nat_of hx.1
  rw [Int.toNat_natCast]
  refine ⟨_, rfl, ⟨fun s hs => ?_, fun h hh => ?_, fun j hj => ?_⟩, fun q j hq => mset_ne _ _ (by omega)⟩
  · rw [mset_ne _ _ (by omega), mset_ne _ _ (by omega)]; exact hX.1 s hs
  · have q := hX.2.1 h hh
    rw [mset_ne (o' := o + 4) _ _ (by omega)]
    refine ⟨?_, q.2⟩
    by_cases z : h = y
    · subst z; rw [mset_eq]; exact (setF_at rfl).symm
    · rw [mset_ne _ _ (by omega)]; exact q.1.trans (setF_ne (by omega)).symm
  · rw [mset_ne _ _ (by omega)]; exact hX.2.2 j hj
theorem x_livingHeir (ho : isK o 0) {E D : Nat → Int} (h3 : ∀ h, h < 8 → F (o + 3) h = E h ∧ F (o + 4) h = D h) (hE : ∀ h, h < 8 → -1 ≤ E h ∧ E h ≤ 7) {x : Int} (hx : 0 ≤ x ∧ x ≤ 7) : fX0_livingHeir o x F = some (hOf E D 7 (E x.toNat)) := by
  obtain ⟨l1, l2, l3, l4, l5⟩ := clay ho
  unfold fX0_livingHeir
  refine lp (fun n k (y : Int) => fX0_livingHeir_b4 F n o y (k : Int)) 8 (fun k y => k ≤ 7 ∧ (0 ≤ y ∧ y ≤ 7) ∧ hOf E D (7 - k) (E y.toNat) = hOf E D 7 (E x.toNat) ∨ (0 < k ∧ y = -1 ∧ hOf E D 7 (E x.toNat) = -1) ∨ (k = 8 ∧ hOf E D 7 (E x.toNat) = -1)) (fun r => r = some (hOf E D 7 (E x.toNat))) ?_ ?_ FU 0 x (by omega) (Or.inl ⟨by omega, hx, rfl⟩) (FU_gt (by omega))
  · rintro n k y hk (⟨h0, h1, h2⟩ | ⟨h0, rfl, h2⟩ | ⟨h0, h2⟩)
    · have e1 := hE y.toNat (by omega)
      have q := h3 y.toNat (by omega)
      have E1 : fX0_livingHeir_b4 F (n + 1) o y (k : Int) = (if E y.toNat < 0 then fX0_livingHeir_b4 F n o (E y.toNat) ((k + 1 : Nat) : Int) else if D (E y.toNat).toNat ≠ 0 then fX0_livingHeir_b4 F n o (E y.toNat) ((k + 1 : Nat) : Int) else some (E y.toNat)) := by
        rw [fX0_livingHeir_b4, if_neg (by omega), if_neg (by omega), if_neg (by omega), l3, if_pos (by omega), q.1, xwS (by omega)]
        by_cases c : E y.toNat < 0
        · rw [if_pos c, if_pos c]
        · have q2 := h3 (E y.toNat).toNat (by omega)
          rw [if_neg c, if_neg c, if_neg (by omega), l4, if_pos (by omega), q2.2]
      by_cases c : E y.toNat < 0
      · left
        refine ⟨E y.toNat, Or.inr (Or.inl ⟨by omega, by omega, ?_⟩), ?_⟩
        · rw [← h2, show E y.toNat = -1 by omega]
          cases 7 - k <;> (unfold hOf; rw [if_pos rfl])
        · show fX0_livingHeir_b4 F (n + 1) o y (k : Int) = _
          rw [E1, if_pos c]
      · by_cases c2 : D (E y.toNat).toNat = 0
        · right
          show fX0_livingHeir_b4 F (n + 1) o y (k : Int) = _
          rw [E1, if_neg c, if_neg (by omega), ← h2]
          congr 1
          cases 7 - k <;> (unfold hOf; rw [if_neg (by omega), if_pos c2])
        · left
          refine ⟨E y.toNat, ?_, ?_⟩
          · by_cases c3 : k = 7
            · subst c3
              refine Or.inr (Or.inr ⟨rfl, ?_⟩)
              rw [← h2]
              show hOf E D 0 _ = -1
              unfold hOf
              rw [if_neg (by omega), if_neg c2]
            · refine Or.inl ⟨by omega, ⟨by omega, e1.2⟩, ?_⟩
              rw [← h2, show 7 - k = (7 - (k + 1)) + 1 by omega]
              conv => rhs; unfold hOf
              rw [if_neg (by omega), if_neg c2]
          · show fX0_livingHeir_b4 F (n + 1) o y (k : Int) = _
            rw [E1, if_neg c, if_pos c2]
    · right
      show fX0_livingHeir_b4 F (n + 1) o (-1) (k : Int) = _
      rw [fX0_livingHeir_b4, if_neg (by omega), if_pos (by decide), h2]
    · omega
  · rintro n y h
    have e : hOf E D 7 (E x.toNat) = -1 := by
      rcases h with ⟨h0, -⟩ | ⟨-, -, h2⟩ | ⟨-, h2⟩
      · omega
      · exact h2
      · exact h2
    show fX0_livingHeir_b4 F (n + 1) o y ((8 : Nat) : Int) = _
    rw [fX0_livingHeir_b4, if_pos (by omega), e]
theorem x_bury (ho : isK o 0) (hX : XS o F t) (ht : LI t) {x : Int} (hx : 0 ≤ x ∧ x ≤ 7) (hl : t.2.2.2.1 x.toNat = 0) : ∃ F', fX0_bury o x F = some F' ∧ XS o F' (dieO x (hOf t.2.2.1 (setF x 1 t.2.2.2.1) 7 (t.2.2.1 x.toNat)) t.1, dieH x (hOf t.2.2.1 (setF x 1 t.2.2.2.1) 7 (t.2.2.1 x.toNat)) t.1 t.2.1, t.2.2.1, setF x 1 t.2.2.2.1, t.2.2.2.2) ∧ kC o F F' := by
  obtain ⟨l1, l2, l3, l4, l5⟩ := clay ho
  unfold fX0_bury
  rw [x_lives ho hX hx, Option.bind_some, i11, if_pos hl, l4, if_pos (by omega)]
  obtain ⟨y, rfl⟩ := nat_of hx.1
  rw [Int.toNat_natCast]
  generalize hF0 : mset F (o + 4) y 1 = F0
  have f0 : ∀ q j, q ≠ o + 4 → F0 q j = F q j := fun q j h => by rw [← hF0, mset_ne _ _ (by omega)]
  have f1 : ∀ h, h < 8 → F0 (o + 3) h = t.2.2.1 h ∧ F0 (o + 4) h = setF (y : Int) 1 t.2.2.2.1 h := fun h hh => by
    refine ⟨(f0 _ _ (by omega)).trans (hX.2.1 h hh).1, ?_⟩
    rw [← hF0]
    by_cases z : h = y
    · subst z; rw [mset_eq, setF_at rfl]
    · rw [mset_ne _ _ (by omega), setF_ne (by omega)]; exact (hX.2.1 h hh).2
  have hh := x_livingHeir (F := F0) ho f1 (fun h hh => (ht.2.1 h hh).1) (x := (y : Int)) hx
  rw [Int.toNat_natCast] at hh
  have b2 := ht.2.1 y (by omega)
  have b3 := hOf_bd (D := setF (y : Int) 1 t.2.2.2.1) (fun h hh => (ht.2.1 h hh).1) 7 (t.2.2.1 y) b2.1.1 b2.1.2
  rw [hh, Option.bind_some]
  generalize hOf t.2.2.1 (setF (y : Int) 1 t.2.2.2.1) 7 (t.2.2.1 y) = to at b3
  refine lp (fun n k (G : Mem) => fX0_bury_b24 n o (y : Int) to (k : Int) G) 336
    (fun k G => (∀ s, s < 336 → G (o + 1) s = (if s < k then dieO (y : Int) to t.1 s else t.1 s) ∧ G (o + 2) s = (if s < k then dieH (y : Int) to t.1 t.2.1 s else t.2.1 s)) ∧ (∀ q j, q ≠ o + 1 → q ≠ o + 2 → G q j = F0 q j))
    (fun r => ∃ F', r = some F' ∧ XS o F' (dieO (y : Int) to t.1, dieH (y : Int) to t.1 t.2.1, t.2.2.1, setF (y : Int) 1 t.2.2.2.1, t.2.2.2.2) ∧ kC o F F') ?_ ?_ FU 0 F0 (by omega) ⟨fun s hs => ?_, fun _ _ _ _ => rfl⟩ (FU_gt (by omega))
  · rintro n k G hk ⟨h1, h2⟩
    left
    have q := h1 k hk
    rw [if_neg (by omega), if_neg (by omega)] at q
    have li := ht.1 k hk
    have bt : (0 : Int) ≤ (k : Int) ∧ (k : Int) < ((336 : Nat) : Int) := by omega
    refine ⟨mset (mset G (o + 1) k (dieO (y : Int) to t.1 k)) (o + 2) k (dieH (y : Int) to t.1 t.2.1 k), ⟨fun s hs => ?_, fun q j hq hq2 => ?_⟩, ?_⟩
    · by_cases z : s = k
      · subst z
        rw [mset_ne _ _ (by omega), mset_eq, mset_eq, if_pos (by omega), if_pos (by omega)]
        exact ⟨rfl, rfl⟩
      · rw [mset_ne _ _ (by omega), mset_ne _ _ (by omega), mset_ne _ _ (by omega), mset_ne _ _ (by omega), (h1 s hs).1, (h1 s hs).2]
        by_cases z2 : s < k
        · rw [if_pos z2, if_pos z2, if_pos (c := s < k + 1) (by omega), if_pos (c := s < k + 1) (by omega)]
          exact ⟨rfl, rfl⟩
        · rw [if_neg z2, if_neg z2, if_neg (c := s < k + 1) (by omega), if_neg (c := s < k + 1) (by omega)]
          exact ⟨rfl, rfl⟩
    · rw [mset_ne _ _ (by omega), mset_ne _ _ (by omega)]; exact h2 q j hq hq2
    · show fX0_bury_b24 (n + 1) o (y : Int) to (k : Int) G = fX0_bury_b24 n o (y : Int) to ((k + 1 : Nat) : Int) _
      -- what a step comes to
      have last : ∀ (G' : Mem) (ov hv : Int), G' (o + 1) k = ov → G' (o + 2) k = hv → fX0_bury_b79 (fX0_bury_b24 n) o (y : Int) to (k : Int) G' = fX0_bury_b24 n o (y : Int) to ((k + 1 : Nat) : Int) (if ov = -1 then mset G' (o + 2) k (-1) else G') := by
        intro G' ov hv e1 e2
        unfold fX0_bury_b79
        simp only [l1, l2, if_pos bt, Int.toNat_natCast, e1, xwS (show k < 2147483647 by omega)]
        by_cases c : ov = -1
        · rw [if_neg (by omega), if_pos c]
        · rw [if_pos c, if_neg c]
      have mid : ∀ (G' : Mem) (ov : Int), G' (o + 1) k = ov → G' (o + 2) k = t.2.1 k → fX0_bury_b48 (fX0_bury_b24 n) o (y : Int) to (k : Int) G' = (if t.2.1 k ≠ (y : Int) then fX0_bury_b79 (fX0_bury_b24 n) o (y : Int) to (k : Int) G' else fX0_bury_b79 (fX0_bury_b24 n) o (y : Int) to (k : Int) (mset G' (o + 2) k (if to = -1 then ov else to))) := by
        intro G' ov e1 e2
        unfold fX0_bury_b48
        simp only [l1, l2, if_pos bt, Int.toNat_natCast, e2, e1]
        by_cases c : to = -1
        · rw [if_neg (c := to ≠ -1) (by omega), if_pos c]
        · rw [if_pos (c := to ≠ -1) c, if_neg c]
      have ext : ∀ (G1 G2 : Mem), (∀ q j, G1 q j = G2 q j) → G1 = G2 := fun G1 G2 h => funext fun q => funext fun j => h q j
      rw [fX0_bury_b24, if_neg (by omega)]
      simp only [l1, if_pos bt, Int.toNat_natCast, q.1]
      by_cases c1 : t.1 k = (y : Int)
      · have n1 : t.1 k ≠ -1 := by omega
        have eo : dieO (y : Int) to t.1 k = to := if_pos c1
        rw [if_neg (by omega)]
        have m0 : ∀ z, mset G (o + 1) k z (o + 1) k = z := fun z => mset_eq _ _ _ _
        have m1 : mset G (o + 1) k to (o + 2) k = t.2.1 k := by rw [mset_ne _ _ (by omega)]; exact q.2
        rw [mid _ to (m0 to) m1]
        by_cases c2 : t.2.1 k = (y : Int)
        · rw [if_neg (by omega), last _ to to (by rw [mset_ne _ _ (by omega), mset_eq]) (by rw [mset_eq]; split <;> simp_all)]
          congr 1
          apply ext
          intro q' j'
          by_cases c3 : to = -1
          · have eh : dieH (y : Int) to t.1 t.2.1 k = -1 := if_pos ⟨c1, c3⟩
            rw [if_pos c3, eo, eh]
            by_cases z : q' = o + 2 ∧ j' = k
            · obtain ⟨rfl, rfl⟩ := z; rw [mset_eq, mset_eq]
            · rw [mset_ne _ _ z, mset_ne _ _ z, mset_ne _ _ z]
          · have eh : dieH (y : Int) to t.1 t.2.1 k = to := by unfold dieH; rw [if_neg (fun z => c3 z.2), if_pos c2, if_neg c3]
            rw [if_neg c3, if_neg c3, eo, eh]
        · rw [if_pos c2, last _ to (t.2.1 k) (m0 to) m1]
          congr 1
          apply ext
          intro q' j'
          by_cases c3 : to = -1
          · have eh : dieH (y : Int) to t.1 t.2.1 k = -1 := if_pos ⟨c1, c3⟩
            rw [if_pos c3, eo, eh]
          · have eh : dieH (y : Int) to t.1 t.2.1 k = t.2.1 k := by unfold dieH; rw [if_neg (fun z => c3 z.2), if_neg c2]
            rw [if_neg c3, eo, eh]
            by_cases z : q' = o + 2 ∧ j' = k
            · obtain ⟨rfl, rfl⟩ := z; rw [mset_eq]; exact m1
            · rw [mset_ne _ _ z]
      · have eo : dieO (y : Int) to t.1 k = t.1 k := if_neg c1
        rw [if_pos c1, mid _ (t.1 k) q.1 q.2]
        have ge : ∀ q' j', mset G (o + 1) k (t.1 k) q' j' = G q' j' := fun q' j' => by
          by_cases z : q' = o + 1 ∧ j' = k
          · obtain ⟨rfl, rfl⟩ := z; rw [mset_eq]; exact q.1.symm
          · rw [mset_ne _ _ z]
        by_cases c2 : t.2.1 k = (y : Int)
        · have n1 : t.1 k ≠ -1 := fun z => by have := li.2.2 z; omega
          rw [if_neg (by omega), last _ (t.1 k) (if to = -1 then t.1 k else to) (by rw [mset_ne _ _ (by omega)]; exact q.1) (by rw [mset_eq]), if_neg n1]
          congr 1
          apply ext
          intro q' j'
          have eh : dieH (y : Int) to t.1 t.2.1 k = if to = -1 then t.1 k else to := by unfold dieH; rw [if_neg (fun z => c1 z.1), if_pos c2, eo]
          rw [eo, eh]
          by_cases z : q' = o + 2 ∧ j' = k
          · obtain ⟨rfl, rfl⟩ := z; rw [mset_eq, mset_eq]
          · rw [mset_ne _ _ z, mset_ne _ _ z, ge]
        · rw [if_pos c2, last _ (t.1 k) (t.2.1 k) q.1 q.2]
          congr 1
          apply ext
          intro q' j'
          have eh : dieH (y : Int) to t.1 t.2.1 k = t.2.1 k := by unfold dieH; rw [if_neg (fun z => c1 z.1), if_neg c2]
          rw [eo, eh]
          by_cases c3 : t.1 k = -1
          · have := li.2.2 c3
            rw [if_pos c3]
            by_cases z : q' = o + 2 ∧ j' = k
            · obtain ⟨rfl, rfl⟩ := z; rw [mset_eq, mset_eq, this]
            · rw [mset_ne _ _ z, mset_ne _ _ z, ge]
          · rw [if_neg c3]
            by_cases z : q' = o + 2 ∧ j' = k
            · obtain ⟨rfl, rfl⟩ := z; rw [mset_eq]; exact q.2
            · rw [mset_ne _ _ z, ge]
  · rintro n G ⟨h1, h2⟩
    refine ⟨G, ?_, ⟨fun s hs => ?_, fun h hh => ?_, fun j hj => ?_⟩, fun q j hq => (h2 q j (by omega) (by omega)).trans (f0 _ _ (by omega))⟩
    · show fX0_bury_b24 (n + 1) o (y : Int) to ((336 : Nat) : Int) G = some G
      rw [fX0_bury_b24, if_pos (by omega)]
    · have q := h1 s hs
      rw [if_pos hs, if_pos hs] at q
      exact q
    · rw [h2 _ _ (by omega) (by omega), h2 _ _ (by omega) (by omega)]; exact f1 h hh
    · rw [h2 _ _ (by omega) (by omega), f0 _ _ (by omega)]; exact hX.2.2 j hj
  · rw [if_neg (by omega), if_neg (by omega), f0 _ _ (by omega), f0 _ _ (by omega)]; exact hX.1 s hs
end XD2
