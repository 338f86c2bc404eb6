section ML2
variable {F : Mem} {t : LSt} {g : Nat → Int}
theorem m_begins (F : Mem) (g : Nat → Int) : ∃ F', fX10_begins 173 F = some F' ∧ XS 177 F' (stL g 0) ∧ F' 173 23 = 0 ∧ (∀ q k, ¬ (q = 173 ∧ k = 23) → (q < 178 ∨ 182 < q) → F' q k = F q k) := by
  have s3 : ∀ G : Mem, (∀ s, s < 336 → G 178 s = -1 ∧ G 179 s = -1) → (∀ h, h < 8 → G 180 h = -1 ∧ G 181 h = 0) → kL F G → ∃ F', fX10_begins_b59 FU 173 0 G = some F' ∧ XS 177 F' (stL g 0) ∧ F' 173 23 = 0 ∧ (∀ q k, ¬ (q = 173 ∧ k = 23) → (q < 178 ∨ 182 < q) → F' q k = F q k) := by
    intro G g1 g2 g3
    refine lp (fun n k (x : Mem) => fX10_begins_b59 n 173 (k : Int) x) 30 (fun k x => (∀ j, j < k → x 182 j = 0) ∧ ∀ q j, q ≠ 182 → x q j = G q j) (fun r => ∃ F', r = some F' ∧ XS 177 F' (stL g 0) ∧ F' 173 23 = 0 ∧ (∀ q k, ¬ (q = 173 ∧ k = 23) → (q < 178 ∨ 182 < q) → F' q k = F q k)) ?_ ?_ FU 0 G (by omega) ⟨fun j hj => absurd hj (by omega), fun _ _ _ => rfl⟩ (FU_gt (by omega))
    · rintro n k x hk ⟨h1, h2⟩
      left
      refine ⟨mset x 182 k 0, ⟨fun j hj => ?_, fun q j hq => ?_⟩, ?_⟩
      · by_cases y : j = k
        · subst y; rw [mset_eq]
        · rw [mset_ne _ _ (by omega)]; exact h1 j (by omega)
      · rw [mset_ne _ _ (by omega)]; exact h2 q j hq
      · show fX10_begins_b59 (n + 1) 173 (k : Int) x = fX10_begins_b59 n 173 ((k + 1 : Nat) : Int) _
        rw [fX10_begins_b59, if_neg (by omega), al9, if_pos (by omega), xwS (by omega), Int.toNat_natCast]
    · rintro n x ⟨h1, h2⟩
      refine ⟨mset x 173 23 0, ?_, ⟨fun s hs => ?_, fun h hh => ?_, fun j hj => ?_⟩, mset_eq _ _ _ _, fun q j hq hq2 => ?_⟩
      · show fX10_begins_b59 (n + 1) 173 ((30 : Nat) : Int) x = _
        rw [fX10_begins_b59, if_pos (by omega)]
      · rw [mset_ne _ _ (by omega), mset_ne _ _ (by omega), h2 _ _ (by omega), h2 _ _ (by omega)]; exact g1 s hs
      · rw [mset_ne _ _ (by omega), mset_ne _ _ (by omega), h2 _ _ (by omega), h2 _ _ (by omega)]; exact g2 h hh
      · rw [mset_ne _ _ (by omega)]; exact h1 j hj
      · rw [mset_ne _ _ hq, h2 _ _ (by omega)]; exact g3 q j hq2
  have s2 : ∀ G : Mem, (∀ s, s < 336 → G 178 s = -1 ∧ G 179 s = -1) → kL F G → ∃ F', fX10_begins_b31 FU 173 0 G = some F' ∧ XS 177 F' (stL g 0) ∧ F' 173 23 = 0 ∧ (∀ q k, ¬ (q = 173 ∧ k = 23) → (q < 178 ∨ 182 < q) → F' q k = F q k) := by
    intro G g1 g3
    refine lp (fun n k (x : Mem) => fX10_begins_b31 n 173 (k : Int) x) 8 (fun k x => (∀ j, j < k → x 180 j = -1 ∧ x 181 j = 0) ∧ ∀ q j, q ≠ 180 → q ≠ 181 → x q j = G q j) (fun r => ∃ F', r = some F' ∧ XS 177 F' (stL g 0) ∧ F' 173 23 = 0 ∧ (∀ q k, ¬ (q = 173 ∧ k = 23) → (q < 178 ∨ 182 < q) → F' q k = F q k)) ?_ ?_ FU 0 G (by omega) ⟨fun j hj => absurd hj (by omega), fun _ _ _ _ => rfl⟩ (FU_gt (by omega))
    · rintro n k x hk ⟨h1, h2⟩
      left
      refine ⟨mset (mset x 180 k (-1)) 181 k 0, ⟨fun j hj => ?_, fun q j hq hq2 => ?_⟩, ?_⟩
      · by_cases y : j = k
        · subst y; rw [mset_ne _ _ (by omega), mset_eq, mset_eq]; exact ⟨rfl, rfl⟩
        · rw [mset_ne _ _ (by omega), mset_ne _ _ (by omega), mset_ne _ _ (by omega), mset_ne _ _ (by omega)]; exact h1 j (by omega)
      · rw [mset_ne _ _ (by omega), mset_ne _ _ (by omega)]; exact h2 q j hq hq2
      · show fX10_begins_b31 (n + 1) 173 (k : Int) x = fX10_begins_b31 n 173 ((k + 1 : Nat) : Int) _
        rw [fX10_begins_b31, if_neg (by omega), al7, al8, if_pos (by omega), if_pos (by omega), xwS (by omega), Int.toNat_natCast]
    · rintro n x ⟨h1, h2⟩
      show ∃ F', fX10_begins_b31 (n + 1) 173 ((8 : Nat) : Int) x = some F' ∧ _
      rw [fX10_begins_b31, if_pos (by omega)]
      exact s3 x (fun s hs => by rw [h2 _ _ (by omega) (by omega), h2 _ _ (by omega) (by omega)]; exact g1 s hs) h1 (fun q j hq => by rw [h2 _ _ (by omega) (by omega)]; exact g3 q j hq)
  unfold fX10_begins
  refine lp (fun n k (x : Mem) => fX10_begins_b2 n 173 (k : Int) x) 336 (fun k x => (∀ j, j < k → x 178 j = -1 ∧ x 179 j = -1) ∧ ∀ q j, q ≠ 178 → q ≠ 179 → x q j = F q j) (fun r => ∃ F', r = some F' ∧ XS 177 F' (stL g 0) ∧ F' 173 23 = 0 ∧ (∀ q k, ¬ (q = 173 ∧ k = 23) → (q < 178 ∨ 182 < q) → F' q k = F q k)) ?_ ?_ FU 0 F (by omega) ⟨fun j hj => absurd hj (by omega), fun _ _ _ _ => rfl⟩ (FU_gt (by omega))
  · rintro n k x hk ⟨h1, h2⟩
    left
    refine ⟨mset (mset x 178 k (-1)) 179 k (-1), ⟨fun j hj => ?_, fun q j hq hq2 => ?_⟩, ?_⟩
    · by_cases y : j = k
      · subst y; rw [mset_ne _ _ (by omega), mset_eq, mset_eq]; exact ⟨rfl, rfl⟩
      · rw [mset_ne _ _ (by omega), mset_ne _ _ (by omega), mset_ne _ _ (by omega), mset_ne _ _ (by omega)]; exact h1 j (by omega)
    · rw [mset_ne _ _ (by omega), mset_ne _ _ (by omega)]; exact h2 q j hq hq2
    · show fX10_begins_b2 (n + 1) 173 (k : Int) x = fX10_begins_b2 n 173 ((k + 1 : Nat) : Int) _
      rw [fX10_begins_b2, if_neg (by omega), al5, al6, if_pos (by omega), if_pos (by omega), xwS (by omega), Int.toNat_natCast]
  · rintro n x ⟨h1, h2⟩
    show ∃ F', fX10_begins_b2 (n + 1) 173 ((336 : Nat) : Int) x = some F' ∧ _
    rw [fX10_begins_b2, if_pos (by omega)]
    exact s2 x h1 (fun q j hq => h2 _ _ (by omega) (by omega))
theorem m_heirOf {E D : Nat → Int} (h3 : ∀ h, h < 8 → F 180 h = E h ∧ F 181 h = D h) (hE : ∀ h, h < 8 → -1 ≤ E h ∧ E h ≤ 7) {x : Int} (hx : 0 ≤ x ∧ x ≤ 7) : fX10_heirOf 173 x F = some (hOf E D 8 (E x.toNat)) := by
  have e42 : ∀ y : Int, (-1 ≤ y ∧ y ≤ 7) → fX10_heirOf_b42 F 173 y = some (hOf E D 0 y) := by
    intro y hy
    unfold fX10_heirOf_b42 hOf
    by_cases c : y = -1
    · rw [if_pos c, if_pos c, c]
    · have q : F (173 + 8) y.toNat = D y.toNat := (h3 y.toNat (by omega)).2
      rw [if_neg c, if_neg c, al8, if_pos (by omega), q]
      split <;> rfl
  unfold fX10_heirOf
  have q7 : F (173 + 7) x.toNat = E x.toNat := (h3 x.toNat (by omega)).1
  rw [al7, if_pos (by omega), q7]
  refine lp (fun n k (y : Int) => fX10_heirOf_b9 F n 173 y (k : Int)) 8 (fun k y => (-1 ≤ y ∧ y ≤ 7) ∧ hOf E D (8 - k) y = hOf E D 8 (E x.toNat)) (fun r => r = some (hOf E D 8 (E x.toNat))) ?_ ?_ FU 0 (E x.toNat) (by omega) ⟨hE x.toNat (by omega), rfl⟩ (FU_gt (by omega))
  · rintro n k y hk ⟨h1, h2⟩
    by_cases c : y = -1
    · right
      show fX10_heirOf_b9 F (n + 1) 173 y (k : Int) = _
      rw [fX10_heirOf_b9, if_neg (by omega), if_pos c, e42 y h1, ← h2]
      congr 1
      rw [c]
      cases 8 - k <;> simp [hOf]
    · have q : F (173 + 8) y.toNat = D y.toNat := (h3 y.toNat (by omega)).2
      have q2 : F (173 + 7) y.toNat = E y.toNat := (h3 y.toNat (by omega)).1
      have bk : (0 : Int) ≤ y ∧ y < ((8 : Nat) : Int) := by omega
      have E1 : fX10_heirOf_b9 F (n + 1) 173 y (k : Int) = if D y.toNat = 0 then fX10_heirOf_b42 F 173 y else fX10_heirOf_b9 F n 173 (E y.toNat) ((k + 1 : Nat) : Int) := by
        rw [fX10_heirOf_b9, if_neg (by omega), if_neg c, al8, al7, q, q2, xwS (by omega)]
        simp only [if_pos bk]
      by_cases c2 : D y.toNat = 0
      · right
        show fX10_heirOf_b9 F (n + 1) 173 y (k : Int) = _
        rw [E1, if_pos c2, e42 y h1, ← h2]
        congr 1
        cases 8 - k <;> (unfold hOf; rw [if_neg c, if_pos c2]) <;> rw [if_neg c, if_pos c2]
      · left
        refine ⟨E y.toNat, ⟨hE y.toNat (by omega), ?_⟩, ?_⟩
        · rw [← h2, show 8 - k = (8 - (k + 1)) + 1 by omega]
          conv => rhs; unfold hOf
          rw [if_neg c, if_neg c2]
        · show fX10_heirOf_b9 F (n + 1) 173 y (k : Int) = _
          rw [E1, if_neg c2]
  · rintro n y ⟨h1, h2⟩
    show fX10_heirOf_b9 F (n + 1) 173 y ((8 : Nat) : Int) = _
    rw [fX10_heirOf_b9, if_pos (by omega), e42 y h1, ← h2]
theorem m_dies (hX : XS 177 F t) (ht : LI t) {x : Int} (hx : 0 ≤ x ∧ x ≤ 7) : ∃ F', fX10_dies 173 x F = some F' ∧ XS 177 F' (dieO x (hOf t.2.2.1 (setF x 1 t.2.2.2.1) 7 (t.2.2.1 x.toNat)) t.1, dieH x (hOf t.2.2.1 (setF x 1 t.2.2.2.1) 7 (t.2.2.1 x.toNat)) t.1 t.2.1, t.2.2.1, setF x 1 t.2.2.2.1, t.2.2.2.2) ∧ kL F F' := by
  obtain ⟨y, rfl⟩ := nat_of hx.1
  unfold fX10_dies
  rw [al8, if_pos (by omega), Int.toNat_natCast, show (173 + 8 : Nat) = 181 from rfl]
  generalize hF0 : mset F 181 y 1 = F0
  have f0 : ∀ q j, q ≠ 181 → F0 q j = F q j := fun q j h => by rw [← hF0, mset_ne _ _ (by omega)]
  have f1 : ∀ h, h < 8 → F0 180 h = t.2.2.1 h ∧ F0 181 h = setF (y : Int) 1 t.2.2.2.1 h := fun h hh => by
    refine ⟨(f0 _ _ (by omega)).trans (hX.2.1 h hh).1, ?_⟩
    rw [← hF0]
    by_cases z : h = y
    · subst z; rw [mset_eq, setF_at rfl]
    · rw [mset_ne _ _ (by omega), setF_ne (by omega)]; exact (hX.2.1 h hh).2
  have hE : ∀ h, h < 8 → -1 ≤ t.2.2.1 h ∧ t.2.2.1 h ≤ 7 := fun h hh => (ht.2.1 h hh).1
  have hh := m_heirOf (F := F0) f1 hE (x := (y : Int)) hx
  rw [Int.toNat_natCast, hOf78 hE (by omega) (by rw [setF_at rfl]; decide)] at hh
  have b2 := ht.2.1 y (by omega)
  have b3 := hOf_bd (D := setF (y : Int) 1 t.2.2.2.1) hE 7 (t.2.2.1 y) b2.1.1 b2.1.2
  rw [hh, Option.bind_some]
  generalize hOf t.2.2.1 (setF (y : Int) 1 t.2.2.2.1) 7 (t.2.2.1 y) = to at b3
  refine lp (fun n k (G : Mem) => fX10_dies_b15 n 173 (y : Int) to (k : Int) G) 336
    (fun k G => (∀ s, s < 336 → G 178 s = (if s < k then dieO (y : Int) to t.1 s else t.1 s) ∧ G 179 s = (if s < k then dieH (y : Int) to t.1 t.2.1 s else t.2.1 s)) ∧ (∀ q j, q ≠ 178 → q ≠ 179 → G q j = F0 q j))
    (fun r => ∃ F', r = some F' ∧ XS 177 F' (dieO (y : Int) to t.1, dieH (y : Int) to t.1 t.2.1, t.2.2.1, setF (y : Int) 1 t.2.2.2.1, t.2.2.2.2) ∧ kL F F') ?_ ?_ FU 0 F0 (by omega) ⟨fun s hs => ?_, fun _ _ _ _ => rfl⟩ (FU_gt (by omega))
  · rintro n k G hk ⟨h1, h2⟩
    left
    have q := h1 k hk
    rw [if_neg (by omega), if_neg (by omega)] at q
    have q5 : G (173 + 5) k = t.1 k := q.1
    have q6 : G (173 + 6) k = t.2.1 k := q.2
    have bt : (0 : Int) ≤ (k : Int) ∧ (k : Int) < ((336 : Nat) : Int) := by omega
    refine ⟨mset (mset G 178 k (dieO (y : Int) to t.1 k)) 179 k (dieH (y : Int) to t.1 t.2.1 k), ⟨fun s hs => ?_, fun q j hq hq2 => ?_⟩, ?_⟩
    · by_cases z : s = k
      · subst z
        rw [mset_ne _ _ (by omega), mset_eq, mset_eq, if_pos (by omega), if_pos (by omega)]
        exact ⟨rfl, rfl⟩
      · rw [mset_ne _ _ (by omega), mset_ne _ _ (by omega), mset_ne _ _ (by omega), mset_ne _ _ (by omega), (h1 s hs).1, (h1 s hs).2]
        by_cases z2 : s < k
        · rw [if_pos z2, if_pos z2, if_pos (c := s < k + 1) (by omega), if_pos (c := s < k + 1) (by omega)]
          exact ⟨rfl, rfl⟩
        · rw [if_neg z2, if_neg z2, if_neg (c := s < k + 1) (by omega), if_neg (c := s < k + 1) (by omega)]
          exact ⟨rfl, rfl⟩
    · rw [mset_ne _ _ (by omega), mset_ne _ _ (by omega)]; exact h2 q j hq hq2
    · show fX10_dies_b15 (n + 1) 173 (y : Int) to (k : Int) G = fX10_dies_b15 n 173 (y : Int) to ((k + 1 : Nat) : Int) _
      have ext : ∀ (G1 G2 : Mem), (∀ q j, G1 q j = G2 q j) → G1 = G2 := fun G1 G2 h => funext fun q => funext fun j => h q j
      have ge5 : ∀ q' j', mset G 178 k (t.1 k) q' j' = G q' j' := fun q' j' => by
        by_cases z : q' = 178 ∧ j' = k
        · obtain ⟨rfl, rfl⟩ := z; rw [mset_eq]; exact q.1.symm
        · rw [mset_ne _ _ z]
      rw [fX10_dies_b15, if_neg (by omega), al5, if_pos bt, Int.toNat_natCast, q5]
      unfold fX10_dies_b37 fX10_dies_b54 fX10_dies_b68 fX10_dies_b94
      have m1 : mset G 178 k to (173 + 5) k = to := mset_eq _ _ _ _
      simp only [al5, al6, if_pos bt, Int.toNat_natCast, q6, xwS (show k < 2147483647 by omega), Nat.reduceAdd, e10, e00, Int.reduceEq, if_false, if_true]
      by_cases c1 : t.1 k = (y : Int)
      · have eo : dieO (y : Int) to t.1 k = to := if_pos c1
        by_cases c2 : t.2.1 k = (y : Int)
        · by_cases c3 : to = -1
          · have eh : dieH (y : Int) to t.1 t.2.1 k = -1 := if_pos ⟨c1, c3⟩
            subst c3
            simp only [c1, c2, ne_eq, not_true_eq_false, if_false, if_true, mset_eq]
            congr 1
            apply ext
            intro q' j'
            rw [eo, eh]
            by_cases z : q' = 179 ∧ j' = k
            · obtain ⟨rfl, rfl⟩ := z; rw [mset_eq, mset_eq]
            · rw [mset_ne _ _ z, mset_ne _ _ z]
          · have eh : dieH (y : Int) to t.1 t.2.1 k = to := by unfold dieH; rw [if_neg (fun z => c3 z.2), if_pos c2, if_neg c3]
            simp only [c1, c2, c3, ne_eq, not_true_eq_false, not_false_eq_true, if_false, if_true]
            congr 1
            apply ext
            intro q' j'
            rw [eo, eh]
        · by_cases c3 : to = -1
          · have eh : dieH (y : Int) to t.1 t.2.1 k = -1 := if_pos ⟨c1, c3⟩
            subst c3
            simp only [c1, c2, ne_eq, not_true_eq_false, not_false_eq_true, if_false, if_true]
            congr 1
            apply ext
            intro q' j'
            rw [eo, eh]
          · have eh : dieH (y : Int) to t.1 t.2.1 k = t.2.1 k := by unfold dieH; rw [if_neg (fun z => c3 z.2), if_neg c2]
            simp only [c1, c2, c3, ne_eq, not_true_eq_false, not_false_eq_true, if_false, if_true]
            congr 1
            apply ext
            intro q' j'
            rw [eo, eh]
            by_cases z : q' = 179 ∧ j' = k
            · obtain ⟨rfl, rfl⟩ := z; rw [mset_eq, mset_ne _ _ (by omega)]; exact q.2
            · rw [mset_ne (F := mset G 178 k to) _ z]
      · have eo : dieO (y : Int) to t.1 k = t.1 k := if_neg c1
        by_cases c2 : t.2.1 k = (y : Int)
        · have eh : dieH (y : Int) to t.1 t.2.1 k = if to = -1 then t.1 k else to := by unfold dieH; rw [if_neg (fun z => c1 z.1), if_pos c2, eo]
          by_cases c3 : to = -1
          · subst c3
            simp only [c1, c2, ne_eq, not_true_eq_false, not_false_eq_true, if_false, if_true]
            congr 1
            apply ext
            intro q' j'
            rw [eo, eh, if_pos rfl]
            by_cases z : q' = 179 ∧ j' = k
            · obtain ⟨rfl, rfl⟩ := z; rw [mset_eq, mset_eq]; exact q.1
            · rw [mset_ne _ _ z, mset_ne _ _ z, ge5]
          · simp only [c1, c2, c3, ne_eq, not_true_eq_false, not_false_eq_true, if_false, if_true]
            congr 1
            apply ext
            intro q' j'
            rw [eo, eh, if_neg c3]
            by_cases z : q' = 179 ∧ j' = k
            · obtain ⟨rfl, rfl⟩ := z; rw [mset_eq, mset_eq]
            · rw [mset_ne _ _ z, mset_ne _ _ z, ge5]
        · have eh : dieH (y : Int) to t.1 t.2.1 k = t.2.1 k := by unfold dieH; rw [if_neg (fun z => c1 z.1), if_neg c2]
          simp only [c1, c2, ne_eq, not_true_eq_false, not_false_eq_true, if_false, if_true]
          congr 1
          apply ext
          intro q' j'
          rw [eo, eh]
          by_cases z : q' = 179 ∧ j' = k
          · obtain ⟨rfl, rfl⟩ := z; rw [mset_eq]; exact q.2
          · rw [mset_ne _ _ z, ge5]
  · rintro n G ⟨h1, h2⟩
    refine ⟨G, ?_, ⟨fun s hs => ?_, fun h hh => ?_, fun j hj => ?_⟩, fun q j hq => (h2 q j (by omega) (by omega)).trans (f0 _ _ (by omega))⟩
    · show fX10_dies_b15 (n + 1) 173 (y : Int) to ((336 : Nat) : Int) G = some G
      rw [fX10_dies_b15, if_pos (by omega)]
    · have q := h1 s hs
      rw [if_pos hs, if_pos hs] at q
      exact q
    · rw [h2 _ _ (by omega) (by omega), h2 _ _ (by omega) (by omega)]; exact f1 h hh
    · rw [h2 _ _ (by omega) (by omega), f0 _ _ (by omega)]; exact hX.2.2 j hj
  · rw [if_neg (by omega), if_neg (by omega), f0 _ _ (by omega), f0 _ _ (by omega)]; exact hX.1 s hs
end ML2
