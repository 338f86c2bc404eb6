/-! ===== ledgers, the class ===== -/
theorem clay {o : Nat} (h : isK o 0) : alen (o + 1) = 336 ∧ alen (o + 2) = 336 ∧ alen (o + 3) = 8 ∧ alen (o + 4) = 8 ∧ alen (o + 5) = 30 := by
  have h1 := layq (P := fun o => decide (alen (o + 1) = 336) && (decide (alen (o + 2) = 336) && (decide (alen (o + 3) = 8) && (decide (alen (o + 4) = 8) && decide (alen (o + 5) = 30))))) (by decide +kernel) h
  simp only [Bool.and_eq_true, decide_eq_true_eq] at h1
  exact h1
section CAN
variable {g : Nat → Int} {k : Nat} {t : LSt}
theorem canD_0 (h : gD g k 0 = 0) : canD g k t ↔ (t.2.2.2.1 (gD g k 1).toNat = 0 ∧ ∀ s : Nat, inD (gD g k) s → t.1 s = -1) := by
  unfold canD
  constructor
  · rintro (c | c)
    · exact absurd c.1 (by omega)
    · exact ⟨c.2.1, c.2.2.2.1 h⟩
  · rintro ⟨a, b⟩
    exact Or.inr ⟨by omega, a, fun z => absurd z (by omega), fun _ => b, fun z => absurd z (by omega)⟩
theorem canD_12 (h : gD g k 0 = 1 ∨ gD g k 0 = 2) : canD g k t ↔ (t.2.2.2.1 (gD g k 1).toNat = 0 ∧ t.2.2.2.1 (gD g k 2).toNat = 0 ∧ ∀ s : Nat, inD (gD g k) s → t.1 s = gD g k 1 ∧ t.2.1 s = gD g k 1) := by
  unfold canD
  constructor
  · rintro (c | c)
    · exact absurd c.1 (by omega)
    · exact ⟨c.2.1, c.2.2.1 (by omega), c.2.2.2.2 h⟩
  · rintro ⟨a, b, c⟩
    exact Or.inr ⟨by omega, a, fun _ => b, fun z => absurd z (by omega), fun _ => c⟩
theorem canD_3 (h : gD g k 0 = 3) : canD g k t ↔ (gD g k 1 < (k : Int) ∧ gD g (gD g k 1).toNat 0 = 2 ∧ t.2.2.2.2 (gD g k 1).toNat = 0) := by
  unfold canD
  constructor
  · rintro (c | c)
    · exact c.2
    · exact absurd h c.1
  · intro a
    exact Or.inl ⟨h, a⟩
theorem canD_4 (h : gD g k 0 = 4) : canD g k t ↔ (t.2.2.2.1 (gD g k 1).toNat = 0 ∧ t.2.2.2.1 (gD g k 2).toNat = 0) := by
  unfold canD
  constructor
  · rintro (c | c)
    · exact absurd c.1 (by omega)
    · exact ⟨c.2.1, c.2.2.1 (by omega)⟩
  · rintro ⟨a, b⟩
    exact Or.inr ⟨by omega, a, fun _ => b, fun z => absurd z (by omega), fun z => absurd z (by omega)⟩
theorem canD_5 (h : gD g k 0 = 5) : canD g k t ↔ t.2.2.2.1 (gD g k 1).toNat = 0 := by
  unfold canD
  constructor
  · rintro (c | c)
    · exact absurd c.1 (by omega)
    · exact c.2.1
  · intro a
    exact Or.inr ⟨by omega, a, fun z => absurd z (by omega), fun z => absurd z (by omega), fun z => absurd z (by omega)⟩
end CAN
theorem doD_0 {g : Nat → Int} {k : Nat} {t : LSt} (h : gD g k 0 = 0) : doD g k t = (fillR (frD (gD g k)) (toD (gD g k)) (gD g k 1) t.1, fillR (frD (gD g k)) (toD (gD g k)) (gD g k 1) t.2.1, t.2.2) := if_pos h
theorem doD_1 {g : Nat → Int} {k : Nat} {t : LSt} (h : gD g k 0 = 1) : doD g k t = (fillR (frD (gD g k)) (toD (gD g k)) (gD g k 2) t.1, fillR (frD (gD g k)) (toD (gD g k)) (gD g k 2) t.2.1, t.2.2) := by
  unfold doD; rw [if_neg (by omega), if_pos h]
theorem doD_2 {g : Nat → Int} {k : Nat} {t : LSt} (h : gD g k 0 = 2) : doD g k t = (t.1, fillR (frD (gD g k)) (toD (gD g k)) (gD g k 2) t.2.1, t.2.2) := by
  unfold doD; rw [if_neg (by omega), if_neg (by omega), if_pos h]
theorem doD_3 {g : Nat → Int} {k : Nat} {t : LSt} (h : gD g k 0 = 3) : doD g k t = (t.1, (fun s : Nat => if frD (gD g (gD g k 1).toNat) ≤ (s : Int) ∧ (s : Int) < toD (gD g (gD g k 1).toNat) then t.1 s else t.2.1 s), t.2.2.1, t.2.2.2.1, setF (gD g k 1) 1 t.2.2.2.2) := by
  unfold doD; rw [if_neg (by omega), if_neg (by omega), if_neg (by omega), if_pos h]
theorem doD_4 {g : Nat → Int} {k : Nat} {t : LSt} (h : gD g k 0 = 4) : doD g k t = (t.1, t.2.1, setF (gD g k 1) (gD g k 2) t.2.2.1, t.2.2.2.1, t.2.2.2.2) := by
  unfold doD; rw [if_neg (by omega), if_neg (by omega), if_neg (by omega), if_neg (by omega), if_pos h]
theorem doD_5 {g : Nat → Int} {k : Nat} {t : LSt} (h : gD g k 0 = 5) : doD g k t = (dieO (gD g k 1) (hOf t.2.2.1 (setF (gD g k 1) 1 t.2.2.2.1) 7 (t.2.2.1 (gD g k 1).toNat)) t.1, dieH (gD g k 1) (hOf t.2.2.1 (setF (gD g k 1) 1 t.2.2.2.1) 7 (t.2.2.1 (gD g k 1).toNat)) t.1 t.2.1, t.2.2.1, setF (gD g k 1) 1 t.2.2.2.1, t.2.2.2.2) := by
  unfold doD; rw [if_neg (by omega), if_neg (by omega), if_neg (by omega), if_neg (by omega), if_neg (by omega)]
/-- what a step on claims o may touch -/
def kC (o : Nat) (F F' : Mem) : Prop := ∀ q k, q < o ∨ o + 5 < q → F' q k = F q k
theorem kC.tr {o : Nat} {F G H : Mem} (h1 : kC o F G) (h2 : kC o G H) : kC o F H := fun q k h => (h2 q k h).trans (h1 q k h)
section XL
variable {o : Nat} {F : Mem} {t : LSt}
theorem x_clear (ho : isK o 0) (F : Mem) (g : Nat → Int) : ∃ F', fX0_clear o F = some F' ∧ XS o F' (stL g 0) ∧ kC o F F' := by
  obtain ⟨l1, l2, l3, l4, l5⟩ := clay ho
  have s3 : ∀ G : Mem, (∀ s, s < 336 → G (o + 1) s = -1 ∧ G (o + 2) s = -1) → (∀ h, h < 8 → G (o + 3) h = -1 ∧ G (o + 4) h = 0) → kC o F G → ∃ F', fX0_clear_b59 FU o 0 G = some F' ∧ XS o F' (stL g 0) ∧ kC o F F' := by
    intro G g1 g2 g3
    refine lp (fun n k (x : Mem) => fX0_clear_b59 n o (k : Int) x) 30 (fun k x => (∀ j, j < k → x (o + 5) j = 0) ∧ ∀ q j, q ≠ o + 5 → x q j = G q j) (fun r => ∃ F', r = some F' ∧ XS o F' (stL g 0) ∧ kC o F F') ?_ ?_ FU 0 G (by omega) ⟨fun j hj => absurd hj (by omega), fun _ _ _ => rfl⟩ (FU_gt (by omega))
    · rintro n k x hk ⟨h1, h2⟩
      left
      refine ⟨mset x (o + 5) k 0, ⟨fun j hj => ?_, fun q j hq => ?_⟩, ?_⟩
      · by_cases y : j = k
        · subst y; rw [mset_eq]
        · rw [mset_ne _ _ (by omega)]; exact h1 j (by omega)
      · rw [mset_ne _ _ (by omega)]; exact h2 q j hq
      · show fX0_clear_b59 (n + 1) o (k : Int) x = fX0_clear_b59 n o ((k + 1 : Nat) : Int) _
        rw [fX0_clear_b59, if_neg (by omega), l5, if_pos (by omega), xwS (by omega), Int.toNat_natCast]
    · rintro n x ⟨h1, h2⟩
      refine ⟨x, ?_, ⟨fun s hs => ?_, fun h hh => ?_, h1⟩, fun q j hq => ?_⟩
      · show fX0_clear_b59 (n + 1) o ((30 : Nat) : Int) x = some x
        rw [fX0_clear_b59, if_pos (by omega)]
      · rw [h2 _ _ (by omega), h2 _ _ (by omega)]; exact g1 s hs
      · rw [h2 _ _ (by omega), h2 _ _ (by omega)]; exact g2 h hh
      · rw [h2 _ _ (by omega)]; exact g3 q j hq
  have s2 : ∀ G : Mem, (∀ s, s < 336 → G (o + 1) s = -1 ∧ G (o + 2) s = -1) → kC o F G → ∃ F', fX0_clear_b31 FU o 0 G = some F' ∧ XS o F' (stL g 0) ∧ kC o F F' := by
    intro G g1 g3
    refine lp (fun n k (x : Mem) => fX0_clear_b31 n o (k : Int) x) 8 (fun k x => (∀ j, j < k → x (o + 3) j = -1 ∧ x (o + 4) j = 0) ∧ ∀ q j, q ≠ o + 3 → q ≠ o + 4 → x q j = G q j) (fun r => ∃ F', r = some F' ∧ XS o F' (stL g 0) ∧ kC o F F') ?_ ?_ FU 0 G (by omega) ⟨fun j hj => absurd hj (by omega), fun _ _ _ _ => rfl⟩ (FU_gt (by omega))
    · rintro n k x hk ⟨h1, h2⟩
      left
      refine ⟨mset (mset x (o + 3) k (-1)) (o + 4) k 0, ⟨fun j hj => ?_, fun q j hq hq2 => ?_⟩, ?_⟩
      · by_cases y : j = k
        · subst y; rw [mset_ne _ _ (by omega), mset_eq, mset_eq]; exact ⟨rfl, rfl⟩
        · rw [mset_ne _ _ (by omega), mset_ne _ _ (by omega), mset_ne _ _ (by omega), mset_ne _ _ (by omega)]; exact h1 j (by omega)
      · rw [mset_ne _ _ (by omega), mset_ne _ _ (by omega)]; exact h2 q j hq hq2
      · show fX0_clear_b31 (n + 1) o (k : Int) x = fX0_clear_b31 n o ((k + 1 : Nat) : Int) _
        rw [fX0_clear_b31, if_neg (by omega), l3, l4, if_pos (by omega), if_pos (by omega), xwS (by omega), Int.toNat_natCast]
    · rintro n x ⟨h1, h2⟩
      show ∃ F', fX0_clear_b31 (n + 1) o ((8 : Nat) : Int) x = some F' ∧ _
      rw [fX0_clear_b31, if_pos (by omega)]
      exact s3 x (fun s hs => by rw [h2 _ _ (by omega) (by omega), h2 _ _ (by omega) (by omega)]; exact g1 s hs) h1 (fun q j hq => by rw [h2 _ _ (by omega) (by omega)]; exact g3 q j hq)
  unfold fX0_clear
  refine lp (fun n k (x : Mem) => fX0_clear_b2 n o (k : Int) x) 336 (fun k x => (∀ j, j < k → x (o + 1) j = -1 ∧ x (o + 2) j = -1) ∧ ∀ q j, q ≠ o + 1 → q ≠ o + 2 → x q j = F q j) (fun r => ∃ F', r = some F' ∧ XS o F' (stL g 0) ∧ kC o F F') ?_ ?_ FU 0 F (by omega) ⟨fun j hj => absurd hj (by omega), fun _ _ _ _ => rfl⟩ (FU_gt (by omega))
  · rintro n k x hk ⟨h1, h2⟩
    left
    refine ⟨mset (mset x (o + 1) k (-1)) (o + 2) k (-1), ⟨fun j hj => ?_, fun q j hq hq2 => ?_⟩, ?_⟩
    · by_cases y : j = k
      · subst y; rw [mset_ne _ _ (by omega), mset_eq, mset_eq]; exact ⟨rfl, rfl⟩
      · rw [mset_ne _ _ (by omega), mset_ne _ _ (by omega), mset_ne _ _ (by omega), mset_ne _ _ (by omega)]; exact h1 j (by omega)
    · rw [mset_ne _ _ (by omega), mset_ne _ _ (by omega)]; exact h2 q j hq hq2
    · show fX0_clear_b2 (n + 1) o (k : Int) x = fX0_clear_b2 n o ((k + 1 : Nat) : Int) _
      rw [fX0_clear_b2, if_neg (by omega), l1, l2, if_pos (by omega), if_pos (by omega), xwS (by omega), Int.toNat_natCast]
  · rintro n x ⟨h1, h2⟩
    show ∃ F', fX0_clear_b2 (n + 1) o ((336 : Nat) : Int) x = some F' ∧ _
    rw [fX0_clear_b2, if_pos (by omega)]
    exact s2 x h1 (fun q j hq => h2 _ _ (by omega) (by omega))
theorem x_lives (ho : isK o 0) (hX : XS o F t) {x : Int} (hx : 0 ≤ x ∧ x ≤ 7) : fX0_lives o x F = some (if t.2.2.2.1 x.toNat = 0 then 1 else 0) := by
  obtain ⟨l1, l2, l3, l4, l5⟩ := clay ho
  unfold fX0_lives
  rw [if_neg (by omega), if_neg (by omega), l4, if_pos (by omega), (hX.2.1 x.toNat (by omega)).2]
  by_cases q : t.2.2.2.1 x.toNat = 0
  · rw [if_neg (by omega), if_pos q]
  · rw [if_pos q, if_neg q]
theorem x_allOf (ho : isK o 0) (hX : XS o F t) (x : Int) {fr to : Int} (h5 : F o 5 = fr) (h6 : F o 6 = to) (hf : 0 ≤ fr) (hf2 : fr ≤ 3000) (ht : to ≤ 336) : ∃ z, fX0_isAllOf o x F = some z ∧ (z = 0 ∨ z = 1) ∧ (z = 1 ↔ ∀ s : Nat, fr ≤ (s : Int) → (s : Int) < to → t.1 s = x ∧ (x ≠ -1 → t.2.1 s = x)) := by
  obtain ⟨l1, l2, l3, l4, l5⟩ := clay ho
  obtain ⟨a, rfl⟩ := nat_of hf
  unfold fX0_isAllOf
  rw [h5]
  refine lp (fun n k (_ : Unit) => fX0_isAllOf_b5 F n o x (k : Int)) (if to < a then a else to.toNat) (fun k _ => a ≤ k ∧ ∀ s : Nat, a ≤ s → s < k → t.1 s = x ∧ (x ≠ -1 → t.2.1 s = x)) (fun r => ∃ z, r = some z ∧ (z = 0 ∨ z = 1) ∧ (z = 1 ↔ ∀ s : Nat, (a : Int) ≤ (s : Int) → (s : Int) < to → t.1 s = x ∧ (x ≠ -1 → t.2.1 s = x))) ?_ ?_ FU a () ?_ ⟨Nat.le_refl _, fun s h1 h2 => absurd h2 (by omega)⟩ ?_
  · rintro n k - hk ⟨h1, h2⟩
    have hk2 : (k : Int) < to := by split at hk <;> omega
    have bad : ¬ (t.1 k = x ∧ (x ≠ -1 → t.2.1 k = x)) → ∃ z, some (0 : Int) = some z ∧ (z = 0 ∨ z = 1) ∧ (z = 1 ↔ ∀ s : Nat, (a : Int) ≤ (s : Int) → (s : Int) < to → t.1 s = x ∧ (x ≠ -1 → t.2.1 s = x)) := fun hb => ⟨0, rfl, Or.inl rfl, fun z => absurd z (by decide), fun z => absurd (z k (by omega) hk2) hb⟩
    have E : fX0_isAllOf_b5 F (n + 1) o x (k : Int) = if t.1 k ≠ x then some 0 else if x = -1 then fX0_isAllOf_b5 F n o x ((k + 1 : Nat) : Int) else if t.2.1 k = x then fX0_isAllOf_b5 F n o x ((k + 1 : Nat) : Int) else some 0 := by
      have q1 := hX.1 k (by omega)
      rw [fX0_isAllOf_b5, h6, if_neg (by omega), l1, if_pos (by omega), l2, if_pos (c := 0 ≤ (k : Int) ∧ (k : Int) < ((336 : Nat) : Int)) (by omega), Int.toNat_natCast, q1.1, q1.2, xwS (by omega)]
    have next : (t.1 k = x ∧ (x ≠ -1 → t.2.1 k = x)) → ∀ s : Nat, a ≤ s → s < k + 1 → t.1 s = x ∧ (x ≠ -1 → t.2.1 s = x) := fun hg s y1 y2 => by
      by_cases y : s = k
      · subst y; exact hg
      · exact h2 s y1 (by omega)
    by_cases c1 : t.1 k = x
    · by_cases c2 : x = -1
      · left
        refine ⟨(), ⟨by omega, next ⟨c1, fun z => absurd c2 z⟩⟩, ?_⟩
        show fX0_isAllOf_b5 F (n + 1) o x (k : Int) = _
        rw [E, if_neg (by omega), if_pos c2]
      · by_cases c3 : t.2.1 k = x
        · left
          refine ⟨(), ⟨by omega, next ⟨c1, fun _ => c3⟩⟩, ?_⟩
          show fX0_isAllOf_b5 F (n + 1) o x (k : Int) = _
          rw [E, if_neg (by omega), if_neg c2, if_pos c3]
        · right
          show ∃ z, fX0_isAllOf_b5 F (n + 1) o x (k : Int) = some z ∧ _
          rw [E, if_neg (by omega), if_neg c2, if_neg c3]
          exact bad (fun z => c3 (z.2 c2))
    · right
      show ∃ z, fX0_isAllOf_b5 F (n + 1) o x (k : Int) = some z ∧ _
      rw [E, if_pos c1]
      exact bad (fun z => c1 z.1)
  · rintro n - ⟨h1, h2⟩
    generalize hN : (if to < (a : Int) then a else to.toNat) = N at h1 h2
    have hN2 : to ≤ (N : Int) := by split at hN <;> omega
    show ∃ z, fX0_isAllOf_b5 F (n + 1) o x (N : Int) = some z ∧ _
    rw [fX0_isAllOf_b5, h6, if_pos hN2]
    exact ⟨1, rfl, Or.inr rfl, fun _ s y1 y2 => h2 s (by omega) (by omega), fun _ => rfl⟩
  · split <;> omega
  · show _ < 100000 + a
    split <;> omega
end XL
