section XD
variable {o : Nat} {F : Mem} {t : LSt} {g : Nat → Int} {s : Nat}
theorem sc_bd (hS : SR 6 30 g F s) (hg : LO g) (x y : Int) : ∃ z, fX3_cell s x y F = some z ∧ -1 ≤ z ∧ z ≤ 48 := by
  rw [s_cellA hS (by decide)]
  refine ⟨_, rfl, ?_⟩
  by_cases h : 0 ≤ x ∧ x < g 0 ∧ 0 ≤ y ∧ y < (6 : Nat)
  · rw [if_pos h]
    exact (hg.2 x.toNat (by omega)).1 y.toNat (by omega)
  · rw [if_neg h]; omega
theorem sc_at (hS : SR 6 30 g F s) {k i : Nat} {x y : Int} (hx : x = (k : Int)) (hy : y = (i : Int)) (hk : (k : Int) < g 0) (hi : i < 6) : fX3_cell s x y F = some (gD g k i) := s_cell hS (by decide) hx hy hk hi
/-- what findSlots leaves -/
theorem x_findSlots (hS : SR 6 30 g F s) (hg : LO g) (hs : s ≠ 0) (hos : s + 1 < o ∨ o + 5 < s) (x : Int) : ∃ F', fX0_findSlots o s x F = some F' ∧ (0 ≤ F' o 5 ∧ F' o 5 ≤ 2400) ∧ (-49 ≤ F' o 6 ∧ F' o 6 ≤ 336) ∧ (∀ q k, ¬ (q = o ∧ (k = 5 ∨ k = 6)) → F' q k = F q k) ∧ (∀ k : Nat, x = (k : Int) → (k : Int) < g 0 → (gD g k 0 = 0 ∨ gD g k 0 = 1 ∨ gD g k 0 = 2) → F' o 5 = frD (gD g k) ∧ F' o 6 = toD (gD g k)) := by
  have body : ∀ i : Int, (i = 2 ∨ i = 3) → ∃ F' r2 r5 r8, fX0_findSlots_b14 o s x i F = some F' ∧ fX3_cell s x i F = some r2 ∧ fX3_cell s x (i + 1) F = some r5 ∧ fX3_cell s x (i + 2) F = some r8 ∧ F' = mset (mset F o 5 (xmax 0 (r2 * 48 + r5))) o 6 (xmin 336 (r2 * 48 + r8)) ∧ (-1 ≤ r2 ∧ r2 ≤ 48) ∧ (-1 ≤ r5 ∧ r5 ≤ 48) ∧ (-1 ≤ r8 ∧ r8 ≤ 48) := by
    intro i hi
    obtain ⟨r2, c1, c2, c3⟩ := sc_bd hS hg x i
    obtain ⟨r5, d1, d2, d3⟩ := sc_bd hS hg x (i + 1)
    obtain ⟨r8, e1, e2, e3⟩ := sc_bd hS hg x (i + 2)
    refine ⟨_, r2, r5, r8, ?_, c1, d1, e1, rfl, ⟨c2, c3⟩, ⟨d2, d3⟩, ⟨e2, e3⟩⟩
    unfold fX0_findSlots_b14
    rw [if_neg hs, c1, Option.bind_some, if_neg hs, xwn (x := i + 1) (by omega) (by omega), d1, Option.bind_some, if_neg hs, xwn (x := i + 2) (by omega) (by omega), xwn (x := r2 * 48) (by omega) (by omega), xwn (x := r2 * 48 + r5) (by omega) (by omega)]
    have e4 : fX3_cell s x (i + 2) (mset F o 5 (xmax 0 (r2 * 48 + r5))) = fX3_cell s x (i + 2) F := by
      have hS2 : SR 6 30 g (mset F o 5 (xmax 0 (r2 * 48 + r5))) s := hS.mono (fun q k q1 q2 => mset_ne _ _ (by omega))
      rw [s_cellA hS2 (by decide), s_cellA hS (by decide)]
    rw [e4, e1, Option.bind_some, xwn (x := r2 * 48 + r8) (by omega) (by omega)]
  obtain ⟨r0, z1, z2, z3⟩ := sc_bd hS hg x 0
  have fin : ∀ (i : Int), (i = 2 ∨ i = 3) → fX0_findSlots o s x F = fX0_findSlots_b14 o s x i F → (∀ k : Nat, x = (k : Int) → (k : Int) < g 0 → (gD g k 0 = 0 ∧ i = 2) ∨ (gD g k 0 ≠ 0 ∧ i = 3)) → ∃ F', fX0_findSlots o s x F = some F' ∧ (0 ≤ F' o 5 ∧ F' o 5 ≤ 2400) ∧ (-49 ≤ F' o 6 ∧ F' o 6 ≤ 336) ∧ (∀ q k, ¬ (q = o ∧ (k = 5 ∨ k = 6)) → F' q k = F q k) ∧ (∀ k : Nat, x = (k : Int) → (k : Int) < g 0 → (gD g k 0 = 0 ∨ gD g k 0 = 1 ∨ gD g k 0 = 2) → F' o 5 = frD (gD g k) ∧ F' o 6 = toD (gD g k)) := by
    intro i hi hE hk
    obtain ⟨F', r2, r5, r8, b1, b2, b3, b4, b5, b6, b7, b8⟩ := body i hi
    have f5 : F' o 5 = xmax 0 (r2 * 48 + r5) := by rw [b5, mset_ne _ _ (by omega), mset_eq]
    have f6 : F' o 6 = xmin 336 (r2 * 48 + r8) := by rw [b5, mset_eq]
    refine ⟨F', hE.trans b1, ?_, ?_, fun q k hq => ?_, fun k ek hk0 hkind => ?_⟩
    · rw [f5]; unfold xmax; split <;> omega
    · rw [f6]; unfold xmin; split <;> omega
    · rw [b5, mset_ne _ _ (by omega), mset_ne _ _ (by omega)]
    · have hd : DO (gD g k) := hg.2 k hk0
      have hb := frto_bd hd hkind
      have m1 : max 0 (frD (gD g k)) = frD (gD g k) := by omega
      rcases hk k ek hk0 with ⟨y1, rfl⟩ | ⟨y1, rfl⟩
      · have a2 := sc_at hS (k := k) (i := 2) (x := x) (y := 2) ek rfl hk0 (by omega)
        have a3 := sc_at hS (k := k) (i := 3) (x := x) (y := 2 + 1) ek rfl hk0 (by omega)
        have a4 := sc_at hS (k := k) (i := 4) (x := x) (y := 2 + 2) ek rfl hk0 (by omega)
        have e2 : r2 = gD g k 2 := Option.some.inj (b2.symm.trans a2)
        have e5 : r5 = gD g k 3 := Option.some.inj (b3.symm.trans a3)
        have e8 : r8 = gD g k 4 := Option.some.inj (b4.symm.trans a4)
        have q1 : frD (gD g k) = 48 * gD g k 2 + gD g k 3 := if_pos y1
        have q2 : toD (gD g k) = 48 * gD g k 2 + gD g k 4 := if_pos y1
        rw [f5, f6, e2, e5, e8]
        unfold xmax xmin
        constructor
        · split <;> omega
        · split <;> omega
      · have a2 := sc_at hS (k := k) (i := 3) (x := x) (y := 3) ek rfl hk0 (by omega)
        have a3 := sc_at hS (k := k) (i := 4) (x := x) (y := 3 + 1) ek rfl hk0 (by omega)
        have a4 := sc_at hS (k := k) (i := 5) (x := x) (y := 3 + 2) ek rfl hk0 (by omega)
        have e2 : r2 = gD g k 3 := Option.some.inj (b2.symm.trans a2)
        have e5 : r5 = gD g k 4 := Option.some.inj (b3.symm.trans a3)
        have e8 : r8 = gD g k 5 := Option.some.inj (b4.symm.trans a4)
        have q1 : frD (gD g k) = 48 * gD g k 3 + gD g k 4 := if_neg y1
        have q2 : toD (gD g k) = 48 * gD g k 3 + gD g k 5 := if_neg y1
        rw [f5, f6, e2, e5, e8]
        unfold xmax xmin
        constructor
        · split <;> omega
        · split <;> omega
  by_cases q : r0 = 0
  · refine fin 2 (Or.inl rfl) ?_ (fun k ek hk0 => ?_)
    · unfold fX0_findSlots
      rw [if_neg hs, z1, Option.bind_some, if_neg (by omega)]
    · have a0 := sc_at hS (k := k) (i := 0) (x := x) (y := 0) ek rfl hk0 (by omega)
      have : r0 = gD g k 0 := Option.some.inj (z1.symm.trans a0)
      exact Or.inl ⟨by omega, rfl⟩
  · refine fin 3 (Or.inr rfl) ?_ (fun k ek hk0 => ?_)
    · unfold fX0_findSlots
      rw [if_neg hs, z1, Option.bind_some, if_pos q]
    · have a0 := sc_at hS (k := k) (i := 0) (x := x) (y := 0) ek rfl hk0 (by omega)
      have : r0 = gD g k 0 := Option.some.inj (z1.symm.trans a0)
      exact Or.inr ⟨by omega, rfl⟩
/-- whether a deed can be -/
theorem x_canBe (ho : isK o 0) (hX : XS o F t) (hS : SR 6 30 g F s) (hg : LO g) (hs : s ≠ 0) {k : Nat} (hk : (k : Int) < g 0) (hF : gD g k 0 = 0 ∨ gD g k 0 = 1 ∨ gD g k 0 = 2 → F o 5 = frD (gD g k) ∧ F o 6 = toD (gD g k)) (ht : LI t) : ∃ z, fX0_canBe o s (k : Int) F = some z ∧ (z = 0 ∨ z = 1) ∧ (z = 1 ↔ canD g k t) := by
  obtain ⟨l1, l2, l3, l4, l5⟩ := clay ho
  have hd : DO (gD g k) := hg.2 k hk
  have a0 := sc_at hS (k := k) (i := 0) (x := (k : Int)) (y := 0) rfl rfl hk (by omega)
  have a1 := sc_at hS (k := k) (i := 1) (x := (k : Int)) (y := 1) rfl rfl hk (by omega)
  have a2 := sc_at hS (k := k) (i := 2) (x := (k : Int)) (y := 2) rfl rfl hk (by omega)
  unfold fX0_canBe
  simp only [if_neg hs, a0, a1, a2, Option.bind_some]
  have L : ∀ {x : Int}, (0 ≤ x ∧ x ≤ 7) → fX0_lives o x F = some (if t.2.2.2.1 x.toNat = 0 then 1 else 0) := fun hx => x_lives ho hX hx
  by_cases k0 : gD g k 0 = 0
  · simp only [if_pos k0]
    have fb := frto_bd hd (Or.inl k0)
    obtain ⟨f5, f6⟩ := hF (Or.inl k0)
    obtain ⟨z, z1, z2, z3⟩ := x_allOf ho hX (-1) f5 f6 (by omega) (by omega) (by omega)
    rw [L (DO_1 hd (by omega)), Option.bind_some, i10, z1, Option.bind_some, canD_0 k0]
    by_cases q : t.2.2.2.1 (gD g k 1).toNat = 0
    · rw [if_pos q]
      rcases z2 with rfl | rfl
      · exact ⟨0, by rw [if_pos rfl], Or.inl rfl, fun c => absurd c (by decide), fun c => absurd (z3.mpr (fun s h1 h2 => ⟨c.2 s ⟨h1, h2⟩, fun y => absurd rfl y⟩)) (by decide)⟩
      · exact ⟨1, by rw [if_neg (by decide)], Or.inr rfl, fun _ => ⟨q, fun s hs => (z3.mp rfl s hs.1 hs.2).1⟩, fun _ => rfl⟩
    · rw [if_neg q]
      exact ⟨0, rfl, Or.inl rfl, fun c => absurd c (by decide), fun c => absurd c.1 q⟩
  · simp only [if_neg k0]
    have sp : (gD g k 0 = 1 ∨ gD g k 0 = 2) → ∃ z, fX0_canBe_b82 F o (gD g k 1) (gD g k 2) = some z ∧ (z = 0 ∨ z = 1) ∧ (z = 1 ↔ canD g k t) := by
      intro k12
      have fb := frto_bd hd (Or.inr k12)
      obtain ⟨f5, f6⟩ := hF (Or.inr k12)
      have d1 := DO_1 hd (by omega)
      obtain ⟨z, z1, z2, z3⟩ := x_allOf ho hX (gD g k 1) f5 f6 (by omega) (by omega) (by omega)
      unfold fX0_canBe_b82
      rw [L d1, Option.bind_some, i10, L (DO_2 hd (by omega)), Option.bind_some, i10, z1, Option.bind_some, canD_12 k12]
      by_cases q : t.2.2.2.1 (gD g k 1).toNat = 0
      · rw [if_pos q]
        by_cases q2 : t.2.2.2.1 (gD g k 2).toNat = 0
        · rw [if_pos q2]
          rcases z2 with rfl | rfl
          · exact ⟨0, by rw [if_pos rfl], Or.inl rfl, fun c => absurd c (by decide), fun c => absurd (z3.mpr (fun s h1 h2 => ⟨(c.2.2 s ⟨h1, h2⟩).1, fun _ => (c.2.2 s ⟨h1, h2⟩).2⟩)) (by decide)⟩
          · exact ⟨1, by rw [if_neg (by decide)], Or.inr rfl, fun _ => ⟨q, q2, fun s hs => ⟨(z3.mp rfl s hs.1 hs.2).1, (z3.mp rfl s hs.1 hs.2).2 (by omega)⟩⟩, fun _ => rfl⟩
        · rw [if_neg q2]
          exact ⟨0, rfl, Or.inl rfl, fun c => absurd c (by decide), fun c => absurd c.2.1 q2⟩
      · rw [if_neg q]
        exact ⟨0, rfl, Or.inl rfl, fun c => absurd c (by decide), fun c => absurd c.1 q⟩
    by_cases k1 : gD g k 0 = 1
    · simp only [if_pos k1]; exact sp (Or.inl k1)
    · simp only [if_neg k1]
      by_cases k2 : gD g k 0 = 2
      · simp only [if_pos k2]; exact sp (Or.inr k2)
      · simp only [if_neg k2]
        by_cases k3 : gD g k 0 = 3
        · simp only [if_pos k3]
          have d1 := DO_3 hd k3
          have n1 : ¬ gD g k 1 < 0 := by omega
          have n2 : ¬ 30 ≤ gD g k 1 := by omega
          have gb := hg.1
          rw [if_neg n1, canD_3 k3]
          by_cases q : (k : Int) ≤ gD g k 1
          · rw [if_pos q]
            exact ⟨0, rfl, Or.inl rfl, fun c => absurd c (by decide), fun c => absurd c.1 (by omega)⟩
          · obtain ⟨ka, ea⟩ := nat_of d1.1
            have c0 := sc_at hS (k := ka) (i := 0) (x := gD g k 1) (y := 0) ea rfl (by omega) (by omega)
            have et : (gD g k 1).toNat = ka := by omega
            rw [if_neg q, if_neg n2, c0, Option.bind_some, et]
            by_cases q2 : gD g ka 0 = 2
            · rw [if_neg (by omega), l5, if_pos (by omega), hX.2.2 ka (by omega)]
              rcases ht.2.2 ka (by omega) with y | y
              · rw [y, if_neg (by decide)]
                exact ⟨1, rfl, Or.inr rfl, fun _ => ⟨by omega, q2, rfl⟩, fun _ => rfl⟩
              · rw [y, if_pos (by decide)]
                exact ⟨0, rfl, Or.inl rfl, fun c => absurd c (by decide), fun c => absurd c.2.2 (by decide)⟩
            · rw [if_pos q2]
              exact ⟨0, rfl, Or.inl rfl, fun c => absurd c (by decide), fun c => absurd c.2.1 q2⟩
        · simp only [if_neg k3]
          have d1 := DO_1 hd k3
          by_cases k4 : gD g k 0 = 4
          · simp only [if_pos k4]
            rw [L d1, Option.bind_some, i10, L (DO_2 hd (by omega)), Option.bind_some, i10, canD_4 k4]
            by_cases q : t.2.2.2.1 (gD g k 1).toNat = 0
            · rw [if_pos q]
              by_cases q2 : t.2.2.2.1 (gD g k 2).toNat = 0
              · rw [if_pos q2]
                exact ⟨1, rfl, Or.inr rfl, fun _ => ⟨q, q2⟩, fun _ => rfl⟩
              · rw [if_neg q2]
                exact ⟨0, rfl, Or.inl rfl, fun c => absurd c (by decide), fun c => absurd c.2 q2⟩
            · rw [if_neg q]
              exact ⟨0, rfl, Or.inl rfl, fun c => absurd c (by decide), fun c => absurd c.1 q⟩
          · have k5 : gD g k 0 = 5 := by have := DO_k hd; omega
            simp only [if_neg k4, if_pos k5]
            rw [L d1, Option.bind_some, if_pos b01, canD_5 k5]
            by_cases q : t.2.2.2.1 (gD g k 1).toNat = 0
            · rw [if_pos q]
              exact ⟨1, rfl, Or.inr rfl, fun _ => q, fun _ => rfl⟩
            · rw [if_neg q]
              exact ⟨0, rfl, Or.inl rfl, fun c => absurd c (by decide), fun c => absurd c q⟩
/-! doing -/
theorem x_handOver (ho : isK o 0) (hX : XS o F t) (x ow : Int) {fr to : Int} (h5 : F o 5 = fr) (h6 : F o 6 = to) (hf : 0 ≤ fr) (hft : fr ≤ to) (ht : to ≤ 336) : ∃ F', fX0_handOver o x ow F = some F' ∧ XS o F' ((if ow = 0 then t.1 else fillR fr to x t.1), fillR fr to x t.2.1, t.2.2) ∧ kC o F F' := by
  obtain ⟨l1, l2, l3, l4, l5⟩ := clay ho
  obtain ⟨a, rfl⟩ := nat_of hf
  obtain ⟨b, rfl⟩ := nat_of (Int.le_trans hf hft)
  unfold fX0_handOver
  rw [h5]
  refine lp (fun n k (G : Mem) => fX0_handOver_b5 n o x ow (k : Int) G) b
    (fun k G => a ≤ k ∧ (∀ s, s < 336 → G (o + 1) s = (if ow = 0 then t.1 s else if a ≤ s ∧ s < k then x else t.1 s) ∧ G (o + 2) s = (if a ≤ s ∧ s < k then x else t.2.1 s)) ∧ (∀ q j, q ≠ o + 1 → q ≠ o + 2 → G q j = F q j))
    (fun r => ∃ F', r = some F' ∧ XS o F' ((if ow = 0 then t.1 else fillR (a : Int) (b : Int) x t.1), fillR (a : Int) (b : Int) x t.2.1, t.2.2) ∧ kC o F F') ?_ ?_ FU a F (by omega) ⟨Nat.le_refl _, fun s hs => ?_, fun _ _ _ _ => rfl⟩ (show b < 100000 + a by omega)
  · rintro n k G hk ⟨h0, h1, h2⟩
    left
    have e6 : G o 6 = (b : Int) := (h2 _ _ (by omega) (by omega)).trans h6
    refine ⟨if ow = 0 then mset G (o + 2) k x else mset (mset G (o + 2) k x) (o + 1) k x, ⟨by omega, fun s hs => ?_, fun q j hq hq2 => ?_⟩, ?_⟩
    · have q1 := h1 s hs
      by_cases c : ow = 0
      · simp only [if_pos c] at q1 ⊢
        by_cases y : s = k
        · subst y
          rw [mset_eq, mset_ne _ _ (by omega), if_pos (c := a ≤ s ∧ _) (by omega)]
          exact ⟨q1.1, rfl⟩
        · rw [mset_ne _ _ (by omega), mset_ne _ _ (by omega), q1.1, q1.2]
          refine ⟨rfl, ?_⟩
          by_cases y2 : a ≤ s ∧ s < k
          · rw [if_pos y2, if_pos (by omega)]
          · rw [if_neg y2, if_neg (by omega)]
      · simp only [if_neg c] at q1 ⊢
        by_cases y : s = k
        · subst y
          rw [mset_eq, mset_ne _ _ (by omega), mset_eq, if_pos (c := a ≤ s ∧ _) (by omega), if_pos (c := a ≤ s ∧ _) (by omega)]
          exact ⟨rfl, rfl⟩
        · rw [mset_ne _ _ (by omega), mset_ne _ _ (by omega), mset_ne _ _ (by omega), mset_ne _ _ (by omega), q1.1, q1.2]
          by_cases y2 : a ≤ s ∧ s < k
          · rw [if_pos y2, if_pos y2, if_pos (c := a ≤ s ∧ s < k + 1) (by omega), if_pos (c := a ≤ s ∧ s < k + 1) (by omega)]
            exact ⟨rfl, rfl⟩
          · rw [if_neg y2, if_neg y2, if_neg (c := a ≤ s ∧ s < k + 1) (by omega), if_neg (c := a ≤ s ∧ s < k + 1) (by omega)]
            exact ⟨rfl, rfl⟩
    · by_cases c : ow = 0
      · rw [if_pos c, mset_ne _ _ (by omega)]; exact h2 q j hq hq2
      · rw [if_neg c, mset_ne _ _ (by omega), mset_ne _ _ (by omega)]; exact h2 q j hq hq2
    · show fX0_handOver_b5 (n + 1) o x ow (k : Int) G = fX0_handOver_b5 n o x ow ((k + 1 : Nat) : Int) _
      rw [fX0_handOver_b5, e6, if_neg (by omega), l2, if_pos (by omega), l1, if_pos (c := 0 ≤ (k : Int) ∧ (k : Int) < ((336 : Nat) : Int)) (by omega), xwS (by omega), Int.toNat_natCast]
      split <;> rfl
  · rintro n G ⟨h0, h1, h2⟩
    have e6 : G o 6 = (b : Int) := (h2 _ _ (by omega) (by omega)).trans h6
    refine ⟨G, ?_, ⟨fun s hs => ?_, fun h hh => ?_, fun j hj => ?_⟩, fun q j hq => h2 q j (by omega) (by omega)⟩
    · show fX0_handOver_b5 (n + 1) o x ow (b : Int) G = some G
      rw [fX0_handOver_b5, e6, if_pos (by omega)]
    · have q1 := h1 s hs
      refine ⟨q1.1.trans ?_, q1.2.trans ?_⟩
      · by_cases c : ow = 0
        · simp only [if_pos c]
        · simp only [if_neg c]
          dsimp only [fillR]
          by_cases y2 : a ≤ s ∧ s < b
          · rw [if_pos y2, if_pos (by omega)]
          · rw [if_neg y2, if_neg (by omega)]
      · dsimp only [fillR]
        by_cases y2 : a ≤ s ∧ s < b
        · rw [if_pos y2, if_pos (by omega)]
        · rw [if_neg y2, if_neg (by omega)]
    · rw [h2 _ _ (by omega) (by omega), h2 _ _ (by omega) (by omega)]; exact hX.2.1 h hh
    · rw [h2 _ _ (by omega) (by omega)]; exact hX.2.2 j hj
  · rw [if_neg (c := a ≤ s ∧ s < a) (by omega)]
    refine ⟨(hX.1 s hs).1.trans ?_, (hX.1 s hs).2.trans ?_⟩
    · split <;> rfl
    · rw [if_neg (by omega)]
end XD
