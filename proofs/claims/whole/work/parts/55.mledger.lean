/-! ===== ledgers, the reference ===== -/
def MG (g : Nat → Int) (F : Mem) : Prop := ∃ b : Nat, F 173 22 = (b : Int) ∧ b ≤ 1100 ∧ ∀ j, j < 181 → F 174 (b + j) = g j
theorem MG.mono {g : Nat → Int} {F F' : Mem} (h : MG g F) (h1 : F' 173 22 = F 173 22) (h2 : ∀ k, F' 174 k = F 174 k) : MG g F' := by
  obtain ⟨b, a1, a2, a3⟩ := h
  exact ⟨b, h1.trans a1, a2, fun j hj => (h2 _).trans (a3 j hj)⟩
/-- what a step of the reference on its ledger may touch -/
def kL (F F' : Mem) : Prop := ∀ q k, q < 178 ∨ 182 < q → F' q k = F q k
theorem kL.tr {F G H : Mem} (h1 : kL F G) (h2 : kL G H) : kL F H := fun q k h => (h2 q k h).trans (h1 q k h)
theorem MG.l {g : Nat → Int} {F F' : Mem} (h : MG g F) (h1 : kL F F') : MG g F' := h.mono (h1 _ _ (by omega)) (fun k => h1 _ _ (by omega))
theorem al5 : alen (173 + 5) = 336 := rfl
theorem al6 : alen (173 + 6) = 336 := rfl
theorem al7 : alen (173 + 7) = 8 := rfl
theorem al8 : alen (173 + 8) = 8 := rfl
theorem al9 : alen (173 + 9) = 30 := rfl
section ML
variable {F : Mem} {t : LSt} {g : Nat → Int}
theorem m_dd (hM : MG g F) {k i : Nat} {x y : Int} (hx : x = (k : Int)) (hy : y = (i : Int)) (hk : k < 30) (hi : i < 6) : fX10_deedOf 173 x y F = some (gD g k i) := by
  obtain ⟨b, a1, a2, a3⟩ := hM
  subst hx
  subst hy
  unfold fX10_deedOf
  rw [a1, al174]
  simp (disch := omega) only [xwn, if_pos]
  rw [show ((b : Int) + 1 + 6 * (k : Int) + (i : Int)).toNat = b + (1 + 6 * k + i) by omega, a3 _ (by omega)]
  rfl
theorem m_from (hM : MG g F) (hg : LO g) {k : Nat} {x : Int} (hx : x = (k : Int)) (hk : (k : Int) < g 0) : fX10_fromOf 173 x F = some (frD (gD g k)) := by
  have hd : DO (gD g k) := hg.2 k hk
  have gb := hg.1
  have h2 := hd.1 2 (by omega)
  have h3 := hd.1 3 (by omega)
  have h4 := hd.1 4 (by omega)
  unfold fX10_fromOf frD
  rw [m_dd hM (i := 0) (y := 0) hx rfl (by omega) (by omega), Option.bind_some, m_dd hM (i := 3) (y := 3) hx rfl (by omega) (by omega), m_dd hM (i := 4) (y := 4) hx rfl (by omega) (by omega), m_dd hM (i := 2) (y := 2) hx rfl (by omega) (by omega)]
  simp only [Option.bind_some]
  by_cases q : gD g k 0 = 0
  · rw [if_neg (by omega), if_pos q, xwn (x := 48 * gD g k 2) (by omega) (by omega), xwn (by omega) (by omega)]
  · rw [if_pos q, if_neg q, xwn (x := 48 * gD g k 3) (by omega) (by omega), xwn (by omega) (by omega)]
theorem m_to (hM : MG g F) (hg : LO g) {k : Nat} {x : Int} (hx : x = (k : Int)) (hk : (k : Int) < g 0) : fX10_toOf 173 x F = some (toD (gD g k)) := by
  have hd : DO (gD g k) := hg.2 k hk
  have gb := hg.1
  have h2 := hd.1 2 (by omega)
  have h3 := hd.1 3 (by omega)
  have h4 := hd.1 4 (by omega)
  have h5 := hd.1 5 (by omega)
  unfold fX10_toOf toD
  rw [m_dd hM (i := 0) (y := 0) hx rfl (by omega) (by omega), Option.bind_some, m_dd hM (i := 3) (y := 3) hx rfl (by omega) (by omega), m_dd hM (i := 4) (y := 4) hx rfl (by omega) (by omega), m_dd hM (i := 2) (y := 2) hx rfl (by omega) (by omega), m_dd hM (i := 5) (y := 5) hx rfl (by omega) (by omega)]
  simp only [Option.bind_some]
  by_cases q : gD g k 0 = 0
  · rw [if_neg (by omega), if_pos q, xwn (x := 48 * gD g k 2) (by omega) (by omega), xwn (by omega) (by omega)]
  · rw [if_pos q, if_neg q, xwn (x := 48 * gD g k 3) (by omega) (by omega), xwn (by omega) (by omega)]
theorem m_areOwn (hM : MG g F) (hg : LO g) (hX : XS 177 F t) {k : Nat} (hk : (k : Int) < g 0) (hb : 0 ≤ frD (gD g k) ∧ frD (gD g k) < toD (gD g k) ∧ toD (gD g k) ≤ 336) : ∃ z, fX10_areOwn 173 (k : Int) F = some z ∧ (z = 0 ∨ z = 1) ∧ (z = 1 ↔ ∀ s : Nat, inD (gD g k) s → t.1 s = gD g k 1 ∧ t.2.1 s = gD g k 1) := by
  have gb := hg.1
  unfold fX10_areOwn
  rw [m_from hM hg rfl hk, Option.bind_some]
  unfold inD
  have hT := m_to hM hg (x := (k : Int)) rfl hk
  have hD1 := m_dd hM (k := k) (i := 1) (x := (k : Int)) (y := 1) rfl rfl (by omega) (by omega)
  obtain ⟨a, ea⟩ := nat_of hb.1
  obtain ⟨b, eb⟩ := nat_of (show 0 ≤ toD (gD g k) by omega)
  rw [ea, eb] at hb ⊢
  rw [eb] at hT
  refine lp (fun n j (f : Int) => fX10_areOwn_b8 F n 173 (k : Int) f (j : Int)) b (fun j f => a ≤ j ∧ (f = 0 ∨ f = 1) ∧ (f = 1 ↔ ∀ s : Nat, a ≤ s → s < j → t.1 s = gD g k 1 ∧ t.2.1 s = gD g k 1)) (fun r => ∃ z, r = some z ∧ (z = 0 ∨ z = 1) ∧ (z = 1 ↔ ∀ s : Nat, (a : Int) ≤ (s : Int) ∧ (s : Int) < (b : Int) → t.1 s = gD g k 1 ∧ t.2.1 s = gD g k 1)) ?_ ?_ FU a 1 (by omega) ⟨Nat.le_refl _, Or.inr rfl, fun _ s h1 h2 => absurd h2 (by omega), fun _ => rfl⟩ (show b < 100000 + a by omega)
  · rintro n j f hj ⟨h0, h1, h2⟩
    left
    have q := hX.1 j (by omega)
    have E : fX10_areOwn_b8 F (n + 1) 173 (k : Int) f (j : Int) = fX10_areOwn_b8 F n 173 (k : Int) (if f = 0 then 0 else if t.1 j ≠ gD g k 1 then 0 else if t.2.1 j ≠ gD g k 1 then 0 else 1) ((j + 1 : Nat) : Int) := by
      rw [fX10_areOwn_b8, hT, Option.bind_some, if_neg (by omega), al5, al6, hD1, Option.bind_some, Option.bind_some, Int.toNat_natCast, q.1, q.2, xwS (by omega)]
      have bj : (0 : Int) ≤ (j : Int) ∧ (j : Int) < ((336 : Nat) : Int) := by omega
      simp only [if_pos bj]
      split
      · rfl
      · split
        · rfl
        · split <;> rfl
    refine ⟨_, ⟨by omega, ?_, ?_⟩, E⟩
    · split
      · exact Or.inl rfl
      · split
        · exact Or.inl rfl
        · split
          · exact Or.inl rfl
          · exact Or.inr rfl
    · by_cases c0 : f = 0
      · rw [if_pos c0]
        exact ⟨fun z => absurd z (by decide), fun z => absurd (h2.mpr (fun s y1 y2 => z s y1 (by omega))) (by omega)⟩
      · have f1 : f = 1 := by omega
        rw [if_neg c0]
        by_cases c1 : t.1 j = gD g k 1
        · rw [if_neg (by omega)]
          by_cases c2 : t.2.1 j = gD g k 1
          · rw [if_neg (by omega)]
            refine ⟨fun _ s y1 y2 => ?_, fun _ => rfl⟩
            by_cases y : s = j
            · subst y; exact ⟨c1, c2⟩
            · exact h2.mp f1 s y1 (by omega)
          · rw [if_pos c2]
            exact ⟨fun z => absurd z (by decide), fun z => absurd (z j h0 (by omega)).2 c2⟩
        · rw [if_pos c1]
          exact ⟨fun z => absurd z (by decide), fun z => absurd (z j h0 (by omega)).1 c1⟩
  · rintro n f ⟨h0, h1, h2⟩
    show ∃ z, fX10_areOwn_b8 F (n + 1) 173 (k : Int) f (b : Int) = some z ∧ _
    rw [fX10_areOwn_b8, hT, Option.bind_some, if_pos (by omega), if_pos h1]
    exact ⟨f, rfl, h1, fun z s y => h2.mp z s (by omega) (by omega), fun z => h2.mpr (fun s y1 y2 => z s (by omega))⟩
theorem m_areFree (hM : MG g F) (hg : LO g) (hX : XS 177 F t) {k : Nat} (hk : (k : Int) < g 0) (hb : 0 ≤ frD (gD g k) ∧ frD (gD g k) < toD (gD g k) ∧ toD (gD g k) ≤ 336) : ∃ z, fX10_areFree 173 (k : Int) F = some z ∧ (z = 0 ∨ z = 1) ∧ (z = 1 ↔ ∀ s : Nat, inD (gD g k) s → t.1 s = -1) := by
  have gb := hg.1
  unfold fX10_areFree
  rw [m_from hM hg rfl hk, Option.bind_some]
  unfold inD
  have hT := m_to hM hg (x := (k : Int)) rfl hk
  obtain ⟨a, ea⟩ := nat_of hb.1
  obtain ⟨b, eb⟩ := nat_of (show 0 ≤ toD (gD g k) by omega)
  rw [ea, eb] at hb ⊢
  rw [eb] at hT
  refine lp (fun n j (f : Int) => fX10_areFree_b8 F n 173 (k : Int) f (j : Int)) b (fun j f => a ≤ j ∧ (f = 0 ∨ f = 1) ∧ (f = 1 ↔ ∀ s : Nat, a ≤ s → s < j → t.1 s = -1)) (fun r => ∃ z, r = some z ∧ (z = 0 ∨ z = 1) ∧ (z = 1 ↔ ∀ s : Nat, (a : Int) ≤ (s : Int) ∧ (s : Int) < (b : Int) → t.1 s = -1)) ?_ ?_ FU a 1 (by omega) ⟨Nat.le_refl _, Or.inr rfl, fun _ s h1 h2 => absurd h2 (by omega), fun _ => rfl⟩ (show b < 100000 + a by omega)
  · rintro n j f hj ⟨h0, h1, h2⟩
    left
    have q := hX.1 j (by omega)
    have E : fX10_areFree_b8 F (n + 1) 173 (k : Int) f (j : Int) = fX10_areFree_b8 F n 173 (k : Int) (if f = 0 then 0 else if t.1 j ≠ -1 then 0 else 1) ((j + 1 : Nat) : Int) := by
      have bj : (0 : Int) ≤ (j : Int) ∧ (j : Int) < ((336 : Nat) : Int) := by omega
      rw [fX10_areFree_b8, hT, Option.bind_some, if_neg (by omega), al5, Int.toNat_natCast, q.1, xwS (by omega)]
      simp only [if_pos bj]
      split
      · rfl
      · split <;> rfl
    refine ⟨_, ⟨by omega, ?_, ?_⟩, E⟩
    · split
      · exact Or.inl rfl
      · split
        · exact Or.inl rfl
        · exact Or.inr rfl
    · by_cases c0 : f = 0
      · rw [if_pos c0]
        exact ⟨fun z => absurd z (by decide), fun z => absurd (h2.mpr (fun s y1 y2 => z s y1 (by omega))) (by omega)⟩
      · have f1 : f = 1 := by omega
        rw [if_neg c0]
        by_cases c1 : t.1 j = -1
        · rw [if_neg (by omega)]
          refine ⟨fun _ s y1 y2 => ?_, fun _ => rfl⟩
          by_cases y : s = j
          · subst y; exact c1
          · exact h2.mp f1 s y1 (by omega)
        · rw [if_pos c1]
          exact ⟨fun z => absurd z (by decide), fun z => absurd (z j h0 (by omega)) c1⟩
  · rintro n f ⟨h0, h1, h2⟩
    show ∃ z, fX10_areFree_b8 F (n + 1) 173 (k : Int) f (b : Int) = some z ∧ _
    rw [fX10_areFree_b8, hT, Option.bind_some, if_pos (by omega), if_pos h1]
    exact ⟨f, rfl, h1, fun z s y => h2.mp z s (by omega) (by omega), fun z => h2.mpr (fun s y1 y2 => z s (by omega))⟩
/-- whether a deed can be -/
theorem m_can (hM : MG g F) (hg : LO g) (hX : XS 177 F t) (ht : LI t) {k : Nat} (hk : (k : Int) < g 0) : ∃ z, fX10_can 173 (k : Int) F = some z ∧ (z = 0 ∨ z = 1) ∧ (z = 1 ↔ canD g k t) := by
  have gb := hg.1
  have hd : DO (gD g k) := hg.2 k hk
  have a0 := m_dd hM (k := k) (i := 0) (x := (k : Int)) (y := 0) rfl rfl (by omega) (by omega)
  have a1 := m_dd hM (k := k) (i := 1) (x := (k : Int)) (y := 1) rfl rfl (by omega) (by omega)
  have a2 := m_dd hM (k := k) (i := 2) (x := (k : Int)) (y := 2) rfl rfl (by omega) (by omega)
  unfold fX10_can
  rw [a0, Option.bind_some, a1, Option.bind_some]
  by_cases k3 : gD g k 0 = 3
  · have d1 := DO_3 hd k3
    rw [if_neg (by omega), canD_3 k3]
    by_cases q : (k : Int) ≤ gD g k 1
    · rw [if_pos q]
      exact ⟨0, rfl, Or.inl rfl, fun c => absurd c (by decide), fun c => absurd c.1 (by omega)⟩
    · obtain ⟨ka, ea⟩ := nat_of d1.1
      have c0 := m_dd hM (k := ka) (i := 0) (x := gD g k 1) (y := 0) ea rfl (by omega) (by omega)
      have et : (gD g k 1).toNat = ka := by omega
      rw [if_neg q, c0, Option.bind_some, et]
      by_cases q2 : gD g ka 0 = 2
      · have e9 : F (173 + 9) ka = t.2.2.2.2 ka := hX.2.2 ka (by omega)
        rw [if_neg (by omega), al9, if_pos (by omega), e9]
        rcases ht.2.2 ka (by omega) with y | y
        · rw [y, if_neg (by decide)]
          exact ⟨1, rfl, Or.inr rfl, fun _ => ⟨by omega, q2, rfl⟩, fun _ => rfl⟩
        · rw [y, if_pos (by decide)]
          exact ⟨0, rfl, Or.inl rfl, fun c => absurd c (by decide), fun c => absurd c.2.2 (by decide)⟩
      · rw [if_pos q2]
        exact ⟨0, rfl, Or.inl rfl, fun c => absurd c (by decide), fun c => absurd c.2.1 q2⟩
  · have d1 := DO_1 hd k3
    have e1 : F (173 + 8) (gD g k 1).toNat = t.2.2.2.1 (gD g k 1).toNat := (hX.2.1 _ (by omega)).2
    rw [if_pos k3, al8, if_pos (by omega), e1]
    by_cases q : t.2.2.2.1 (gD g k 1).toNat = 0
    · rw [if_neg (by omega)]
      have b73 : (gD g k 0 = 1 ∨ gD g k 0 = 2 ∨ gD g k 0 = 4) → fX10_can_b73 F 173 (k : Int) (gD g k 0) = if t.2.2.2.1 (gD g k 2).toNat = 0 then fX10_can_b89 F 173 (k : Int) (gD g k 0) else some 0 := by
        intro hq
        have d2 := DO_2 hd hq
        have e2 : F (173 + 8) (gD g k 2).toNat = t.2.2.2.1 (gD g k 2).toNat := (hX.2.1 _ (by omega)).2
        unfold fX10_can_b73
        rw [a2, Option.bind_some, al8, if_pos (by omega), e2]
      have b12 : (gD g k 0 = 1 ∨ gD g k 0 = 2) → ∃ z, (if t.2.2.2.1 (gD g k 2).toNat = 0 then fX10_can_b89 F 173 (k : Int) (gD g k 0) else some 0) = some z ∧ (z = 0 ∨ z = 1) ∧ (z = 1 ↔ canD g k t) := by
        intro k12
        have fb := frto_bd hd (Or.inr k12)
        obtain ⟨z, z1, z2, z3⟩ := m_areOwn hM hg hX hk fb
        rw [canD_12 k12]
        by_cases q2 : t.2.2.2.1 (gD g k 2).toNat = 0
        · unfold fX10_can_b89
          rw [if_pos q2, if_pos (by omega), if_neg (by omega), z1, Option.bind_some]
          rcases z2 with rfl | rfl
          · exact ⟨0, by rw [if_pos rfl], Or.inl rfl, fun c => absurd c (by decide), fun c => absurd (z3.mpr c.2.2) (by decide)⟩
          · exact ⟨1, by rw [if_neg (by decide)], Or.inr rfl, fun _ => ⟨q, q2, z3.mp rfl⟩, fun _ => rfl⟩
        · rw [if_neg q2]
          exact ⟨0, rfl, Or.inl rfl, fun c => absurd c (by decide), fun c => absurd c.2.1 q2⟩
      by_cases k1 : gD g k 0 = 1
      · rw [if_pos k1, b73 (Or.inl k1)]; exact b12 (Or.inl k1)
      · rw [if_neg k1]
        by_cases k2 : gD g k 0 = 2
        · rw [if_pos k2, b73 (Or.inr (Or.inl k2))]; exact b12 (Or.inr k2)
        · rw [if_neg k2]
          by_cases k4 : gD g k 0 = 4
          · rw [if_neg (by omega), b73 (Or.inr (Or.inr k4)), canD_4 k4]
            by_cases q2 : t.2.2.2.1 (gD g k 2).toNat = 0
            · unfold fX10_can_b89
              rw [if_pos q2, if_pos (by omega), if_pos (by omega)]
              exact ⟨1, rfl, Or.inr rfl, fun _ => ⟨q, q2⟩, fun _ => rfl⟩
            · rw [if_neg q2]
              exact ⟨0, rfl, Or.inl rfl, fun c => absurd c (by decide), fun c => absurd c.2 q2⟩
          · rw [if_pos k4]
            unfold fX10_can_b89
            by_cases k0 : gD g k 0 = 0
            · have fb := frto_bd hd (Or.inl k0)
              obtain ⟨z, z1, z2, z3⟩ := m_areFree hM hg hX hk fb
              rw [if_neg (by omega), z1, Option.bind_some, if_pos z2, canD_0 k0]
              exact ⟨z, rfl, z2, fun c => ⟨q, z3.mp c⟩, fun c => z3.mpr c.2⟩
            · have k5 : gD g k 0 = 5 := by have := DO_k hd; omega
              rw [if_pos k0, if_pos (by omega), canD_5 k5]
              exact ⟨1, rfl, Or.inr rfl, fun _ => q, fun _ => rfl⟩
    · rw [if_pos q]
      refine ⟨0, rfl, Or.inl rfl, fun c => absurd c (by decide), fun c => ?_⟩
      rcases c with c | c
      · exact absurd c.1 k3
      · exact absurd c.2.1 q
end ML
