/-! ===== states of ledgers ===== -/
def stOK (A : Nat → Int) (l n : Int) (t : LSt) : Prop := (l = -1 ∧ n = 0 ∧ t = stL (fun _ => 0) 0) ∨ (l ≠ -1 ∧ (0 ≤ l ∧ l < A 2) ∧ 0 ≤ n ∧ isStopL (gOf A l.toNat) n n.toNat ∧ t = stL (gOf A l.toNat) n.toNat)
theorem stOK_LI {A : Nat → Int} (hA : AO A) {l n : Int} {t : LSt} (h : stOK A l n t) : LI t := by
  rcases h with ⟨-, -, rfl⟩ | ⟨-, h1, h2, h3, rfl⟩
  · exact stL_LI (g := fun _ => 0) ⟨⟨Int.le_refl _, by decide⟩, fun k hk => absurd (show (k : Int) < 0 from hk) (by omega)⟩ 0 (by decide) (fun j hj => absurd hj (by omega))
  · have := hA.2.2.1
    exact stL_LI (hA.2.2.2.2.2.2.2.2.1 l.toNat (by omega)) n.toNat h3.1.2 h3.2.1
theorem k48 : isK 48 0 := rfl
theorem k54 : isK 54 0 := rfl
theorem x_state {F : Mem} (hA : AO (F 174)) (hT : TR (F 174) F 2) (l n : Int) : ∃ F1 z, fX9_isState 1 l n F = some (z, F1) ∧ kC 48 F F1 ∧ (z = 0 ∨ z = 1) ∧ (z = 1 → ∃ t, stOK (F 174) l n t ∧ XS 48 F1 t) ∧ (z = 0 → ¬ ∃ t, stOK (F 174) l n t) := by
  unfold fX9_isState
  by_cases hl : l = -1
  · obtain ⟨F1, c1, c2, c3⟩ := x_clear k48 F (fun _ => 0)
    rw [if_neg (by omega)]
    simp only [Nat.reduceAdd]
    rw [c1, Option.bind_some]
    by_cases hn : n = 0
    · rw [if_neg (by omega)]
      exact ⟨F1, 1, rfl, c3, Or.inr rfl, fun _ => ⟨_, Or.inl ⟨hl, hn, rfl⟩, c2⟩, fun h => absurd h (by decide)⟩
    · rw [if_pos hn]
      refine ⟨F1, 0, rfl, c3, Or.inl rfl, fun h => absurd h (by decide), fun _ => ?_⟩
      rintro ⟨t, ⟨-, h, -⟩ | ⟨h, -⟩⟩
      · exact hn h
      · exact h hl
  · rw [if_pos hl]
    simp only [Nat.reduceAdd]
    rw [t_sheet hA hT (s := 2) (x := 2) (by omega) (by omega) l rfl, Option.bind_some]
    by_cases h : 0 ≤ l ∧ l < F 174 2
    · have h2 := hA.2.2.1
      have e : shO 2 2 l.toNat = 2 + 12 + 9 * l.toNat := rfl
      have n0 : ¬ 2 + 12 + 9 * l.toNat = 0 := by omega
      rw [if_pos h, e, if_neg n0]
      by_cases hn : n < 0
      · rw [if_pos hn]
        refine ⟨F, 0, rfl, fun _ _ _ => rfl, Or.inl rfl, fun h => absurd h (by decide), fun _ => ?_⟩
        rintro ⟨t, ⟨h, -⟩ | ⟨-, -, h, -⟩⟩
        · exact hl h
        · omega
      · have hS := hT.2.2.2.2.2.2.2.1 l.toNat (by omega)
        have hg := hA.2.2.2.2.2.2.2.2.1 l.toNat (by omega)
        obtain ⟨F1, q, r1, r2, r3, r4⟩ := x_replay k48 hS hg n0 (by omega) (m := n) (by omega)
        rw [if_neg hn, r1, Option.bind_some]
        dsimp only
        by_cases hq : (q : Int) = n
        · rw [if_neg (by omega)]
          have eq : q = n.toNat := by omega
          subst eq
          exact ⟨F1, 1, rfl, r4, Or.inr rfl, fun _ => ⟨_, Or.inr ⟨hl, h, by omega, r2, rfl⟩, r3⟩, fun h => absurd h (by decide)⟩
        · rw [if_pos hq]
          refine ⟨F1, 0, rfl, r4, Or.inl rfl, fun h => absurd h (by decide), fun _ => ?_⟩
          rintro ⟨t, ⟨h, -⟩ | ⟨-, -, h3, h4, -⟩⟩
          · exact hl h
          · have := stopL_uniq r2 h4
            omega
    · rw [if_neg h, if_pos rfl]
      refine ⟨F, 0, rfl, fun _ _ _ => rfl, Or.inl rfl, fun h => absurd h (by decide), fun _ => ?_⟩
      rintro ⟨t, ⟨h5, -⟩ | ⟨-, h5, -⟩⟩
      · exact hl h5
      · exact h h5
/-- what the reference's state may touch -/
def kS (F F' : Mem) : Prop := ∀ q k, ¬ (q = 173 ∧ (k = 22 ∨ k = 23)) → (q < 178 ∨ 182 < q) → F' q k = F q k
theorem kS.m {F F' : Mem} (h : kS F F') : kM F F' := ⟨fun o k ho => h o k (by omega) (by omega), h _ _ (by omega) (by omega), h _ _ (by omega) (by omega), h _ _ (by omega) (by omega)⟩
theorem m_state {F : Mem} (hA : AO (F 174)) (l n : Int) : ∃ F1 z, fX10_isState 173 l n F = some (z, F1) ∧ kS F F1 ∧ (z = 0 ∨ z = 1) ∧ (z = 1 → ∃ t, stOK (F 174) l n t ∧ XS 177 F1 t) ∧ (z = 0 → ¬ ∃ t, stOK (F 174) l n t) := by
  unfold fX10_isState
  by_cases hn : n < 0
  · rw [if_pos hn]
    refine ⟨F, 0, rfl, fun _ _ _ _ => rfl, Or.inl rfl, fun h => absurd h (by decide), fun _ => ?_⟩
    rintro ⟨t, ⟨-, h, -⟩ | ⟨-, -, h, -⟩⟩
    · omega
    · omega
  · rw [if_neg hn]
    unfold fX10_isState_b20
    by_cases hl : l = -1
    · obtain ⟨F1, c1, c2, c3, c4⟩ := m_begins F (fun _ => 0)
      have e : fX10_goesBy 173 l n F = some F1 := by
        unfold fX10_goesBy
        rw [c1, Option.bind_some, if_neg (by omega)]
      rw [if_pos hl, e, Option.bind_some, c3]
      have kk : kS F F1 := fun q k h1 h2 => c4 q k (by omega) h2
      by_cases h0 : n = 0
      · rw [if_neg (by omega)]
        exact ⟨F1, 1, rfl, kk, Or.inr rfl, fun _ => ⟨_, Or.inl ⟨hl, h0, rfl⟩, c2⟩, fun h => absurd h (by decide)⟩
      · rw [if_pos (by omega)]
        refine ⟨F1, 0, rfl, kk, Or.inl rfl, fun h => absurd h (by decide), fun _ => ?_⟩
        rintro ⟨t, ⟨-, h, -⟩ | ⟨h, -⟩⟩
        · exact h0 h
        · exact h hl
    · rw [if_neg hl, m_isOf hA (s := 2) (x := 2) (by omega) l rfl, Option.bind_some, i11]
      by_cases h : 0 ≤ l ∧ l < F 174 2
      · obtain ⟨i, rfl⟩ := nat_of h.1
        obtain ⟨F1, q, r1, r2, r3, r4, r5⟩ := m_goesBy hA (i := i) h.2 (m := n) (by omega)
        rw [if_pos h, r1, Option.bind_some, r3]
        by_cases hq : (q : Int) = n
        · rw [if_neg (by omega)]
          have eq : q = n.toNat := by omega
          subst eq
          exact ⟨F1, 1, rfl, r5, Or.inr rfl, fun _ => ⟨_, Or.inr ⟨hl, h, by omega, by rw [Int.toNat_natCast]; exact r2, rfl⟩, by rw [Int.toNat_natCast]; exact r4⟩, fun h => absurd h (by decide)⟩
        · rw [if_pos hq]
          refine ⟨F1, 0, rfl, r5, Or.inl rfl, fun h => absurd h (by decide), fun _ => ?_⟩
          rintro ⟨t, ⟨h, -⟩ | ⟨-, -, h3, h4, -⟩⟩
          · exact hl h
          · rw [Int.toNat_natCast] at h4
            have := stopL_uniq r2 h4
            omega
      · rw [if_neg h]
        refine ⟨F, 0, rfl, fun _ _ _ _ => rfl, Or.inl rfl, fun h => absurd h (by decide), fun _ => ?_⟩
        rintro ⟨t, ⟨h5, -⟩ | ⟨-, h5, -⟩⟩
        · exact hl h5
        · exact h h5
theorem kC.x {F F1 : Mem} (h : kC 48 F F1) : kX F F1 := fun o k ho => h o k (by omega)
theorem stOK_uniq {A : Nat → Int} {l n : Int} {t u : LSt} (h1 : stOK A l n t) (h2 : stOK A l n u) : t = u := by
  rcases h1 with ⟨a1, a2, rfl⟩ | ⟨a1, a2, a3, a4, rfl⟩
  · rcases h2 with ⟨b1, b2, rfl⟩ | ⟨b1, -⟩
    · rfl
    · exact absurd a1 b1
  · rcases h2 with ⟨b1, b2, rfl⟩ | ⟨b1, b2, b3, b4, rfl⟩
    · exact absurd b1 a1
    · rfl
/-- both come to the state, or neither -/
theorem state2 {F : Mem} (hR : RR F) (l n : Int) : ∃ F1 F2 z, fX9_isState 1 l n F = some (z, F1) ∧ fX10_isState 173 l n F1 = some (z, F2) ∧ kC 48 F F1 ∧ kS F1 F2 ∧ (z = 0 ∨ z = 1) ∧ (z = 1 → ∃ t, stOK (F 174) l n t ∧ LI t ∧ XS 48 F1 t ∧ XS 177 F2 t) := by
  obtain ⟨F1, z, a1, a2, a3, a4, a5⟩ := x_state hR.1 hR.2.1 l n
  have hR1 := hR.x a2.x
  have eA := RR.A a2.x
  obtain ⟨F2, y, b1, b2, b3, b4, b5⟩ := m_state hR1.1 l n
  rw [eA] at b4 b5
  have ezy : z = y := by
    rcases a3 with rfl | rfl
    · rcases b3 with rfl | rfl
      · rfl
      · obtain ⟨t, h, -⟩ := b4 rfl
        exact absurd ⟨t, h⟩ (a5 rfl)
    · rcases b3 with rfl | rfl
      · obtain ⟨t, h, -⟩ := a4 rfl
        exact absurd ⟨t, h⟩ (b5 rfl)
      · rfl
  subst ezy
  refine ⟨F1, F2, z, a1, b1, a2, b2, a3, fun hz => ?_⟩
  obtain ⟨t, h1, h2⟩ := a4 hz
  obtain ⟨u, h3, h4⟩ := b4 hz
  have := stOK_uniq h1 h3
  subst this
  exact ⟨t, h1, stOK_LI hR.1 h1, h2, h4⟩
theorem pc_stop (a : Int) : pcase RR gX9_stop gX10_stop [vI a] := by
  intro F hR hm
  obtain ⟨hA, hT, -⟩ := id hR
  obtain ⟨z, F1, F2, h1, h2, h3, h4⟩ : ∃ z F1 F2, fX9_stop 1 a F = some (z, F1) ∧ fX10_stop 173 a F1 = some (z, F2) ∧ kX F F1 ∧ kM F1 F2 := by
    unfold fX9_stop fX10_stop
    simp only [Nat.reduceAdd]
    rw [t_sheet hA hT (s := 2) (x := 2) (by omega) (by omega) a rfl, Option.bind_some]
    by_cases h : 0 ≤ a ∧ a < F 174 2
    · have hb := hA.2.2.1
      have e : shO 2 2 a.toNat = 2 + 12 + 9 * a.toNat := rfl
      have n0 : ¬ 2 + 12 + 9 * a.toNat = 0 := by omega
      have hS := hT.2.2.2.2.2.2.2.1 a.toNat (by omega)
      have hg := hA.2.2.2.2.2.2.2.2.1 a.toNat (by omega)
      have gb := hg.1
      have eS : F (2 + 12 + 9 * a.toNat) 3 = gOf (F 174) a.toNat 0 := hS.2.2.2.2.1
      obtain ⟨F1, q, r1, r2, r3, r4⟩ := x_replay k48 hS hg n0 (by omega) (m := gOf (F 174) a.toNat 0) (by omega)
      have eA := RR.A r4.x
      obtain ⟨i, rfl⟩ := nat_of h.1
      rw [Int.toNat_natCast] at *
      obtain ⟨F2, q2, y1, y2, y3, y4, y5⟩ := m_goesBy (F := F1) (hR.x r4.x).1 (i := i) (by rw [eA]; exact h.2) (m := 30) (by decide)
      rw [eA] at y2
      have eq : q = q2 := by
        apply stopL_uniq r2
        refine ⟨⟨by have := y2.1; omega, y2.1.2⟩, y2.2.1, ?_⟩
        rcases y2.2.2 with w | w | w
        · have := y2.1; exact Or.inl (by omega)
        · exact Or.inl w
        · exact Or.inr (Or.inr w)
      subst eq
      refine ⟨(q : Int), F1, F2, ?_, ?_, r4.x, kS.m y5⟩
      · rw [if_pos h, e, if_neg n0, eS, r1, Option.bind_some]
      · rw [m_isOf (hR.x r4.x).1 (s := 2) (x := 2) (by omega) _ rfl, Option.bind_some, i11, eA, if_pos h, y1, Option.bind_some, y3]
    · refine ⟨-1, F, F, ?_, ?_, kX.rf F, kM.rf F⟩
      · rw [if_neg h, if_pos rfl]
      · rw [m_isOf hA (s := 2) (x := 2) (by omega) _ rfl, Option.bind_some, i11, if_neg h]
  exact ⟨z, F1, F2, ⟨1, a, _, rfl, k9, h1, rfl, rfl⟩, ⟨173, a, _, rfl, k10, h2, rfl, rfl⟩, hR.step h3 h4⟩
theorem x_isDay (d : Int) : fX9_isDay d = if 0 ≤ d ∧ d ≤ 6 then 1 else 0 := by
  unfold fX9_isDay
  split
  · rw [if_neg (by omega)]
  · split
    · rw [if_neg (by omega)]
    · rw [if_pos (by omega)]
theorem pc_owner (a b c d e : Int) : pcase RR gX9_owner gX10_owner [vI a, vI b, vI c, vI d, vI e] := by
  intro F hR hm
  obtain ⟨F1, F2, z, s1, s2, s3, s4, s5, s6⟩ := state2 hR a b
  by_cases q : (0 ≤ c ∧ c ≤ 6) ∧ (0 ≤ d ∧ d ≤ 47)
  · have n1 : ¬ d < 0 := by omega
    have n2 : d < 48 := by omega
    rcases s5 with rfl | rfl
    · refine ⟨-2, F1, F2, ⟨1, a, b, c, d, e, (-2, F1), rfl, k9, ?_, rfl, rfl⟩, ⟨173, a, b, c, d, e, (-2, F2), rfl, k10, ?_, rfl, rfl⟩, hR.step s3.x s4.m⟩
      · unfold fX9_owner
        simp only [s1, Option.bind_some, if_true]
      · unfold fX10_owner
        simp only [m_isIn, i10, e10, if_pos q.1, if_pos q.2, s2, Option.bind_some, e01]
    · obtain ⟨t, -, -, t1, t2⟩ := s6 rfl
      obtain ⟨kc, rfl⟩ := nat_of q.1.1
      obtain ⟨kd, rfl⟩ := nat_of q.2.1
      have b1 : xw (xw ((kc : Int) * 48) + (kd : Int)) = ((48 * kc + kd : Nat) : Int) := by rw [xwn (x := (kc : Int) * 48) (by omega) (by omega), xwn (by omega) (by omega)]; omega
      have b2 : xw (xw (48 * (kc : Int)) + (kd : Int)) = ((48 * kc + kd : Nat) : Int) := by rw [xwn (x := 48 * (kc : Int)) (by omega) (by omega), xwn (by omega) (by omega)]; omega
      have b3 : (0 : Int) ≤ ((48 * kc + kd : Nat) : Int) ∧ ((48 * kc + kd : Nat) : Int) < ((336 : Nat) : Int) := by omega
      have l1 : alen 49 = 336 := rfl
      have l2 : alen 50 = 336 := rfl
      have l3 : alen 178 = 336 := rfl
      have l4 : alen 179 = 336 := rfl
      have v1 := t1.1 (48 * kc + kd) (by omega)
      have v2 := t2.1 (48 * kc + kd) (by omega)
      simp only [Nat.reduceAdd] at v1 v2
      by_cases he : e = 0
      · refine ⟨t.1 (48 * kc + kd), F1, F2, ⟨1, a, b, _, _, e, (_, F1), rfl, k9, ?_, rfl, rfl⟩, ⟨173, a, b, _, _, e, (_, F2), rfl, k10, ?_, rfl, rfl⟩, hR.step s3.x s4.m⟩
        · unfold fX9_owner
          simp only [s1, Option.bind_some, e10, x_isDay, i10, if_pos q.1, if_neg n1, if_pos n2, Nat.reduceAdd, b1, l1, l2, if_pos b3, Int.toNat_natCast, v1.1, v1.2, if_pos he]
        · unfold fX10_owner
          simp only [m_isIn, i10, e10, if_pos q.1, if_pos q.2, s2, Option.bind_some, e11, Nat.reduceAdd, b2, l3, l4, if_pos b3, Int.toNat_natCast, v2.1, v2.2, if_pos he]
      · refine ⟨t.2.1 (48 * kc + kd), F1, F2, ⟨1, a, b, _, _, e, (_, F1), rfl, k9, ?_, rfl, rfl⟩, ⟨173, a, b, _, _, e, (_, F2), rfl, k10, ?_, rfl, rfl⟩, hR.step s3.x s4.m⟩
        · unfold fX9_owner
          simp only [s1, Option.bind_some, e10, x_isDay, i10, if_pos q.1, if_neg n1, if_pos n2, Nat.reduceAdd, b1, l1, l2, if_pos b3, Int.toNat_natCast, v1.1, v1.2, if_neg he]
        · unfold fX10_owner
          simp only [m_isIn, i10, e10, if_pos q.1, if_pos q.2, s2, Option.bind_some, e11, Nat.reduceAdd, b2, l3, l4, if_pos b3, Int.toNat_natCast, v2.1, v2.2, if_neg he]
  · refine ⟨-2, F1, F1, ⟨1, a, b, c, d, e, (-2, F1), rfl, k9, ?_, rfl, rfl⟩, ⟨173, a, b, c, d, e, (-2, F1), rfl, k10, ?_, rfl, rfl⟩, hR.step s3.x (kM.rf F1)⟩
    · unfold fX9_owner
      simp only [s1, Option.bind_some, x_isDay, i10]
      split
      · rfl
      · split
        · split
          · rfl
          · split
            · exact absurd ⟨by assumption, by omega⟩ q
            · rfl
        · rfl
    · unfold fX10_owner
      simp only [m_isIn, i10]
      split
      · split
        · exact absurd ⟨by assumption, by assumption⟩ q
        · rfl
      · rfl
