section XD3
variable {o : Nat} {F : Mem} {t : LSt} {g : Nat → Int} {s : Nat}
theorem x_carry (ho : isK o 0) (hX : XS o F t) (ht : LI t) (hS : SR 6 30 g F s) (hg : LO g) (hs : s ≠ 0) {k : Nat} (hk : (k : Int) < g 0) (hF : gD g k 0 = 0 ∨ gD g k 0 = 1 ∨ gD g k 0 = 2 → F o 5 = frD (gD g k) ∧ F o 6 = toD (gD g k)) (hF3 : gD g k 0 = 3 → F o 5 = frD (gD g (gD g k 1).toNat) ∧ F o 6 = toD (gD g (gD g k 1).toNat)) (hc : canD g k t) : ∃ F', fX0_carryOut o s (k : Int) F = some F' ∧ XS o F' (doD g k t) ∧ kC o F F' := by
  have hd : DO (gD g k) := hg.2 k hk
  have a0 := sc_at hS (k := k) (i := 0) (x := (k : Int)) (y := 0) rfl rfl hk (by omega)
  have a1 := sc_at hS (k := k) (i := 1) (x := (k : Int)) (y := 1) rfl rfl hk (by omega)
  have a2 := sc_at hS (k := k) (i := 2) (x := (k : Int)) (y := 2) rfl rfl hk (by omega)
  unfold fX0_carryOut
  simp only [if_neg hs, a0, a1, a2, Option.bind_some]
  by_cases k0 : gD g k 0 = 0
  · have fb := frto_bd hd (Or.inl k0)
    obtain ⟨f5, f6⟩ := hF (Or.inl k0)
    obtain ⟨F', r1, r2, r3⟩ := x_handOver ho hX (gD g k 1) 1 f5 f6 (by omega) (by omega) (by omega)
    simp only [if_pos k0, r1, Option.bind_some]
    rw [doD_0 k0]
    exact ⟨F', rfl, r2, r3⟩
  · by_cases k1 : gD g k 0 = 1
    · have fb := frto_bd hd (Or.inr (Or.inl k1))
      obtain ⟨f5, f6⟩ := hF (Or.inr (Or.inl k1))
      obtain ⟨F', r1, r2, r3⟩ := x_handOver ho hX (gD g k 2) 1 f5 f6 (by omega) (by omega) (by omega)
      simp only [if_neg k0, if_pos k1, r1, Option.bind_some]
      rw [doD_1 k1]
      exact ⟨F', rfl, r2, r3⟩
    · by_cases k2 : gD g k 0 = 2
      · have fb := frto_bd hd (Or.inr (Or.inr k2))
        obtain ⟨f5, f6⟩ := hF (Or.inr (Or.inr k2))
        obtain ⟨F', r1, r2, r3⟩ := x_handOver ho hX (gD g k 2) 0 f5 f6 (by omega) (by omega) (by omega)
        simp only [if_neg k0, if_neg k1, if_pos k2, r1, Option.bind_some]
        rw [doD_2 k2]
        exact ⟨F', rfl, r2, r3⟩
      · by_cases k3 : gD g k 0 = 3
        · have d1 := DO_3 hd k3
          obtain ⟨c1, c2, c3⟩ := (canD_3 k3).mp hc
          have gb := hg.1
          have hda : DO (gD g (gD g k 1).toNat) := hg.2 (gD g k 1).toNat (by omega)
          have fb := frto_bd hda (Or.inr (Or.inr c2))
          obtain ⟨f5, f6⟩ := hF3 k3
          obtain ⟨F', r1, r2, r3⟩ := x_giveBack ho hX d1 f5 f6 (by omega) (by omega) (by omega)
          simp only [if_neg k0, if_neg k1, if_neg k2, if_pos k3, r1, Option.bind_some]
          rw [doD_3 k3]
          exact ⟨F', rfl, r2, r3⟩
        · have d1 := DO_1 hd k3
          by_cases k4 : gD g k 0 = 4
          · obtain ⟨F', r1, r2, r3⟩ := x_bequeath ho hX (b := gD g k 2) d1 ((canD_4 k4).mp hc).1
            simp only [if_neg k0, if_neg k1, if_neg k2, if_neg k3, if_pos k4, r1, Option.bind_some]
            rw [doD_4 k4]
            exact ⟨F', rfl, r2, r3⟩
          · have k5 : gD g k 0 = 5 := by have := DO_k hd; omega
            obtain ⟨F', r1, r2, r3⟩ := x_bury ho hX ht d1 ((canD_5 k5).mp hc)
            simp only [if_neg k0, if_neg k1, if_neg k2, if_neg k3, if_neg k4, if_pos k5, r1, Option.bind_some]
            rw [doD_5 k5]
            exact ⟨F', rfl, r2, r3⟩
theorem x_replay (ho : isK o 0) (hS : SR 6 30 g F s) (hg : LO g) (hs : s ≠ 0) (hos : s + 1 < o ∨ o + 5 < s) {m : Int} (hm : 0 ≤ m) : ∃ (F' : Mem) (q : Nat), fX0_replay o s m F = some ((q : Int), F') ∧ isStopL g m q ∧ XS o F' (stL g q) ∧ kC o F F' := by
  have gb := hg.1
  obtain ⟨F0, c1, c2, c3⟩ := x_clear ho F g
  have hS0 : SR 6 30 g F0 s := hS.mono (fun q k q1 q2 => c3 q k (by omega))
  unfold fX0_replay
  rw [c1, Option.bind_some]
  refine lp (fun n k (G : Mem) => fX0_replay_b6 n o s m (k : Int) G) (if m < g 0 then m.toNat else (g 0).toNat)
    (fun k G => (∀ j, j < k → canD g j (stL g j)) ∧ XS o G (stL g k) ∧ kC o F G)
    (fun r => ∃ F' q, r = some (((q : Nat) : Int), F') ∧ isStopL g m q ∧ XS o F' (stL g q) ∧ kC o F F') ?_ ?_ FU 0 F0 (by omega) ⟨fun j hj => absurd hj (by omega), c2, c3⟩ ?_
  · rintro n k G hk ⟨h1, h2, h3⟩
    have hkm : (k : Int) < m ∧ (k : Int) < g 0 := by split at hk <;> omega
    have hSG : SR 6 30 g G s := hS.mono (fun q k q1 q2 => h3 q k (by omega))
    have hLI := stL_LI hg k (by omega) h1
    have hd : DO (gD g k) := hg.2 k hkm.2
    have eS : G s 3 = g 0 := hSG.2.2.2.2.1
    have a0 := sc_at hSG (k := k) (i := 0) (x := (k : Int)) (y := 0) rfl rfl hkm.2 (by omega)
    have a1 := sc_at hSG (k := k) (i := 1) (x := (k : Int)) (y := 1) rfl rfl hkm.2 (by omega)
    -- the step, by what findSlots was asked
    have step : ∀ x : Int, ((gD g k 0 = 3 ∧ x = gD g k 1) ∨ (gD g k 0 ≠ 3 ∧ x = (k : Int))) → fX0_replay_b6 (n + 1) o s m (k : Int) G = fX0_replay_b41 (fX0_replay_b6 n) o s m (k : Int) o s x G →
        (∃ G', ((∀ j, j < k + 1 → canD g j (stL g j)) ∧ XS o G' (stL g (k + 1)) ∧ kC o F G') ∧ fX0_replay_b6 (n + 1) o s m (k : Int) G = fX0_replay_b6 n o s m ((k + 1 : Nat) : Int) G') ∨ (∃ F' q, fX0_replay_b6 (n + 1) o s m (k : Int) G = some (((q : Nat) : Int), F') ∧ isStopL g m q ∧ XS o F' (stL g q) ∧ kC o F F') := by
      intro x hx hE
      obtain ⟨G1, f1, f2, f3, f4, f5⟩ := x_findSlots hSG hg hs hos x
      have hX1 : XS o G1 (stL g k) := h2.mono (fun q j q1 q2 => f4 q j (by omega))
      have hS1 : SR 6 30 g G1 s := hSG.mono (fun q j q1 q2 => f4 q j (by omega))
      have k1 : kC o F G1 := h3.tr (fun q j hq => f4 q j (by omega))
      have hF : gD g k 0 = 0 ∨ gD g k 0 = 1 ∨ gD g k 0 = 2 → G1 o 5 = frD (gD g k) ∧ G1 o 6 = toD (gD g k) := fun hq => by
        rcases hx with ⟨x1, -⟩ | ⟨-, x2⟩
        · omega
        · exact f5 k x2 hkm.2 hq
      obtain ⟨z, z1, z2, z3⟩ := x_canBe ho hX1 hS1 hg hs hkm.2 hF hLI
      rw [hE]
      unfold fX0_replay_b41
      rw [f1, Option.bind_some, z1, Option.bind_some]
      rcases z2 with rfl | rfl
      · right
        rw [if_neg (by decide)]
        exact ⟨G1, k, rfl, ⟨⟨by omega, by omega⟩, h1, Or.inr (Or.inr (fun c => absurd (z3.mpr c) (by decide)))⟩, hX1, k1⟩
      · left
        have hc := z3.mp rfl
        have hF3 : gD g k 0 = 3 → G1 o 5 = frD (gD g (gD g k 1).toNat) ∧ G1 o 6 = toD (gD g (gD g k 1).toNat) := fun k3 => by
          obtain ⟨w1, w2, w3⟩ := (canD_3 k3).mp hc
          have d1 := DO_3 hd k3
          rcases hx with ⟨x1, x2⟩ | ⟨x1, -⟩
          · exact f5 (gD g k 1).toNat (by omega) (by omega) (Or.inr (Or.inr w2))
          · exact absurd k3 x1
        obtain ⟨G2, y1, y2, y3⟩ := x_carry ho hX1 hLI hS1 hg hs hkm.2 hF hF3 hc
        rw [if_pos (by decide), y1, Option.bind_some, xwS (by omega)]
        refine ⟨G2, ⟨fun j hj => ?_, y2, k1.tr y3⟩, rfl⟩
        by_cases w : j < k
        · exact h1 j w
        · have : j = k := by omega
          subst this
          exact hc
    have E0 : fX0_replay_b6 (n + 1) o s m (k : Int) G = if gD g k 0 ≠ 3 then fX0_replay_b41 (fX0_replay_b6 n) o s m (k : Int) o s (k : Int) G else fX0_replay_b41 (fX0_replay_b6 n) o s m (k : Int) o s (gD g k 1) G := by
      rw [fX0_replay_b6, if_neg (by omega), if_neg hs, eS, if_neg (by omega), if_neg hs, a0, Option.bind_some, if_neg hs, a1, Option.bind_some]
    by_cases k3 : gD g k 0 = 3
    · exact step _ (Or.inl ⟨k3, rfl⟩) (by rw [E0, if_neg (by omega)])
    · exact step _ (Or.inr ⟨k3, rfl⟩) (by rw [E0, if_pos k3])
  · rintro n G ⟨h1, h2, h3⟩
    have hSG : SR 6 30 g G s := hS.mono (fun q k q1 q2 => h3 q k (by omega))
    have eS : G s 3 = g 0 := hSG.2.2.2.2.1
    have e67 : fX0_replay_b67 s m G = some (xmin m (g 0), G) := by
      unfold fX0_replay_b67
      rw [if_neg hs, eS]
    generalize hN : (if m < g 0 then m.toNat else (g 0).toNat) = N at h1 h2
    refine ⟨G, N, ?_, ⟨⟨?_, ?_⟩, h1, ?_⟩, h2, h3⟩
    · show fX0_replay_b6 (n + 1) o s m (N : Int) G = _
      have e : xmin m (g 0) = (N : Int) := by unfold xmin; split at hN <;> split <;> omega
      rw [fX0_replay_b6, e67, e]
      by_cases c : m ≤ (N : Int)
      · rw [if_pos c]
      · rw [if_neg c, if_neg hs, eS, if_pos (by split at hN <;> omega)]
    · split at hN <;> omega
    · split at hN <;> omega
    · split at hN
      · exact Or.inl (by omega)
      · exact Or.inr (Or.inl (by omega))
  · show _ < 100000 + 0
    split <;> omega
end XD3
