section ML3
variable {F : Mem} {t : LSt} {g : Nat → Int}
/-- the last loop of a deed: an own, a sell, a pawn -/
theorem m_fill (hM : MG g F) (hg : LO g) (hX : XS 177 F t) {k : Nat} (hk : (k : Int) < g 0) : ∃ F', fX10_does_b94 173 (k : Int) (gD g k 0) (gD g k 1) (gD g k 2) F = some F' ∧ XS 177 F' (if gD g k 0 = 0 then (fillR (frD (gD g k)) (toD (gD g k)) (gD g k 1) t.1, fillR (frD (gD g k)) (toD (gD g k)) (gD g k 1) t.2.1, t.2.2) else if gD g k 0 = 1 then (fillR (frD (gD g k)) (toD (gD g k)) (gD g k 2) t.1, fillR (frD (gD g k)) (toD (gD g k)) (gD g k 2) t.2.1, t.2.2) else if gD g k 0 = 2 then (t.1, fillR (frD (gD g k)) (toD (gD g k)) (gD g k 2) t.2.1, t.2.2) else t) ∧ kL F F' := by
  have hd : DO (gD g k) := hg.2 k hk
  have kk := DO_k hd
  unfold fX10_does_b94
  rw [m_from hM hg rfl hk, Option.bind_some]
  have hT : ∀ G : Mem, kL F G → fX10_toOf 173 (k : Int) G = some (toD (gD g k)) := fun G hG => m_to (hM.l hG) hg rfl hk
  by_cases k3 : 3 ≤ gD g k 0
  · rw [if_neg (by omega), if_neg (by omega), if_neg (by omega)]
    refine ⟨F, ?_, hX, fun _ _ _ => rfl⟩
    show fX10_does_b101 (99999 + 1) 173 (k : Int) (gD g k 0) (gD g k 1) (gD g k 2) (frD (gD g k)) F = some F
    rw [fX10_does_b101, hT F (fun _ _ _ => rfl), Option.bind_some]
    simp only [if_pos k3, ite_self]
  · have fb := frto_bd hd (by omega)
    obtain ⟨a, ea⟩ := nat_of fb.1
    obtain ⟨b, eb⟩ := nat_of (show 0 ≤ toD (gD g k) by omega)
    rw [ea, eb] at fb ⊢
    simp only [eb] at hT
    -- who holds, who owns then
    have main : ∀ (x : Int) (ow : Prop) (inst : Decidable ow), (∀ (n : Nat) (j : Nat) (G : Mem), j < 336 → (j : Int) < (b : Int) → kL F G → fX10_does_b101 (n + 1) 173 (k : Int) (gD g k 0) (gD g k 1) (gD g k 2) (j : Int) G = fX10_does_b101 n 173 (k : Int) (gD g k 0) (gD g k 1) (gD g k 2) ((j + 1 : Nat) : Int) (mset (if ow then mset G 178 j x else G) 179 j x)) → ∃ F', fX10_does_b101 FU 173 (k : Int) (gD g k 0) (gD g k 1) (gD g k 2) (a : Int) F = some F' ∧ XS 177 F' ((if ow then fillR (a : Int) (b : Int) x t.1 else t.1), fillR (a : Int) (b : Int) x t.2.1, t.2.2) ∧ kL F F' := by
      intro x ow inst hstep
      refine lp (fun n j (G : Mem) => fX10_does_b101 n 173 (k : Int) (gD g k 0) (gD g k 1) (gD g k 2) (j : Int) G) b
        (fun j G => a ≤ j ∧ (∀ s, s < 336 → G 178 s = (if ow ∧ a ≤ s ∧ s < j then x else t.1 s) ∧ G 179 s = (if a ≤ s ∧ s < j then x else t.2.1 s)) ∧ (∀ q j, q ≠ 178 → q ≠ 179 → G q j = F q j))
        (fun r => ∃ F', r = some F' ∧ XS 177 F' ((if ow then fillR (a : Int) (b : Int) x t.1 else t.1), fillR (a : Int) (b : Int) x t.2.1, t.2.2) ∧ kL F F') ?_ ?_ FU a F (by omega) ⟨Nat.le_refl _, fun s hs => ?_, fun _ _ _ _ => rfl⟩ (show b < 100000 + a by omega)
      · rintro n j G hj ⟨h0, h1, h2⟩
        left
        refine ⟨mset (if ow then mset G 178 j x else G) 179 j x, ⟨by omega, fun s hs => ?_, fun q i hq hq2 => ?_⟩, hstep n j G (by omega) (by omega) (fun q i hq => h2 q i (by omega) (by omega))⟩
        · have q1 := h1 s hs
          rw [mset_ne (o' := 178) _ _ (by omega)]
          constructor
          · by_cases c : ow
            · rw [if_pos c]
              by_cases y : s = j
              · subst y; rw [mset_eq, if_pos ⟨c, by omega⟩]
              · rw [mset_ne _ _ (by omega), q1.1]
                by_cases y2 : a ≤ s ∧ s < j
                · rw [if_pos ⟨c, y2⟩, if_pos ⟨c, by omega⟩]
                · rw [if_neg (fun z => y2 z.2), if_neg (fun z => by omega)]
            · rw [if_neg c, if_neg (fun z => c z.1)]
              rw [if_neg (fun z => c z.1)] at q1
              exact q1.1
          · by_cases y : s = j
            · subst y; rw [mset_eq, if_pos (by omega)]
            · rw [mset_ne _ _ (by omega)]
              have e : (if ow then mset G 178 j x else G) 179 s = G 179 s := by
                split
                · rw [mset_ne _ _ (by omega)]
                · rfl
              rw [e, q1.2]
              by_cases y2 : a ≤ s ∧ s < j
              · rw [if_pos y2, if_pos (by omega)]
              · rw [if_neg y2, if_neg (by omega)]
        · rw [mset_ne _ _ (by omega)]
          have e : (if ow then mset G 178 j x else G) q i = G q i := by
            split
            · rw [mset_ne _ _ (by omega)]
            · rfl
          rw [e]
          exact h2 q i hq hq2
      · rintro n G ⟨h0, h1, h2⟩
        have kG : kL F G := fun q i hq => h2 q i (by omega) (by omega)
        refine ⟨G, ?_, ⟨fun s hs => ?_, fun h hh => ?_, fun i hi => ?_⟩, kG⟩
        · show fX10_does_b101 (n + 1) 173 (k : Int) (gD g k 0) (gD g k 1) (gD g k 2) (b : Int) G = some G
          rw [fX10_does_b101, hT G kG, Option.bind_some, if_pos (by omega)]
        · have q1 := h1 s hs
          refine ⟨q1.1.trans ?_, q1.2.trans ?_⟩
          · by_cases c : ow
            · rw [if_pos c]
              dsimp only [fillR]
              by_cases y2 : a ≤ s ∧ s < b
              · rw [if_pos ⟨c, y2⟩, if_pos (by omega)]
              · rw [if_neg (fun z => y2 z.2), if_neg (by omega)]
            · rw [if_neg c, if_neg (fun z => c z.1)]
          · dsimp only [fillR]
            by_cases y2 : a ≤ s ∧ s < b
            · rw [if_pos y2, if_pos (by omega)]
            · rw [if_neg y2, if_neg (by omega)]
        · rw [h2 _ _ (by omega) (by omega), h2 _ _ (by omega) (by omega)]; exact hX.2.1 h hh
        · rw [h2 _ _ (by omega) (by omega)]; exact hX.2.2 i hi
      · refine ⟨(hX.1 s hs).1.trans ?_, (hX.1 s hs).2.trans ?_⟩
        · rw [if_neg (by omega)]
        · rw [if_neg (by omega)]
    have st : ∀ (n j : Nat) (G : Mem), j < 336 → (j : Int) < (b : Int) → kL F G → fX10_does_b101 (n + 1) 173 (k : Int) (gD g k 0) (gD g k 1) (gD g k 2) (j : Int) G = fX10_does_b101 n 173 (k : Int) (gD g k 0) (gD g k 1) (gD g k 2) ((j + 1 : Nat) : Int) (mset (if gD g k 0 ≤ 1 then mset G 178 j (if gD g k 0 = 0 then gD g k 1 else gD g k 2) else G) 179 j (if gD g k 0 = 0 then gD g k 1 else gD g k 2)) := by
      intro n j G hj hjb hG
      have bt : (0 : Int) ≤ (j : Int) ∧ (j : Int) < ((336 : Nat) : Int) := by omega
      rw [fX10_does_b101, hT G hG, Option.bind_some, if_neg (by omega), if_neg (by omega)]
      unfold fX10_does_b138
      simp only [al5, al6, if_pos bt, Int.toNat_natCast, xwS (show j < 2147483647 by omega), Nat.reduceAdd]
      rcases kk with q | q | q | q | q | q
      · rw [q]; rfl
      · rw [q]; rfl
      · rw [q]; rfl
      · omega
      · omega
      · omega
    by_cases k0 : gD g k 0 = 0
    · rw [if_pos k0]
      obtain ⟨F', r1, r2, r3⟩ := main (gD g k 1) True inferInstance (fun n j G x1 x2 x3 => by rw [st n j G x1 x2 x3, if_pos (by omega), if_pos k0, if_pos trivial])
      rw [if_pos trivial] at r2
      exact ⟨F', r1, r2, r3⟩
    · rw [if_neg k0]
      by_cases k1 : gD g k 0 = 1
      · rw [if_pos k1]
        obtain ⟨F', r1, r2, r3⟩ := main (gD g k 2) True inferInstance (fun n j G x1 x2 x3 => by rw [st n j G x1 x2 x3, if_pos (by omega), if_neg k0, if_pos trivial])
        rw [if_pos trivial] at r2
        exact ⟨F', r1, r2, r3⟩
      · rw [if_neg k1, if_pos (by omega)]
        obtain ⟨F', r1, r2, r3⟩ := main (gD g k 2) False inferInstance (fun n j G x1 x2 x3 => by rw [st n j G x1 x2 x3, if_neg (by omega), if_neg k0, if_neg (fun z => z)])
        rw [if_neg (fun z => z)] at r2
        exact ⟨F', r1, r2, r3⟩
theorem m_does (hM : MG g F) (hg : LO g) (hX : XS 177 F t) (ht : LI t) {k : Nat} (hk : (k : Int) < g 0) (hc : canD g k t) : ∃ F', fX10_does 173 (k : Int) F = some F' ∧ XS 177 F' (doD g k t) ∧ kL F F' := by
  have gb := hg.1
  have hd : DO (gD g k) := hg.2 k hk
  have a0 := m_dd hM (k := k) (i := 0) (x := (k : Int)) (y := 0) rfl rfl (by omega) (by omega)
  have a1 := m_dd hM (k := k) (i := 1) (x := (k : Int)) (y := 1) rfl rfl (by omega) (by omega)
  have a2 := m_dd hM (k := k) (i := 2) (x := (k : Int)) (y := 2) rfl rfl (by omega) (by omega)
  unfold fX10_does
  rw [a0, Option.bind_some, a1, Option.bind_some, a2, Option.bind_some]
  unfold fX10_does_b35 fX10_does_b45
  by_cases k012 : gD g k 0 = 0 ∨ gD g k 0 = 1 ∨ gD g k 0 = 2
  · obtain ⟨F', r1, r2, r3⟩ := m_fill hM hg hX hk
    rw [if_pos (by omega), if_pos (by omega), if_pos (by omega), r1]
    refine ⟨F', rfl, ?_, r3⟩
    rcases k012 with q | q | q
    · rw [doD_0 q]; rw [if_pos q] at r2; exact r2
    · rw [doD_1 q]; rw [if_neg (by omega), if_pos q] at r2; exact r2
    · rw [doD_2 q]; rw [if_neg (by omega), if_neg (by omega), if_pos q] at r2; exact r2
  · have tail : ∀ (G : Mem) (t' : LSt), kL F G → XS 177 G t' → ∃ F', fX10_does_b94 173 (k : Int) (gD g k 0) (gD g k 1) (gD g k 2) G = some F' ∧ XS 177 F' t' ∧ kL F F' := by
      intro G t' hG hX'
      obtain ⟨F', r1, r2, r3⟩ := m_fill (hM.l hG) hg hX' hk
      rw [if_neg (by omega), if_neg (by omega), if_neg (by omega)] at r2
      exact ⟨F', r1, r2, hG.tr r3⟩
    by_cases k3 : gD g k 0 = 3
    · have d1 := DO_3 hd k3
      obtain ⟨c1, c2, c3⟩ := (canD_3 k3).mp hc
      obtain ⟨y, ey⟩ := nat_of d1.1
      have et : (gD g k 1).toNat = y := by omega
      rw [et] at c2
      have hda : DO (gD g y) := hg.2 y (by omega)
      have fb := frto_bd hda (Or.inr (Or.inr c2))
      rw [if_pos (by omega), if_pos (by omega), if_neg (by omega), al9, if_pos (by omega), et, doD_3 k3, et]
      rw [show (173 + 9 : Nat) = 182 from rfl]
      generalize hF0 : mset F 182 y 1 = F0
      have f0 : ∀ q j, q ≠ 182 → F0 q j = F q j := fun q j h => by rw [← hF0, mset_ne _ _ (by omega)]
      have k0 : kL F F0 := fun q j hq => f0 q j (by omega)
      have f1 : ∀ j, j < 30 → F0 182 j = setF (gD g k 1) 1 t.2.2.2.2 j := fun j hj => by
        rw [← hF0, ey]
        by_cases z : j = y
        · subst z; rw [mset_eq, setF_at rfl]
        · rw [mset_ne _ _ (by omega), setF_ne (by omega)]; exact hX.2.2 j hj
      rw [m_from (hM.l k0) hg ey (by omega), Option.bind_some]
      have hT : ∀ G : Mem, kL F G → fX10_toOf 173 (gD g k 1) G = some (toD (gD g y)) := fun G hG => m_to (hM.l hG) hg ey (by omega)
      obtain ⟨a, ea⟩ := nat_of fb.1
      obtain ⟨b, eb⟩ := nat_of (show 0 ≤ toD (gD g y) by omega)
      rw [ea, eb] at fb ⊢
      simp only [eb] at hT
      refine lp (fun n j (G : Mem) => fX10_does_b64 n 173 (k : Int) (gD g k 0) (gD g k 1) (gD g k 2) (j : Int) G) b
        (fun j G => a ≤ j ∧ (∀ s, s < 336 → G 179 s = (if a ≤ s ∧ s < j then t.1 s else t.2.1 s)) ∧ (∀ q j, q ≠ 179 → G q j = F0 q j))
        (fun r => ∃ F', r = some F' ∧ XS 177 F' (t.1, (fun s : Nat => if (a : Int) ≤ (s : Int) ∧ (s : Int) < (b : Int) then t.1 s else t.2.1 s), t.2.2.1, t.2.2.2.1, setF (gD g k 1) 1 t.2.2.2.2) ∧ kL F F') ?_ ?_ FU a F0 (by omega) ⟨Nat.le_refl _, fun s hs => ?_, fun _ _ _ => rfl⟩ (show b < 100000 + a by omega)
      · rintro n j G hj ⟨h0, h1, h2⟩
        left
        have kG : kL F G := fun q i hq => (h2 q i (by omega)).trans (f0 q i (by omega))
        have e1 : G (173 + 5) j = t.1 j := ((h2 178 j (by omega)).trans (f0 178 j (by omega))).trans (hX.1 j (by omega)).1
        refine ⟨mset G 179 j (t.1 j), ⟨by omega, fun s hs => ?_, fun q i hq => ?_⟩, ?_⟩
        · by_cases z : s = j
          · subst z; rw [mset_eq, if_pos (by omega)]
          · rw [mset_ne _ _ (by omega), h1 s hs]
            by_cases y2 : a ≤ s ∧ s < j
            · rw [if_pos y2, if_pos (by omega)]
            · rw [if_neg y2, if_neg (by omega)]
        · rw [mset_ne _ _ (by omega)]; exact h2 q i hq
        · show fX10_does_b64 (n + 1) 173 (k : Int) (gD g k 0) (gD g k 1) (gD g k 2) (j : Int) G = fX10_does_b64 n 173 (k : Int) (gD g k 0) (gD g k 1) (gD g k 2) ((j + 1 : Nat) : Int) _
          rw [fX10_does_b64, hT G kG, Option.bind_some, if_neg (by omega), al5, if_pos (by omega), al6, if_pos (by omega), xwS (by omega), Int.toNat_natCast, e1]
      · rintro n G ⟨h0, h1, h2⟩
        have kG : kL F G := fun q i hq => (h2 q i (by omega)).trans (f0 q i (by omega))
        show ∃ F', fX10_does_b64 (n + 1) 173 (k : Int) (gD g k 0) (gD g k 1) (gD g k 2) (b : Int) G = some F' ∧ _
        rw [fX10_does_b64, hT G kG, Option.bind_some, if_pos (by omega)]
        refine tail G _ kG ⟨fun s hs => ⟨?_, ?_⟩, fun h hh => ?_, fun i hi => ?_⟩
        · exact ((h2 178 s (by omega)).trans (f0 178 s (by omega))).trans (hX.1 s hs).1
        · show G 179 s = if (a : Int) ≤ (s : Int) ∧ (s : Int) < (b : Int) then t.1 s else t.2.1 s
          rw [h1 s hs]
          by_cases y2 : a ≤ s ∧ s < b
          · rw [if_pos y2, if_pos (by omega)]
          · rw [if_neg y2, if_neg (by omega)]
        · exact ⟨((h2 180 h (by omega)).trans (f0 180 h (by omega))).trans (hX.2.1 h hh).1, ((h2 181 h (by omega)).trans (f0 181 h (by omega))).trans (hX.2.1 h hh).2⟩
        · exact (h2 182 i (by omega)).trans (f1 i hi)
      · rw [if_neg (c := a ≤ s ∧ s < a) (by omega), f0 _ _ (by omega)]; exact (hX.1 s hs).2
    · have d1 := DO_1 hd k3
      by_cases k4 : gD g k 0 = 4
      · obtain ⟨y, ey⟩ := nat_of d1.1
        have et : (gD g k 1).toNat = y := by omega
        rw [if_neg (by omega), al7, if_pos (by omega), if_pos (by omega), if_pos (by omega), et, doD_4 k4]
        rw [show (173 + 7 : Nat) = 180 from rfl]
        refine tail _ _ (fun q j hq => mset_ne _ _ (by omega)) ⟨fun s hs => ?_, fun h hh => ?_, fun j hj => ?_⟩
        · rw [mset_ne _ _ (by omega), mset_ne _ _ (by omega)]; exact hX.1 s hs
        · have q := hX.2.1 h hh
          rw [mset_ne (o' := 177 + 4) _ _ (by omega)]
          refine ⟨?_, q.2⟩
          show mset F 180 y (gD g k 2) 180 h = setF (gD g k 1) (gD g k 2) t.2.2.1 h
          rw [ey]
          by_cases z : h = y
          · subst z; rw [mset_eq, setF_at rfl]
          · rw [mset_ne _ _ (by omega), setF_ne (by omega)]; exact q.1
        · rw [mset_ne _ _ (by omega)]; exact hX.2.2 j hj
      · have k5 : gD g k 0 = 5 := by have := DO_k hd; omega
        obtain ⟨G, r1, r2, r3⟩ := m_dies hX ht d1
        rw [if_pos k4, if_neg (by omega), r1, Option.bind_some, if_pos (by omega), doD_5 k5]
        exact tail G _ r3 r2
/-- behind the first deeds -/
theorem m_goesBy {F : Mem} (hA : AO (F 174)) {i : Nat} (hi : (i : Int) < F 174 2) {m : Int} (hm : 0 ≤ m) : ∃ F' q, fX10_goesBy 173 (i : Int) m F = some F' ∧ isStopL (gOf (F 174) i) m q ∧ F' 173 23 = (q : Int) ∧ XS 177 F' (stL (gOf (F 174) i) q) ∧ (∀ q k, ¬ (q = 173 ∧ (k = 22 ∨ k = 23)) → (q < 178 ∨ 182 < q) → F' q k = F q k) := by
  have hg : LO (gOf (F 174) i) := hA.2.2.2.2.2.2.2.2.1 i hi
  have gb := hg.1
  have h2 := hA.2.2.1
  generalize hgg : gOf (F 174) i = g at *
  obtain ⟨F0, c1, c2, c3, c4⟩ := m_begins F g
  unfold fX10_goesBy
  rw [c1, Option.bind_some, if_pos (by omega), m_place2 (by omega)]
  generalize hG0 : mset F0 173 22 (873 + 181 * (i : Int)) = G0
  have g0 : ∀ q k, ¬ (q = 173 ∧ k = 22) → G0 q k = F0 q k := fun q k h => by rw [← hG0, mset_ne _ _ h]
  have hM0 : ∀ G : Mem, (∀ k, G 174 k = F 174 k) → G 173 22 = 873 + 181 * (i : Int) → MG g G := fun G e1 e2 => ⟨873 + 181 * i, by rw [e2]; omega, by omega, fun j hj => by rw [e1, ← hgg]; rfl⟩
  refine lp (fun n k (st : Int × Mem) => fX10_goesBy_b21 n 173 m st.1 st.2) ((if m < g 0 then m.toNat else (g 0).toNat) + 1)
    (fun k st => ∃ q : Nat, ((st.1 ≠ 0 ∧ q = k ∧ (q : Int) ≤ m ∧ (q : Int) ≤ g 0) ∨ (st.1 = 0 ∧ q + 1 = k ∧ (q : Int) < m ∧ (q : Int) < g 0 ∧ ¬ canD g q (stL g q))) ∧ (∀ j, j < q → canD g j (stL g j)) ∧ st.2 173 23 = (q : Int) ∧ st.2 173 22 = 873 + 181 * (i : Int) ∧ XS 177 st.2 (stL g q) ∧ (∀ q k, ¬ (q = 173 ∧ (k = 22 ∨ k = 23)) → (q < 178 ∨ 182 < q) → st.2 q k = F q k))
    (fun r => ∃ F' q, r = some F' ∧ isStopL g m q ∧ F' 173 23 = (q : Int) ∧ XS 177 F' (stL g q) ∧ (∀ q k, ¬ (q = 173 ∧ (k = 22 ∨ k = 23)) → (q < 178 ∨ 182 < q) → F' q k = F q k)) ?_ ?_ FU 0 (1, G0) (Nat.zero_le _) ?_ ?_
  · rintro n k ⟨f, G⟩ hk ⟨q, hq, h1, h3, h4, h5, h6⟩
    dsimp only at hq h1 h3 h4 h5 h6 ⊢
    rcases hq with ⟨f1, rfl, q1, q2⟩ | ⟨rfl, q1, q2, q3, q4⟩
    · have e0 : G (173 + 1) ((873 : Int) + 181 * (i : Int)).toNat = g 0 := by
        rw [show ((873 : Int) + 181 * (i : Int)).toNat = 873 + 181 * i by omega]
        exact (h6 174 _ (by omega) (by omega)).trans (by rw [← hgg]; rfl)
      by_cases c1 : m ≤ (q : Int)
      · right
        refine ⟨G, q, ?_, ⟨⟨q1, q2⟩, h1, Or.inl (by omega)⟩, h3, h5, h6⟩
        rw [fX10_goesBy_b21, if_neg f1, h3, if_pos c1]
      · by_cases c2 : g 0 ≤ (q : Int)
        · right
          refine ⟨G, q, ?_, ⟨⟨q1, q2⟩, h1, Or.inr (Or.inl (by omega))⟩, h3, h5, h6⟩
          rw [fX10_goesBy_b21, if_neg f1, h3, if_neg c1, h4, al174, if_pos (by omega), e0, if_pos c2]
        · left
          have hMG := hM0 G (fun k => h6 174 k (by omega) (by omega)) h4
          have hLI := stL_LI hg q q2 h1
          obtain ⟨z, z1, z2, z3⟩ := m_can hMG hg h5 hLI (k := q) (by omega)
          have E : fX10_goesBy_b21 (n + 1) 173 m f G = if z ≠ 0 then (fX10_does 173 (q : Int) G).bind fun q8 => fX10_goesBy_b21 n 173 m z (mset q8 173 23 (xw ((q8 173 23) + 1))) else fX10_goesBy_b21 n 173 m z G := by
            rw [fX10_goesBy_b21, if_neg f1, h3, if_neg c1, h4, al174, if_pos (by omega), e0, if_neg c2, z1, Option.bind_some]
          rcases z2 with rfl | rfl
          · refine ⟨(0, G), ⟨q, Or.inr ⟨rfl, rfl, by omega, by omega, fun c => absurd (z3.mpr c) (by decide)⟩, h1, h3, h4, h5, h6⟩, ?_⟩
            rw [E, if_neg (by decide)]
          · have hc := z3.mp rfl
            obtain ⟨G2, y1, y2, y3⟩ := m_does hMG hg h5 hLI (k := q) (by omega) hc
            have e23 : G2 173 23 = (q : Int) := (y3 173 23 (by omega)).trans h3
            refine ⟨(1, mset G2 173 23 ((q + 1 : Nat) : Int)), ⟨q + 1, Or.inl ⟨(show (1 : Int) ≠ 0 by decide), rfl, by omega, by omega⟩, fun j hj => ?_, (mset_eq G2 173 23 ((q + 1 : Nat) : Int) : _), ?_, ?_, fun a b x1 x2 => ?_⟩, ?_⟩
            · by_cases w : j < q
              · exact h1 j w
              · have : j = q := by omega
                subst this
                exact hc
            · dsimp only
              rw [mset_ne _ _ (by omega), y3 173 22 (by omega)]; exact h4
            · exact y2.mono (fun a b x1 x2 => mset_ne _ _ (by omega))
            · dsimp only
              rw [mset_ne _ _ (by omega), y3 a b x2]; exact h6 a b x1 x2
            · rw [E, if_pos (by decide), y1, Option.bind_some, e23, xwS (by omega)]
    · right
      refine ⟨G, q, ?_, ⟨⟨by omega, by omega⟩, h1, Or.inr (Or.inr q4)⟩, h3, h5, h6⟩
      rw [fX10_goesBy_b21, if_pos rfl]
  · rintro n ⟨f, G⟩ ⟨q, hq, h1, h3, h4, h5, h6⟩
    dsimp only at hq h1 h3 h4 h5 h6 ⊢
    rcases hq with ⟨f1, q0, q1, q2⟩ | ⟨rfl, q1, q2, q3, q4⟩
    · exfalso
      split at q0 <;> omega
    · refine ⟨G, q, ?_, ⟨⟨by omega, by omega⟩, h1, Or.inr (Or.inr q4)⟩, h3, h5, h6⟩
      rw [fX10_goesBy_b21, if_pos rfl]
  · refine ⟨0, Or.inl ⟨(show (1 : Int) ≠ 0 by decide), rfl, hm, gb.1⟩, fun j hj => absurd hj (by omega), ?_, ?_, c2.mono (fun a b x1 x2 => g0 a b (by omega)), fun a b x1 x2 => ?_⟩
    · dsimp only
      rw [g0 _ _ (by omega)]; exact c3
    · dsimp only
      rw [← hG0, mset_eq]
    · dsimp only
      rw [g0 _ _ (by omega)]; exact c4 a b (by omega) x2
  · show _ < 100000 + 0
    split <;> omega
end ML3
