/-! ===== blame, likely ===== -/
theorem sta_bd {v r : Nat → Int} (hO : VO v) (hR : RO r) (s : Nat) : ∀ k : Nat, (k : Int) ≤ r 0 → (∀ j, j < k → canL v r j) → sta v r k s = -1 ∨ (0 ≤ sta v r k s ∧ sta v r k s < v 5) := by
  intro k
  induction k with
  | zero => intro _ _; exact Or.inr ⟨hO.2.2.2.1.1, hO.2.2.2.1.2.1⟩
  | succ k ih =>
    intro hk hc
    show (if (s : Int) < lvk v r k then sta v r k s else if (s : Int) < r (1 + 3 * k + 1) then -1 else r (1 + 3 * k)) = -1 ∨ (0 ≤ (if (s : Int) < lvk v r k then sta v r k s else if (s : Int) < r (1 + 3 * k + 1) then -1 else r (1 + 3 * k)) ∧ (if (s : Int) < lvk v r k then sta v r k s else if (s : Int) < r (1 + 3 * k + 1) then -1 else r (1 + 3 * k)) < v 5)
    split
    · exact ih (by omega) (fun j hj => hc j (by omega))
    · split
      · exact Or.inl rfl
      · exact Or.inr ⟨(hR.2 k (by omega)).1.1, (hc k (by omega)).1⟩
theorem amx8 {v S a : Nat → Int} (hO : VO v) (hSb : ∀ s : Nat, S s = -1 ∨ (0 ≤ S s ∧ S s < v 5)) : amx (fun h => sm (a 0).toNat (cuI v S a (h : Int))) 8 = amx (fun h => sm (a 0).toNat (cuI v S a (h : Int))) (v 5).toNat := by
  have b5 := hO.2.2.2.1
  rw [show 8 = (v 5).toNat + (8 - (v 5).toNat) by omega]
  refine amx_ext _ _ (fun i h1 h2 => ?_)
  rw [sm_0 _ (fun k hk => ?_)]
  · exact Int.le_refl _
  · unfold cuI
    rw [if_neg]
    rintro ⟨-, z⟩
    rcases hSb (sR v S (a (1 + 2 * k)) (a (1 + 2 * k + 1))).toNat with y | y <;> omega
theorem e_list {F : Mem} (hR : RR F) {c : Int} (h : 0 ≤ c ∧ c < F 174 3) : EO (eOf (F 174) c.toNat) ∧ SR 2 20 (eOf (F 174) c.toNat) F (16 + 9 * c.toNat) ∧ c.toNat < 2 := by
  obtain ⟨hA, hT, -⟩ := hR
  have h3 := hA.2.2.2.1
  have h1 := hT.2.2.2.2.2.2.2.2 c.toNat (by omega)
  exact ⟨hA.2.2.2.2.2.2.2.2.2 c.toNat (by omega), by rw [show 16 + 9 * c.toNat = 2 + 14 + 9 * c.toNat by omega]; exact h1, by omega⟩
theorem e_la {F G : Mem} (hR : RR F) {c : Int} (h : 0 ≤ c ∧ c < F 174 3) (hG : G 174 = F 174) : LA (eOf (F 174) c.toNat) c.toNat G := by
  obtain ⟨h1, h2, h3⟩ := e_list hR h
  exact ⟨h3, h1, fun j hj => by rw [hG]; rfl⟩
set_option maxHeartbeats 1000000 in
theorem pc_blame (a b c d : Int) (hd : in32 d) : pcase RR gX9_blame gX10_blame [vI a, vI b, vI c, vI d] := by
  intro F hR hm
  obtain ⟨hA, hT, -, h11, h12, h13⟩ := id hR
  by_cases hc : 0 ≤ c ∧ c < F 174 3
  · obtain ⟨hE, hS, hc2⟩ := e_list hR hc
    have sh : fX4_sheetAt (1 + 1) 3 c F = some (16 + 9 * c.toNat) := by
      rw [t_sheet hA hT (s := 3) (x := 3) (by omega) (by omega) c rfl, if_pos hc]
      rfl
    rcases walk2 hR a b with ⟨F1, F2, k, V, v, S, x1, y1, x2, y2, hO, hW, hM, w1, w2, w3, ra, rb, ev, es, eS⟩ | ⟨F2, x1, y1, y2⟩
    · have hS1 : SR 2 20 (eOf (F 174) c.toNat) F1 (16 + 9 * c.toNat) := hS.mono (fun o j q1 q2 => x2 o j (by omega))
      have hL := e_la (G := F2) hR hc ((funext fun j => y2.1 174 j (by omega)).trans (RR.A x2))
      have hA2 : AO (F2 174) := by rw [show F2 174 = F 174 from (funext fun j => y2.1 174 j (by omega)).trans (RR.A x2)]; exact hA
      have e174 : F2 174 = F 174 := (funext fun j => y2.1 174 j (by omega)).trans (RR.A x2)
      have hRO := hA.2.2.2.2.2.2.2.1 b.toNat (by have := hA.2.1; omega)
      have hSb : ∀ s : Nat, S s = -1 ∨ (0 ≤ S s ∧ S s < v 5) := fun s => by rw [eS]; exact sta_bd hO hRO s k es.1 es.2.1
      have b5 := hO.2.2.2.1
      have hV2 : V + 4 < 60 := by
        obtain ⟨F', k', z1, z2, z3, z4, -⟩ := x_walked hR ra rb
        rw [z1] at x1
        have hFF : F' = F1 := by
          have := Option.some.inj x1
          exact congrArg Prod.snd this
        have e1 := z4.1
        rw [hFF, hW.1] at e1
        have := hA.1
        omega
      generalize ha : eOf (F 174) c.toNat = A at *
      obtain ⟨nc, rfl⟩ := nat_of hc.1
      rw [Int.toNat_natCast] at *
      have n0 : ¬ 16 + 9 * nc = 0 := by omega
      have hcn := hE.1
      obtain ⟨p1, p2⟩ := la_at hL (x := 1235 + 41 * (nc : Int)) (j := 0) (by omega) (by omega)
      have pl : fX10_placeOf 3 (nc : Int) = 1235 + 41 * (nc : Int) := m_place3 (by omega)
      obtain ⟨F3, c1, c2⟩ := x_culprit hW hO hS1 n0 (by omega) hV2 (fun s hs => by rcases hSb s with y | y; exact Or.inl y; exact Or.inr (by omega))
      rw [amx8 hO hSb] at c1
      have un : unA v S A (A 0).toNat = sm (v 5).toNat (fun h => sm (v 0).toNat (wrI v S h)) - sm (A 0).toNat (onI v S A) := by
        have u1 := un_tl (S := S) hO A (A 0).toNat
        rw [tl_all hO (A 0).toNat (fun k hk => by have := hE.2 k (by omega); omega)] at u1
        omega
      have B1 := sum_bd48 (N := (v 5).toNat) (B := 9 * 48) (g := fun h => sm (v 0).toNat (wrI v S h)) (by omega) (fun i hi => sum_bd48 (by have := hO.1; omega) (fun j _ => wrI_bd hO (by omega) j))
      have B2 := sum_bd48 (N := (A 0).toNat) (B := 1) (g := onI v S A) (by omega) (fun i hi => by have := onI01 v S A i; omega)
      have X : fX9_blame 1 a b (nc : Int) d F = if d = 0 then some (sm (A 0).toNat (exI v S A), F1) else if d = 1 then some (unA v S A (A 0).toNat, F1) else if d = 2 then some ((amx (fun h => sm (A 0).toNat (cuI v S A (h : Int))) (v 5).toNat).1, F3) else some (if 10 ≤ d ∧ d ≤ 9 + A 0 then sR v S (A (1 + 2 * (d - 10).toNat)) (A (1 + 2 * (d - 10).toNat + 1)) else -2, F1) := by
        unfold fX9_blame
        rw [sh, Option.bind_some, if_neg n0, x1, Option.bind_some]
        dsimp only
        rw [e11, show (1 + 59 : Nat) = 60 from rfl, x_explained hW hO hS1 n0, x_explained hW hO hS1 n0, x_allWrong hW hO, c1]
        simp only [Option.bind_some, if_true]
        rw [if_neg (c := (1 : Int) = 0) (by decide), xwn (by omega) (by omega), ← un]
        by_cases d0 : d = 0
        · rw [if_pos d0, if_pos d0]
        · rw [if_neg d0, if_neg d0]
          by_cases d1 : d = 1
          · rw [if_pos d1, if_pos d1]
          · rw [if_neg d1, if_neg d1]
            by_cases d2 : d = 2
            · rw [if_pos d2, if_pos d2]
            · rw [if_neg d2, if_neg d2]
              by_cases d3 : 10 ≤ d
              · obtain ⟨nd, ed⟩ := nat_of (show 0 ≤ d - 10 by omega)
                have hd2 := hd.2
                rw [if_pos d3, xwn (by omega) (by omega), ed, Int.toNat_natCast]
                unfold fX9_blame_b112
                rw [if_neg (by omega), if_neg n0, hS1.2.2.2.2.1]
                by_cases q : (nd : Int) < A 0
                · have c0 := s_cell (k := nd) (i := 0) (x := (nd : Int)) (y := 0) hS1 (by decide) rfl rfl q (by decide)
                  have c1 := s_cell (k := nd) (i := 1) (x := (nd : Int)) (y := 1) hS1 (by decide) rfl rfl q (by decide)
                  rw [if_pos q, if_neg n0, c0, Option.bind_some, if_neg n0, c1, Option.bind_some, x_sR hW hO, Option.bind_some, if_pos (by omega), Nat.add_zero]
                · rw [if_neg q, if_neg (by omega)]
              · rw [if_neg d3, if_neg (by omega)]
                unfold fX9_blame_b112
                rw [if_pos (by decide)]
      have Y : fX10_blame 173 a b (nc : Int) d F1 = if d = 0 then some (sm (A 0).toNat (exI v S A), F2) else if d = 1 then some (unA v S A (A 0).toNat, F2) else if d = 2 then some ((amx (fun h => sm (A 0).toNat (cuI v S A (h : Int))) (v 5).toNat).1, F2) else some (if 10 ≤ d ∧ d ≤ 9 + A 0 then sR v S (A (1 + 2 * (d - 10).toNat)) (A (1 + 2 * (d - 10).toNat + 1)) else -2, F2) := by
        unfold fX10_blame
        have hc2 : 0 ≤ (nc : Int) ∧ (nc : Int) < F2 174 3 := by rw [e174]; exact hc
        have w9 : xw (9 + A 0) = 9 + A 0 := xwn (by omega) (by omega)
        simp only [y1, Option.bind_some, e10, m_isOf hA2 (s := 3) (x := 3) (by omega) (nc : Int) rfl, if_pos hc2, e11, pl, al174, if_pos p1, p2, m_isIn, w9, m_explained hM hO hL, m_untold hM hO hL, m_culprit hM hO hL, i10]
        by_cases dd : 10 ≤ d ∧ d ≤ 9 + A 0
        · obtain ⟨nd, ed⟩ := nat_of (show 0 ≤ d - 10 by omega)
          have he := hE.2 nd (by omega)
          obtain ⟨p3, p4⟩ := la_at hL (x := 1235 + 41 * (nc : Int) + 1 + 2 * (nd : Int)) (j := 1 + 2 * nd) (by omega) (by omega)
          obtain ⟨p5, p6⟩ := la_at hL (x := 1235 + 41 * (nc : Int) + 2 + 2 * (nd : Int)) (j := 1 + 2 * nd + 1) (by omega) (by omega)
          rw [if_pos dd, if_neg (c := d = 0) (by omega), if_neg (c := d = 1) (by omega), if_neg (c := d = 2) (by omega), if_pos dd, xwn (x := d - 10) (by omega) (by omega), ed, Int.toNat_natCast]
          simp (disch := omega) only [xwn]
          rw [if_pos p3, if_pos p5, p4, p6, m_made hM hO _ he.2.1 (by omega), Option.bind_some]
        · rw [if_neg dd, if_neg dd]
          by_cases d0 : d = 0
          · rw [if_neg (by omega), if_pos d0]
          · rw [if_pos d0, if_neg d0]
            by_cases d1 : d = 1
            · rw [if_neg (by omega), if_pos d1]
            · rw [if_pos d1, if_neg d1]
              by_cases d2 : d = 2
              · rw [if_neg (by omega), if_pos d2]
              · rw [if_pos d2, if_neg d2]
      -- the reference from the class's last memory: culprit's tally isn't seen
      by_cases d2 : d = 2
      · subst d2
        have hk3 : kX F F3 := fun o j ho => (c2 o j (by omega)).trans (x2 o j ho)
        have hR3 := hR.x hk3
        obtain ⟨F4, k4, m1, m2, m3, m4, m5, m6⟩ := m_round (F := F3) hR3.1 hR3.2.2.2.1 hR3.2.2.2.2.1 hR3.2.2.2.2.2 (a := a) (b := b) (by rw [RR.A hk3]; exact ra) (by rw [RR.A hk3]; exact rb)
        rw [RR.A hk3, ← ev] at m3 m4
        have ek := stop_uniq m3 es
        subst ek
        rw [← eS] at m4
        have e4 : F4 174 = F 174 := (funext fun j => m2.1 174 j (by omega)).trans (RR.A hk3)
        have hA4 : AO (F4 174) := by rw [e4]; exact hA
        have hL4 : LA A nc F4 := by
          have := e_la (G := F4) hR hc e4
          rw [Int.toNat_natCast, ha] at this
          exact this
        refine ⟨_, F3, F4, ⟨1, a, b, (nc : Int), 2, _, rfl, k9, X, rfl, rfl⟩, ⟨173, a, b, (nc : Int), 2, ((amx (fun h => sm (A 0).toNat (cuI v S A (h : Int))) (v 5).toNat).1, F4), rfl, k10, ?_, rfl, rfl⟩, hR.step hk3 m2⟩
        obtain ⟨p1, p2⟩ := la_at hL4 (x := 1235 + 41 * (nc : Int)) (j := 0) (by omega) (by omega)
        unfold fX10_blame
        have hc2 : 0 ≤ (nc : Int) ∧ (nc : Int) < F4 174 3 := by rw [e4]; exact hc
        have w9 : xw (9 + A 0) = 9 + A 0 := xwn (by omega) (by omega)
        have z1 : ¬ ((10 : Int) ≤ 2 ∧ 2 ≤ 9 + A 0) := by omega
        have z2 : (2 : Int) ≠ 0 := by decide
        have z3 : (2 : Int) ≠ 1 := by decide
        have z4 : ¬ (2 : Int) ≠ 2 := by decide
        simp only [m1, Option.bind_some, e10, m_isOf hA4 (s := 3) (x := 3) (by omega) (nc : Int) rfl, if_pos hc2, e11, pl, al174, if_pos p1, p2, m_isIn, w9, m_culprit m4 hO hL4, i10, if_neg z1, if_pos z2, if_pos z3, if_neg z4]
      · rw [if_neg (c := d = 2) d2] at X Y
        obtain ⟨z, X2, Y2⟩ : ∃ z, fX9_blame 1 a b (nc : Int) d F = some (z, F1) ∧ fX10_blame 173 a b (nc : Int) d F1 = some (z, F2) := by
          rw [X, Y]
          by_cases d0 : d = 0
          · rw [if_pos d0, if_pos d0]; exact ⟨_, rfl, rfl⟩
          · rw [if_neg d0, if_neg d0]
            by_cases d1 : d = 1
            · rw [if_pos d1, if_pos d1]; exact ⟨_, rfl, rfl⟩
            · rw [if_neg d1, if_neg d1]; exact ⟨_, rfl, rfl⟩
        exact ⟨z, F1, F2, ⟨1, a, b, (nc : Int), d, _, rfl, k9, X2, rfl, rfl⟩, ⟨173, a, b, (nc : Int), d, _, rfl, k10, Y2, rfl, rfl⟩, hR.step x2 y2⟩
    · have n0 : ¬ 16 + 9 * c.toNat = 0 := by omega
      refine ⟨-2, F, F2, ⟨1, a, b, c, d, (-2, F), rfl, k9, ?_, rfl, rfl⟩, ⟨173, a, b, c, d, (-2, F2), rfl, k10, ?_, rfl, rfl⟩, hR.step (kX.rf F) y2⟩
      · unfold fX9_blame
        rw [sh, Option.bind_some, if_neg n0, x1, Option.bind_some]
        dsimp only
        rw [e01]
      · unfold fX10_blame
        rw [y1, Option.bind_some]
        dsimp only
        rw [e00]
  · have sh : fX4_sheetAt (1 + 1) 3 c F = some 0 := by
      rw [t_sheet hA hT (s := 3) (x := 3) (by omega) (by omega) c rfl, if_neg hc]
    have X : fX9_blame 1 a b c d F = some (-2, F) := by
      unfold fX9_blame
      rw [sh, Option.bind_some, if_pos rfl]
    by_cases h : (0 ≤ a ∧ a < F 174 0) ∧ (0 ≤ b ∧ b < F 174 1)
    · obtain ⟨F2, k, m1, m2, -⟩ := m_round hA h11 h12 h13 h.1 h.2
      have e4 : F2 174 = F 174 := funext fun j => m2.1 174 j (by omega)
      have hA4 : AO (F2 174) := by rw [e4]; exact hA
      refine ⟨-2, F, F2, ⟨1, a, b, c, d, _, rfl, k9, X, rfl, rfl⟩, ⟨173, a, b, c, d, (-2, F2), rfl, k10, ?_, rfl, rfl⟩, hR.step (kX.rf F) m2⟩
      unfold fX10_blame
      rw [m1, Option.bind_some]
      dsimp only
      have hc3 : ¬ (0 ≤ c ∧ c < F2 174 3) := by rw [e4]; exact hc
      rw [e10, m_isOf hA4 (s := 3) (x := 3) (by omega) c rfl, if_neg hc3, Option.bind_some, e01]
    · obtain ⟨F2, m1, m2⟩ := m_roundN hA h
      refine ⟨-2, F, F2, ⟨1, a, b, c, d, _, rfl, k9, X, rfl, rfl⟩, ⟨173, a, b, c, d, (-2, F2), rfl, k10, ?_, rfl, rfl⟩, hR.step (kX.rf F) m2⟩
      unfold fX10_blame
      rw [m1, Option.bind_some]
      dsimp only
      rw [e00]
