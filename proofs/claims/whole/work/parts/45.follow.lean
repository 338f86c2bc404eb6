section WLK2
variable {v r : Nat → Int}
theorem x_slotsAny {F : Mem} {V : Nat} (hV : VR v F V) (hO : VO v) {p : Int} (hp : 1 ≤ p) (hp2 : p ≤ 99) {a b : Int} (ha : 0 ≤ a ∧ a < v 5) (hb : 0 ≤ b ∧ b ≤ 7) : ∃ z, fX7_slotsBetween V a b p F = some z ∧ 0 ≤ z ∧ z ≤ 1000 ∧ (b < v 5 → z = slt v p a.toNat b.toNat) := by
  obtain ⟨a, rfl⟩ := nat_of ha.1
  obtain ⟨b, rfl⟩ := nat_of hb.1
  by_cases q : (b : Int) < v 5
  · have h := slt_bd hO hp ha.2 q
    exact ⟨_, v_slots hV hO hp hp2 ha.2 q, h.1, by omega, fun _ => rfl⟩
  · have h1 := (hO.2.2.2.2.2.1 a ha.2).1
    unfold fX7_slotsBetween
    rw [if_neg (by omega), if_pos hp, v_cell0 hV hO ha.2, Option.bind_some, v_cellA hV hO, Option.bind_some, if_neg (by omega), if_neg (by omega), xwn (x := v (8 + 4 * a) - -1) (by omega) (by omega), xabs_n (by omega) (by omega), if_neg (by omega), xwn (x := v (8 + 4 * a) - -1 + p) (by omega) (by omega), xwn (x := v (8 + 4 * a) - -1 + p - 1) (by omega) (by omega), Int.tdiv_eq_ediv_of_nonneg (by omega)]
    have e3 : 0 ≤ (v (8 + 4 * a) - -1 + p - 1) / p := Int.ediv_nonneg (by omega) (by omega)
    have e4 : (v (8 + 4 * a) - -1 + p - 1) / p ≤ v (8 + 4 * a) - -1 + p - 1 := Int.ediv_le_self _ (by omega)
    rw [xwn (by omega) (by omega)]
    refine ⟨_, rfl, ?_, ?_, fun h => absurd h q⟩
    · unfold xmax; split <;> omega
    · unfold xmax; split <;> omega
/-- the class's round -/
theorem x_follow {F : Mem} {V s : Nat} (hV : VR v F V) (hO : VO v) (hS : SR 3 16 r F s) (hR : RO r) (hV2 : V + 4 < 60) (hs2 : s + 1 < 60) : ∃ F' k, fX8_follow 60 V s F = some F' ∧ isStop v r k ∧ F' 60 0 = (V : Int) ∧ F' 60 1 = (k : Int) ∧ F' 60 2 = clm v r k ∧ (∀ i : Nat, (i : Int) < v 0 → F' 61 i = sta v r k i) ∧ (∀ o j, o ≠ 60 → o ≠ 61 → F' o j = F o j) := by
  have hV0 : V ≠ 0 := (vlay hV.1).1
  have hs0 : s ≠ 0 := by
    intro q
    have := hS.1
    rw [q] at this
    cases this
  have b0 := hO.1
  have b1 := hO.2.1
  have b5 := hO.2.2.2.1
  have r0 := hR.1
  unfold fX8_follow
  rw [if_neg hV0]
  generalize hF0 : mset (mset (mset F 60 0 (V : Int)) 60 1 0) 60 2 0 = F0
  have f0 : ∀ o j, o ≠ 60 → o ≠ 61 → F0 o j = F o j := fun o j q1 q2 => by rw [← hF0, mset_ne _ _ (by omega), mset_ne _ _ (by omega), mset_ne _ _ (by omega)]
  have f1 : F0 60 0 = (V : Int) := by rw [← hF0, mset_ne _ _ (by omega), mset_ne _ _ (by omega), mset_eq]
  have f2 : F0 60 1 = 0 := by rw [← hF0, mset_ne _ _ (by omega), mset_eq]
  have f3 : F0 60 2 = 0 := by rw [← hF0, mset_eq]
  have f4 : F0 V 4 = v 4 := by rw [f0 _ _ (by omega) (by omega)]; exact hV.2.1.2.2.2.2
  rw [f4]
  -- the end of a round
  have close : ∀ (G : Mem) (k : Nat), isStop v r k → G 60 0 = (V : Int) → G 60 1 = (k : Int) → G 60 2 = clm v r k → (∀ i : Nat, (i : Int) < flk r k → (i : Int) < v 0 → G 61 i = sta v r k i) → (∀ o j, o ≠ 60 → o ≠ 61 → G o j = F o j) →
      ∃ F' q, fX8_follow_b171 60 V (atk v r k) (flk r k) G = some F' ∧ isStop v r q ∧ F' 60 0 = (V : Int) ∧ F' 60 1 = (q : Int) ∧ F' 60 2 = clm v r q ∧ (∀ i : Nat, (i : Int) < v 0 → F' 61 i = sta v r q i) ∧ (∀ o j, o ≠ 60 → o ≠ 61 → F' o j = F o j) := by
    intro G k hk g1 g2 g3 g4 g5
    have q1 := fl_bd hR hk.1
    obtain ⟨F', m1, m2, m3⟩ := x_mark (F := G) (flk r k) (v 0) (atk v r k) (by omega) (by omega)
    refine ⟨F', k, ?_, hk, ?_, ?_, ?_, fun i hi => ?_, fun o j h1 h2 => ?_⟩
    · unfold fX8_follow_b171
      rw [if_neg hV0, g5 V 0 (by omega) (by omega), hV.2.1.1, m1, Option.bind_some]
    · rw [m3 _ _ (by omega)]; exact g1
    · rw [m3 _ _ (by omega)]; exact g2
    · rw [m3 _ _ (by omega)]; exact g3
    · rw [m2]
      by_cases z : flk r k ≤ (i : Int)
      · rw [if_pos (by omega), sta_fl hO hR hk.1 hk.2.1 z]
      · rw [if_neg (by omega)]; exact g4 i (by omega) hi
    · rw [m3 _ _ h2]; exact g5 o j h1 h2
  refine lp (fun n k (st : Int × Int × Int × Mem) => fX8_follow_b29 n 60 V s st.1 st.2.1 st.2.2.1 (k : Int) st.2.2.2) (r 0).toNat
    (fun k st => st.1 = atk v r k ∧ st.2.1 = flk r k ∧ st.2.2.1 = frk r k ∧ (∀ j, j < k → canL v r j) ∧ st.2.2.2 60 0 = (V : Int) ∧ st.2.2.2 60 1 = (k : Int) ∧ st.2.2.2 60 2 = clm v r k ∧ (∀ i : Nat, (i : Int) < flk r k → (i : Int) < v 0 → st.2.2.2 61 i = sta v r k i) ∧ (∀ o j, o ≠ 60 → o ≠ 61 → st.2.2.2 o j = F o j))
    (fun x => ∃ F' k, x = some F' ∧ isStop v r k ∧ F' 60 0 = (V : Int) ∧ F' 60 1 = (k : Int) ∧ F' 60 2 = clm v r k ∧ (∀ i : Nat, (i : Int) < v 0 → F' 61 i = sta v r k i) ∧ (∀ o j, o ≠ 60 → o ≠ 61 → F' o j = F o j)) ?_ ?_ FU 0 (v 4, 0, 0, F0) (by omega) ?_ (FU_gt (by omega))
  · rintro n k ⟨at_, fl, fr, G⟩ hk ⟨h1, h2, h3, h4, h5, h6, h7, h8, h9⟩
    dsimp only at h1 h2 h3 h4 h5 h6 h7 h8 h9 ⊢
    subst h1 h2 h3
    have hkr : (k : Int) < r 0 := by omega
    have hVG : VR v G V := hV.mono (fun o j _ _ => h9 o j (by omega) (by omega))
    have hSG : SR 3 16 r G s := hS.mono (fun o j _ _ => h9 o j (by omega) (by omega))
    have c0 := s_cell hSG (by decide) (k := k) (i := 0) (x := (k : Int)) (y := 0) rfl rfl hkr (by omega)
    have c1 := s_cell hSG (by decide) (k := k) (i := 1) (x := (k : Int)) (y := 1) rfl rfl hkr (by omega)
    have c2 := s_cell hSG (by decide) (k := k) (i := 2) (x := (k : Int)) (y := 2) rfl rfl hkr (by omega)
    rw [Nat.add_zero] at c0
    have q1 := at_bd hO hR (Int.le_of_lt hkr) h4
    have q2 := hR.2 k hkr
    have q3 := fl_bd hR (Int.le_of_lt hkr)
    obtain ⟨z, z1, z2, z3, z4⟩ := x_slotsAny hVG hO b1.1 b1.2 q1 q2.1
    have eS : G s 3 = r 0 := hSG.2.2.2.2.1
    have eV : G V 1 = v 1 := hVG.2.1.2.1
    have eV0 : G V 0 = v 0 := hVG.2.1.1
    have E : fX8_follow_b29 (n + 1) 60 V s (atk v r k) (flk r k) (frk r k) (k : Int) G = (if (if 0 ≤ r (1 + 3 * k) ∧ r (1 + 3 * k) < v 5 then (1 : Int) else 0) = 0 then fX8_follow_b171 60 V (atk v r k) (flk r k) G else if v 0 < r (1 + 3 * k + 2) then fX8_follow_b171 60 V (atk v r k) (flk r k) G else
        if frk r k ≤ r (1 + 3 * k + 1) - z then
            (fX8_mark 60 (flk r k) (r (1 + 3 * k + 1) - z) (atk v r k) G).bind fun q21 =>
            (fX8_mark 60 (r (1 + 3 * k + 1) - z) (r (1 + 3 * k + 1)) (-1) q21).bind fun q23 =>
            (fX7_stepsBetween V (atk v r k) (r (1 + 3 * k)) q23).bind fun r26 =>
            (fX3_cell s (k : Int) 2 (mset q23 60 2 (xw ((q23 60 2) + r26)))).bind fun r29 =>
            fX8_follow_b29 n 60 V s (r (1 + 3 * k)) (r (1 + 3 * k + 1)) r29 (xw ((k : Int) + 1)) (mset (mset q23 60 2 (xw ((q23 60 2) + r26))) 60 1 (xw (((mset q23 60 2 (xw ((q23 60 2) + r26))) 60 1) + 1)))
        else fX8_follow_b171 60 V (atk v r k) (flk r k) G) := by
      rw [fX8_follow_b29, if_neg hs0, eS, if_neg (by omega), if_neg hs0, c0, Option.bind_some, if_neg hs0, c1, Option.bind_some, if_neg hV0, if_neg hV0, eV, z1, Option.bind_some, if_neg hV0, v_has hVG, if_neg hs0, c2, Option.bind_some, if_neg hV0, eV0, xwn (x := r (1 + 3 * k + 1) - z) (by omega) (by omega)]
      simp only [if_neg hV0, if_neg hs0]
    rw [E]
    by_cases w1 : r (1 + 3 * k) < v 5
    · rw [if_pos (c := 0 ≤ _ ∧ _) (by omega), if_neg (by decide)]
      have z5 := z4 w1
      have q4 := lv_bd hO hR hkr h4 w1
      have q5 : r (1 + 3 * k + 1) - z = lvk v r k := by rw [z5]; rfl
      rw [q5]
      by_cases w2 : r (1 + 3 * k + 2) ≤ v 0
      · rw [if_neg (by omega)]
        by_cases w3 : frk r k ≤ lvk v r k
        · left
          rw [if_pos w3]
          have hcan : ∀ j, j < k + 1 → canL v r j := fun j hj => by
            by_cases q : j < k
            · exact h4 j q
            · have : j = k := by omega
              subst this
              exact ⟨w1, w2, w3⟩
          obtain ⟨G1, m1, m2, m3⟩ := x_mark (F := G) (flk r k) (lvk v r k) (atk v r k) (by omega) (by omega)
          obtain ⟨G2, n1, n2, n3⟩ := x_mark (F := G1) (lvk v r k) (r (1 + 3 * k + 1)) (-1) (by omega) (by omega)
          have g2 : ∀ o j, o ≠ 61 → G2 o j = G o j := fun o j h => (n3 o j h).trans (m3 o j h)
          have hVG2 : VR v G2 V := hVG.mono (fun o j _ _ => g2 o j (by omega))
          obtain ⟨ka, ea⟩ := nat_of q1.1
          obtain ⟨kb, eb⟩ := nat_of q2.1.1
          have st1 := v_steps hVG2 hO (a := ka) (b := kb) (by omega) (by omega)
          rw [← ea, ← eb] at st1
          rw [m1, Option.bind_some, n1, Option.bind_some, st1, Option.bind_some]
          have cb := clm_bd hO hR (Int.le_of_lt hkr) h4
          have sb := stp_bd hO (a := ka) (b := kb) (by omega) (by omega)
          have e2 : G2 60 2 = clm v r k := by rw [g2 _ _ (by omega)]; exact h7
          rw [e2, xwn (by omega) (by omega)]
          generalize hG3 : mset G2 60 2 (clm v r k + stp v ka kb) = G3
          have g3 : ∀ o j, o ≠ 60 → G3 o j = G2 o j := fun o j h => by rw [← hG3, mset_ne _ _ (by omega)]
          have hSG3 : SR 3 16 r G3 s := hSG.mono (fun o j _ _ => (g3 o j (by omega)).trans (g2 o j (by omega)))
          have c3 := s_cell hSG3 (by decide) (k := k) (i := 2) (x := (k : Int)) (y := 2) rfl rfl hkr (by omega)
          rw [c3, Option.bind_some]
          have e3 : G3 60 1 = (k : Int) := by rw [← hG3, mset_ne _ _ (by omega), g2 _ _ (by omega)]; exact h6
          have e4 : G3 60 2 = clm v r k + stp v ka kb := by rw [← hG3, mset_eq]
          have e5 : G3 60 0 = (V : Int) := by rw [← hG3, mset_ne _ _ (by omega), g2 _ _ (by omega)]; exact h5
          rw [e3, xwS (by omega)]
          refine ⟨(r (1 + 3 * k), r (1 + 3 * k + 1), r (1 + 3 * k + 2), mset G3 60 1 ((k + 1 : Nat) : Int)), ⟨rfl, rfl, rfl, hcan, ?_, ?_, ?_, fun i hi hi2 => ?_, fun o j x1 x2 => ?_⟩, rfl⟩
          · dsimp only
            rw [mset_ne _ _ (by omega)]; exact e5
          · dsimp only
            rw [mset_eq]
          · dsimp only
            rw [mset_ne _ _ (by omega), e4]
            show _ = clm v r k + stp v (atk v r k).toNat (r (1 + 3 * k)).toNat
            rw [ea, eb]; rfl
          · dsimp only
            have hi : (i : Int) < r (1 + 3 * k + 1) := hi
            rw [mset_ne _ _ (by omega), g3 _ _ (by omega), n2, m2]
            show _ = if (i : Int) < lvk v r k then sta v r k i else if (i : Int) < r (1 + 3 * k + 1) then -1 else r (1 + 3 * k)
            by_cases y1 : (i : Int) < lvk v r k
            · rw [if_pos y1, if_neg (by omega)]
              by_cases y2 : flk r k ≤ (i : Int)
              · rw [if_pos (by omega), sta_fl hO hR (Int.le_of_lt hkr) h4 y2]
              · rw [if_neg (by omega)]; exact h8 i (by omega) hi2
            · rw [if_neg y1, if_pos hi, if_pos (by omega)]
          · dsimp only
            rw [mset_ne _ _ (by omega), g3 _ _ (by omega), g2 _ _ (by omega)]; exact h9 o j x1 x2
        · right
          rw [if_neg w3]
          exact close G k ⟨by omega, h4, Or.inr (fun q => w3 q.2.2)⟩ h5 h6 h7 h8 h9
      · right
        rw [if_pos (by omega)]
        exact close G k ⟨by omega, h4, Or.inr (fun q => w2 q.2.1)⟩ h5 h6 h7 h8 h9
    · right
      rw [if_neg (c := 0 ≤ _ ∧ _) (by omega), if_pos rfl]
      exact close G k ⟨by omega, h4, Or.inr (fun q => w1 q.1)⟩ h5 h6 h7 h8 h9
  · rintro n ⟨at_, fl, fr, G⟩ ⟨h1, h2, h3, h4, h5, h6, h7, h8, h9⟩
    dsimp only at h1 h2 h3 h4 h5 h6 h7 h8 h9 ⊢
    subst h1 h2 h3
    have hSG : SR 3 16 r G s := hS.mono (fun o j _ _ => h9 o j (by omega) (by omega))
    have eS : G s 3 = r 0 := hSG.2.2.2.2.1
    have E : fX8_follow_b29 (n + 1) 60 V s (atk v r (r 0).toNat) (flk r (r 0).toNat) (frk r (r 0).toNat) (((r 0).toNat : Nat) : Int) G = fX8_follow_b171 60 V (atk v r (r 0).toNat) (flk r (r 0).toNat) G := by
      rw [fX8_follow_b29, if_neg hs0, eS, if_pos (by omega)]
    rw [E]
    exact close G _ ⟨by omega, h4, Or.inl (by omega)⟩ h5 h6 h7 h8 h9
  · refine ⟨rfl, rfl, rfl, fun j hj => absurd hj (by omega), f1, f2, f3, fun i hi _ => ?_, f0⟩
    have hi : (i : Int) < 0 := hi
    omega
end WLK2
