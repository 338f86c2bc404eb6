section GOES
variable {v r : Nat → Int}
theorem al177 : alen (173 + 4) = 48 := rfl
/-- the reference's round -/
theorem m_goes {F : Mem} {i : Nat} (hM : MV v F) (hO : VO v) (hi : i < 3) (hr : r = rOf (F 174) i) (hR : RO r) (hp : F 173 12 = 0) : ∃ F' k, fX10_goes 173 (i : Int) F = some F' ∧ isStop v r k ∧ F' 173 15 = (k : Int) ∧ F' 173 16 = clm v r k ∧ (∀ s : Nat, s < 48 → F' 177 s = sta v r k s) ∧ (∀ o j, o ≠ 173 → o ≠ 177 → F' o j = F o j) ∧ (∀ j, j ≠ 15 → j ≠ 16 → F' 173 j = F 173 j) := by
  have b0 := hO.1
  have b1 := hO.2.1
  have b5 := hO.2.2.2.1
  have r0 := hR.1
  have hA : ∀ j, F 174 (726 + 49 * i + j) = r j := fun j => by rw [hr]; rfl
  unfold fX10_goes
  rw [m_of hM (i := 4) (x := 4) rfl (by omega), Option.bind_some, m_place1 (by omega)]
  generalize hF0 : mset (mset F 173 15 0) 173 16 0 = F0
  have f0 : ∀ o j, o ≠ 173 → F0 o j = F o j := fun o j q => by rw [← hF0, mset_ne _ _ (by omega), mset_ne _ _ (by omega)]
  have f1 : ∀ j, j ≠ 15 → j ≠ 16 → F0 173 j = F 173 j := fun j q1 q2 => by rw [← hF0, mset_ne _ _ (by omega), mset_ne _ _ (by omega)]
  have f2 : F0 173 15 = 0 := by rw [← hF0, mset_ne _ _ (by omega), mset_eq]
  have f3 : F0 173 16 = 0 := by rw [← hF0, mset_eq]
  -- what a memory of such a walk keeps
  have key : ∀ G : Mem, (∀ o j, o ≠ 173 → o ≠ 177 → G o j = F o j) → (∀ j, j ≠ 15 → j ≠ 16 → G 173 j = F 173 j) → MV v G ∧ mpc v G = v 1 ∧ ∀ j, G 174 (726 + 49 * i + j) = r j := by
    intro G g1 g2
    refine ⟨hM.mono (g2 10 (by omega) (by omega)) (fun k => g1 174 k (by omega) (by omega)), ?_, fun j => (g1 174 _ (by omega) (by omega)).trans (hA j)⟩
    unfold mpc
    rw [g2 12 (by omega) (by omega), hp]
    rfl
  -- the legs
  have legs : ∀ F1 : Mem, (∀ o j, o ≠ 173 → o ≠ 177 → F1 o j = F o j) → (∀ j, j ≠ 15 → j ≠ 16 → F1 173 j = F 173 j) → F1 173 15 = 0 → F1 173 16 = 0 → (∀ s : Nat, s < 48 → F1 177 s = v 4) →
      ∃ F' k, fX10_goes_b52 FU 173 (726 + 49 * (i : Int)) (v 4) 0 1 F1 = some F' ∧ isStop v r k ∧ F' 173 15 = (k : Int) ∧ F' 173 16 = clm v r k ∧ (∀ s : Nat, s < 48 → F' 177 s = sta v r k s) ∧ (∀ o j, o ≠ 173 → o ≠ 177 → F' o j = F o j) ∧ (∀ j, j ≠ 15 → j ≠ 16 → F' 173 j = F 173 j) := by
    intro F1 a1 a2 a3 a4 a5
    refine lp (fun n _ (st : Int × Int × Int × Mem) => fX10_goes_b52 n 173 (726 + 49 * (i : Int)) st.1 st.2.1 st.2.2.1 st.2.2.2) ((r 0).toNat + 1)
      (fun k st => ∃ q : Nat, ((st.2.2.1 = 1 ∧ q = k ∧ (q : Int) ≤ r 0 ∧ st.1 = atk v r q ∧ st.2.1 = frk r q) ∨ (st.2.2.1 = 0 ∧ q + 1 = k ∧ (q : Int) < r 0 ∧ ¬ canL v r q)) ∧ (∀ j, j < q → canL v r j) ∧ st.2.2.2 173 15 = (q : Int) ∧ st.2.2.2 173 16 = clm v r q ∧ (∀ s : Nat, s < 48 → st.2.2.2 177 s = sta v r q s) ∧ (∀ o j, o ≠ 173 → o ≠ 177 → st.2.2.2 o j = F o j) ∧ (∀ j, j ≠ 15 → j ≠ 16 → st.2.2.2 173 j = F 173 j))
      (fun x => ∃ F' k, x = some F' ∧ isStop v r k ∧ F' 173 15 = (k : Int) ∧ F' 173 16 = clm v r k ∧ (∀ s : Nat, s < 48 → F' 177 s = sta v r k s) ∧ (∀ o j, o ≠ 173 → o ≠ 177 → F' o j = F o j) ∧ (∀ j, j ≠ 15 → j ≠ 16 → F' 173 j = F 173 j)) ?_ ?_ FU 0 (v 4, 0, 1, F1) (Nat.zero_le _) ?_ (FU_gt (by omega))
    · rintro n k ⟨at_, fr, can, G⟩ hk ⟨q, hq, h1, h2, h3, h4, h5, h6⟩
      dsimp only at hq h1 h2 h3 h4 h5 h6 ⊢
      rcases hq with ⟨rfl, rfl, q1, rfl, rfl⟩ | ⟨rfl, q1, q2, q3⟩
      · obtain ⟨hMG, hpG, hAG⟩ := key G h5 h6
        have e0 : G 174 ((726 : Int) + 49 * (i : Int)).toNat = r 0 := by
          rw [show ((726 : Int) + 49 * (i : Int)).toNat = 726 + 49 * i + 0 by omega]; exact hAG 0
        by_cases w0 : (q : Int) = r 0
        · right
          refine ⟨G, q, ?_, ⟨q1, h1, Or.inl w0⟩, h2, h3, h4, h5, h6⟩
          rw [fX10_goes_b52, if_neg (by decide), al174, if_pos (by omega), e0, h2, if_pos (by omega)]
        · left
          have hq2 : (q : Int) < r 0 := by omega
          have t1 := hR.2 q hq2
          have t2 := at_bd hO hR q1 h1
          have t3 := fl_bd hR q1
          obtain ⟨ka, ea⟩ := nat_of t2.1
          obtain ⟨kb, eb⟩ := nat_of t1.1.1
          have i0 : G 174 ((726 : Int) + 49 * (i : Int) + 1 + 3 * (q : Int)).toNat = r (1 + 3 * q) := by
            rw [show ((726 : Int) + 49 * (i : Int) + 1 + 3 * (q : Int)).toNat = 726 + 49 * i + (1 + 3 * q) by omega]; exact hAG _
          have i1 : G 174 ((726 : Int) + 49 * (i : Int) + 1 + 3 * (q : Int) + 1).toNat = r (1 + 3 * q + 1) := by
            rw [show ((726 : Int) + 49 * (i : Int) + 1 + 3 * (q : Int) + 1).toNat = 726 + 49 * i + (1 + 3 * q + 1) by omega]; exact hAG _
          have i2 : G 174 ((726 : Int) + 49 * (i : Int) + 1 + 3 * (q : Int) + 2).toNat = r (1 + 3 * q + 2) := by
            rw [show ((726 : Int) + 49 * (i : Int) + 1 + 3 * (q : Int) + 2).toNat = 726 + 49 * i + (1 + 3 * q + 2) by omega]; exact hAG _
          have E : fX10_goes_b52 (n + 1) 173 (726 + 49 * (i : Int)) (atk v r q) (frk r q) 1 G = (if (if 0 ≤ r (1 + 3 * q) ∧ r (1 + 3 * q) < v 5 then (1 : Int) else 0) = 0 then fX10_goes_b144 (fX10_goes_b52 n) 173 (726 + 49 * (i : Int)) (atk v r q) (frk r q) (726 + 49 * (i : Int) + 1 + 3 * (q : Int)) (r (1 + 3 * q)) 0 G else
              if v 0 < r (1 + 3 * q + 2) then fX10_goes_b144 (fX10_goes_b52 n) 173 (726 + 49 * (i : Int)) (atk v r q) (frk r q) (726 + 49 * (i : Int) + 1 + 3 * (q : Int)) (r (1 + 3 * q)) 0 G else
              (fX10_slotsOf 173 (atk v r q) (r (1 + 3 * q)) G).bind fun r12 => if r (1 + 3 * q + 1) < xw (frk r q + r12) then fX10_goes_b144 (fX10_goes_b52 n) 173 (726 + 49 * (i : Int)) (atk v r q) (frk r q) (726 + 49 * (i : Int) + 1 + 3 * (q : Int)) (r (1 + 3 * q)) 0 G else fX10_goes_b144 (fX10_goes_b52 n) 173 (726 + 49 * (i : Int)) (atk v r q) (frk r q) (726 + 49 * (i : Int) + 1 + 3 * (q : Int)) (r (1 + 3 * q)) 1 G) := by
            rw [fX10_goes_b52, if_neg (by decide), al174, if_pos (by omega), e0, h2, if_neg (by omega)]
            simp (disch := omega) only [xwn, if_pos, i0, i1, i2]
            rw [m_isHouse hMG hO, Option.bind_some, m_of hMG (i := 0) (x := 0) rfl (by omega), Option.bind_some]
          rw [E]
          have stay0 : ¬ canL v r q → ∃ s' : Int × Int × Int × Mem, (∃ q' : Nat, ((s'.2.2.1 = 1 ∧ q' = q + 1 ∧ (q' : Int) ≤ r 0 ∧ s'.1 = atk v r q' ∧ s'.2.1 = frk r q') ∨ (s'.2.2.1 = 0 ∧ q' + 1 = q + 1 ∧ (q' : Int) < r 0 ∧ ¬ canL v r q')) ∧ (∀ j, j < q' → canL v r j) ∧ s'.2.2.2 173 15 = (q' : Int) ∧ s'.2.2.2 173 16 = clm v r q' ∧ (∀ s : Nat, s < 48 → s'.2.2.2 177 s = sta v r q' s) ∧ (∀ o j, o ≠ 173 → o ≠ 177 → s'.2.2.2 o j = F o j) ∧ (∀ j, j ≠ 15 → j ≠ 16 → s'.2.2.2 173 j = F 173 j)) ∧
              fX10_goes_b144 (fX10_goes_b52 n) 173 (726 + 49 * (i : Int)) (atk v r q) (frk r q) (726 + 49 * (i : Int) + 1 + 3 * (q : Int)) (r (1 + 3 * q)) 0 G = fX10_goes_b52 n 173 (726 + 49 * (i : Int)) s'.1 s'.2.1 s'.2.2.1 s'.2.2.2 := by
            intro hnc
            refine ⟨(atk v r q, frk r q, 0, G), ⟨q, Or.inr ⟨rfl, rfl, hq2, hnc⟩, h1, h2, h3, h4, h5, h6⟩, ?_⟩
            unfold fX10_goes_b144
            rw [if_neg (by decide)]
          by_cases w1 : r (1 + 3 * q) < v 5
          · rw [if_pos (c := 0 ≤ _ ∧ _) (by omega), if_neg (by decide)]
            by_cases w2 : r (1 + 3 * q + 2) ≤ v 0
            · have ss : fX10_slotsOf 173 (atk v r q) (r (1 + 3 * q)) G = some (slt v (v 1) (atk v r q).toNat (r (1 + 3 * q)).toNat) := by
                rw [ea, eb]
                exact m_slots hMG hO hpG b1.1 b1.2 (by omega) (by omega)
              have sbd := slt_bd hO b1.1 (a := (atk v r q).toNat) (b := (r (1 + 3 * q)).toNat) (by omega) (by omega)
              have el : lvk v r q = r (1 + 3 * q + 1) - slt v (v 1) (atk v r q).toNat (r (1 + 3 * q)).toNat := rfl
              rw [if_neg (by omega), ss, Option.bind_some, xwn (by omega) (by omega)]
              by_cases w3 : frk r q ≤ lvk v r q
              · rw [if_neg (by omega)]
                have hcan : canL v r q := ⟨w1, w2, w3⟩
                unfold fX10_goes_b144
                rw [if_pos (by decide), al174, xwn (x := 726 + 49 * (i : Int) + 1 + 3 * (q : Int) + 1) (by omega) (by omega), if_pos (by omega), ss, Option.bind_some, i1, xwn (x := r (1 + 3 * q + 1) - _) (by omega) (by omega), ← el]
                obtain ⟨kl, ekl⟩ := nat_of (show 0 ≤ lvk v r q by omega)
                have hfill := lp (fun n' k' (G' : Mem) => fX10_goes_b173 (fX10_goes_b52 n) n' 173 (726 + 49 * (i : Int)) (atk v r q) 1 (726 + 49 * (i : Int) + 1 + 3 * (q : Int)) (r (1 + 3 * q)) (k' : Int) G') 48
                  (fun k' G' => kl ≤ k' ∧ (∀ s : Nat, s < 48 → G' 177 s = if kl ≤ s ∧ s < k' then (if (s : Int) < r (1 + 3 * q + 1) then -1 else r (1 + 3 * q)) else G 177 s) ∧ (∀ o j, o ≠ 177 → G' o j = G o j))
                  (fun x => ∃ G', x = fX10_goes_b52 n 173 (726 + 49 * (i : Int)) (r (1 + 3 * q)) (r (1 + 3 * q + 2)) 1 G' ∧ G' 173 15 = ((q + 1 : Nat) : Int) ∧ G' 173 16 = clm v r (q + 1) ∧ (∀ s : Nat, s < 48 → G' 177 s = if kl ≤ s then (if (s : Int) < r (1 + 3 * q + 1) then -1 else r (1 + 3 * q)) else G 177 s) ∧ (∀ o j, o ≠ 177 → o ≠ 173 → G' o j = G o j) ∧ (∀ j, j ≠ 15 → j ≠ 16 → G' 173 j = G 173 j)) ?_ ?_ FU kl G (by omega) ?_ (show 48 < 100000 + kl by omega)
                · obtain ⟨G', g1, g2, g3, g4, g5, g6⟩ := hfill
                  refine ⟨(r (1 + 3 * q), r (1 + 3 * q + 2), 1, G'), ⟨q + 1, Or.inl ⟨rfl, rfl, by omega, rfl, rfl⟩, fun j hj => ?_, g2, g3, fun s hs => ?_, fun o j x1 x2 => (g5 o j x2 x1).trans (h5 o j x1 x2), fun j x1 x2 => (g6 j x1 x2).trans (h6 j x1 x2)⟩, ?_⟩
                  · by_cases y : j < q
                    · exact h1 j y
                    · have : j = q := by omega
                      subst this
                      exact hcan
                  · show G' 177 s = if (s : Int) < lvk v r q then sta v r q s else if (s : Int) < r (1 + 3 * q + 1) then -1 else r (1 + 3 * q)
                    rw [g4 s hs]
                    by_cases y : kl ≤ s
                    · rw [if_pos y, if_neg (c := (s : Int) < lvk v r q) (by omega)]
                    · rw [if_neg y, if_pos (c := (s : Int) < lvk v r q) (by omega)]; exact h4 s hs
                  · rw [ekl]; exact g1
                · rintro n' k' G' hk' ⟨g0, g1, g2⟩
                  left
                  have j1 : G' 174 ((726 : Int) + 49 * (i : Int) + 1 + 3 * (q : Int) + 1).toNat = r (1 + 3 * q + 1) := (g2 174 _ (by omega)).trans i1
                  refine ⟨mset G' 177 k' (if (k' : Int) < r (1 + 3 * q + 1) then -1 else r (1 + 3 * q)), ⟨by omega, fun s hs => ?_, fun o j ho => ?_⟩, ?_⟩
                  · by_cases y : s = k'
                    · subst y
                      rw [mset_eq, if_pos (c := kl ≤ s ∧ _) ⟨g0, by omega⟩]
                    · rw [mset_ne _ _ (by omega), g1 s hs]
                      by_cases y2 : kl ≤ s ∧ s < k'
                      · rw [if_pos y2, if_pos (c := kl ≤ s ∧ s < k' + 1) ⟨y2.1, by omega⟩]
                      · rw [if_neg y2, if_neg (by omega)]
                  · rw [mset_ne _ _ (by omega)]; exact g2 o j ho
                  · show fX10_goes_b173 (fX10_goes_b52 n) (n' + 1) 173 (726 + 49 * (i : Int)) (atk v r q) 1 (726 + 49 * (i : Int) + 1 + 3 * (q : Int)) (r (1 + 3 * q)) (k' : Int) G' = fX10_goes_b173 (fX10_goes_b52 n) n' 173 (726 + 49 * (i : Int)) (atk v r q) 1 (726 + 49 * (i : Int) + 1 + 3 * (q : Int)) (r (1 + 3 * q)) ((k' + 1 : Nat) : Int) _
                    rw [fX10_goes_b173, if_neg (by omega), al174, xwn (x := 726 + 49 * (i : Int) + 1 + 3 * (q : Int) + 1) (by omega) (by omega), if_pos (by omega), j1, al177, xwS (by omega), Int.toNat_natCast]
                    by_cases y : r (1 + 3 * q + 1) ≤ (k' : Int)
                    · rw [if_pos y, if_pos (by omega), if_neg (by omega)]
                    · rw [if_neg y, if_pos (by omega), if_pos (by omega)]
                · rintro n' G' ⟨g0, g1, g2⟩
                  have hMG' : MV v G' := hMG.mono (g2 173 10 (by omega)) (fun k => g2 174 k (by omega))
                  have sst : fX10_steps 173 (atk v r q) (r (1 + 3 * q)) G' = some (stp v (atk v r q).toNat (r (1 + 3 * q)).toNat) := by
                    rw [ea, eb]
                    exact m_steps hMG' hO (by omega) (by omega)
                  have stb := stp_bd hO (a := (atk v r q).toNat) (b := (r (1 + 3 * q)).toNat) (by omega) (by omega)
                  have cb := clm_bd hO hR q1 h1
                  have e16 : G' 173 16 = clm v r q := (g2 173 16 (by omega)).trans h3
                  have e15 : G' 173 15 = (q : Int) := (g2 173 15 (by omega)).trans h2
                  have j2 : G' 174 ((726 : Int) + 49 * (i : Int) + 1 + 3 * (q : Int) + 2).toNat = r (1 + 3 * q + 2) := (g2 174 _ (by omega)).trans i2
                  refine ⟨mset (mset G' 173 16 (clm v r q + stp v (atk v r q).toNat (r (1 + 3 * q)).toNat)) 173 15 ((q + 1 : Nat) : Int), ?_, ?_, ?_, fun s hs => ?_, fun o j x1 x2 => ?_, fun j x1 x2 => ?_⟩
                  · show fX10_goes_b173 (fX10_goes_b52 n) (n' + 1) 173 (726 + 49 * (i : Int)) (atk v r q) 1 (726 + 49 * (i : Int) + 1 + 3 * (q : Int)) (r (1 + 3 * q)) ((48 : Nat) : Int) G' = _
                    rw [fX10_goes_b173, if_pos (by omega), sst, Option.bind_some, al174, xwn (x := 726 + 49 * (i : Int) + 1 + 3 * (q : Int) + 2) (by omega) (by omega), if_pos (by omega), e16, xwn (x := clm v r q + _) (by omega) (by omega)]
                    rw [show (173 + 1 : Nat) = 174 from rfl, mset_ne _ _ (by omega), mset_ne _ _ (by omega), j2, e15, xwS (by omega)]
                  · rw [mset_eq]
                  · rw [mset_ne _ _ (by omega), mset_eq]; rfl
                  · rw [mset_ne _ _ (by omega), mset_ne _ _ (by omega), g1 s hs]
                    by_cases y : kl ≤ s
                    · rw [if_pos ⟨y, hs⟩, if_pos y]
                    · rw [if_neg (by omega), if_neg y]
                  · rw [mset_ne _ _ (by omega), mset_ne _ _ (by omega)]; exact g2 o j x1
                  · rw [mset_ne _ _ (by omega), mset_ne _ _ (by omega)]; exact g2 173 j (by omega)
                · exact ⟨Nat.le_refl _, fun s hs => by rw [if_neg (by omega)], fun _ _ _ => rfl⟩
              · rw [if_pos (by omega)]
                exact stay0 (fun h => w3 h.2.2)
            · rw [if_pos (by omega)]
              exact stay0 (fun h => w2 h.2.1)
          · rw [if_neg (c := 0 ≤ _ ∧ _) (by omega), if_pos rfl]
            exact stay0 (fun h => w1 h.1)
      · right
        refine ⟨G, q, ?_, ⟨by omega, h1, Or.inr q3⟩, h2, h3, h4, h5, h6⟩
        rw [fX10_goes_b52, if_pos rfl]
    · rintro n ⟨at_, fr, can, G⟩ ⟨q, hq, h1, h2, h3, h4, h5, h6⟩
      dsimp only at hq h1 h2 h3 h4 h5 h6 ⊢
      rcases hq with ⟨rfl, q0, q1, -⟩ | ⟨rfl, q1, q2, q3⟩
      · exact absurd q1 (by omega)
      · refine ⟨G, q, ?_, ⟨by omega, h1, Or.inr q3⟩, h2, h3, h4, h5, h6⟩
        rw [fX10_goes_b52, if_pos rfl]
    · exact ⟨0, Or.inl ⟨rfl, rfl, r0.1, rfl, rfl⟩, fun j hj => absurd hj (by omega), a3, a4, fun s hs => a5 s hs, a1, a2⟩
  refine lp (fun n k (G : Mem) => fX10_goes_b28 n 173 (726 + 49 * (i : Int)) (v 4) 0 (k : Int) G) 48
    (fun k G => (∀ s : Nat, s < k → G 177 s = v 4) ∧ (∀ o j, o ≠ 177 → G o j = F0 o j))
    (fun x => ∃ F' k, x = some F' ∧ isStop v r k ∧ F' 173 15 = (k : Int) ∧ F' 173 16 = clm v r k ∧ (∀ s : Nat, s < 48 → F' 177 s = sta v r k s) ∧ (∀ o j, o ≠ 173 → o ≠ 177 → F' o j = F o j) ∧ (∀ j, j ≠ 15 → j ≠ 16 → F' 173 j = F 173 j)) ?_ ?_ FU 0 F0 (by omega) ⟨fun s hs => absurd hs (by omega), fun _ _ _ => rfl⟩ (FU_gt (by omega))
  · rintro n k G hk ⟨g1, g2⟩
    left
    refine ⟨mset G 177 k (v 4), ⟨fun s hs => ?_, fun o j ho => ?_⟩, ?_⟩
    · by_cases y : s = k
      · subst y; rw [mset_eq]
      · rw [mset_ne _ _ (by omega)]; exact g1 s (by omega)
    · rw [mset_ne _ _ (by omega)]; exact g2 o j ho
    · show fX10_goes_b28 (n + 1) 173 (726 + 49 * (i : Int)) (v 4) 0 (k : Int) G = fX10_goes_b28 n 173 (726 + 49 * (i : Int)) (v 4) 0 ((k + 1 : Nat) : Int) _
      rw [fX10_goes_b28, if_neg (by omega), al177, if_pos (by omega), xwS (by omega), Int.toNat_natCast]
  · rintro n G ⟨g1, g2⟩
    show ∃ F' k, fX10_goes_b28 (n + 1) 173 (726 + 49 * (i : Int)) (v 4) 0 ((48 : Nat) : Int) G = some F' ∧ _
    rw [fX10_goes_b28, if_pos (by omega)]
    refine legs G (fun o j x1 x2 => (g2 o j x2).trans (f0 o j x1)) (fun j x1 x2 => (g2 173 j (by omega)).trans (f1 j x1 x2)) ((g2 173 15 (by omega)).trans f2) ((g2 173 16 (by omega)).trans f3) g1
end GOES
