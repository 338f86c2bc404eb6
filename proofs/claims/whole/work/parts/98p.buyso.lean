/-! ===== buys, the call ===== -/
section BUO
variable {v hd : Nat → Int} {day : Nat} {G : Mem}
noncomputable def bAns (v hd : Nat → Int) (day k n : Nat) (what : Int) : Int := if what = -1 then (n : Int) else if what = -2 then gof (yD v (bH v day k hd n) day) else if (n : Int) ≤ what then -2 else bS v day k hd what.toNat
theorem m_buys (h : MAS v hd day 1 G) (hne : yD v hd day ≠ BD) {k : Nat} {what : Int} (hw : -2 ≤ what) : ∃ (n : Nat) (G' : Mem), isBY v hd day k n ∧ fX10_buys_b44 FU 173 (k : Int) what 0 (gof (yD v hd day)) 0 G = some (bAns v hd day k n what, G') ∧ kM G G' := by
  have hO := h.1.2
  have b0 := hO.1
  have hd7 : day < 7 := by have := h.2.1.1; omega
  have h48 : (v 0).toNat ≤ 48 := by omega
  suffices H : ∀ q : Option (Int × Mem), q = fX10_buys_b44 FU 173 (k : Int) what 0 (gof (yD v hd day)) 0 G → ∃ (n : Nat) (G' : Mem), isBY v hd day k n ∧ q = some (bAns v hd day k n what, G') ∧ kM G G' from H _ rfl
  rintro q rfl
  have fin : ∀ (m n : Nat) (K : Mem), isBY v hd day k n → n ≤ 48 → kM G K → (∀ j, j < n → K 187 j = bS v day k hd j) → ∃ (n' : Nat) (G' : Mem), isBY v hd day k n' ∧ fX10_buys_b44 (m + 1) 173 (k : Int) what (n : Int) (gof (yD v (bH v day k hd n) day)) (-1) K = some (bAns v hd day k n' what, G') ∧ kM G G' := by
    intro m n K hb hn kK h187
    refine ⟨n, K, hb, ?_, kK⟩
    unfold bAns
    rw [fX10_buys_b44, if_pos rfl]
    by_cases y1 : what = -1
    · rw [if_neg (dnn y1), if_pos y1]
    · rw [if_pos y1, if_neg y1]
      by_cases y2 : what = -2
      · rw [if_neg (dnn y2), if_pos y2]
      · rw [if_pos y2, if_neg y2]
        by_cases y3 : (n : Int) ≤ what
        · rw [if_pos y3, if_pos y3]
        · rw [if_neg y3, if_neg y3, show alen (173 + 14) = 48 from rfl, if_pos (show (0 : Int) ≤ what ∧ what < ((48 : Nat) : Int) by omega), show (173 + 14 : Nat) = 187 from rfl, h187 what.toNat (by omega)]
  refine lp (fun m i (st : (Nat × Int) × Mem) => fX10_buys_b44 m 173 (k : Int) what (st.1.1 : Int) (gof (yD v (bH v day k hd st.1.1) day)) st.1.2 st.2) 50 (fun i st => (∀ j, j < st.1.1 → bS v day k hd j ≠ -1) ∧ MAS v (bH v day k hd st.1.1) day 1 st.2 ∧ kM G st.2 ∧ (∀ j, j < st.1.1 → st.2 187 j = bS v day k hd j) ∧ ((st.1.2 ≠ -1 ∧ st.1.1 = i) ∨ (st.1.2 = -1 ∧ bS v day k hd st.1.1 = -1))) (fun q => ∃ (n : Nat) (G' : Mem), isBY v hd day k n ∧ q = some (bAns v hd day k n what, G') ∧ kM G G') ?_ ?_ FU 0 ((0, 0), G) (Nat.zero_le _) ⟨fun j hj => absurd hj (Nat.not_lt_zero j), h, kM.rf G, fun j hj => absurd hj (Nat.not_lt_zero j), Or.inl ⟨show (0 : Int) ≠ -1 by decide, rfl⟩⟩ (FU_gt (by omega))
  · rintro m i ⟨⟨n, x9⟩, K⟩ hi ⟨hS, hK, kK, h187, hx⟩
    dsimp only at hS hK kK h187 hx ⊢
    have hn := b_N hO hne hS
    rcases hx with ⟨x1, x2⟩ | ⟨x1, x2⟩
    · left
      subst x2
      have hneI := bH_ne hO hne k n
      have hN2 : n ≤ 48 := by omega
      by_cases z : bS v day k hd n = -1
      · have hn48 : n < 48 ∨ n = 48 := by omega
        -- a turn that finds none: its number isn't used
        obtain ⟨L, l1, l2, l3, l4⟩ := m_turnN (k44 := fX10_buys_b44 m) hK hneI what (n := n) (Or.inr z)
        have z2 : (bL v day k (bH v day k hd n)).2 = -1 := z
        rw [z2, if_neg (dnn rfl)] at l4
        refine ⟨((n, -1), L), ⟨hS, l1, kK.tr l2, fun j hj => (l3 j).trans (h187 j hj), Or.inr ⟨rfl, z⟩⟩, ?_⟩
        rw [fX10_buys_b44, if_neg x1]
        exact l4
      · have hn1 := b_N hO hne (k := k) (i := n + 1) (fun j hj => by
          by_cases y : j = n
          · rw [y]; exact z
          · exact hS j (by omega))
        obtain ⟨L, l1, l2, l3, l4⟩ := m_turnN (k44 := fX10_buys_b44 m) hK hneI what (n := n) (Or.inl (by omega))
        rcases bL_at hO hneI k with ⟨w, -⟩ | ⟨s, s1, s2, s3, s4, s5⟩
        · exact absurd w z
        · have nz : ¬ (s : Int) = -1 := by omega
          have eH : bH v day k hd (n + 1) = dlH (bH v day k hd n) day (k : Int) s (s + 1) := by
            show dlH (bH v day k hd n) day (k : Int) (bL v day k (bH v day k hd n)).2.toNat ((bL v day k (bH v day k hd n)).2.toNat + 1) = _
            rw [s2, Int.toNat_natCast]
          rw [s2, if_pos nz, s5, ← eH, Int.toNat_natCast] at l4
          have m2 := mas_179 (L := mset (mset L 179 (48 * day + s) (k : Int)) 187 n (s : Int)) (hd' := bH v day k hd (n + 1)) l1 (fun o j o1 o2 => by rw [mset_ne _ _ (by omega), mset_ne _ _ (by omega)]) (fun x hx => by
            rw [mset_ne _ _ (by omega), eH]
            unfold dlH
            by_cases y : x = 48 * day + s
            · subst y
              rw [mset_eq, if_pos (by omega)]
            · rw [mset_ne _ _ (by omega), if_neg (by omega)]
              exact l1.2.2.1 x hx)
          refine ⟨((n + 1, (s : Int)), mset (mset L 179 (48 * day + s) (k : Int)) 187 n (s : Int)), ⟨fun j hj => ?_, m2.1, (kK.tr l2).tr m2.2, fun j hj => ?_, Or.inl ⟨nz, rfl⟩⟩, ?_⟩
          · by_cases y : j = n
            · rw [y]; exact z
            · exact hS j (by dsimp only at hj; omega)
          · dsimp only at hj ⊢
            by_cases y : j = n
            · rw [y, mset_eq]; exact s2.symm
            · rw [mset_ne _ _ (by omega), mset_ne _ _ (by omega), l3 j]
              exact h187 j (by omega)
          · dsimp only
            rw [fX10_buys_b44, if_neg x1]
            exact l4
    · right
      subst x1
      exact fin m n K ⟨hS, x2⟩ (by omega) kK h187
  · rintro m ⟨⟨n, x9⟩, K⟩ ⟨hS, hK, kK, h187, hx⟩
    dsimp only at hS hK kK h187 hx ⊢
    have hn := b_N hO hne hS
    rcases hx with ⟨x1, x2⟩ | ⟨x1, x2⟩
    · omega
    · subst x1
      exact fin m n K ⟨hS, x2⟩ (by omega) kK h187
end BUO
