/-! ===== buys, the class ===== -/
theorem v50 : ∀ V : Nat, V < 58 → isKb V 7 = true → (V + 4 < 50 ∨ 50 < V) := by decide +kernel
section BUC
variable {v hd : Nat → Int} {V day : Nat} {F K : Mem}
theorem c_slotToBuy (hC : CSV v hd V day 1 0 0 K) (hne : yD v hd day ≠ BD) {k : Nat} (hk : (k : Int) < v 5) (hR : IsR (insD v hd day 1 0 0) (v 4).toNat (rch K) (1 * (v 0).toNat)) : fX5_slotToBuy 63 (gof (yD v hd day)) (k : Int) K = some (bL v day k hd).2 := by
  have hO := hC.1.1.1.2.2.2.2
  have b0 := hO.1
  have hd7 := hC.1.1.2.2.2.2.2.1.1
  have h48 : (v 0).toNat ≤ 48 := by omega
  have gD := yD_bd hO hne
  have hW := insD_WF (hd := hd) (day := day) hO (show 1 ≤ 7 by decide) 0 0
  have e634 : K 63 4 = v 0 := by rw [hC.1.1.2.2.2.2.1]; omega
  have n63 : ¬ (63 : Nat) = 0 := by decide
  have hkH : k < (v 5).toNat := by omega
  have eL : bL v day k hd = lsF (fun s => if hd (48 * day + s) = -1 ∨ hd (48 * day + s) = (k : Int) then -1 else gsT v (rch K) (tbl K) k s) (gof (yD v hd day)) (v 0).toNat := by
    refine lsF_eq _ (fun s hs => ?_)
    by_cases z : hd (48 * day + s) = -1 ∨ hd (48 * day + s) = (k : Int)
    · left
      show (if hd (48 * day + s) = -1 ∨ hd (48 * day + s) = (k : Int) then -1 else gof (yD v (dlH hd day (k : Int) s (s + 1)) day)) = _
      rw [if_pos z, if_pos z]
    · have := buy_eq hO hd7 hne hk hC.2.1 hR hs z
      rw [if_neg z]
      rcases this with w | w
      · exact Or.inl w.symm
      · exact Or.inr ⟨w.2, w.1⟩
  rw [eL]
  generalize hy : (fun s => if hd (48 * day + s) = -1 ∨ hd (48 * day + s) = (k : Int) then -1 else gsT v (rch K) (tbl K) k s) = y
  have ey : ∀ s, y s = if hd (48 * day + s) = -1 ∨ hd (48 * day + s) = (k : Int) then -1 else gsT v (rch K) (tbl K) k s := fun s => (congrFun hy s).symm
  unfold fX5_slotToBuy
  refine lp (fun n s (st : Int × Int) => fX5_slotToBuy_b8 K n 63 (k : Int) st.1 st.2 (s : Int)) (v 0).toNat (fun s st => st = lsF y (gof (yD v hd day)) s) (fun r => r = some (lsF y (gof (yD v hd day)) (v 0).toNat).2) ?_ ?_ FU 0 (gof (yD v hd day), -1) (Nat.zero_le _) rfl (FU_gt (by omega))
  · rintro n s st hs e0
    left
    have nN : ¬ v 0 ≤ (s : Int) := by omega
    have hs1 : s < 2147483647 := by omega
    have ho := x_holderOf hC.1.1 (s := s) (by omega)
    have sR := R_bd hW (Nat.le_refl _) hR (s := s) (h := k) (show s ≤ 1 * (v 0).toNat by omega) hkH
    have sX := X_bd hW tv0_01 hC.2.1 (s := s + 1) (h := k) (show s + 1 ≤ 1 * (v 0).toNat by omega) hkH
    have gs := x_gainStaying (PIc_PL hC.1) (N48 hO) (s := s) (k := k) (show s < 1 * (v 0).toNat by omega) hkH sR sX (x_gainIfHeld hC.1.1.1 hC.1.2.1 hk) (ghD_bd hO 0 0 s hk) (y := gsT v (rch K) (tbl K) k s) (fun c => if_pos c) (fun c => if_neg c)
    have e : lsF y (gof (yD v hd day)) (s + 1) = if st.1 < y s then (y s, (s : Int)) else st := by rw [e0]; rfl
    refine ⟨_, rfl, ?_⟩
    rw [e]
    have E : ∀ u : Int, u = y s → fX5_slotToBuy_b48 K (fX5_slotToBuy_b8 K n) 63 (k : Int) st.1 st.2 (s : Int) u = fX5_slotToBuy_b8 K n 63 (k : Int) (if st.1 < y s then (y s, (s : Int)) else st).1 (if st.1 < y s then (y s, (s : Int)) else st).2 ((s + 1 : Nat) : Int) := by
      rintro u rfl
      unfold fX5_slotToBuy_b48
      rw [xwS hs1]
      by_cases q : y s ≤ st.1
      · rw [if_pos q, if_neg (Int.not_lt.mpr q)]
      · rw [if_neg q, if_pos (Int.not_le.mp q)]
    rw [fX5_slotToBuy_b8, if_neg n63, e634, if_neg nN, if_neg n63, ho, Option.bind_some]
    by_cases q1 : hd (48 * day + s) = -1
    · rw [if_pos q1]
      exact E _ (by rw [ey, if_pos (Or.inl q1)])
    · rw [if_neg q1]
      by_cases q2 : hd (48 * day + s) = (k : Int)
      · rw [if_neg (dnn q2)]
        exact E _ (by rw [ey, if_pos (Or.inr q2)])
      · rw [if_pos q2, if_neg n63, gs, Option.bind_some]
        exact E _ (by rw [ey, if_neg (fun z => z.elim q1 q2)])
  · rintro n st e0
    have nN : v 0 ≤ (((v 0).toNat : Nat) : Int) := by omega
    rw [fX5_slotToBuy_b8, if_neg n63, e634, if_pos nN, e0]
/-- the answer of buying: as many as there are, till none is found -/
def isBY (v hd : Nat → Int) (day k n : Nat) : Prop := (∀ j, j < n → bS v day k hd j ≠ -1) ∧ bS v day k hd n = -1
theorem isBY_uq {k n m : Nat} (h1 : isBY v hd day k n) (h2 : isBY v hd day k m) : n = m := by
  rcases Nat.lt_trichotomy n m with w | w | w
  · exact absurd h1.2 (h2.1 n w)
  · exact w
  · exact absurd h2.2 (h1.1 m w)
theorem xwDy {d s : Nat} (hd : d < 7) (hs : s < 48) : xw (xw ((d : Int) * 48) + (s : Int)) = ((48 * d + s : Nat) : Int) := by
  rw [xwn (x := (d : Int) * 48) (by omega) (by omega), xwn (by omega) (by omega)]; omega
theorem xwSum {x y : Int} (h1 : 0 ≤ x ∧ x ≤ 3024) (h2 : 0 ≤ y ∧ y ≤ 3024) : xw (x + (y - x)) = y := by
  rw [xwn (by omega) (by omega)]; omega
theorem c_buys (hC : CSV v hd V day 1 0 0 F) (hne : yD v hd day ≠ BD) {k : Nat} (hk : (k : Int) < v 5) : ∃ (n : Nat) (F' : Mem), isBY v hd day k n ∧ n ≤ 48 ∧ fX5_buyAll 78 63 (gof (yD v hd day)) (k : Int) F = some F' ∧ F' 78 3 = (n : Int) ∧ F' 78 2 = gof (yD v (bH v day k hd n) day) - gof (yD v hd day) ∧ (∀ j, j < n → F' 79 j = bS v day k hd j) ∧ (∀ o j, (o ≤ 49 ∨ 80 ≤ o) → F' o j = F o j) := by
  have hO := hC.1.1.1.2.2.2.2
  have b0 := hO.1
  have hd7 := hC.1.1.2.2.2.2.2.1.1
  have h48 : (v 0).toNat ≤ 48 := by omega
  have n63 : ¬ (63 : Nat) = 0 := by decide
  have gD := yD_bd hO hne
  generalize hF1 : mset (mset F 78 2 0) 78 3 0 = F1
  have f1 : ∀ o j, o ≠ 78 → F1 o j = F o j := fun o j ho => by rw [← hF1, mset_ne _ _ (by omega), mset_ne _ _ (by omega)]
  have c2 : F1 78 2 = 0 := by rw [← hF1, mset_ne _ _ (by omega), mset_eq]
  have c3 : F1 78 3 = 0 := by rw [← hF1, mset_eq]
  have hC1 := csv_fr hC (F' := F1) (fun o j ho => f1 o j (by omega))
  unfold fX5_buyAll
  rw [hF1]
  suffices H : ∀ q : Option Mem, q = fX5_buyAll_b13 FU 78 63 (gof (yD v hd day)) (k : Int) 0 F1 → ∃ (n : Nat) (F' : Mem), isBY v hd day k n ∧ n ≤ 48 ∧ q = some F' ∧ F' 78 3 = (n : Int) ∧ F' 78 2 = gof (yD v (bH v day k hd n) day) - gof (yD v hd day) ∧ (∀ j, j < n → F' 79 j = bS v day k hd j) ∧ (∀ o j, (o ≤ 49 ∨ 80 ≤ o) → F' o j = F o j) from H _ rfl
  rintro q rfl
  refine lp (fun m i (K : Mem) => fX5_buyAll_b13 m 78 63 (gof (yD v hd day)) (k : Int) (i : Int) K) 48 (fun i K => (∀ j, j < i → bS v day k hd j ≠ -1) ∧ CSV v (bH v day k hd i) V day 1 0 0 K ∧ K 78 3 = (i : Int) ∧ K 78 2 = gof (yD v (bH v day k hd i) day) - gof (yD v hd day) ∧ (∀ j, j < i → K 79 j = bS v day k hd j) ∧ (∀ o j, (o ≤ 49 ∨ 80 ≤ o) → K o j = F o j)) (fun q => ∃ (n : Nat) (F' : Mem), isBY v hd day k n ∧ n ≤ 48 ∧ q = some F' ∧ F' 78 3 = (n : Int) ∧ F' 78 2 = gof (yD v (bH v day k hd n) day) - gof (yD v hd day) ∧ (∀ j, j < n → F' 79 j = bS v day k hd j) ∧ (∀ o j, (o ≤ 49 ∨ 80 ≤ o) → F' o j = F o j)) ?_ ?_ FU 0 F1 (Nat.zero_le _) ⟨fun j hj => absurd hj (Nat.not_lt_zero j), hC1.1, c3, by rw [c2]; exact (Int.sub_self _).symm, fun j hj => absurd hj (Nat.not_lt_zero j), fun o j ho => f1 o j (by omega)⟩ (FU_gt (by omega))
  · rintro m i K hi ⟨hS, hK, k3, k2, k79, frK⟩
    have n48 : ¬ (48 : Int) ≤ (i : Int) := by omega
    have hi1 : i < 2147483647 := by omega
    have hneI := bH_ne hO hne k i
    have gI := yD_bd hO hneI
    obtain ⟨K1, a1, a2, a3, a4, a5⟩ := csv_reach hK
    have st := c_slotToBuy a2 hneI hk a4
    have k78 : ∀ j, K1 78 j = K 78 j := fun j => a5 78 j (by decide)
    have E0 : fX5_buyAll_b13 (m + 1) 78 63 (gof (yD v hd day)) (k : Int) (i : Int) K = (if bS v day k hd i ≠ -1 then (if (0 : Int) ≤ (i : Int) ∧ (i : Int) < (alen 79 : Int) then (fX1_setHolder 63 (bS v day k hd i) (k : Int) (mset (mset K1 79 i (bS v day k hd i)) 78 3 ((i + 1 : Nat) : Int))).bind fun q10 => (fX1_fill 63 0 0 q10).bind fun q13 => (fX1_solve 63 (-1) q13).bind fun q16 => fX5_buyAll_b13 m 78 63 (gof (yD v hd day)) (k : Int) ((i + 1 : Nat) : Int) (mset q16.2 78 2 (xw (q16.1 - gof (yD v hd day)))) else none) else some K1) := by
      have e3 : mset K1 79 i (bS v day k hd i) 78 3 = (i : Int) := by rw [mset_ne _ _ (by omega), k78, k3]
      have w1 := xwSum gD gI
      have w2 := xwS hi1
      rw [fX5_buyAll_b13, if_neg n48, if_neg n63, a1, Option.bind_some, k78, k2, w1, st, Option.bind_some]
      simp only [Nat.reduceAdd, k78, k3, Int.toNat_natCast, if_neg n63, show (bL v day k (bH v day k hd i)).2 = bS v day k hd i from rfl, e3, w2]
    show (∃ s', _ ∧ fX5_buyAll_b13 (m + 1) 78 63 (gof (yD v hd day)) (k : Int) (i : Int) K = fX5_buyAll_b13 m 78 63 (gof (yD v hd day)) (k : Int) ((i + 1 : Nat) : Int) s') ∨ _
    rcases bL_at hO hneI k with ⟨z, -⟩ | ⟨s, s1, s2, s3, s4, s5⟩
    · right
      have z : bS v day k hd i = -1 := z
      rw [if_neg (dnn z)] at E0
      refine ⟨i, K1, ⟨hS, z⟩, by omega, E0, by rw [k78, k3], by rw [k78, k2], fun j hj => (a5 79 j (by decide)).trans (k79 j hj), fun o j ho => (a5 o j (by omega)).trans (frK o j ho)⟩
    · left
      have eS : bS v day k hd i = (s : Int) := s2
      have eH : bH v day k hd (i + 1) = dlH (bH v day k hd i) day (k : Int) s (s + 1) := by
        show dlH (bH v day k hd i) day (k : Int) (bL v day k (bH v day k hd i)).2.toNat ((bL v day k (bH v day k hd i)).2.toNat + 1) = _
        rw [s2, Int.toNat_natCast]
      have nS : bS v day k hd i ≠ -1 := by omega
      rw [if_pos nS, show alen 79 = 48 from rfl, if_pos (show (0 : Int) ≤ (i : Int) ∧ (i : Int) < ((48 : Nat) : Int) by omega), eS] at E0
      generalize hK2 : mset (mset K1 79 i (s : Int)) 78 3 ((i + 1 : Nat) : Int) = K2 at E0
      have f2 : ∀ o j, o ≠ 79 → o ≠ 78 → K2 o j = K1 o j := fun o j h1 h2 => by rw [← hK2, mset_ne _ _ (by omega), mset_ne _ _ (by omega)]
      have hK2C := csv_fr a2 (F' := K2) (fun o j ho => f2 o j (by omega) (by omega))
      have hs48 : s < 48 := by omega
      have bi := b336 (show 48 * day + s < 336 by omega)
      generalize hK3 : mset K2 50 (48 * day + s) (k : Int) = K3
      have f3 : ∀ o j, o ≠ 50 → K3 o j = K2 o j := fun o j h1 => by rw [← hK3, mset_ne _ _ (by omega)]
      have sH : fX1_setHolder 63 (s : Int) (k : Int) K2 = some K3 := by
        obtain ⟨p1, p2, p3, p4, p5, p6, p7⟩ := hK2C.1.1.1
        have e1 : (K2 63 1).toNat = 48 := by rw [p2]; rfl
        have w := xwDy hd7 hs48
        unfold fX1_setHolder
        rw [e1, if_neg (by decide), p3, w, show alen (48 + 2) = 336 from rfl, if_pos bi, Int.toNat_natCast, show (48 + 2 : Nat) = 50 from rfl, hK3]
      have hP3 : PO v (bH v day k hd (i + 1)) V day 1 K3 := by
        obtain ⟨p1, p2, p3, p4, p5, p6, p7⟩ := hK2C.1.1.1
        have hv := v50 V p1.2.2.1 (decide_eq_true p1.2.2.2.1.1)
        refine ⟨⟨(f3 63 0 (by decide)).trans p1.1, p1.2.1, p1.2.2.1, p1.2.2.2.1.mono (fun o j h1 h2 => f3 o j (by omega)), p1.2.2.2.2⟩, (f3 _ _ (by decide)).trans p2, (f3 _ _ (by decide)).trans p3, (f3 _ _ (by decide)).trans p4, (f3 _ _ (by decide)).trans p5, p6, fun x hx => ?_⟩
        rw [eH, ← hK3]
        unfold dlH
        by_cases y : x = 48 * day + s
        · subst y
          rw [mset_eq, if_pos (by omega)]
        · rw [mset_ne _ _ (by omega), if_neg (by omega)]
          exact p7 x hx
      obtain ⟨K5, K4, u1, u2, u3, u4, u5⟩ := PO_plan hP3 0 0
      have hne1 := bH_ne hO hne k (i + 1)
      have g1 := yD_bd hO hne1
      have eD := csv_D u3
      rw [eD] at u2
      have w5 : xw (gof (yD v (bH v day k hd (i + 1)) day) - gof (yD v hd day)) = gof (yD v (bH v day k hd (i + 1)) day) - gof (yD v hd day) := xwD ⟨Int.le_trans (by decide) g1.1, g1.2⟩ gD
      rw [sH, Option.bind_some, u1, Option.bind_some, u2, Option.bind_some] at E0
      dsimp only at E0
      rw [w5] at E0
      clear w5
      have h5 : ∀ o j, (o ≤ 49 ∨ 71 ≤ o) → K5 o j = K2 o j := fun o j ho => (u5 o j (by omega)).trans (f3 o j (by omega))
      refine ⟨_, ⟨fun j hj => ?_, (csv_fr u3 (fun o j ho => mset_ne _ _ (by omega))).1, ?_, mset_eq _ _ _ _, fun j hj => ?_, fun o j ho => ?_⟩, E0⟩
      · by_cases y : j = i
        · rw [y]; exact nS
        · exact hS j (by omega)
      · rw [mset_ne _ _ (by omega), h5 78 3 (by omega), ← hK2, mset_eq]
      · rw [mset_ne _ _ (by omega), h5 79 j (by omega), ← hK2, mset_ne _ _ (by omega)]
        by_cases y : j = i
        · rw [y, mset_eq, eS]
        · rw [mset_ne _ _ (by omega), a5 79 j (by decide)]
          exact k79 j (by omega)
      · rw [mset_ne _ _ (by omega), h5 o j (by omega), f2 o j (by omega) (by omega), a5 o j (by omega)]
        exact frK o j ho
  · rintro m K ⟨hS, hK, k3, k2, k79, frK⟩
    have z : bS v day k hd 48 = -1 := by
      apply Classical.byContradiction
      intro w
      have := b_N hO hne (k := k) (i := 49) (fun j hj => by
        by_cases y : j = 48
        · rw [y]; exact w
        · exact hS j (by omega))
      omega
    refine ⟨48, K, ⟨hS, z⟩, by decide, ?_, k3, k2, k79, frK⟩
    rw [fX5_buyAll_b13, if_pos (by decide)]
end BUC
