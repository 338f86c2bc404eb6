/-! ===== day: the least pace that is enough ===== -/
theorem slt_anti {v : Nat → Int} {p q : Int} {a b : Nat} (hs : 0 ≤ stp v a b) (hp : 1 ≤ p) (hpq : p ≤ q) : slt v q a b ≤ slt v p a b := by
  unfold slt
  generalize stp v a b = s at *
  have h1 := Int.lt_ediv_add_one_mul_self (s + p - 1) (show 0 < p by omega)
  have k0 : 0 ≤ (s + p - 1) / p := Int.ediv_nonneg (by omega) (by omega)
  have h3 : (s + q - 1) / q < (s + p - 1) / p + 1 := by
    generalize (s + p - 1) / p = k at *
    have h2 : k * p ≤ k * q := Int.mul_le_mul_of_nonneg_left hpq k0
    refine Int.ediv_lt_of_lt_mul (by omega) ?_
    rw [Int.add_mul, Int.one_mul] at h1 ⊢
    omega
  generalize (s + p - 1) / p = k at *
  generalize (s + q - 1) / q = l at *
  by_cases e : a = b
  · rw [if_pos e, if_pos e]; exact Int.le_refl _
  · rw [if_neg e, if_neg e]
    split <;> split <;> omega
section ENO
variable {v hd : Nat → Int} {V day : Nat} {F G : Mem}
def insU (v hd : Nat → Int) (day : Nat) (p : Int) : Ins := insP v p (1 * (v 0).toNat) (muD v) (gnD v hd day 0 0)
theorem insU_WF (hO : VO v) {p : Int} (hp : 1 ≤ p) : WF (insU v hd day p) := insP_WF hO hp (N336 hO) (fun s h _ hh => gnD_bd hO hd day 0 0 s hh)
noncomputable def yU (v hd : Nat → Int) (day : Nat) (p : Int) : Int := best0 (insU v hd day p) (v 4).toNat
theorem yU_1 : yU v hd day (v 1) = yD v hd day := rfl
theorem yU_mono (hO : VO v) {p q : Int} (hp : 1 ≤ p) (hpq : p ≤ q) (hne : yU v hd day p ≠ BD) : yU v hd day q ≠ BD ∧ yU v hd day p ≤ yU v hd day q := by
  have hW := insU_WF (hd := hd) (day := day) hO hp
  have hV := insU_WF (hd := hd) (day := day) hO (p := q) (by omega)
  have hst := st_lt hO
  obtain ⟨X, hX⟩ := X_ex hW tv0
  obtain ⟨Y, hY⟩ := X_ex hV tv0
  have e1 : X 0 (v 4).toNat = yU v hd day p := best0_eq hW hst hX
  have e2 : Y 0 (v 4).toNat = yU v hd day q := best0_eq hV hst hY
  rw [← e1, ← e2]
  refine X_mono hW hV tv0_01 hX hY rfl rfl rfl rfl (fun a b ha hb => ?_) (fun _ _ _ _ => Int.le_refl _) (1 * (v 0).toNat) 0 (by show 1 * (v 0).toNat ≤ _; omega) (Nat.zero_le _) (v 4).toNat hst (by rw [e1]; exact hne)
  show (slt v q a b).toNat ≤ (slt v p a b).toNat
  have := slt_anti (v := v) (a := a) (b := b) (stp_bd hO (insH ha) (insH hb)).1 hp hpq
  omega
theorem yU_99 (hO : VO v) (hne : yD v hd day ≠ BD) : yU v hd day 99 ≠ BD ∧ 0 ≤ gof (yU v hd day 99) ∧ gof (yU v hd day 99) ≤ 3024 := by
  have a := (yU_mono (hd := hd) (day := day) hO hO.2.1.1 hO.2.1.2 (show yU v hd day (v 1) ≠ BD from hne)).1
  exact ⟨a, best0_bd (insU_WF hO (by decide)) (st_lt hO) (N48 hO) a⟩
/-- the least pace that gains as much as 99 -/
def lsU (v hd : Nat → Int) (day r : Nat) : Prop := (1 ≤ r ∧ r ≤ 99) ∧ gof (yU v hd day (r : Int)) = gof (yU v hd day 99) ∧ ∀ p : Nat, 1 ≤ p → p < r → gof (yU v hd day (p : Int)) ≠ gof (yU v hd day 99)
theorem lsU_uq {r s : Nat} (h : lsU v hd day r) (k : lsU v hd day s) : r = s := by
  obtain ⟨a1, a2, a3⟩ := h
  obtain ⟨b1, b2, b3⟩ := k
  rcases Nat.lt_trichotomy r s with w | w | w
  · exact absurd a2 (b3 r a1.1 w)
  · exact w
  · exact absurd b2 (a3 s b1.1 w)
theorem yU_up (hO : VO v) (hne : yD v hd day ≠ BD) {p q : Nat} (hp : 1 ≤ p) (hpq : p ≤ q) (hq : q ≤ 99) (h : gof (yU v hd day (p : Int)) = gof (yU v hd day 99)) : gof (yU v hd day (q : Int)) = gof (yU v hd day 99) := by
  have h99 := yU_99 hO hne
  have np : yU v hd day (p : Int) ≠ BD := fun z => by
    rw [z, gof_bd] at h
    omega
  have a := yU_mono hO (show (1 : Int) ≤ p by omega) (show (p : Int) ≤ q by omega) np
  have b := yU_mono hO (show (1 : Int) ≤ q by omega) (show (q : Int) ≤ 99 by omega) a.1
  have c1 := gof_mono a.2 np a.1
  have c2 := gof_mono b.2 a.1 b.1
  omega
theorem c_pace (hP : PO v hd V day 1 F) {p : Int} (hp : 1 ≤ p) (hp2 : p ≤ 99) : ∃ F', fX1_gainByPace 63 p F = some (gof (yU v hd day p), F') ∧ PO v hd V day 1 F' ∧ (∀ o k, (o ≤ 63 ∨ 71 ≤ o) → F' o k = F o k) := by
  have hO := hP.1.2.2.2.2
  obtain ⟨F1, p1, p2, p3⟩ := x_fill hP 0 0
  obtain ⟨F2, q1, q2, q3⟩ := x_setPace p2.1.1 hp hp2
  obtain ⟨a1, a2, a3, a4, a5⟩ := p2
  have fr2 : ∀ o k, o ≠ 68 → o ≠ 69 → F2 o k = F1 o k := fun o k h1 h2 => q3 o k h1 h2
  have hP2 : PO v hd V day 1 F2 := a1.mono (fun o k ho => fr2 o k (by omega) (by omega))
  have hI : PIc (insU v hd day p) v V F2 := by
    refine PIc_of hP2.1 hp (N336 hO) (hP2.2.2.2.2.1.trans ?_) (fun s h _ hh => gnD_bd hO hd day 0 0 s hh) (fun s h hs hh => (fr2 _ _ (by decide) (by decide)).trans (a3 s h hs hh)) (fun s hs => (fr2 _ _ (by decide) (by decide)).trans (a4 s hs)) q2
    have := hO.1
    omega
  obtain ⟨F3, r1, r2, r3, r4⟩ := x_solve hI (-1)
  rw [tvG_m1] at r2
  have e : tbl F3 0 (v 4).toNat = yU v hd day p := best0_eq (insU_WF hO hp) (st_lt hO) r2
  have fr : ∀ o k, (o ≤ 63 ∨ 71 ≤ o) → F3 o k = F o k := fun o k ho => by rw [r4 o k (by omega) (by omega), fr2 o k (by omega) (by omega), p3 o k (by unfold isPL; omega)]
  refine ⟨F3, ?_, hP.mono (fun o k ho => fr o k (by omega)), fr⟩
  unfold fX1_gainByPace
  rw [p1, Option.bind_some, q1, Option.bind_some, r1, Option.bind_some, e]
theorem c_enough (hP : PO v hd V day 1 F) (hne : yD v hd day ≠ BD) : ∃ (r : Nat) (F' : Mem), lsU v hd day r ∧ fX9_enough 1 F = some ((r : Int), F') ∧ (∀ o k, (o ≤ 63 ∨ 71 ≤ o) → F' o k = F o k) := by
  have hO := hP.1.2.2.2.2
  obtain ⟨F1, p1, p2, p3⟩ := c_pace hP (p := 99) (by decide) (by decide)
  unfold fX9_enough
  simp only [Nat.reduceAdd]
  rw [p1, Option.bind_some]
  dsimp only
  suffices H : ∀ q : Option (Int × Mem), q = fX9_enough_b18 FU 1 (gof (yU v hd day 99)) 1 99 0 F1 → ∃ (r : Nat) (F' : Mem), lsU v hd day r ∧ q = some ((r : Int), F') ∧ (∀ o k, (o ≤ 63 ∨ 71 ≤ o) → F' o k = F o k) from H _ rfl
  rintro q rfl
  refine lp (fun n i (st : (Nat × Nat) × Mem) => fX9_enough_b18 n 1 (gof (yU v hd day 99)) (st.1.1 : Int) (st.1.2 : Int) (i : Int) st.2) 98 (fun i st => (1 ≤ st.1.1 ∧ st.1.1 ≤ st.1.2 ∧ st.1.2 ≤ 99 ∧ st.1.2 + i ≤ st.1.1 + 98) ∧ gof (yU v hd day (st.1.2 : Int)) = gof (yU v hd day 99) ∧ (∀ p : Nat, 1 ≤ p → p < st.1.1 → gof (yU v hd day (p : Int)) ≠ gof (yU v hd day 99)) ∧ PO v hd V day 1 st.2 ∧ (∀ o k, (o ≤ 63 ∨ 71 ≤ o) → st.2 o k = F o k)) (fun q => ∃ (r : Nat) (F' : Mem), lsU v hd day r ∧ q = some ((r : Int), F') ∧ (∀ o k, (o ≤ 63 ∨ 71 ≤ o) → F' o k = F o k)) ?_ ?_ FU 0 ((1, 99), F1) (Nat.zero_le _) ⟨⟨Nat.le_refl _, by dsimp only; omega, Nat.le_refl _, by dsimp only; omega⟩, rfl, fun p h1 h2 => by dsimp only at h2; omega, p2, p3⟩ (FU_gt (by omega))
  · rintro n i ⟨⟨lo, hi⟩, K⟩ hi98 ⟨⟨b1, b2, b3, b4⟩, c1, c2, hK, kK⟩
    dsimp only at b1 b2 b3 b4 c1 c2 hK kK ⊢
    have n99 : ¬ (99 : Int) ≤ (i : Int) := by omega
    by_cases y : hi ≤ lo
    · right
      have e : lo = hi := by omega
      refine ⟨hi, K, ⟨⟨by omega, b3⟩, c1, by rw [← e]; exact c2⟩, ?_, kK⟩
      rw [fX9_enough_b18, if_neg n99, if_pos (by omega)]
    · left
      have hi1 : i < 2147483647 := by omega
      have nl : ¬ (hi : Int) ≤ (lo : Int) := by omega
      have wm : xw (Int.tdiv (xw ((lo : Int) + (hi : Int))) 2) = (((lo + hi) / 2 : Nat) : Int) := by
        rw [xwn (x := (lo : Int) + (hi : Int)) (by omega) (by omega), Int.tdiv_eq_ediv_of_nonneg (by omega), xwn (by omega) (by omega)]
        omega
      have wm1 : xw ((((lo + hi) / 2 : Nat) : Int) + 1) = (((lo + hi) / 2 + 1 : Nat) : Int) := xwS (by omega)
      obtain ⟨m, hm⟩ : ∃ m, m = (lo + hi) / 2 := ⟨_, rfl⟩
      rw [← hm] at wm wm1
      have m1 : lo ≤ m ∧ m < hi := by omega
      clear hm
      obtain ⟨K2, q1, q2, q3⟩ := c_pace hK (p := (m : Int)) (by omega) (by omega)
      have E : fX9_enough_b18 (n + 1) 1 (gof (yU v hd day 99)) (lo : Int) (hi : Int) (i : Int) K = if gof (yU v hd day (m : Int)) ≠ gof (yU v hd day 99) then fX9_enough_b18 n 1 (gof (yU v hd day 99)) ((m + 1 : Nat) : Int) (hi : Int) ((i + 1 : Nat) : Int) K2 else fX9_enough_b18 n 1 (gof (yU v hd day 99)) (lo : Int) (m : Int) ((i + 1 : Nat) : Int) K2 := by
        rw [fX9_enough_b18, if_neg n99, if_neg nl]
        simp only [Nat.reduceAdd]
        rw [wm, q1, Option.bind_some, wm1, xwS hi1]
      by_cases z : gof (yU v hd day (m : Int)) = gof (yU v hd day 99)
      · rw [if_neg (dnn z)] at E
        exact ⟨((lo, m), K2), ⟨⟨b1, m1.1, by dsimp only; omega, by dsimp only; omega⟩, z, c2, q2, fun o k ho => (q3 o k ho).trans (kK o k ho)⟩, E⟩
      · rw [if_pos z] at E
        refine ⟨((m + 1, hi), K2), ⟨⟨by dsimp only; omega, by dsimp only; omega, b3, by dsimp only; omega⟩, c1, fun p h1 h2 w => ?_, q2, fun o k ho => (q3 o k ho).trans (kK o k ho)⟩, E⟩
        dsimp only at h2
        exact z (yU_up hO hne h1 (show p ≤ m by omega) (by omega) w)
  · rintro n ⟨⟨lo, hi⟩, K⟩ ⟨⟨b1, b2, b3, b4⟩, c1, c2, hK, kK⟩
    dsimp only at b1 b2 b3 b4 c1 c2 hK kK ⊢
    have e : lo = hi := by omega
    refine ⟨hi, K, ⟨⟨by omega, b3⟩, c1, by rw [← e]; exact c2⟩, ?_, kK⟩
    rw [fX9_enough_b18, if_neg (show ¬ (99 : Int) ≤ ((98 : Nat) : Int) by decide), if_pos (by omega)]
/-- the reference's question with a pace -/
theorem m_paceU (h : MAS v hd day 1 G) {K : Mem} (hK : ∀ o k, o ≠ 183 → o ≠ 184 → ¬ (o = 173 ∧ (k = 27 ∨ k = 12)) → K o k = G o k) {p : Nat} (hp : 1 ≤ p) (hp2 : p ≤ 99) : ∃ K', fX10_solves 173 1 (mset K 173 12 (p : Int)) = some K' ∧ fX10_gain 173 K' = some (grw (yU v hd day (p : Int))) ∧ (∀ o k, o ≠ 183 → o ≠ 184 → ¬ (o = 173 ∧ (k = 27 ∨ k = 12)) → K' o k = G o k) := by
  obtain ⟨⟨hM, hO⟩, h1, hH, ⟨h11, h12, h13⟩, h2, ⟨h28, h29, h30, h31⟩, h3, h4, h5⟩ := id h
  have b5 := hO.2.2.2.1
  generalize hL : mset K 173 12 (p : Int) = L
  have l1 : ∀ o j, o ≠ 183 → o ≠ 184 → ¬ (o = 173 ∧ (j = 27 ∨ j = 12)) → L o j = G o j := fun o j o1 o2 o3 => by rw [← hL, mset_ne _ _ (by omega)]; exact hK o j o1 o2 o3
  have l12 : L 173 12 = (p : Int) := by rw [← hL, mset_eq]
  have e3 : ∀ k, ¬ (k = 27 ∨ k = 12) → L 173 k = G 173 k := fun k hk => l1 _ _ (by decide) (by decide) (fun z => hk z.2)
  have hP : PIm (insU v hd day (p : Int)) v L := by
    refine PIm_of (hM.mono (e3 10 (by omega)) (fun j => l1 _ _ (by decide) (by decide) (by omega))) hO ?_ rfl (by omega) (N336 hO) (fun s h _ hh => gnD_bd hO hd day 0 0 s hh) ?_ (fun s _ => ?_) (fun s j _ hj => ?_)
    · refine ⟨by rw [e3 26 (by omega), h2]; omega, Or.inl ((e3 32 (by omega)).trans h3), ?_⟩
      rw [e3 36 (by omega), e3 37 (by omega), h4, h5]; omega
    · unfold mpc
      rw [l12, if_neg (by omega)]
    · exact mMu_plain ((e3 32 (by omega)).trans h3) ((e3 29 (by omega)).trans h29) s
    · rw [mGn_eq (hd := hd) (day := day) (m := 0) (fun x hx => (l1 179 x (by decide) (by decide) (by omega)).trans (hH x hx)) hO.1 ((e3 26 (by omega)).trans h2) (tmk0 ((e3 11 (by omega)).trans h11) ((e3 13 (by omega)).trans h13)) (by omega), e3 28 (by omega), h28, e3 30 (by omega), h30, e3 36 (by omega), e3 37 (by omega), h4, h5, if_neg (by omega)]
  obtain ⟨G2, t1, t2, t3, t4⟩ := ask_solve (p := 0) (N := 0) (mu := fun _ => 0) (gn := fun _ _ => 0) hP rfl ((e3 31 (by omega)).trans h31)
  have e : dcd G2 0 (v 4).toNat = yU v hd day (p : Int) := best0_eq (insU_WF hO (by omega)) (st_lt hO) t2
  rw [e] at t3
  exact ⟨G2, t1, t3, fun o k o1 o2 o3 => (t4 o k o1 o2 (fun z => o3 ⟨z.1, Or.inl z.2⟩)).trans (l1 o k o1 o2 o3)⟩
theorem grw_iff {x g : Int} (hg : 0 ≤ g) : grw x = g ↔ gof x = g := by
  unfold grw
  by_cases y : x = BD
  · rw [if_pos y, y, gof_bd]; omega
  · rw [if_neg y]
theorem m_enough (h : MAS v hd day 1 G) (hne : yD v hd day ≠ BD) : ∃ (r : Nat) (G' : Mem), lsU v hd day r ∧ fX10_enough 173 G = some ((r : Int), G') ∧ kM G G' := by
  have hO := h.1.2
  have h99 := yU_99 hO hne
  obtain ⟨G1, p1, p2, p3⟩ := m_paceU h (K := G) (fun _ _ _ _ _ => rfl) (p := 99) (by decide) (by decide)
  have p1 : fX10_solves 173 1 (mset G 173 12 99) = some G1 := p1
  have p2 : fX10_gain 173 G1 = some (grw (yU v hd day 99)) := p2
  rw [grw_of h99.1] at p2
  unfold fX10_enough
  rw [p1, Option.bind_some, p2, Option.bind_some]
  suffices H : ∀ q : Option (Int × Mem), q = fX10_enough_b22 FU 173 (gof (yU v hd day 99)) 99 98 G1 → ∃ (r : Nat) (F' : Mem), lsU v hd day r ∧ q = some ((r : Int), F') ∧ kM G F' from H _ rfl
  rintro q rfl
  refine lp (fun n i (st : Nat × Mem) => fX10_enough_b22 n 173 (gof (yU v hd day 99)) (st.1 : Int) ((98 : Int) - (i : Int)) st.2) 98 (fun i st => (99 ≤ st.1 + i ∧ st.1 ≤ 99) ∧ gof (yU v hd day (st.1 : Int)) = gof (yU v hd day 99) ∧ (∀ p : Nat, 98 < p + i → p < st.1 → gof (yU v hd day (p : Int)) ≠ gof (yU v hd day 99)) ∧ (∀ o k, o ≠ 183 → o ≠ 184 → ¬ (o = 173 ∧ (k = 27 ∨ k = 12)) → st.2 o k = G o k)) (fun q => ∃ (r : Nat) (F' : Mem), lsU v hd day r ∧ q = some ((r : Int), F') ∧ kM G F') ?_ ?_ FU 0 (99, G1) (Nat.zero_le _) ⟨⟨Nat.le_refl _, Nat.le_refl _⟩, rfl, fun p a b => by dsimp only at b; omega, p3⟩ (FU_gt (by omega))
  · rintro n i ⟨r, K⟩ hi ⟨⟨a1, a2⟩, c1, c2, hK⟩
    dsimp only at a1 a2 c1 c2 hK ⊢
    left
    obtain ⟨m, hm⟩ : ∃ m : Nat, m + i = 98 := ⟨98 - i, by omega⟩
    have em : (98 : Int) - (i : Int) = (m : Int) := by omega
    have em2 : xw ((m : Int) + (-1)) = (98 : Int) - ((i + 1 : Nat) : Int) := by rw [xwn (by omega) (by omega)]; omega
    obtain ⟨K2, q1, q2, q3⟩ := m_paceU h hK (p := m) (by omega) (by omega)
    have E : fX10_enough_b22 (n + 1) 173 (gof (yU v hd day 99)) (r : Int) ((98 : Int) - (i : Int)) K = if grw (yU v hd day (m : Int)) ≠ gof (yU v hd day 99) then fX10_enough_b22 n 173 (gof (yU v hd day 99)) (r : Int) ((98 : Int) - ((i + 1 : Nat) : Int)) K2 else fX10_enough_b22 n 173 (gof (yU v hd day 99)) (m : Int) ((98 : Int) - ((i + 1 : Nat) : Int)) K2 := by
      rw [em, fX10_enough_b22, if_neg (by omega), q1, Option.bind_some, q2, Option.bind_some, em2]
    by_cases z : gof (yU v hd day (m : Int)) = gof (yU v hd day 99)
    · rw [if_neg (dnn ((grw_iff h99.2.1).mpr z))] at E
      exact ⟨(m, K2), ⟨⟨by dsimp only; omega, by dsimp only; omega⟩, z, fun p h1 h2 => by dsimp only at h2; omega, q3⟩, E⟩
    · rw [if_pos (fun w => z ((grw_iff h99.2.1).mp w))] at E
      refine ⟨(r, K2), ⟨⟨by dsimp only; omega, a2⟩, c1, fun p h1 h2 => ?_, q3⟩, E⟩
      by_cases w : p = m
      · rw [w]; exact z
      · exact c2 p (by omega) h2
  · rintro n ⟨r, K⟩ ⟨⟨a1, a2⟩, c1, c2, hK⟩
    dsimp only at a1 a2 c1 c2 hK ⊢
    have mr := mas_ref (L := mset K 173 12 0) h (fun o j o1 o2 o3 => by
      by_cases y : o = 173 ∧ j = 12
      · rw [y.1, y.2, mset_eq]; exact h.2.2.2.1.2.1.symm
      · rw [mset_ne _ _ y]; exact hK o j o1 o2 (fun z => by
          rcases z.2 with w | w
          · exact o3 ⟨z.1, Or.inl w⟩
          · exact y ⟨z.1, w⟩))
    refine ⟨r, mset K 173 12 0, ⟨⟨by omega, a2⟩, c1, fun p h1 h2 => c2 p (by omega) h2⟩, ?_, mr.2⟩
    rw [fX10_enough_b22, if_pos (by decide)]
end ENO
