/-! ===== deal, the reference ===== -/
theorem xwH {d s : Nat} (hd : d < 7) (hs : s < 48) : xw (xw (48 * (d : Int)) + (s : Int)) = ((48 * d + s : Nat) : Int) := by
  rw [xwn (x := 48 * (d : Int)) (by omega) (by omega), xwn (by omega) (by omega)]; omega
theorem isBD_up {f : Nat} {m e : Nat → Int} {b fr to : Int} (h : isBD f m e b fr to) : isBD (f + 1) m e (if b < m f then m f else b) (if b < m f then (f : Int) else fr) (if b < m f then e f else to) := by
  by_cases y : b < m f
  · rw [if_pos y, if_pos y, if_pos y]
    have b0 : 0 ≤ b := by rcases h with ⟨a1, -, -⟩ | ⟨i, a1, a2, a3, a4, a5, a6⟩ <;> omega
    refine Or.inr ⟨f, by omega, by omega, rfl, rfl, rfl, fun j hj => ?_⟩
    by_cases z : j = f
    · subst z; exact ⟨Int.le_refl _, fun w => absurd w (Nat.lt_irrefl _)⟩
    · rcases h with ⟨a1, a2, a3⟩ | ⟨i, a1, a2, a3, a4, a5, a6⟩
      · have := a3 j (by omega); omega
      · have := (a6 j (by omega)).1; omega
  · rw [if_neg y, if_neg y, if_neg y]
    rcases h with ⟨a1, a2, a3⟩ | ⟨i, a1, a2, a3, a4, a5, a6⟩
    · refine Or.inl ⟨a1, a2, fun j hj => ?_⟩
      by_cases z : j = f
      · subst z; omega
      · exact a3 j (by omega)
    · refine Or.inr ⟨i, by omega, a2, a3, a4, a5, fun j hj => ?_⟩
      by_cases z : j = f
      · subst z; exact ⟨by omega, fun w => by omega⟩
      · exact a6 j (by omega)
section DLM
variable {v hd : Nat → Int} {day : Nat} {G K : Mem}
theorem m_deal68 {k18 : Nat → Int → Int → Int → Int → Mem → Option Mem} {k32 : Nat → Int → Int → Int → Int → Int → Mem → Option Mem} (h26 : K 173 26 = (day : Int)) (hd7 : day < 7) {f t : Nat} (hft : f ≤ t) (ht : t ≤ 48) (one two a : Int) : ∃ L, (∀ o j, o ≠ 179 → L o j = K o j) ∧ (∀ x, L 179 x = if 48 * day + f ≤ x ∧ x < 48 * day + t then two else K 179 x) ∧ fX10_deals_b68 k18 k32 FU 173 one two a (f : Int) (t : Int) (f : Int) K = (fX10_solves 173 1 L).bind fun q2 => fX10_deals_b106 k18 k32 FU 173 one two a (f : Int) (t : Int) (f : Int) q2 := by
  refine lp (fun n i (L : Mem) => fX10_deals_b68 k18 k32 n 173 one two a (f : Int) (t : Int) ((f + i : Nat) : Int) L) (t - f) (fun i L => (∀ o j, o ≠ 179 → L o j = K o j) ∧ (∀ x, L 179 x = if 48 * day + f ≤ x ∧ x < 48 * day + (f + i) then two else K 179 x)) (fun r => ∃ L, (∀ o j, o ≠ 179 → L o j = K o j) ∧ (∀ x, L 179 x = if 48 * day + f ≤ x ∧ x < 48 * day + t then two else K 179 x) ∧ r = (fX10_solves 173 1 L).bind fun q2 => fX10_deals_b106 k18 k32 FU 173 one two a (f : Int) (t : Int) (f : Int) q2) ?_ ?_ FU 0 K (Nat.zero_le _) ⟨fun _ _ _ => rfl, fun x => by rw [if_neg (by omega)]⟩ (FU_gt (by omega))
  · rintro n i L hi ⟨fL, hL⟩
    left
    have n1 : ¬ (t : Int) ≤ ((f + i : Nat) : Int) := by omega
    have bi := b336 (show 48 * day + (f + i) < 336 by omega)
    have s1 : f + i < 48 ∧ f + i < 2147483647 := by omega
    refine ⟨mset L 179 (48 * day + (f + i)) two, ⟨fun o j ho => by rw [mset_ne _ _ (by omega)]; exact fL o j ho, fun x => ?_⟩, ?_⟩
    · by_cases y : x = 48 * day + (f + i)
      · subst y
        rw [mset_eq, if_pos (by omega)]
      · rw [mset_ne _ _ (by omega), hL x]
        by_cases z : 48 * day + f ≤ x ∧ x < 48 * day + (f + i)
        · rw [if_pos z, if_pos (by omega)]
        · rw [if_neg z, if_neg (by omega)]
    · have w1 := xwH hd7 s1.1
      have w2 := xwS s1.2
      rw [fX10_deals_b68, if_neg n1, fL 173 26 (by decide), h26, w1, show alen (173 + 6) = 336 from rfl, if_pos bi, w2, Int.toNat_natCast]
      rfl
  · rintro n L ⟨fL, hL⟩
    have e : f + (t - f) = t := by omega
    rw [e] at hL
    refine ⟨L, fL, hL, ?_⟩
    rw [fX10_deals_b68, e, if_pos (Int.le_refl _)]
theorem m_deal106 {k18 : Nat → Int → Int → Int → Int → Mem → Option Mem} {k32 : Nat → Int → Int → Int → Int → Int → Mem → Option Mem} (h26 : K 173 26 = (day : Int)) (hd7 : day < 7) {f t : Nat} (hft : f ≤ t) (ht : t ≤ 48) (one two a : Int) : ∃ L, (∀ o j, o ≠ 179 → L o j = K o j) ∧ (∀ x, L 179 x = if 48 * day + f ≤ x ∧ x < 48 * day + t then one else K 179 x) ∧ fX10_deals_b106 k18 k32 FU 173 one two a (f : Int) (t : Int) (f : Int) K = (fX10_gain 173 L).bind fun r2 => if L 173 43 < xw (r2 - a) then (fX10_gain 173 L).bind fun r5 => k32 173 one two a (f : Int) (t : Int) (mset (mset (mset L 173 43 (xw (r5 - a))) 173 41 (f : Int)) 173 42 (t : Int)) else k32 173 one two a (f : Int) (t : Int) L := by
  refine lp (fun n i (L : Mem) => fX10_deals_b106 k18 k32 n 173 one two a (f : Int) (t : Int) ((f + i : Nat) : Int) L) (t - f) (fun i L => (∀ o j, o ≠ 179 → L o j = K o j) ∧ (∀ x, L 179 x = if 48 * day + f ≤ x ∧ x < 48 * day + (f + i) then one else K 179 x)) (fun r => ∃ L, (∀ o j, o ≠ 179 → L o j = K o j) ∧ (∀ x, L 179 x = if 48 * day + f ≤ x ∧ x < 48 * day + t then one else K 179 x) ∧ r = (fX10_gain 173 L).bind fun r2 => if L 173 43 < xw (r2 - a) then (fX10_gain 173 L).bind fun r5 => k32 173 one two a (f : Int) (t : Int) (mset (mset (mset L 173 43 (xw (r5 - a))) 173 41 (f : Int)) 173 42 (t : Int)) else k32 173 one two a (f : Int) (t : Int) L) ?_ ?_ FU 0 K (Nat.zero_le _) ⟨fun _ _ _ => rfl, fun x => by rw [if_neg (by omega)]⟩ (FU_gt (by omega))
  · rintro n i L hi ⟨fL, hL⟩
    left
    have n1 : ¬ (t : Int) ≤ ((f + i : Nat) : Int) := by omega
    have bi := b336 (show 48 * day + (f + i) < 336 by omega)
    have s1 : f + i < 48 ∧ f + i < 2147483647 := by omega
    refine ⟨mset L 179 (48 * day + (f + i)) one, ⟨fun o j ho => by rw [mset_ne _ _ (by omega)]; exact fL o j ho, fun x => ?_⟩, ?_⟩
    · by_cases y : x = 48 * day + (f + i)
      · subst y
        rw [mset_eq, if_pos (by omega)]
      · rw [mset_ne _ _ (by omega), hL x]
        by_cases z : 48 * day + f ≤ x ∧ x < 48 * day + (f + i)
        · rw [if_pos z, if_pos (by omega)]
        · rw [if_neg z, if_neg (by omega)]
    · have w1 := xwH hd7 s1.1
      have w2 := xwS s1.2
      rw [fX10_deals_b106, if_neg n1, fL 173 26 (by decide), h26, w1, show alen (173 + 6) = 336 from rfl, if_pos bi, w2, Int.toNat_natCast]
      rfl
  · rintro n L ⟨fL, hL⟩
    have e : f + (t - f) = t := by omega
    rw [e] at hL
    refine ⟨L, fL, hL, ?_⟩
    rw [fX10_deals_b106, e, if_pos (Int.le_refl _)]
theorem mas_43 (h : MAS v hd day 1 K) {L : Mem} (e : ∀ o k, ¬ (o = 173 ∧ 41 ≤ k ∧ k ≤ 43) → L o k = K o k) : MAS v hd day 1 L ∧ kM K L := by
  obtain ⟨⟨hM, hO⟩, h1, hH, ⟨h11, h12, h13⟩, h2, ⟨h28, h29, h30, h31⟩, h3, h4, h5⟩ := h
  have e3 : ∀ k, k < 41 → L 173 k = K 173 k := fun k hk => e _ _ (by omega)
  exact ⟨⟨⟨hM.mono (e3 10 (by decide)) (fun k => e _ _ (by omega)), hO⟩, h1, fun x hx => (e _ _ (by omega)).trans (hH x hx), ⟨(e3 _ (by decide)).trans h11, (e3 _ (by decide)).trans h12, (e3 _ (by decide)).trans h13⟩, (e3 _ (by decide)).trans h2, ⟨(e3 _ (by decide)).trans h28, (e3 _ (by decide)).trans h29, (e3 _ (by decide)).trans h30, (e3 _ (by decide)).trans h31⟩, (e3 _ (by decide)).trans h3, (e3 _ (by decide)).trans h4, (e3 _ (by decide)).trans h5⟩, fun o k ho => e o k (by omega), e3 _ (by decide), e3 _ (by decide), e3 _ (by decide)⟩
/-- one deal asked: its gain, all given back -/
theorem m_dealAsk {k18 : Nat → Int → Int → Int → Int → Mem → Option Mem} {k32 : Nat → Int → Int → Int → Int → Int → Mem → Option Mem} (h : MAS v hd day 1 K) (hne : yD v hd day ≠ BD) {f t : Nat} (hft : f ≤ t) (ht : t ≤ (v 0).toNat) {one two : Int} (h1 : ∀ x, f ≤ x → x < t → hd (48 * day + x) = one) : ∃ L, MAS v hd day 1 L ∧ kM K L ∧ (∀ k, 41 ≤ k → L 173 k = K 173 k) ∧ fX10_deals_b68 k18 k32 FU 173 one two (gof (yD v hd day)) (f : Int) (t : Int) (f : Int) K = if K 173 43 < dlV v hd day two f t - gof (yD v hd day) then k32 173 one two (gof (yD v hd day)) (f : Int) (t : Int) (mset (mset (mset L 173 43 (dlV v hd day two f t - gof (yD v hd day))) 173 41 (f : Int)) 173 42 (t : Int)) else k32 173 one two (gof (yD v hd day)) (f : Int) (t : Int) L := by
  have hO := h.1.2
  have b0 := hO.1
  have hd7 : day < 7 := by have := h.2.1.1; omega
  have t48 : t ≤ 48 := by omega
  have hst := st_lt hO
  obtain ⟨L1, l1, l2, l3⟩ := m_deal68 (k18 := k18) (k32 := k32) h.2.2.2.2.1 hd7 hft t48 one two (gof (yD v hd day))
  have hM1 : MAS v (dlH hd day two f t) day 1 L1 := by
    obtain ⟨⟨hM, hO⟩, h1, hH, ⟨h11, h12, h13⟩, h2, ⟨h28, h29, h30, h31⟩, h3, h4, h5⟩ := h
    have e3 : ∀ k, L1 173 k = K 173 k := fun k => l1 _ _ (by decide)
    refine ⟨⟨hM.mono (e3 10) (fun k => l1 _ _ (by decide)), hO⟩, h1, fun x hx => ?_, ⟨(e3 _).trans h11, (e3 _).trans h12, (e3 _).trans h13⟩, (e3 _).trans h2, ⟨(e3 _).trans h28, (e3 _).trans h29, (e3 _).trans h30, (e3 _).trans h31⟩, (e3 _).trans h3, (e3 _).trans h4, (e3 _).trans h5⟩
    rw [l2 x, hH x hx]
    rfl
  obtain ⟨G2, s1, s2, s3, s4⟩ := ask_solve (p := 0) (N := 0) (mu := fun _ => 0) (gn := fun _ _ => 0) (mas_pim hM1) rfl hM1.2.2.2.2.2.1.2.2.2
  have nY := dl_ne (hd' := dlH hd day two f t) hO hne
  have eY : dcd G2 0 (v 4).toNat = yD v (dlH hd day two f t) day := best0_eq (insD_WF hO (show 1 ≤ 7 by decide) 0 0) hst s2
  rw [eY, grw_of nY] at s3
  have h26 : G2 173 26 = (day : Int) := (s4 173 26 (by decide) (by decide) (by omega)).trans ((l1 173 26 (by decide)).trans h.2.2.2.2.1)
  obtain ⟨L, q1, q2, q3⟩ := m_deal106 (K := G2) (k18 := k18) (k32 := k32) h26 hd7 hft t48 one two (gof (yD v hd day))
  have fr : ∀ o j, o ≠ 183 → o ≠ 184 → ¬ (o = 173 ∧ j = 27) → L o j = K o j := by
    intro o j o1 o2 o3
    by_cases y : o = 179
    · subst y
      rw [q2 j, s4 179 j o1 o2 o3, l2 j]
      by_cases z : 48 * day + f ≤ j ∧ j < 48 * day + t
      · have hj := h.2.2.1 j (by omega)
        have h1 := h1 (j - 48 * day) (by omega) (by omega)
        rw [show 48 * day + (j - 48 * day) = j by omega] at h1
        rw [if_pos z, hj, h1]
      · rw [if_neg z, if_neg z]
    · rw [q1 o j y, s4 o j o1 o2 o3, l1 o j y]
  have mr := mas_ref (L := L) h (fun o j o1 o2 o3 => fr o j o1 o2 (fun z => o3 ⟨z.1, Or.inl z.2⟩))
  have k4 : ∀ k, 41 ≤ k → L 173 k = K 173 k := fun k hk => fr _ _ (by decide) (by decide) (by omega)
  have b5 := hO.2.2.2.1
  have sL : fX10_gain 173 L = some (gof (yD v (dlH hd day two f t) day)) := by
    rw [← s3]
    have hM2 : MV v G2 := hM1.1.1.mono (s4 _ _ (by decide) (by decide) (by omega)) (fun j => s4 _ _ (by decide) (by decide) (by omega))
    unfold fX10_gain
    rw [m_of mr.1.1.1 (i := 4) (x := 4) rfl (by omega), m_of hM2 (i := 4) (x := 4) rfl (by omega), Option.bind_some, Option.bind_some, show (173 + 10 : Nat) = 183 from rfl, q1 183 _ (by decide)]
  have g1 : -1 ≤ gof (yD v (dlH hd day two f t) day) ∧ gof (yD v (dlH hd day two f t) day) ≤ 3024 := by have := yD_bd hO nY; omega
  have g2 := yD_bd hO hne
  refine ⟨L, mr.1, mr.2, k4, ?_⟩
  have w := xwD g1 g2
  rw [l3, s1, Option.bind_some, q3, sL, Option.bind_some, Option.bind_some, w, k4 43 (by decide)]
  rfl
theorem m_deal (h : MSV v hd day 1 G) (hne : yD v hd day ≠ BD) {one two : Int} : ∃ G', fX10_deals 173 one two G = some G' ∧ isBD (v 0).toNat (fun f => (dlM v hd day one two f).1) (fun f => (dlM v hd day one two f).2) (G' 173 43) (G' 173 41) (G' 173 42) ∧ kM G G' := by
  have hO := h.1.1.2
  have b0 := hO.1
  have b5 := hO.2.2.2.1
  have hst := st_lt hO
  have hW := insD_WF (hd := hd) (day := day) hO (show 1 ≤ 7 by decide) 0 0
  have hd7 : day < 7 := by have := h.1.2.1.1; omega
  have h48 : (v 0).toNat ≤ 48 := by omega
  have hcok := h.2.1.1 0 (v 4).toNat (Nat.zero_le _) hst
  rw [Nat.mul_zero, Nat.zero_add, Nat.sub_zero] at hcok
  have hg := m_gain h.1.1.1 hO hcok (N336 hO)
  have eD : dcd G 0 (v 4).toNat = yD v hd day := best0_eq hW hst h.2.2
  rw [eD, grw_of hne] at hg
  generalize hm : (fun f => (dlM v hd day one two f).1) = m
  generalize he : (fun f => (dlM v hd day one two f).2) = e
  have em : ∀ f, (dlM v hd day one two f).1 = m f := fun f => congrFun hm f
  have ee : ∀ f, (dlM v hd day one two f).2 = e f := fun f => congrFun he f
  generalize hK0 : mset (mset G 173 41 (-1)) 173 43 0 = K0
  have m0 := mas_43 (L := K0) h.1 (fun o k ho => by rw [← hK0, mset_ne _ _ (by omega), mset_ne _ _ (by omega)])
  have c43 : K0 173 43 = 0 := by rw [← hK0, mset_eq]
  have c41 : K0 173 41 = -1 := by rw [← hK0, mset_ne _ _ (by omega), mset_eq]
  unfold fX10_deals
  rw [hg, Option.bind_some, hK0]
  refine lp (fun n f (K : Mem) => fX10_deals_b18 n 173 one two (gof (yD v hd day)) (f : Int) K) (v 0).toNat (fun f K => MAS v hd day 1 K ∧ kM G K ∧ isBD f m e (K 173 43) (K 173 41) (K 173 42)) (fun r => ∃ G', r = some G' ∧ isBD (v 0).toNat m e (G' 173 43) (G' 173 41) (G' 173 42) ∧ kM G G') ?_ ?_ FU 0 K0 (Nat.zero_le _) ⟨m0.1, m0.2, Or.inl ⟨c43, c41, fun j hj => absurd hj (Nat.not_lt_zero j)⟩⟩ (FU_gt (by omega))
  · rintro n f K hf ⟨hK, kK, bK⟩
    left
    have nN : ¬ v 0 ≤ (f : Int) := by omega
    have hf1 : f < 2147483647 := by omega
    obtain ⟨n1, n2, n3⟩ := dlN_sp hd day one ((v 0).toNat - f) f
    have emf := em f
    have eef := ee f
    unfold dlM at emf eef
    generalize dlN hd day one f ((v 0).toNat - f) = c at *
    have hb0 : 0 ≤ K 173 43 := by rcases bK with ⟨a1, -, -⟩ | ⟨i, a1, a2, a3, a4, a5, a6⟩ <;> omega
    show ∃ s', _ ∧ fX10_deals_b18 (n + 1) 173 one two (gof (yD v hd day)) (f : Int) K = fX10_deals_b18 n 173 one two (gof (yD v hd day)) ((f + 1 : Nat) : Int) s'
    rw [fX10_deals_b18, m_of hK.1.1 (i := 0) (x := 0) rfl (by omega), Option.bind_some, if_neg nN]
    have L0 := lp (fun p i (L : Mem) => fX10_deals_b32 (fX10_deals_b18 n) p 173 one two (gof (yD v hd day)) (f : Int) ((f + i : Nat) : Int) L) c (fun i L => MAS v hd day 1 L ∧ kM G L ∧ L 173 43 = (if K 173 43 < (mxt (dlV v hd day two f) (gof (yD v hd day)) f i).1 then (mxt (dlV v hd day two f) (gof (yD v hd day)) f i).1 else K 173 43) ∧ L 173 41 = (if K 173 43 < (mxt (dlV v hd day two f) (gof (yD v hd day)) f i).1 then (f : Int) else K 173 41) ∧ L 173 42 = (if K 173 43 < (mxt (dlV v hd day two f) (gof (yD v hd day)) f i).1 then (mxt (dlV v hd day two f) (gof (yD v hd day)) f i).2 else K 173 42)) (fun r => ∃ L, (MAS v hd day 1 L ∧ kM G L ∧ isBD (f + 1) m e (L 173 43) (L 173 41) (L 173 42)) ∧ r = fX10_deals_b18 n 173 one two (gof (yD v hd day)) ((f + 1 : Nat) : Int) L) ?_ ?_ FU 0 K (Nat.zero_le _) ⟨hK, kK, (if_neg (show ¬ K 173 43 < 0 by omega)).symm, (if_neg (show ¬ K 173 43 < 0 by omega)).symm, (if_neg (show ¬ K 173 43 < 0 by omega)).symm⟩ (FU_gt (by omega))
    · exact L0
    · rintro p i L hi ⟨hL, kL, x43, x41, x42⟩
      left
      have nN2 : ¬ v 0 ≤ ((f + i : Nat) : Int) := by omega
      have sm1 : f + i < 48 ∧ f + i < 2147483647 := by omega
      have bi := b336 (show 48 * day + (f + i) < 336 by omega)
      have hold : L 179 (48 * day + (f + i)) = one := (hL.2.2.1 _ (by omega)).trans (n2 i hi)
      have h26 : L 173 26 = (day : Int) := hL.2.2.2.2.1
      obtain ⟨L2, q1, q2, q3, q4⟩ := m_dealAsk (k18 := fX10_deals_b18 n) (k32 := fX10_deals_b32 (fX10_deals_b18 n) p) hL hne (f := f) (t := f + i + 1) (by omega) (by omega) (one := one) (two := two) (fun x h1 h2 => by
        have := n2 (x - f) (by omega)
        rw [show f + (x - f) = x by omega] at this
        exact this)
      have eS : mxt (dlV v hd day two f) (gof (yD v hd day)) f (i + 1) = if (mxt (dlV v hd day two f) (gof (yD v hd day)) f i).1 < dlV v hd day two f (f + i + 1) - gof (yD v hd day) then (dlV v hd day two f (f + i + 1) - gof (yD v hd day), ((f + i + 1 : Nat) : Int)) else mxt (dlV v hd day two f) (gof (yD v hd day)) f i := rfl
      generalize mxt (dlV v hd day two f) (gof (yD v hd day)) f i = mx at *
      rw [eS]
      clear eS
      generalize dlV v hd day two f (f + i + 1) - gof (yD v hd day) = w at *
      have E : fX10_deals_b32 (fX10_deals_b18 n) (p + 1) 173 one two (gof (yD v hd day)) (f : Int) ((f + i : Nat) : Int) L = if L 173 43 < w then fX10_deals_b32 (fX10_deals_b18 n) p 173 one two (gof (yD v hd day)) (f : Int) ((f + i + 1 : Nat) : Int) (mset (mset (mset L2 173 43 w) 173 41 (f : Int)) 173 42 ((f + i + 1 : Nat) : Int)) else fX10_deals_b32 (fX10_deals_b18 n) p 173 one two (gof (yD v hd day)) (f : Int) ((f + i + 1 : Nat) : Int) L2 := by
        have w1 := xwH hd7 sm1.1
        have w2 := xwS sm1.2
        rw [fX10_deals_b32, m_of hL.1.1 (i := 0) (x := 0) rfl (by decide), Option.bind_some, if_neg nN2, h26, w1, show alen (173 + 6) = 336 from rfl, if_pos bi, Int.toNat_natCast, show (173 + 6 : Nat) = 179 from rfl, hold, if_neg (dnn rfl), w2, q4]
      by_cases y : L 173 43 < w
      · rw [if_pos y] at E
        have z1 : mx.1 < w ∧ K 173 43 < w := by
          rw [x43] at y
          by_cases u : K 173 43 < mx.1
          · rw [if_pos u] at y; omega
          · rw [if_neg u] at y; omega
        have m43 := mas_43 (L := mset (mset (mset L2 173 43 w) 173 41 (f : Int)) 173 42 ((f + i + 1 : Nat) : Int)) q1 (fun o k ho => by rw [mset_ne _ _ (by omega), mset_ne _ _ (by omega), mset_ne _ _ (by omega)])
        refine ⟨_, ⟨m43.1, (kL.tr q2).tr m43.2, ?_, ?_, ?_⟩, E⟩
        · rw [if_pos z1.1, if_pos z1.2, mset_ne _ _ (by omega), mset_ne _ _ (by omega), mset_eq]
        · rw [if_pos z1.1, if_pos z1.2, mset_ne _ _ (by omega), mset_eq]
        · rw [if_pos z1.1, if_pos z1.2, mset_eq]
      · rw [if_neg y] at E
        refine ⟨L2, ⟨q1, kL.tr q2, ?_, ?_, ?_⟩, E⟩
        all_goals
          rw [q3 _ (by decide)]
          by_cases u : mx.1 < w
          · have z2 : ¬ K 173 43 < mx.1 := fun z => y (by rw [x43, if_pos z]; exact u)
            rw [if_neg z2] at x43 x41 x42
            have z3 : ¬ K 173 43 < w := by rw [x43] at y; exact y
            rw [if_pos u, if_neg z3]
            assumption
          · rw [if_neg u]
            assumption
    · rintro p L ⟨hL, kL, x43, x41, x42⟩
      rw [emf] at x43 x41 x42
      rw [eef] at x42
      refine ⟨L, ⟨hL, kL, by rw [x43, x41, x42]; exact isBD_up bK⟩, ?_⟩
      by_cases y : v 0 ≤ ((f + c : Nat) : Int)
      · have w2 := xwS hf1
        rw [fX10_deals_b32, m_of hL.1.1 (i := 0) (x := 0) rfl (by decide), Option.bind_some, if_pos y, w2]
      · have n3 := n3 (by omega)
        have bi := b336 (show 48 * day + (f + c) < 336 by omega)
        have hold : L 179 (48 * day + (f + c)) ≠ one := by rw [hL.2.2.1 _ (by omega)]; exact n3
        have h26 : L 173 26 = (day : Int) := hL.2.2.2.2.1
        have sc : f + c < 48 := by omega
        have w1 := xwH hd7 sc
        have w2 := xwS hf1
        rw [fX10_deals_b32, m_of hL.1.1 (i := 0) (x := 0) rfl (by decide), Option.bind_some, if_neg y, h26, w1, show alen (173 + 6) = 336 from rfl, if_pos bi, Int.toNat_natCast, show (173 + 6 : Nat) = 179 from rfl, if_pos hold, w2]
  · rintro n K ⟨hK, kK, bK⟩
    have nN : v 0 ≤ (((v 0).toNat : Nat) : Int) := by omega
    refine ⟨K, ?_, bK, kK⟩
    rw [fX10_deals_b18, m_of hK.1.1 (i := 0) (x := 0) rfl (by omega), Option.bind_some, if_pos nN]
end DLM
