/-! ===== deal, the class ===== -/
/-- the first of the greatest among those from lo on -/
def isBU (N lo : Nat) (m e : Nat → Int) (b f t : Int) : Prop := (b = 0 ∧ f = -1 ∧ ∀ j, lo ≤ j → j < N → m j ≤ 0) ∨ ∃ i : Nat, lo ≤ i ∧ i < N ∧ 0 < b ∧ b = m i ∧ f = (i : Int) ∧ t = e i ∧ ∀ j, lo ≤ j → j < N → m j ≤ b ∧ (j < i → m j < b)
theorem isBU_0 {N : Nat} {m e : Nat → Int} {b f t : Int} (h : isBU N 0 m e b f t) : isBD N m e b f t := by
  rcases h with ⟨a1, a2, a3⟩ | ⟨i, -, a1, a2, a3, a4, a5, a6⟩
  · exact Or.inl ⟨a1, a2, fun j hj => a3 j (Nat.zero_le _) hj⟩
  · exact Or.inr ⟨i, a1, a2, a3, a4, a5, fun j hj => a6 j (Nat.zero_le _) hj⟩
theorem isBU_no {N lo : Nat} {m e : Nat → Int} {b f t : Int} (h : isBU N (lo + 1) m e b f t) (hm : m lo ≤ 0 ∨ m lo < b) : isBU N lo m e b f t := by
  rcases h with ⟨a1, a2, a3⟩ | ⟨i, a0, a1, a2, a3, a4, a5, a6⟩
  · refine Or.inl ⟨a1, a2, fun j h1 h2 => ?_⟩
    by_cases y : j = lo
    · subst y; omega
    · exact a3 j (by omega) h2
  · refine Or.inr ⟨i, by omega, a1, a2, a3, a4, a5, fun j h1 h2 => ?_⟩
    by_cases y : j = lo
    · subst y; omega
    · exact a6 j (by omega) h2
theorem isBU_yes {N lo : Nat} {m e : Nat → Int} {b f t : Int} (h : isBU N (lo + 1) m e b f t) (hlo : lo < N) (h1 : 0 < m lo) (h2 : b ≤ m lo) : isBU N lo m e (m lo) (lo : Int) (e lo) := by
  refine Or.inr ⟨lo, Nat.le_refl _, hlo, h1, rfl, rfl, rfl, fun j j1 j2 => ?_⟩
  by_cases y : j = lo
  · subst y; exact ⟨Int.le_refl _, fun z => absurd z (Nat.lt_irrefl _)⟩
  · rcases h with ⟨a1, a2, a3⟩ | ⟨i, a0, a1, a2, a3, a4, a5, a6⟩
    · have := a3 j (by omega) j2; omega
    · have := (a6 j (by omega) j2).1; omega
theorem xwP {k : Nat} (h : k < 2147483647) : xw (((k + 1 : Nat) : Int) - 1) = (k : Int) := by
  rw [xwn (by omega) (by omega)]; omega
theorem xwS2 {f i : Nat} (h : f + i + 1 < 2147483647) : xw (((f + i + 1 : Nat) : Int) + 1) = ((f + (i + 1) + 1 : Nat) : Int) := xwS h
theorem xwD {x y : Int} (h1 : -1 ≤ x ∧ x ≤ 3024) (h2 : 0 ≤ y ∧ y ≤ 3024) : xw (x - y) = x - y := xwn (by omega) (by omega)
section DLC
variable {v hd : Nat → Int} {V day : Nat} {F K : Mem}
theorem csv_fr (hC : CSV v hd V day 1 0 0 F) {F' : Mem} (e : ∀ o k, o ≤ 70 → F' o k = F o k) : CSV v hd V day 1 0 0 F' ∧ tbl F' = tbl F := by
  have et : tbl F' = tbl F := funext fun s => funext fun h => e 70 _ (by decide)
  exact ⟨⟨hC.1.mono (fun o k ho => e o k (by omega)), by rw [et]; exact hC.2.1, fun s hs => (e 67 s (by decide)).trans (hC.2.2 s hs)⟩, et⟩
theorem c_dealIn {k27 : Nat → Nat → Int → Int → Int → Int → Mem → Option Mem} (hC : CSV v hd V day 1 0 0 K) (hne : yD v hd day ≠ BD) {one : Int} {two : Nat} (htwo : (two : Int) < v 5) {f : Nat} (hf : f < (v 0).toNat) {Rf : Nat → Nat → Int} (hRf : IsR (insD v (dlH hd day (two : Int) f (v 0).toNat) day 1 0 0) (v 4).toNat Rf (1 * (v 0).toNat)) (hrow : ∀ t h, t ≤ f → h < (v 5).toNat → rch K t h = Rf t h) :
    ∃ K', (∀ o k, ¬ (o = 71 ∧ 8 * (f + 1) ≤ k) → K' o k = K o k) ∧ fX5_findDeal_b44 k27 FU 78 63 (gof (yD v hd day)) one (two : Int) (f : Int) 0 (-1) ((f + 1 : Nat) : Int) K = fX5_findDeal_b104 k27 78 63 (gof (yD v hd day)) one (two : Int) (f : Int) (dlM v hd day one (two : Int) f).1 (dlM v hd day one (two : Int) f).2 K' := by
  have hO := hC.1.1.1.2.2.2.2
  have b0 := hO.1
  have b5 := hO.2.2.2.1
  have hd7 := hC.1.1.2.2.2.2.2.1.1
  have h48 : (v 0).toNat ≤ 48 := by omega
  have gD := yD_bd hO hne
  have hV := insD_WF (hd := dlH hd day (two : Int) f (v 0).toNat) (day := day) hO (show 1 ≤ 7 by decide) 0 0
  have hW := insD_WF (hd := hd) (day := day) hO (show 1 ≤ 7 by decide) 0 0
  have hs := insD_same v hd (dlH hd day (two : Int) f (v 0).toNat) day 1 0 0 0 0
  obtain ⟨n1, n2, n3⟩ := dlN_sp hd day one ((v 0).toNat - f) f
  have eM : dlM v hd day one (two : Int) f = mxt (fun t => gth Rf (tbl K) t (v 5).toNat) (gof (yD v hd day)) f (dlN hd day one f ((v 0).toNat - f)) := (deal_eq hO hd7 hne hC.2.1 (by omega) hRf).symm
  generalize dlN hd day one f ((v 0).toNat - f) = n at *
  rw [eM]
  generalize hX : tbl K = X at *
  have sR : ∀ s h, s ≤ (v 0).toNat → h < (v 5).toNat → sbd s (Rf s h) := fun s h h1 h2 => R_bd hV (Nat.le_refl _) hRf (show s ≤ 1 * (v 0).toNat by omega) h2
  have sX : ∀ s h, s ≤ (v 0).toNat → h < (v 5).toNat → sbd ((v 0).toNat - s) (X s h) := fun s h h1 h2 => by
    have := X_bd hW tv0_01 hC.2.1 (s := s) (h := h) (by show s ≤ 1 * (v 0).toNat; omega) h2
    rw [show iN (insD v hd day 1 0 0) = (v 0).toNat from Nat.one_mul _, hX] at this
    exact this
  have Ub : ∀ t, t ≤ (v 0).toNat → -1 ≤ gth Rf X t (v 5).toNat ∧ gth Rf X t (v 5).toNat ≤ 3024 := fun t ht => gth_bd h48 ht (fun h hh => sR t h ht hh) (fun h hh => sX t h ht hh)
  have hn48 : f + n ≤ (v 0).toNat := by omega
  refine lp (fun m i (st : (Int × Int) × Mem) => fX5_findDeal_b44 k27 m 78 63 (gof (yD v hd day)) one (two : Int) (f : Int) st.1.1 st.1.2 ((f + i + 1 : Nat) : Int) st.2) n (fun i st => st.1 = mxt (fun t => gth Rf X t (v 5).toNat) (gof (yD v hd day)) f i ∧ (∀ o k, ¬ (o = 71 ∧ 8 * (f + 1) ≤ k) → st.2 o k = K o k) ∧ (∀ t h, t ≤ f + i → h < (v 5).toNat → rch st.2 t h = Rf t h)) (fun r => ∃ K', (∀ o k, ¬ (o = 71 ∧ 8 * (f + 1) ≤ k) → K' o k = K o k) ∧ r = fX5_findDeal_b104 k27 78 63 (gof (yD v hd day)) one (two : Int) (f : Int) (mxt (fun t => gth Rf X t (v 5).toNat) (gof (yD v hd day)) f n).1 (mxt (fun t => gth Rf X t (v 5).toNat) (gof (yD v hd day)) f n).2 K') ?_ ?_ FU 0 ((0, -1), K) (Nat.zero_le _) ⟨rfl, fun _ _ _ => rfl, fun t h ht hh => hrow t h ht hh⟩ (FU_gt (by omega))
  · rintro m i ⟨st, L⟩ hi ⟨e0, frL, rowL⟩
    dsimp only at e0 frL rowL ⊢
    left
    have hCL := csv_fr hC (F' := L) (fun o k ho => frL o k (by omega))
    have hsN : f + i < (v 0).toNat := by omega
    have e634 : L 63 4 = v 0 := by rw [hCL.1.1.1.2.2.2.2.1]; omega
    have nN : ¬ v 0 < ((f + i + 1 : Nat) : Int) := by omega
    have sm1 : f + i < 2147483647 ∧ f + i + 1 < 2147483647 := by omega
    have ho := x_holderOf hCL.1.1.1 (s := f + i) (by omega)
    rw [n2 i hi] at ho
    have gJ : ∀ h : Nat, gnD v (dlH hd day (two : Int) f (v 0).toNat) day 0 0 (f + i) h = if (two : Int) = (h : Int) then ghD v 0 0 (f + i) h else 0 := fun h => by
      have e2 : dlH hd day (two : Int) f (v 0).toNat (48 * day + (f + i)) = (two : Int) := by
        unfold dlH
        rw [if_pos (by omega)]
      rw [gnD_at hd7 hsN, e2]
      by_cases y : (two : Int) = (h : Int)
      · rw [if_pos (Or.inr y), if_pos y]
      · rw [if_neg (by omega), if_neg y]
    obtain ⟨L2, p1, p2, p3⟩ := x_reachSlot (PIc_PL hCL.1.1) (N48 hO) hCL.1.2.2 hV hs (s := f + i) (show f + i < 1 * (v 0).toNat by omega) (hx := (two : Int)) (fun h hh => by
      right
      by_cases y : (two : Int) = (h : Int)
      · right
        refine ⟨by omega, y, fun G hG => ?_⟩
        have e3 : iG (insD v (dlH hd day (two : Int) f (v 0).toNat) day 1 0 0) (f + i) h = ghD v 0 0 (f + i) h := by
          show gnD v (dlH hd day (two : Int) f (v 0).toNat) day 0 0 (f + i) h = _
          rw [gJ, if_pos y]
        rw [e3]
        exact x_gainIfHeld (hCL.1.1.1.1.mono (fun o k ho => hG o k (by omega))) (fun a ha => (hG 64 a (by decide)).trans (hCL.1.1.2.1 a ha)) (insH hh)
      · left
        refine ⟨by omega, y, ?_⟩
        show gnD v (dlH hd day (two : Int) f (v 0).toNat) day 0 0 (f + i) h = _
        rw [gJ, if_neg y]) (fun t b ht hb => by rw [rowL t b ht hb]; exact sR t b (by omega) hb)
    have rowL2 : ∀ t h, t ≤ f + (i + 1) → h < (v 5).toNat → rch L2 t h = Rf t h := by
      intro t h ht hh
      by_cases y : t ≤ f + i
      · have : rch L2 t h = rch L t h := p3 71 _ (by omega)
        rw [this]; exact rowL t h y hh
      · have : t = f + i + 1 := by omega
        subst this
        rw [p2 h hh]
        have h1 : Rf (f + i + 1) h = bsf (insD v (dlH hd day (two : Int) f (v 0).toNat) day 1 0 0) Rf (f + i) h (v 5).toNat := hRf.2 (f + i) (show f + i < 1 * (v 0).toNat by omega) h hh
        rw [h1]
        exact bsf_rows hV hh (fun t b ht hb => rowL t b ht hb) _ (Nat.le_refl _)
    have frL2 : ∀ o k, ¬ (o = 71 ∧ 8 * (f + 1) ≤ k) → L2 o k = K o k := fun o k ho => (p3 o k (by omega)).trans (frL o k ho)
    have hCL2 := csv_fr hC (F' := L2) (fun o k ho => frL2 o k (by omega))
    have gt := x_gainThrough (PIc_PL hCL2.1.1) (N48 hO) (t := f + i + 1) (show f + i + 1 ≤ 1 * (v 0).toNat by omega) (fun h hh => by rw [rowL2 _ h (by omega) hh]; exact sR _ h (by omega) hh) (fun h hh => by
      rw [hCL2.2, hX]
      have := sX (f + i + 1) h (by omega) hh
      rw [show iN (insD v hd day 1 0 0) = (v 0).toNat from Nat.one_mul _]
      exact this)
    rw [show iH (insD v hd day 1 0 0) = (v 5).toNat from rfl, hCL2.2, hX, gthC (R := Rf) (v 5).toNat (fun h hh => rowL2 _ h (by omega) hh)] at gt
    have ub := Ub (f + i + 1) (by omega)
    have e : mxt (fun t => gth Rf X t (v 5).toNat) (gof (yD v hd day)) f (i + 1) = if st.1 < gth Rf X (f + i + 1) (v 5).toNat - gof (yD v hd day) then (gth Rf X (f + i + 1) (v 5).toNat - gof (yD v hd day), ((f + i + 1 : Nat) : Int)) else st := by rw [e0]; rfl
    have E : fX5_findDeal_b44 k27 (m + 1) 78 63 (gof (yD v hd day)) one (two : Int) (f : Int) st.1 st.2 ((f + i + 1 : Nat) : Int) L = if gth Rf X (f + i + 1) (v 5).toNat - gof (yD v hd day) ≤ st.1 then fX5_findDeal_b44 k27 m 78 63 (gof (yD v hd day)) one (two : Int) (f : Int) st.1 st.2 ((f + (i + 1) + 1 : Nat) : Int) L2 else fX5_findDeal_b44 k27 m 78 63 (gof (yD v hd day)) one (two : Int) (f : Int) (gth Rf X (f + i + 1) (v 5).toNat - gof (yD v hd day)) ((f + i + 1 : Nat) : Int) ((f + (i + 1) + 1 : Nat) : Int) L2 := by
      have n63 : ¬ (63 : Nat) = 0 := by decide
      have w1 : xw (((f + i + 1 : Nat) : Int) - 1) = ((f + i : Nat) : Int) := xwP sm1.1
      have w2 := xwS2 sm1.2
      have wg := xwD ub gD
      rw [fX5_findDeal_b44, if_neg n63, e634, if_neg nN, if_neg n63, w1, ho, Option.bind_some, if_neg (dnn rfl), if_neg n63, p1, Option.bind_some, if_neg n63, gt, Option.bind_some, wg, w2]
    by_cases q : gth Rf X (f + i + 1) (v 5).toNat - gof (yD v hd day) ≤ st.1
    · rw [if_pos q] at E
      exact ⟨(st, L2), ⟨by rw [e, if_neg (Int.not_lt.mpr q)], frL2, rowL2⟩, E⟩
    · rw [if_neg q] at E
      exact ⟨((gth Rf X (f + i + 1) (v 5).toNat - gof (yD v hd day), ((f + i + 1 : Nat) : Int)), L2), ⟨by rw [e, if_pos (Int.not_le.mp q)], frL2, rowL2⟩, E⟩
  · rintro m ⟨st, L⟩ ⟨e0, frL, rowL⟩
    dsimp only at e0 frL rowL ⊢
    have hCL := csv_fr hC (F' := L) (fun o k ho => frL o k (by omega))
    have e634 : L 63 4 = v 0 := by rw [hCL.1.1.1.2.2.2.2.1]; omega
    have n63 : ¬ (63 : Nat) = 0 := by decide
    refine ⟨L, frL, ?_⟩
    rw [fX5_findDeal_b44, if_neg n63, e634, ← e0]
    by_cases y : v 0 < ((f + n + 1 : Nat) : Int)
    · rw [if_pos y]
    · have ho := x_holderOf hCL.1.1.1 (s := f + n) (by omega)
      have n3 := n3 (by omega)
      have w1 : xw (((f + n + 1 : Nat) : Int) - 1) = ((f + n : Nat) : Int) := xwP (by omega)
      rw [if_neg y, if_neg n63, w1, ho, Option.bind_some, if_pos n3]
end DLC
