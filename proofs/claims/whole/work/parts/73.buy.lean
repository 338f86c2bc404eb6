/-! ===== plans, pure: slots bought ===== -/
/-- GAIN of a score -/
def gof (x : Int) : Int := if x = BD then -1 else (x + 65535) / 65536
theorem gof_mono {x y : Int} (h : x ≤ y) (hx : x ≠ BD) (hy : y ≠ BD) : gof x ≤ gof y := by
  unfold gof
  rw [if_neg hx, if_neg hy]
  exact Int.ediv_le_ediv (by omega) (by omega)
theorem gof_nn {x : Int} (hx : x ≠ BD) (h : -65535 ≤ x) : 0 ≤ gof x := by
  unfold gof
  rw [if_neg hx]
  exact Int.ediv_nonneg (by omega) (by omega)
theorem gof_bd : gof BD = -1 := if_pos rfl
theorem gof_of {g c : Int} (hc : 0 ≤ c) (hc2 : c < 65536) (hg : 0 ≤ g) : gof (65536 * g - c) = g := by
  unfold gof
  rw [if_neg (show ¬ 65536 * g - c = -1000000000 by omega)]
  omega
theorem PF_le {I : Ins} {z M : Nat} {R : Nat → Nat → Int} (hW : WF I) (hM : M ≤ iN I) (hz : z < iH I) (hR : IsR I z R M) {s h : Nat} {x : Int} (hs : s ≤ M) (hh : h < iH I) (h1 : PF I 0 z s h x) : R s h ≠ BD ∧ x ≤ R s h := by
  rcases R_max hW hM hz hR hs hh with ⟨a1, a2⟩ | ⟨a1, a2, a3⟩
  · exact absurd h1 (a2 x)
  · exact ⟨a1, a3 x h1⟩
theorem PF_at {I : Ins} {z M : Nat} {R : Nat → Nat → Int} (hW : WF I) (hM : M ≤ iN I) (hz : z < iH I) (hR : IsR I z R M) {s h : Nat} (hs : s ≤ M) (hh : h < iH I) (h1 : R s h ≠ BD) : PF I 0 z s h (R s h) := by
  rcases R_max hW hM hz hR hs hh with ⟨a1, a2⟩ | ⟨a1, a2, a3⟩
  · exact absurd a1 h1
  · exact a2
theorem PB_le {I : Ins} {X : Nat → Nat → Int} (hW : WF I) (hX : IsX I tv0 X) {s h : Nat} {x : Int} (hs : s ≤ iN I) (hh : h < iH I) (h1 : PB I s h x) : X s h ≠ BD ∧ x ≤ X s h := by
  rcases X_max hW hX hs hh with ⟨a1, a2⟩ | ⟨a1, a2, a3⟩
  · exact absurd h1 (a2 x)
  · exact ⟨a1, a3 x h1⟩
theorem PB_at {I : Ins} {X : Nat → Nat → Int} (hW : WF I) (hX : IsX I tv0 X) {s h : Nat} (hs : s ≤ iN I) (hh : h < iH I) (h1 : X s h ≠ BD) : PB I s h (X s h) := by
  rcases X_max hW hX hs hh with ⟨a1, a2⟩ | ⟨a1, a2, a3⟩
  · exact absurd a1 h1
  · exact a2
/-- one slot q is bought for k: a plan is no better but by staying there -/
theorem buy_thm {I J : Ins} {X Y R : Nat → Nat → Int} (hW : WF I) (hV : WF J) (hs : sameI I J) {k z q : Nat} (hq : q < iN I) (hk : k < iH I) (hz : z < iH I) (hg : ∀ r h, r < iN I → h < iH I → r ≠ q → iG J r h = iG I r h) (hgq : ∀ h, h < iH I → h ≠ k → iG J q h ≤ iG I q h) (hX : IsX I tv0 X) (hY : IsX J tv0 Y) (hR : IsR I z R (iN I)) :
    ((R q k ≠ BD ∧ X (q + 1) k ≠ BD ∧ (iM I q = -1 ∨ iM I q = (k : Int))) → Y 0 z ≠ BD ∧ R q k + X (q + 1) k + iG J q k * 65536 ≤ Y 0 z) ∧
    (Y 0 z = BD ∨ (X 0 z ≠ BD ∧ Y 0 z ≤ X 0 z) ∨ ((R q k ≠ BD ∧ X (q + 1) k ≠ BD ∧ (iM I q = -1 ∨ iM I q = (k : Int))) ∧ Y 0 z ≤ R q k + X (q + 1) k + iG J q k * 65536)) := by
  obtain ⟨e1, e2, e3, e4, e5⟩ := id hs
  constructor
  · rintro ⟨h1, h2, h3⟩
    have p1 := PF_same hW hs hz (fun r h r1 r2 r3 => hg r h (by omega) r3 (by omega)) (PF_at hW (Nat.le_refl _) hz hR (by omega) hk h1)
    have p2 := PB_same hW hs hk (fun r h r1 r2 r3 => hg r h r2 r3 (by omega)) (PB_at hW hX (by omega) hk h2)
    have p3 : PF J q k (q + 1) k (iG J q k * 65536) := PF_st ⟨by rw [e2]; exact hk, Or.inl ⟨rfl, rfl, by rw [e1]; exact hq, by rw [e3]; exact h3, rfl⟩⟩
    have p4 := PB_le hV hY (Nat.zero_le _) (by rw [e2]; exact hz) (PB_app p1 (PB_app p3 p2))
    exact ⟨p4.1, by have := p4.2; omega⟩
  · by_cases hb : Y 0 z = BD
    · exact Or.inl hb
    · right
      have hzJ : z < iH J := by rw [e2]; exact hz
      have pY := PB_at hV hY (s := 0) (h := z) (Nat.zero_le _) hzJ hb
      have low : PB I 0 z (Y 0 z) → X 0 z ≠ BD ∧ Y 0 z ≤ X 0 z := fun p => PB_le hW hX (Nat.zero_le _) hz p
      have toI : ∀ s h x, s ≤ q → PF J 0 z s h x → PF I 0 z s h x := fun s h x h1 h2 => PF_same hV hs.symm hzJ (fun r k r1 r2 r3 => by rw [e2] at r3; exact (hg r k (by omega) r3 (by omega)).symm) h2
      obtain ⟨g, n, pn⟩ := pY
      obtain ⟨p, k', x1, x2, c1, c2, c3, c4, c5, c6⟩ := cut hV hs.symm (c := q + 1) (by omega) (fun r h r1 r2 r3 => by rw [e1] at r2; rw [e2] at r3; exact (hg r h r2 r3 (by omega)).symm) n 0 z g (Y 0 z) hzJ (by omega) pn
      rw [e2] at c3
      by_cases y : p ≤ q
      · left
        exact low (by rw [c6]; exact PB_app (toI p k' x1 y c4) c5)
      · have : p = q + 1 := by omega
        subst this
        obtain ⟨m, c4⟩ := c4
        cases m with
        | zero => exact absurd c4.1 (by omega)
        | succ m =>
          obtain ⟨s1, h1, y1, y2, d1, d2, rfl⟩ := Pa_last m 0 z (q + 1) k' x1 c4
          have mh := (Pa_mono hV m 0 z s1 h1 y1 hzJ d1)
          have mm := Wst_mono hV mh.2.1 d2
          have p1 := toI s1 h1 y1 (by omega) ⟨m, d1⟩
          obtain ⟨w0, w⟩ := id d2
          rcases w with ⟨w1, w2, w3, w4, w5⟩ | ⟨w1, w2, w3, w4, w5⟩
          · obtain rfl : s1 = q := by omega
            subst w2
            rw [e3] at w4
            by_cases yk : k' = k
            · subst yk
              right
              have r1 := PF_le hW (Nat.le_refl _) hz hR (by omega) hk p1
              have r2 := PB_le hW hX (by omega) hk c5
              exact ⟨⟨r1.1, r2.1, w4⟩, by have := r1.2; have := r2.2; omega⟩
            · left
              have st : PF I s1 k' (s1 + 1) k' (iG I s1 k' * 65536) := PF_st ⟨c3, Or.inl ⟨rfl, rfl, hq, w4, rfl⟩⟩
              have := PB_le hW hX (Nat.zero_le _) hz (PB_app p1 (PB_app st c5))
              have gg := hgq k' c3 yk
              exact ⟨this.1, by have := this.2; omega⟩
          · left
            have st : Wst I s1 h1 (q + 1) k' y2 := Wst_same hs.symm (fun _ z2 => absurd z2 w1) d2
            exact low (by rw [c6]; exact PB_app (PF_app p1 (PF_st st)) c5)
/-- slots from f on below t go over: a plan is no better but by being somewhere at the end of some of them -/
theorem deal_thm {I J : Ins} {X Y R : Nat → Nat → Int} (hW : WF I) (hV : WF J) (hs : sameI I J) {z f t : Nat} (hf : f < t) (ht : t ≤ iN I) (hz : z < iH I) (hg : ∀ r h, r < iN I → h < iH I → ¬ (f ≤ r ∧ r < t) → iG J r h = iG I r h) (hX : IsX I tv0 X) (hY : IsX J tv0 Y) (hR : IsR J z R t) :
    (∀ h, h < iH I → R t h ≠ BD → X t h ≠ BD → Y 0 z ≠ BD ∧ R t h + X t h ≤ Y 0 z) ∧
    (Y 0 z = BD ∨ (X 0 z ≠ BD ∧ Y 0 z ≤ X 0 z) ∨ ∃ s h, f < s ∧ s ≤ t ∧ h < iH I ∧ R s h ≠ BD ∧ X s h ≠ BD ∧ Y 0 z ≤ R s h + X s h) := by
  obtain ⟨e1, e2, e3, e4, e5⟩ := id hs
  have hzJ : z < iH J := by rw [e2]; exact hz
  have htJ : t ≤ iN J := by rw [e1]; exact ht
  constructor
  · intro h hh h1 h2
    have p1 := PF_at hV htJ hzJ hR (Nat.le_refl _) (by rw [e2]; exact hh) h1
    have p2 := PB_same hW hs hh (fun r k r1 r2 r3 => hg r k r2 r3 (by omega)) (PB_at hW hX ht hh h2)
    exact PB_le hV hY (Nat.zero_le _) hzJ (PB_app p1 p2)
  · by_cases hb : Y 0 z = BD
    · exact Or.inl hb
    · right
      obtain ⟨g, n, pn⟩ := PB_at hV hY (s := 0) (h := z) (Nat.zero_le _) hzJ hb
      obtain ⟨p, k', x1, x2, c1, c2, c3, c4, c5, c6⟩ := cut hV hs.symm (c := t) htJ (fun r h r1 r2 r3 => by rw [e1] at r2; rw [e2] at r3; exact (hg r h r2 r3 (by omega)).symm) n 0 z g (Y 0 z) hzJ (by omega) pn
      rw [e2] at c3
      by_cases y : p ≤ f
      · left
        have p1 := PF_same hV hs.symm hzJ (fun r k r1 r2 r3 => by rw [e2] at r3; exact (hg r k (by omega) r3 (by omega)).symm) c4
        exact PB_le hW hX (Nat.zero_le _) hz (by rw [c6]; exact PB_app p1 c5)
      · right
        have r1 := PF_le hV htJ hzJ hR c2 (by rw [e2]; exact c3) c4
        have r2 := PB_le hW hX (by omega) c3 c5
        exact ⟨p, k', by omega, c2, c3, r1.1, r2.1, by have := r1.2; have := r2.2; omega⟩
/-! running bests -/
/-- the first of the greatest above lo, of g (f + 1) .. g (f + n), less a -/
def mxt (g : Nat → Int) (a : Int) (f : Nat) : Nat → Int × Int
  | 0 => (0, -1)
  | n + 1 => if (mxt g a f n).1 < g (f + n + 1) - a then (g (f + n + 1) - a, ((f + n + 1 : Nat) : Int)) else mxt g a f n
theorem mxt_ge (g : Nat → Int) (a : Int) (f : Nat) : ∀ n, 0 ≤ (mxt g a f n).1 ∧ ∀ s, f < s → s ≤ f + n → g s - a ≤ (mxt g a f n).1 := by
  intro n
  induction n with
  | zero => exact ⟨Int.le_refl _, fun s h1 h2 => by omega⟩
  | succ n ih =>
    have e : mxt g a f (n + 1) = if (mxt g a f n).1 < g (f + n + 1) - a then (g (f + n + 1) - a, ((f + n + 1 : Nat) : Int)) else mxt g a f n := rfl
    rw [e]
    split
    · dsimp only
      refine ⟨by omega, fun s h1 h2 => ?_⟩
      by_cases y : s = f + n + 1
      · subst y; exact Int.le_refl _
      · have := ih.2 s h1 (by omega); omega
    · refine ⟨ih.1, fun s h1 h2 => ?_⟩
      by_cases y : s = f + n + 1
      · subst y; omega
      · exact ih.2 s h1 (by omega)
/-- two measures, one no greater, the other no greater but by the first's: the same running best -/
theorem mxt_eq {U V : Nat → Int} {a : Int} {f : Nat} : ∀ n, (∀ t, f < t → t ≤ f + n → (U t ≤ V t ∨ U t < a + 1) ∧ (V t ≤ a ∨ ∃ s, f < s ∧ s ≤ t ∧ V t ≤ U s)) → mxt U a f n = mxt V a f n := by
  intro n
  induction n with
  | zero => intro _; rfl
  | succ n ih =>
    intro h
    have hi := ih (fun t h1 h2 => h t h1 (by omega))
    obtain ⟨h1, h2⟩ := h (f + n + 1) (by omega) (by omega)
    have e1 : mxt U a f (n + 1) = if (mxt U a f n).1 < U (f + n + 1) - a then (U (f + n + 1) - a, ((f + n + 1 : Nat) : Int)) else mxt U a f n := rfl
    have e2 : mxt V a f (n + 1) = if (mxt V a f n).1 < V (f + n + 1) - a then (V (f + n + 1) - a, ((f + n + 1 : Nat) : Int)) else mxt V a f n := rfl
    have g := mxt_ge U a f n
    rw [e1, e2, ← hi]
    by_cases y : (mxt U a f n).1 < U (f + n + 1) - a
    · have y2 : V (f + n + 1) = U (f + n + 1) := by
        have l1 : U (f + n + 1) ≤ V (f + n + 1) := by rcases h1 with z | z <;> omega
        rcases h2 with z | ⟨s, s1, s2, z⟩
        · omega
        · by_cases w : s = f + n + 1
          · subst w; omega
          · have := g.2 s s1 (by omega); omega
      rw [if_pos y, y2, if_pos y]
    · rw [if_neg y, if_neg]
      rcases h2 with z | ⟨s, s1, s2, z⟩
      · omega
      · by_cases w : s = f + n + 1
        · subst w; omega
        · have := g.2 s s1 (by omega); omega
/-- the first of the greatest pairs -/
def isBD (N : Nat) (m e : Nat → Int) (b f t : Int) : Prop := (b = 0 ∧ f = -1 ∧ ∀ j, j < N → m j ≤ 0) ∨ ∃ i : Nat, i < N ∧ 0 < b ∧ b = m i ∧ f = (i : Int) ∧ t = e i ∧ ∀ j, j < N → m j ≤ b ∧ (j < i → m j < b)
theorem isBD_uniq {N : Nat} {m e : Nat → Int} {b f t b' f' t' : Int} (h1 : isBD N m e b f t) (h2 : isBD N m e b' f' t') : b = b' ∧ f = f' ∧ (0 < b → t = t') := by
  rcases h1 with ⟨a1, a2, a3⟩ | ⟨i, a1, a2, a3, a4, a5, a6⟩
  · rcases h2 with ⟨b1, b2, b3⟩ | ⟨j, b1, b2, b3, b4, b5, b6⟩
    · exact ⟨by omega, by omega, by omega⟩
    · have := a3 j b1; omega
  · rcases h2 with ⟨b1, b2, b3⟩ | ⟨j, b1, b2, b3, b4, b5, b6⟩
    · have := b3 i a1; omega
    · have c1 := (a6 j b1)
      have c2 := (b6 i a1)
      have c3 : i = j := by
        rcases Nat.lt_trichotomy i j with w | w | w
        · have := c2.2 w; omega
        · exact w
        · have := c1.2 w; omega
      subst c3
      exact ⟨by omega, by omega, fun _ => by omega⟩
