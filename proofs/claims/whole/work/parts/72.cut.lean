/-! ===== plans, pure: a way cut, other gains, a further must ===== -/
/-- the same but for gains -/
def sameI (I J : Ins) : Prop := iN J = iN I ∧ iH J = iH I ∧ iM J = iM I ∧ iT J = iT I ∧ iS J = iS I
theorem same_fre {I J : Ins} (h : sameI I J) (s : Nat) : fre J s = fre I s := by unfold fre; rw [h.1, h.2.2.1]
theorem sameI.symm {I J : Ins} (h : sameI I J) : sameI J I := ⟨h.1.symm, h.2.1.symm, h.2.2.1.symm, h.2.2.2.1.symm, h.2.2.2.2.symm⟩
/-- a step that isn't staying, or stays where gains are alike -/
theorem Wst_same {I J : Ins} (hs : sameI I J) {s h t g : Nat} {x : Int} (hg : t = s + 1 → g = h → iG J s h = iG I s h) (h1 : Wst I s h t g x) : Wst J s h t g x := by
  obtain ⟨e1, e2, e3, e4, e5⟩ := id hs
  obtain ⟨a1, a2⟩ := h1
  refine ⟨by rw [e2]; exact a1, ?_⟩
  rw [e1, e3, e4, e5, same_fre hs]
  rcases a2 with ⟨b1, b2, b3, b4, b5⟩ | ⟨b1, b2, b3, b4, b5⟩
  · exact Or.inl ⟨b1, b2, b3, b4, by rw [hg b1 b2]; exact b5⟩
  · exact Or.inr ⟨b1, b2, b3, b4, b5⟩
/-- ways in which all slots' gains are alike -/
theorem Pa_same {I J : Ins} (hW : WF I) (hs : sameI I J) : ∀ n s h t g x, h < iH I → (∀ r k, s ≤ r → r < t → k < iH I → iG J r k = iG I r k) → Pa I n s h t g x → Pa J n s h t g x := by
  intro n
  induction n with
  | zero => rintro s h t g x _ _ h1; exact h1
  | succ n ih =>
    rintro s h t g x hh hg ⟨s1, h1, x1, x2, a1, a2, e⟩
    have b1 := Wst_mono hW hh a1
    have b2 := Pa_mono hW n s1 h1 t g x2 a1.1 a2
    exact ⟨s1, h1, x1, x2, Wst_same hs (fun y _ => hg s h (Nat.le_refl _) (by omega) hh) a1, ih s1 h1 t g x2 a1.1 (fun r k r1 r2 => hg r k (by omega) r2) a2, e⟩
theorem PF_same {I J : Ins} (hW : WF I) (hs : sameI I J) {s h t g : Nat} {x : Int} (hh : h < iH I) (hg : ∀ r k, s ≤ r → r < t → k < iH I → iG J r k = iG I r k) (h1 : PF I s h t g x) : PF J s h t g x := by
  obtain ⟨n, h1⟩ := h1
  exact ⟨n, Pa_same hW hs n s h t g x hh hg h1⟩
theorem PB_same {I J : Ins} (hW : WF I) (hs : sameI I J) {s h : Nat} {x : Int} (hh : h < iH I) (hg : ∀ r k, s ≤ r → r < iN I → k < iH I → iG J r k = iG I r k) (h1 : PB I s h x) : PB J s h x := by
  obtain ⟨g, h1⟩ := h1
  refine ⟨g, ?_⟩
  rw [hs.1]
  exact PF_same hW hs hh hg h1
/-- a way to the end, cut at c: its last place that isn't behind c; from there it is a way of J, if J's gains are I's from c on -/
theorem cut {I J : Ins} (hW : WF I) (hs : sameI I J) {c : Nat} (hc : c ≤ iN I) (hg : ∀ r k, c ≤ r → r < iN I → k < iH I → iG J r k = iG I r k) : ∀ n s h g x, h < iH I → s ≤ c → Pa I n s h (iN I) g x → ∃ p k x1 x2, s ≤ p ∧ p ≤ c ∧ k < iH I ∧ PF I s h p k x1 ∧ PB J p k x2 ∧ x = x1 + x2 := by
  intro n
  induction n with
  | zero =>
    rintro s h g x hh h1 ⟨a1, a2, a3⟩
    refine ⟨s, h, 0, 0, Nat.le_refl _, h1, hh, PF_rf I s h, ?_, by omega⟩
    refine ⟨h, ?_⟩
    rw [hs.1, a1]
    exact PF_rf J _ _
  | succ n ih =>
    rintro s h g x hh h1 ⟨s1, h1', x1, x2, a1, a2, rfl⟩
    have b1 := Wst_mono hW hh a1
    by_cases y : s1 ≤ c
    · obtain ⟨p, k, y1, y2, p1, p2, p3, p4, p5, rfl⟩ := ih s1 h1' g x2 a1.1 y a2
      exact ⟨p, k, x1 + y1, y2, by omega, p2, p3, PF_app (PF_st a1) p4, p5, by omega⟩
    · refine ⟨s, h, 0, x1 + x2, Nat.le_refl _, h1, hh, PF_rf I s h, ?_, by omega⟩
      have hst : Wst J s h s1 h1' x1 := Wst_same hs (fun z w => by
        have : s = c := by omega
        subst this
        exact hg s h (Nat.le_refl _) (by omega) hh) a1
      exact PB_app (PF_st hst) (PB_same hW hs a1.1 (fun r k r1 r2 r3 => hg r k (by omega) r2 r3) ⟨g, n, a2⟩)
/-- the sum of gains of staying at k from f on, d slots -/
def gsum (I : Ins) (k f : Nat) : Nat → Int
  | 0 => 0
  | d + 1 => gsum I k f d + iG I (f + d) k * 65536
theorem stays_PF {I : Ins} {k f : Nat} (hk : k < iH I) : ∀ d, f + d ≤ iN I → (∀ r, f ≤ r → r < f + d → iM I r = -1 ∨ iM I r = (k : Int)) → PF I f k (f + d) k (gsum I k f d) := by
  intro d
  induction d with
  | zero => intro _ _; exact PF_rf I _ _
  | succ d ih =>
    intro h1 h2
    exact PF_app (ih (by omega) (fun r r1 r2 => h2 r r1 (by omega))) (PF_st ⟨hk, Or.inl ⟨rfl, rfl, by omega, h2 (f + d) (by omega) (by omega), rfl⟩⟩)
/-- the same but for a further must of k, from f on below t -/
def mustI (I J : Ins) (k : Int) (f t : Nat) : Prop := iN J = iN I ∧ iH J = iH I ∧ iG J = iG I ∧ iT J = iT I ∧ iS J = iS I ∧ ∀ r, r < iN I → iM J r = if f ≤ r ∧ r < t then (if iM I r = -1 ∨ iM I r = k then k else -2) else iM I r
theorem must_fre {I J : Ins} {k : Nat} {f t : Nat} (hM : mustI I J (k : Int) f t) {s u : Nat} (hs : s ≤ iN I) (hu : s ≤ u) : u ≤ s + fre J s ↔ (u ≤ s + fre I s ∧ ∀ r, s ≤ r → r < u → ¬ (f ≤ r ∧ r < t)) := by
  obtain ⟨e1, e2, e3, e4, e5, e6⟩ := hM
  rw [fre_iff (I := J) (by rw [e1]; exact hs) hu, fre_iff hs hu, e1]
  constructor
  · rintro ⟨a1, a2⟩
    have key : ∀ r, s ≤ r → r < u → iM I r = -1 ∧ ¬ (f ≤ r ∧ r < t) := by
      intro r r1 r2
      have h1 := a2 r r1 r2
      rw [e6 r (by omega)] at h1
      by_cases y : f ≤ r ∧ r < t
      · rw [if_pos y] at h1
        split at h1 <;> omega
      · rw [if_neg y] at h1
        exact ⟨h1, y⟩
    exact ⟨⟨a1, fun r r1 r2 => (key r r1 r2).1⟩, fun r r1 r2 => (key r r1 r2).2⟩
  · rintro ⟨⟨a1, a2⟩, a3⟩
    refine ⟨a1, fun r r1 r2 => ?_⟩
    rw [e6 r (by omega), if_neg (a3 r r1 r2)]
    exact a2 r r1 r2
/-- steps outside the further must -/
theorem must_step {I J : Ins} {k : Nat} {f t : Nat} (hM : mustI I J (k : Int) f t) {s h u g : Nat} {x : Int} (ho : ∀ r, s ≤ r → r < u → ¬ (f ≤ r ∧ r < t)) : Wst I s h u g x ↔ Wst J s h u g x := by
  obtain ⟨e1, e2, e3, e4, e5, e6⟩ := id hM
  constructor
  · rintro ⟨a1, a2⟩
    refine ⟨by rw [e2]; exact a1, ?_⟩
    rw [e1, e3, e4, e5]
    rcases a2 with ⟨b1, b2, b3, b4, b5⟩ | ⟨b1, b2, b3, b4, b5⟩
    · refine Or.inl ⟨b1, b2, b3, ?_, b5⟩
      rw [e6 s b3, if_neg (ho s (Nat.le_refl _) (by omega))]
      exact b4
    · refine Or.inr ⟨b1, b2, b3, ?_, b5⟩
      have := (must_fre hM b3 (u := s + iT I h g) (by omega)).mpr ⟨by omega, fun r r1 r2 => ho r r1 (by omega)⟩
      omega
  · rintro ⟨a1, a2⟩
    rw [e2] at a1
    refine ⟨a1, ?_⟩
    rw [e1, e3, e4, e5] at a2
    rcases a2 with ⟨b1, b2, b3, b4, b5⟩ | ⟨b1, b2, b3, b4, b5⟩
    · refine Or.inl ⟨b1, b2, b3, ?_, b5⟩
      rw [e6 s b3, if_neg (ho s (Nat.le_refl _) (by omega))] at b4
      exact b4
    · refine Or.inr ⟨b1, b2, b3, ?_, b5⟩
      have := ((must_fre hM b3 (u := s + iT I h g) (by omega)).mp (by omega)).1
      omega
theorem must_Pa {I J : Ins} (hW : WF I) {k : Nat} {f t : Nat} (hM : mustI I J (k : Int) f t) : ∀ n s h u g x, h < iH I → (∀ r, s ≤ r → r < u → ¬ (f ≤ r ∧ r < t)) → Pa I n s h u g x → Pa J n s h u g x := by
  intro n
  induction n with
  | zero => rintro s h u g x _ _ h1; exact h1
  | succ n ih =>
    rintro s h u g x hh ho ⟨s1, h1, x1, x2, a1, a2, e⟩
    have b1 := Wst_mono hW hh a1
    have b2 := Pa_mono hW n s1 h1 u g x2 a1.1 a2
    exact ⟨s1, h1, x1, x2, (must_step hM (fun r r1 r2 => ho r r1 (by omega))).mp a1, ih s1 h1 u g x2 a1.1 (fun r r1 r2 => ho r (by omega) r2) a2, e⟩
/-- the way inside the further must stays -/
theorem must_in {I J : Ins} (hV : WF J) {k : Nat} {f t : Nat} (hM : mustI I J (k : Int) f t) (ht : t ≤ iN I) : ∀ d s h x, s + d = t → f ≤ s → h < iH J → (h = k ∨ s < t) → PB J s h x → ∃ x2, PB J t k x2 ∧ h = k ∧ (∀ r, s ≤ r → r < t → iM I r = -1 ∨ iM I r = (k : Int)) ∧ x = gsum I k s d + x2 := by
  obtain ⟨e1, e2, e3, e4, e5, e6⟩ := id hM
  intro d
  induction d with
  | zero =>
    intro s h x h1 h2 hh h3 h4
    have : s = t := by omega
    subst this
    have : h = k := by rcases h3 with z | z; exact z; omega
    subst this
    exact ⟨x, h4, rfl, fun r r1 r2 => by omega, by show x = 0 + x; omega⟩
  | succ d ih =>
    intro s h x h1 h2 hh h3 h4
    obtain ⟨s1, h1', x1, x2, ⟨a1, a2⟩, a3, rfl⟩ := PB_first (by omega) h4
    have em := e6 s (by omega)
    rw [if_pos (by omega)] at em
    rcases a2 with ⟨rfl, rfl, b3, b4, rfl⟩ | ⟨b1, b2, b3, b4, b5⟩
    · have hk : h1' = k ∧ (iM I s = -1 ∨ iM I s = (k : Int)) := by
        rw [em] at b4
        split at b4
        · rename_i y; exact ⟨by omega, y⟩
        · omega
      obtain ⟨rfl, hc⟩ := hk
      obtain ⟨y, y1, y2, y3, rfl⟩ := ih (s + 1) h1' x2 (by omega) (by omega) a1 (Or.inl rfl) a3
      refine ⟨y, y1, rfl, fun r r1 r2 => ?_, ?_⟩
      · by_cases w : r = s
        · rw [w]; exact hc
        · exact y3 r (by omega) r2
      · have gs : ∀ d, gsum I h1' s (d + 1) = iG I s h1' * 65536 + gsum I h1' (s + 1) d := by
          intro d
          induction d with
          | zero => show (0 : Int) + iG I (s + 0) h1' * 65536 = _ + 0; rw [Nat.add_zero]; omega
          | succ d ihd =>
            show gsum I h1' s (d + 1) + iG I (s + (d + 1)) h1' * 65536 = iG I s h1' * 65536 + (gsum I h1' (s + 1) d + iG I (s + 1 + d) h1' * 65536)
            rw [ihd, show s + (d + 1) = s + 1 + d by omega]; omega
        rw [gs d, e3]; omega
    · have t1 := hV.2.2.1 h h1' hh a1 (fun z => b1 z.symm)
      have := ((must_fre hM (s := s) (u := s + iT J h h1') (by omega) (by omega)).mp (by omega)).2 s (Nat.le_refl _) (by omega)
      omega
/-- the best with a further must: what is reached ahead, the stay, what comes behind -/
theorem must_thm {I J : Ins} {X Y R : Nat → Nat → Int} (hW : WF I) (hV : WF J) {k z : Nat} {f t : Nat} (hM : mustI I J (k : Int) f t) (hf : f < t) (ht : t ≤ iN I) (hk : k < iH I) (hz : z < iH I) (hX : IsX I tv0 X) (hY : IsX J tv0 Y) (hR : IsR I z R (iN I)) :
    (Y 0 z = BD ∧ (R f k = BD ∨ X t k = BD ∨ ¬ (∀ r, f ≤ r → r < t → iM I r = -1 ∨ iM I r = (k : Int)))) ∨ (R f k ≠ BD ∧ X t k ≠ BD ∧ (∀ r, f ≤ r → r < t → iM I r = -1 ∨ iM I r = (k : Int)) ∧ Y 0 z = R f k + X t k + gsum I k f (t - f)) := by
  obtain ⟨e1, e2, e3, e4, e5, e6⟩ := id hM
  have mR := R_max hW (Nat.le_refl _) hz hR (s := f) (h := k) (by omega) hk
  have mX := X_max hW hX (s := t) (h := k) (by omega) hk
  have mY := X_max hV hY (s := 0) (h := z) (by omega) (by rw [e2]; exact hz)
  have back : ∀ x2, PB J t k x2 → PB I t k x2 := by
    have st : ∀ n s h g x, t ≤ s → h < iH I → Pa J n s h (iN I) g x → Pa I n s h (iN I) g x := by
      intro n
      induction n with
      | zero => intro s h g x _ _ h1; exact h1
      | succ n ih =>
        rintro s h g x h1 hh ⟨s1, h1', x1, x2, a1, a2, e⟩
        have b1 := Wst_mono hV (by rw [e2]; exact hh) a1
        exact ⟨s1, h1', x1, x2, (must_step hM (fun r r1 r2 => by omega)).mpr a1, ih s1 h1' g x2 (by omega) (by rw [← e2]; exact a1.1) a2, e⟩
    rintro x2 ⟨g, n, h1⟩
    rw [e1] at h1
    exact ⟨g, n, st n t k g x2 (Nat.le_refl _) hk h1⟩
  have fwd : ∀ x2, PB I t k x2 → PB J t k x2 := by
    rintro x2 ⟨g, n, h1⟩
    refine ⟨g, n, ?_⟩
    rw [e1]
    exact must_Pa hW hM n t k (iN I) g x2 hk (fun r r1 r2 => by omega) h1
  -- what comes ahead
  have ahead : ∀ n s h g x, s ≤ f → h < iH I → Pa J n s h (iN I) g x → ∃ x1 x2, PF I s h f k x1 ∧ PB J f k x2 ∧ x = x1 + x2 := by
    have atf : ∀ h x, h < iH I → PB J f h x → ∃ x1 x2, PF I f h f k x1 ∧ PB J f k x2 ∧ x = x1 + x2 := by
      intro h x hh h1
      obtain ⟨x2, y1, y2, y3, y4⟩ := must_in hV hM ht (t - f) f h x (by omega) (Nat.le_refl _) (by rw [e2]; exact hh) (Or.inr hf) h1
      subst y2
      exact ⟨0, x, PF_rf I _ _, h1, by omega⟩
    intro n
    induction n with
    | zero =>
      rintro s h g x h1 hh ⟨a1, a2, a3⟩
      omega
    | succ n ih =>
      intro s h g x h1 hh h2
      by_cases y : s = f
      · subst y
        exact atf h x hh ⟨g, n + 1, by rw [e1]; exact h2⟩
      · obtain ⟨s1, h1', x1, x2, a1, a2, rfl⟩ := h2
        have hh1 : h1' < iH I := by rw [← e2]; exact a1.1
        have b0 := Wst_mono hV (by rw [e2]; exact hh) a1
        have b1 : s1 ≤ f := by
          obtain ⟨c0, ⟨c1, c2, c3, c4, c5⟩ | ⟨c1, c2, c3, c4, c5⟩⟩ := a1
          · omega
          · have := ((must_fre hM (s := s) (u := s + iT J h h1') (by omega) (by omega)).mp (by omega)).2
            by_cases w : s1 ≤ f
            · exact w
            · exact absurd ⟨Nat.le_refl f, hf⟩ (this f (by omega) (by omega))
        obtain ⟨y1, y2, z1, z2, rfl⟩ := ih s1 h1' g x2 b1 hh1 a2
        refine ⟨x1 + y1, y2, PF_app (PF_st ((must_step hM (fun r r1 r2 => by omega)).mpr a1)) z1, z2, by omega⟩
  have iff : ∀ x, PB J 0 z x ↔ ∃ x1 x2, PF I 0 z f k x1 ∧ (∀ r, f ≤ r → r < t → iM I r = -1 ∨ iM I r = (k : Int)) ∧ PB I t k x2 ∧ x = x1 + x2 + gsum I k f (t - f) := by
    intro x
    constructor
    · rintro ⟨g, n, h1⟩
      rw [e1] at h1
      obtain ⟨x1, x2, p1, p2, rfl⟩ := ahead n 0 z g x (by omega) hz h1
      obtain ⟨x3, y1, y2, y3, rfl⟩ := must_in hV hM ht (t - f) f k x2 (by omega) (Nat.le_refl _) (by rw [e2]; exact hk) (Or.inl rfl) p2
      exact ⟨x1, x3, p1, y3, back x3 y1, by omega⟩
    · rintro ⟨x1, x2, ⟨n, p1⟩, p2, p3, rfl⟩
      have q1 : PF J 0 z f k x1 := ⟨n, must_Pa hW hM n 0 z f k x1 hz (fun r r1 r2 => by omega) p1⟩
      have gJ : ∀ d, gsum J k f d = gsum I k f d := by
        intro d
        induction d with
        | zero => rfl
        | succ d ih => show gsum J k f d + iG J (f + d) k * 65536 = gsum I k f d + iG I (f + d) k * 65536; rw [ih, e3]
      have q2 : PF J f k (f + (t - f)) k (gsum J k f (t - f)) := stays_PF (by rw [e2]; exact hk) (t - f) (by rw [e1]; omega) (fun r r1 r2 => by
        have h1 := p2 r r1 (by omega)
        rw [e6 r (by omega), if_pos (by omega), if_pos h1]
        exact Or.inr rfl)
      rw [gJ, show f + (t - f) = t by omega] at q2
      have := PB_app q1 (PB_app q2 (fwd x2 p3))
      rw [show x1 + x2 + gsum I k f (t - f) = x1 + (gsum I k f (t - f) + x2) by omega]
      exact this
  have bR := R_bd hW (Nat.le_refl _) hR (s := f) (h := k) (by omega) hk
  have bX := X_bd hW tv0_01 hX (s := t) (h := k) (by omega) hk
  have bG : ∀ d, f + d ≤ iN I → 0 ≤ gsum I k f d := by
    intro d
    induction d with
    | zero => intro _; exact Int.le_refl _
    | succ d ih =>
      intro h
      have h1 := hW.2.1 (f + d) k (by omega) hk
      have h2 := ih (by omega)
      show 0 ≤ gsum I k f d + iG I (f + d) k * 65536
      omega
  have mZ := isMx_iff iff mY
  by_cases c1 : R f k = BD
  · refine Or.inl ⟨isMx_uniq mZ ?_, Or.inl c1⟩
    rcases mR with ⟨-, n1⟩ | ⟨n1, -⟩
    · exact isMx_none (fun x ⟨x1, x2, p1, _⟩ => n1 x1 p1)
    · exact absurd c1 n1
  · by_cases c2 : X t k = BD
    · refine Or.inl ⟨isMx_uniq mZ ?_, Or.inr (Or.inl c2)⟩
      rcases mX with ⟨-, n1⟩ | ⟨n1, -⟩
      · exact isMx_none (fun x ⟨x1, x2, p1, p2, p3, _⟩ => n1 x2 p3)
      · exact absurd c2 n1
    · by_cases c3 : ∀ r, f ≤ r → r < t → iM I r = -1 ∨ iM I r = (k : Int)
      · refine Or.inr ⟨c1, c2, c3, isMx_uniq mZ ?_⟩
        rcases mR with ⟨n0, -⟩ | ⟨-, n1, n2⟩
        · exact absurd n0 c1
        · rcases mX with ⟨m0, -⟩ | ⟨-, m1, m2⟩
          · exact absurd m0 c2
          · refine Or.inr ⟨fun w => ?_, ⟨R f k, X t k, n1, c3, m1, rfl⟩, ?_⟩
            · have w : R f k + X t k + gsum I k f (t - f) = -1000000000 := w
              have g := bG (t - f) (by omega)
              have h336 := hW.1
              rcases bR with v | v
              · exact c1 v
              · rcases bX with u | u
                · exact c2 u
                · omega
            · rintro x ⟨x1, x2, p1, -, p3, rfl⟩
              have h1 := n2 x1 p1
              have h2 := m2 x2 p3
              omega
      · refine Or.inl ⟨isMx_uniq mZ ?_, Or.inr (Or.inr c3)⟩
        exact isMx_none (fun x ⟨x1, x2, p1, p2, _⟩ => c3 p2)
