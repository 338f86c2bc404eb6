/-! ===== plans, pure: ways ===== -/
/-- v is the greatest that P has, BD if it has none -/
def isMx (P : Int → Prop) (v : Int) : Prop := (v = BD ∧ ∀ x, ¬ P x) ∨ (v ≠ BD ∧ P v ∧ ∀ x, P x → x ≤ v)
theorem isMx_uniq {P : Int → Prop} {a b : Int} (ha : isMx P a) (hb : isMx P b) : a = b := by
  rcases ha with ⟨a1, a2⟩ | ⟨a1, a2, a3⟩
  · rcases hb with ⟨b1, b2⟩ | ⟨b1, b2, b3⟩
    · rw [a1, b1]
    · exact absurd b2 (a2 b)
  · rcases hb with ⟨b1, b2⟩ | ⟨b1, b2, b3⟩
    · exact absurd a2 (b2 a)
    · have h1 := a3 b b2
      have h2 := b3 a a2
      omega
theorem isMx_iff {P Q : Int → Prop} {a : Int} (h : ∀ x, P x ↔ Q x) (ha : isMx P a) : isMx Q a := by
  rcases ha with ⟨a1, a2⟩ | ⟨a1, a2, a3⟩
  · exact Or.inl ⟨a1, fun x hx => a2 x ((h x).mpr hx)⟩
  · exact Or.inr ⟨a1, (h a).mp a2, fun x hx => a3 x ((h x).mpr hx)⟩
theorem isMx_or {P Q : Int → Prop} {a b : Int} (ha : isMx P a) (hb : isMx Q b) (oa : a = BD ∨ BD < a) (ob : b = BD ∨ BD < b) : isMx (fun x => P x ∨ Q x) (if a < b then b else a) := by
  rcases ha with ⟨a1, a2⟩ | ⟨a1, a2, a3⟩
  · rcases hb with ⟨b1, b2⟩ | ⟨b1, b2, b3⟩
    · rw [if_neg (by rw [a1, b1]; exact Int.lt_irrefl _)]
      exact Or.inl ⟨a1, fun x hx => hx.elim (a2 x) (b2 x)⟩
    · rw [if_pos (by rw [a1]; rcases ob with z | z; exact absurd z b1; exact z)]
      exact Or.inr ⟨b1, Or.inr b2, fun x hx => hx.elim (fun z => absurd z (a2 x)) (b3 x)⟩
  · rcases hb with ⟨b1, b2⟩ | ⟨b1, b2, b3⟩
    · have : BD < a := by rcases oa with z | z; exact absurd z a1; exact z
      rw [if_neg (by rw [b1]; exact Int.not_lt.mpr (Int.le_of_lt this))]
      exact Or.inr ⟨a1, Or.inl a2, fun x hx => hx.elim (a3 x) (fun z => absurd z (b2 x))⟩
    · split
      · exact Or.inr ⟨b1, Or.inr b2, fun x hx => hx.elim (fun z => by have := a3 x z; omega) (b3 x)⟩
      · exact Or.inr ⟨a1, Or.inl a2, fun x hx => hx.elim (a3 x) (fun z => by have := b3 x z; omega)⟩
theorem isMx_add {P : Int → Prop} {a c : Int} (ha : isMx P a) (hc : a ≠ BD → a + c ≠ BD) : isMx (fun x => ∃ y, P y ∧ x = y + c) (if a = BD then BD else a + c) := by
  rcases ha with ⟨a1, a2⟩ | ⟨a1, a2, a3⟩
  · rw [if_pos a1]
    exact Or.inl ⟨rfl, fun x ⟨y, hy, _⟩ => a2 y hy⟩
  · rw [if_neg a1]
    exact Or.inr ⟨hc a1, ⟨a, a2, rfl⟩, fun x ⟨y, hy, e⟩ => by have := a3 y hy; omega⟩
theorem isMx_none {P : Int → Prop} (h : ∀ x, ¬ P x) : isMx P BD := Or.inl ⟨rfl, h⟩
/-- one step of a way -/
def Wst (I : Ins) (s h t g : Nat) (x : Int) : Prop := g < iH I ∧ ((t = s + 1 ∧ g = h ∧ s < iN I ∧ (iM I s = -1 ∨ iM I s = (h : Int)) ∧ x = iG I s h * 65536) ∨ (g ≠ h ∧ t = s + iT I h g ∧ s ≤ iN I ∧ iT I h g ≤ fre I s ∧ x = -(iS I h g)))
/-- n steps of a way -/
def Pa (I : Ins) : Nat → Nat → Nat → Nat → Nat → Int → Prop
  | 0, s, h, t, g, x => s = t ∧ h = g ∧ x = 0
  | n + 1, s, h, t, g, x => ∃ s1 h1 x1 x2, Wst I s h s1 h1 x1 ∧ Pa I n s1 h1 t g x2 ∧ x = x1 + x2
def PF (I : Ins) (s h t g : Nat) (x : Int) : Prop := ∃ n, Pa I n s h t g x
def PB (I : Ins) (s h : Nat) (x : Int) : Prop := ∃ g, PF I s h (iN I) g x
theorem Wst_mono {I : Ins} (hW : WF I) {s h t g : Nat} {x : Int} (hh : h < iH I) (h1 : Wst I s h t g x) : s < t ∧ t ≤ iN I := by
  obtain ⟨a1, ⟨a2, a3, a4, -⟩ | ⟨a2, a3, a4, a5, -⟩⟩ := h1
  · omega
  · have t1 := hW.2.2.1 h g hh a1 (fun z => a2 z.symm)
    have := (fre_sp (I := I) (iN I - s) s (by omega)).1
    omega
theorem Pa_mono {I : Ins} (hW : WF I) : ∀ n s h t g x, h < iH I → Pa I n s h t g x → s ≤ t ∧ g < iH I ∧ (s ≤ iN I → t ≤ iN I) := by
  intro n
  induction n with
  | zero =>
    rintro s h t g x hh ⟨rfl, rfl, -⟩
    exact ⟨Nat.le_refl _, hh, fun z => z⟩
  | succ n ih =>
    rintro s h t g x hh ⟨s1, h1, x1, x2, a1, a2, -⟩
    have b1 := Wst_mono hW hh a1
    have b2 := ih s1 h1 t g x2 a1.1 a2
    exact ⟨by omega, b2.2.1, fun _ => b2.2.2 (by omega)⟩
theorem Pa_app {I : Ins} : ∀ n m s h t g u k x y, Pa I n s h t g x → Pa I m t g u k y → Pa I (n + m) s h u k (x + y) := by
  intro n
  induction n with
  | zero =>
    rintro m s h t g u k x y ⟨rfl, rfl, rfl⟩ h2
    rw [Nat.zero_add, Int.zero_add]
    exact h2
  | succ n ih =>
    rintro m s h t g u k x y ⟨s1, h1, x1, x2, a1, a2, rfl⟩ h2
    rw [show n + 1 + m = (n + m) + 1 by omega]
    exact ⟨s1, h1, x1, x2 + y, a1, ih m s1 h1 t g u k x2 y a2 h2, by omega⟩
theorem Pa_one {I : Ins} {s h t g : Nat} {x : Int} (h1 : Wst I s h t g x) : Pa I 1 s h t g x := ⟨t, g, x, 0, h1, ⟨rfl, rfl, rfl⟩, by omega⟩
theorem PF_rf (I : Ins) (s h : Nat) : PF I s h s h 0 := ⟨0, rfl, rfl, rfl⟩
theorem PF_app {I : Ins} {s h t g u k : Nat} {x y : Int} (h1 : PF I s h t g x) (h2 : PF I t g u k y) : PF I s h u k (x + y) := by
  obtain ⟨n, h1⟩ := h1
  obtain ⟨m, h2⟩ := h2
  exact ⟨n + m, Pa_app n m s h t g u k x y h1 h2⟩
theorem PB_app {I : Ins} {s h t g : Nat} {x y : Int} (h1 : PF I s h t g x) (h2 : PB I t g y) : PB I s h (x + y) := by
  obtain ⟨k, h2⟩ := h2
  exact ⟨k, PF_app h1 h2⟩
theorem PF_st {I : Ins} {s h t g : Nat} {x : Int} (h1 : Wst I s h t g x) : PF I s h t g x := ⟨1, Pa_one h1⟩
/-- the last step -/
theorem Pa_last {I : Ins} : ∀ n s h t g x, Pa I (n + 1) s h t g x → ∃ s1 h1 x1 x2, Pa I n s h s1 h1 x1 ∧ Wst I s1 h1 t g x2 ∧ x = x1 + x2 := by
  intro n
  induction n with
  | zero =>
    rintro s h t g x ⟨s1, h1, x1, x2, a1, ⟨rfl, rfl, rfl⟩, rfl⟩
    exact ⟨s, h, 0, x1, ⟨rfl, rfl, rfl⟩, a1, by omega⟩
  | succ n ih =>
    rintro s h t g x ⟨s1, h1, x1, x2, a1, a2, rfl⟩
    obtain ⟨s2, h2, y1, y2, b1, b2, rfl⟩ := ih s1 h1 t g x2 a2
    exact ⟨s2, h2, x1 + y1, y2, ⟨s1, h1, x1, y1, a1, b1, rfl⟩, b2, by omega⟩
theorem PB_first {I : Ins} {s h : Nat} {x : Int} (hs : s < iN I) (h1 : PB I s h x) : ∃ s1 h1 x1 x2, Wst I s h s1 h1 x1 ∧ PB I s1 h1 x2 ∧ x = x1 + x2 := by
  obtain ⟨g, n, h1⟩ := h1
  cases n with
  | zero => exact absurd h1.1 (by omega)
  | succ n =>
    obtain ⟨s1, h1, x1, x2, a1, a2, e⟩ := h1
    exact ⟨s1, h1, x1, x2, a1, ⟨g, n, a2⟩, e⟩
theorem PB_end {I : Ins} (hW : WF I) {h : Nat} {x : Int} (hh : h < iH I) (h1 : PB I (iN I) h x) : x = 0 := by
  obtain ⟨g, n, h1⟩ := h1
  cases n with
  | zero => exact h1.2.2
  | succ n =>
    obtain ⟨s1, h1, x1, x2, a1, a2, e⟩ := h1
    have := Wst_mono hW hh a1
    omega
def tv0 : Nat → Int := fun _ => 0
theorem tv0_01 : tv01 tv0 := fun _ => Or.inr rfl
/-- the table's score is the best of all ways to the end -/
theorem X_mx {I : Ins} {X : Nat → Nat → Int} (hW : WF I) (hX : IsX I tv0 X) : ∀ d s, iN I ≤ s + d → s ≤ iN I → ∀ h, h < iH I → isMx (PB I s h) (X s h) := by
  have base : ∀ h, h < iH I → isMx (PB I (iN I) h) (X (iN I) h) := by
    intro h hh
    rw [hX.1 h hh]
    exact Or.inr ⟨(show (0 : Int) ≠ -1000000000 by decide), ⟨h, PF_rf I _ _⟩, fun x hx => by rw [PB_end hW hh hx]; exact Int.le_refl _⟩
  intro d
  induction d with
  | zero =>
    intro s h1 h2 h hh
    have : s = iN I := by omega
    subst this
    exact base h hh
  | succ d ih =>
    intro s h1 h2 h hh
    by_cases q : s = iN I
    · subst q; exact base h hh
    · obtain ⟨hf, -, -⟩ := fre_sp (I := I) (iN I - s) s (by omega)
      have h336 := hW.1
      -- staying
      have S0 : isMx (fun x => ∃ x2, (iM I s = -1 ∨ iM I s = (h : Int)) ∧ PB I (s + 1) h x2 ∧ x = x2 + iG I s h * 65536) (stv I X s h) := by
        have m := ih (s + 1) (by omega) (by omega) h hh
        have b := stv_bX hW tv0_01 hX (s := s) (h := h) (by omega) hh
        by_cases c : iM I s = -1 ∨ iM I s = (h : Int)
        · have e : stv I X s h = if X (s + 1) h = BD then BD else X (s + 1) h + iG I s h * 65536 := by
            unfold stv
            by_cases z : X (s + 1) h = BD
            · rw [if_pos (Or.inl z), if_pos z]
            · rw [if_neg (by rintro (w | w); exact z w; exact w c), if_neg z]
          rw [e]
          refine isMx_iff (fun x => ?_) (isMx_add (c := iG I s h * 65536) m (fun z w => ?_))
          · exact ⟨fun ⟨y, y1, y2⟩ => ⟨y, c, y1, y2⟩, fun ⟨y, _, y1, y2⟩ => ⟨y, y1, y2⟩⟩
          · have bb := X_bd hW tv0_01 hX (s := s + 1) (h := h) (by omega) hh
            have hg := hW.2.1 s h (by omega) hh
            rcases sbd_ge (by omega) bb with v | v
            · exact z v
            · have w : X (s + 1) h + iG I s h * 65536 = -1000000000 := w
              have v : (-1000000000 : Int) < X (s + 1) h := v
              omega
        · have e : stv I X s h = BD := by unfold stv; rw [if_pos (Or.inr c)]
          rw [e]
          exact isMx_none (fun x ⟨_, z, _⟩ => c z)
      -- going
      have S1 : ∀ b, b < iH I → isMx (fun x => ∃ x2, b ≠ h ∧ iT I h b ≤ fre I s ∧ PB I (s + iT I h b) b x2 ∧ x = x2 - iS I h b) (gov I X s h b) := by
        intro b hb
        by_cases c : b ≠ h ∧ iT I h b ≤ fre I s
        · have t1 := hW.2.2.1 h b hh hb (fun z => c.1 z.symm)
          have m := ih (s + iT I h b) (by omega) (by omega) b hb
          have e : gov I X s h b = if X (s + iT I h b) b = BD then BD else X (s + iT I h b) b + -(iS I h b) := by
            unfold gov
            by_cases z : X (s + iT I h b) b = BD
            · rw [if_pos (Or.inr (Or.inr z)), if_pos z]
            · rw [if_neg (by rintro (w | w | w); exact c.1 w; omega; exact z w), if_neg z]; omega
          rw [e]
          refine isMx_iff (fun x => ?_) (isMx_add (c := -(iS I h b)) m (fun z w => ?_))
          · exact ⟨fun ⟨y, y1, y2⟩ => ⟨y, c.1, c.2, y1, by omega⟩, fun ⟨y, _, _, y1, y2⟩ => ⟨y, y1, by omega⟩⟩
          · have bb := X_bd hW tv0_01 hX (s := s + iT I h b) (h := b) (by omega) hb
            have hg := hW.2.2.2 h b hh hb
            rcases bb with v | v
            · exact z v
            · have w : X (s + iT I h b) b + -(iS I h b) = -1000000000 := w
              omega
        · have e : gov I X s h b = BD := by
            unfold gov
            rw [if_pos]
            by_cases z : b = h
            · exact Or.inl z
            · exact Or.inr (Or.inl (by have : ¬ iT I h b ≤ fre I s := fun w => c ⟨z, w⟩; omega))
          rw [e]
          exact isMx_none (fun x ⟨_, z1, z2, _⟩ => c ⟨z1, z2⟩)
      -- the best of them
      have S2 : ∀ n, n ≤ iH I → isMx (fun x => (∃ x2, (iM I s = -1 ∨ iM I s = (h : Int)) ∧ PB I (s + 1) h x2 ∧ x = x2 + iG I s h * 65536) ∨ ∃ b, b < n ∧ ∃ x2, b ≠ h ∧ iT I h b ≤ fre I s ∧ PB I (s + iT I h b) b x2 ∧ x = x2 - iS I h b) (bsv I X s h n) := by
        intro n
        induction n with
        | zero =>
          intro _
          exact isMx_iff (fun x => ⟨fun z => Or.inl z, fun z => z.elim (fun w => w) (fun ⟨b, hb, _⟩ => absurd hb (by omega))⟩) S0
        | succ n ihn =>
          intro hn
          have o1 : ∀ b, b < iH I → gov I X s h b = BD ∨ BD < gov I X s h b := fun b hb => sbd_ge (by omega) (gov_bX hW tv0_01 hX (by omega) hh hb)
          have o2 : bsv I X s h n = BD ∨ BD < bsv I X s h n := sbd_ge (k := iN I - s) (by omega) (bsv_bd (stv_bX hW tv0_01 hX (by omega) hh) n (fun b hb => gov_bX hW tv0_01 hX (by omega) hh (by omega)))
          refine isMx_iff (fun x => ?_) (isMx_or (ihn (by omega)) (S1 n (by omega)) o2 (o1 n (by omega)))
          constructor
          · rintro ((z | ⟨b, hb, z⟩) | z)
            · exact Or.inl z
            · exact Or.inr ⟨b, by omega, z⟩
            · exact Or.inr ⟨n, by omega, z⟩
          · rintro (z | ⟨b, hb, z⟩)
            · exact Or.inl (Or.inl z)
            · by_cases y : b = n
              · subst y; exact Or.inr z
              · exact Or.inl (Or.inr ⟨b, by omega, z⟩)
      rw [hX.2 s (by omega) h hh]
      refine isMx_iff (fun x => ?_) (S2 (iH I) (Nat.le_refl _))
      constructor
      · rintro (⟨x2, c, p, rfl⟩ | ⟨b, hb, x2, c1, c2, p, rfl⟩)
        · have := PB_app (PF_st (I := I) (s := s) (h := h) (t := s + 1) (g := h) (x := iG I s h * 65536) ⟨hh, Or.inl ⟨rfl, rfl, by omega, c, rfl⟩⟩) p
          rw [Int.add_comm]; exact this
        · have := PB_app (PF_st (I := I) (s := s) (h := h) (t := s + iT I h b) (g := b) (x := -(iS I h b)) ⟨hb, Or.inr ⟨c1, rfl, by omega, c2, rfl⟩⟩) p
          rw [show x2 - iS I h b = -(iS I h b) + x2 by omega]; exact this
      · intro p
        obtain ⟨s1, h1, x1, x2, ⟨a1, a2⟩, p2, rfl⟩ := PB_first (by omega) p
        rcases a2 with ⟨rfl, rfl, a3, a4, rfl⟩ | ⟨a2, rfl, a3, a4, rfl⟩
        · exact Or.inl ⟨x2, a4, p2, by omega⟩
        · exact Or.inr ⟨h1, a1, x2, a2, a4, p2, by omega⟩
theorem X_max {I : Ins} {X : Nat → Nat → Int} (hW : WF I) (hX : IsX I tv0 X) {s h : Nat} (hs : s ≤ iN I) (hh : h < iH I) : isMx (PB I s h) (X s h) := X_mx hW hX (iN I - s) s (by omega) hs h hh
/-! from the start on -/
noncomputable def stf (I : Ins) (R : Nat → Nat → Int) (s h : Nat) : Int := if R s h = BD ∨ ¬ (iM I s = -1 ∨ iM I s = (h : Int)) then BD else R s h + iG I s h * 65536
def arf (I : Ins) (R : Nat → Nat → Int) (s a h : Nat) : Int := if a = h ∨ s < iT I a h ∨ fre I (s - iT I a h) < iT I a h ∨ R (s - iT I a h) a = BD then BD else R (s - iT I a h) a - iS I a h
noncomputable def bsf (I : Ins) (R : Nat → Nat → Int) (s h : Nat) : Nat → Int
  | 0 => stf I R s h
  | n + 1 => if bsf I R s h n < arf I R (s + 1) n h then arf I R (s + 1) n h else bsf I R s h n
def IsR (I : Ins) (z : Nat) (R : Nat → Nat → Int) (M : Nat) : Prop := (∀ h, h < iH I → R 0 h = if h = z then 0 else BD) ∧ ∀ s, s < M → ∀ h, h < iH I → R (s + 1) h = bsf I R s h (iH I)
theorem arf_bd {I : Ins} {R : Nat → Nat → Int} (hW : WF I) {s a h : Nat} (ha : a < iH I) (hh : h < iH I) (hR : a ≠ h → iT I a h ≤ s → sbd (s - iT I a h) (R (s - iT I a h) a)) : sbd s (arf I R s a h) := by
  unfold arf
  split
  · exact Or.inl rfl
  · rename_i y
    have y1 : a ≠ h := fun z => y (Or.inl z)
    have y2 : ¬ s < iT I a h := fun z => y (Or.inr (Or.inl z))
    have t1 := hW.2.2.1 a h ha hh y1
    have c1 := hW.2.2.2 a h ha hh
    rcases hR y1 (by omega) with q | q
    · exact absurd (Or.inr (Or.inr (Or.inr q))) y
    · right
      obtain ⟨k, hk⟩ : ∃ k, s = s - iT I a h + 1 + k := ⟨iT I a h - 1, by omega⟩
      generalize s - iT I a h = j at *
      subst hk
      omega
theorem stf_bd {I : Ins} {R : Nat → Nat → Int} (hW : WF I) {s h : Nat} (hs : s < iN I) (hh : h < iH I) (hR : sbd s (R s h)) : sbd (s + 1) (stf I R s h) := by
  have hg := hW.2.1 s h hs hh
  unfold stf
  split
  · exact Or.inl rfl
  · rename_i y
    rcases hR with q | q
    · exact absurd (Or.inl q) y
    · right; omega
theorem bsf_bd {I : Ins} {R : Nat → Nat → Int} {s h k : Nat} (h0 : sbd k (stf I R s h)) : ∀ n, (∀ b, b < n → sbd k (arf I R (s + 1) b h)) → sbd k (bsf I R s h n) := by
  intro n
  induction n with
  | zero => intro _; exact h0
  | succ n ih =>
    intro hb
    show sbd k (if bsf I R s h n < arf I R (s + 1) n h then arf I R (s + 1) n h else bsf I R s h n)
    split
    · exact hb n (by omega)
    · exact ih (fun b h => hb b (by omega))
theorem R_bdd {I : Ins} {z M : Nat} {R : Nat → Nat → Int} (hW : WF I) (hM : M ≤ iN I) (hR : IsR I z R M) : ∀ d s, s ≤ d → s ≤ M → ∀ h, h < iH I → sbd s (R s h) := by
  have base : ∀ h, h < iH I → sbd 0 (R 0 h) := by
    intro h hh
    rw [hR.1 h hh]
    split
    · right; omega
    · exact Or.inl rfl
  intro d
  induction d with
  | zero =>
    intro s h1 _ h hh
    have : s = 0 := by omega
    subst this
    exact base h hh
  | succ d ih =>
    intro s h1 h2 h hh
    cases s with
    | zero => exact base h hh
    | succ s =>
      rw [hR.2 s (by omega) h hh]
      refine bsf_bd (stf_bd hW (by omega) hh (ih s (by omega) (by omega) h hh)) _ (fun b hb => arf_bd hW hb hh (fun y1 y2 => ?_))
      have t1 := hW.2.2.1 b h hb hh y1
      exact ih _ (by omega) (by omega) b hb
theorem R_bd {I : Ins} {z M : Nat} {R : Nat → Nat → Int} (hW : WF I) (hM : M ≤ iN I) (hR : IsR I z R M) {s h : Nat} (hs : s ≤ M) (hh : h < iH I) : sbd s (R s h) := R_bdd hW hM hR s s (Nat.le_refl _) hs h hh
theorem R_mx {I : Ins} {z M : Nat} {R : Nat → Nat → Int} (hW : WF I) (hM : M ≤ iN I) (hz : z < iH I) (hR : IsR I z R M) : ∀ d s, s ≤ d → s ≤ M → ∀ h, h < iH I → isMx (PF I 0 z s h) (R s h) := by
  have base : ∀ h, h < iH I → isMx (PF I 0 z 0 h) (R 0 h) := by
    intro h hh
    rw [hR.1 h hh]
    by_cases q : h = z
    · subst q
      rw [if_pos rfl]
      refine Or.inr ⟨by decide, PF_rf I _ _, fun x ⟨n, hx⟩ => ?_⟩
      cases n with
      | zero => rw [hx.2.2]; exact Int.le_refl _
      | succ n =>
        obtain ⟨s1, h1, x1, x2, a1, a2, -⟩ := hx
        have := Wst_mono hW hz a1
        have := Pa_mono hW n s1 h1 0 h x2 a1.1 a2
        omega
    · rw [if_neg q]
      refine isMx_none (fun x ⟨n, hx⟩ => ?_)
      cases n with
      | zero => exact q hx.2.1.symm
      | succ n =>
        obtain ⟨s1, h1, x1, x2, a1, a2, -⟩ := hx
        have := Wst_mono hW hz a1
        have := Pa_mono hW n s1 h1 0 h x2 a1.1 a2
        omega
  intro d
  induction d with
  | zero =>
    intro s h1 _ h hh
    have : s = 0 := by omega
    subst this
    exact base h hh
  | succ d ih =>
    intro s h1 h2 h hh
    cases s with
    | zero => exact base h hh
    | succ s =>
      have h336 := hW.1
      have S0 : isMx (fun x => ∃ x2, (iM I s = -1 ∨ iM I s = (h : Int)) ∧ PF I 0 z s h x2 ∧ x = x2 + iG I s h * 65536) (stf I R s h) := by
        have m := ih s (by omega) (by omega) h hh
        by_cases c : iM I s = -1 ∨ iM I s = (h : Int)
        · have e : stf I R s h = if R s h = BD then BD else R s h + iG I s h * 65536 := by
            unfold stf
            by_cases y : R s h = BD
            · rw [if_pos (Or.inl y), if_pos y]
            · rw [if_neg (by rintro (w | w); exact y w; exact w c), if_neg y]
          rw [e]
          refine isMx_iff (fun x => ?_) (isMx_add (c := iG I s h * 65536) m (fun y w => ?_))
          · exact ⟨fun ⟨y, y1, y2⟩ => ⟨y, c, y1, y2⟩, fun ⟨y, _, y1, y2⟩ => ⟨y, y1, y2⟩⟩
          · have bb := R_bd hW hM hR (s := s) (h := h) (by omega) hh
            have hg := hW.2.1 s h (by omega) hh
            rcases bb with v | v
            · exact y v
            · have w : R s h + iG I s h * 65536 = -1000000000 := w
              omega
        · have e : stf I R s h = BD := by unfold stf; rw [if_pos (Or.inr c)]
          rw [e]
          exact isMx_none (fun x ⟨_, y, _⟩ => c y)
      have S1 : ∀ a, a < iH I → isMx (fun x => ∃ x2, a ≠ h ∧ iT I a h ≤ s + 1 ∧ iT I a h ≤ fre I (s + 1 - iT I a h) ∧ PF I 0 z (s + 1 - iT I a h) a x2 ∧ x = x2 - iS I a h) (arf I R (s + 1) a h) := by
        intro a ha
        by_cases c : a ≠ h ∧ iT I a h ≤ s + 1 ∧ iT I a h ≤ fre I (s + 1 - iT I a h)
        · have t1 := hW.2.2.1 a h ha hh c.1
          have m := ih (s + 1 - iT I a h) (by omega) (by omega) a ha
          have e : arf I R (s + 1) a h = if R (s + 1 - iT I a h) a = BD then BD else R (s + 1 - iT I a h) a + -(iS I a h) := by
            unfold arf
            by_cases y : R (s + 1 - iT I a h) a = BD
            · rw [if_pos (Or.inr (Or.inr (Or.inr y))), if_pos y]
            · rw [if_neg (by rintro (w | w | w | w); exact c.1 w; omega; omega; exact y w), if_neg y]; omega
          rw [e]
          refine isMx_iff (fun x => ?_) (isMx_add (c := -(iS I a h)) m (fun y w => ?_))
          · exact ⟨fun ⟨y, y1, y2⟩ => ⟨y, c.1, c.2.1, c.2.2, y1, by omega⟩, fun ⟨y, _, _, _, y1, y2⟩ => ⟨y, y1, by omega⟩⟩
          · have bb := R_bd hW hM hR (s := s + 1 - iT I a h) (h := a) (by omega) ha
            have hg := hW.2.2.2 a h ha hh
            rcases bb with v | v
            · exact y v
            · have w : R (s + 1 - iT I a h) a + -(iS I a h) = -1000000000 := w
              omega
        · have e : arf I R (s + 1) a h = BD := by
            unfold arf
            rw [if_pos]
            by_cases y : a = h
            · exact Or.inl y
            · by_cases y2 : s + 1 < iT I a h
              · exact Or.inr (Or.inl y2)
              · exact Or.inr (Or.inr (Or.inl (by have : ¬ iT I a h ≤ fre I (s + 1 - iT I a h) := fun w => c ⟨y, by omega, w⟩; omega)))
          rw [e]
          exact isMx_none (fun x ⟨_, z1, z2, z3, _⟩ => c ⟨z1, z2, z3⟩)
      have ob : ∀ n, n ≤ iH I → sbd (s + 1) (bsf I R s h n) := fun n hn => bsf_bd (stf_bd hW (by omega) hh (R_bd hW hM hR (by omega) hh)) n (fun b hb => arf_bd hW (by omega) hh (fun y1 y2 => R_bd hW hM hR (by omega) (by omega)))
      have oa : ∀ a, a < iH I → sbd (s + 1) (arf I R (s + 1) a h) := fun a ha => arf_bd hW ha hh (fun y1 y2 => by
        have t1 := hW.2.2.1 a h ha hh y1
        exact R_bd hW hM hR (by omega) ha)
      have S2 : ∀ n, n ≤ iH I → isMx (fun x => (∃ x2, (iM I s = -1 ∨ iM I s = (h : Int)) ∧ PF I 0 z s h x2 ∧ x = x2 + iG I s h * 65536) ∨ ∃ a, a < n ∧ ∃ x2, a ≠ h ∧ iT I a h ≤ s + 1 ∧ iT I a h ≤ fre I (s + 1 - iT I a h) ∧ PF I 0 z (s + 1 - iT I a h) a x2 ∧ x = x2 - iS I a h) (bsf I R s h n) := by
        intro n
        induction n with
        | zero =>
          intro _
          exact isMx_iff (fun x => ⟨fun y => Or.inl y, fun y => y.elim (fun w => w) (fun ⟨b, hb, _⟩ => absurd hb (by omega))⟩) S0
        | succ n ihn =>
          intro hn
          refine isMx_iff (fun x => ?_) (isMx_or (ihn (by omega)) (S1 n (by omega)) (sbd_ge (by omega) (ob n (by omega))) (sbd_ge (by omega) (oa n (by omega))))
          constructor
          · rintro ((y | ⟨b, hb, y⟩) | y)
            · exact Or.inl y
            · exact Or.inr ⟨b, by omega, y⟩
            · exact Or.inr ⟨n, by omega, y⟩
          · rintro (y | ⟨b, hb, y⟩)
            · exact Or.inl (Or.inl y)
            · by_cases w : b = n
              · subst w; exact Or.inr y
              · exact Or.inl (Or.inr ⟨b, by omega, y⟩)
      rw [hR.2 s (by omega) h hh]
      refine isMx_iff (fun x => ?_) (S2 (iH I) (Nat.le_refl _))
      constructor
      · rintro (⟨x2, c, p, rfl⟩ | ⟨a, ha, x2, c1, c2, c3, p, rfl⟩)
        · exact PF_app p (PF_st ⟨hh, Or.inl ⟨rfl, rfl, by omega, c, rfl⟩⟩)
        · have := PF_app p (PF_st (I := I) (s := s + 1 - iT I a h) (h := a) (t := s + 1) (g := h) (x := -(iS I a h)) ⟨hh, Or.inr ⟨fun y => c1 y.symm, by omega, by omega, c3, rfl⟩⟩)
          rw [show x2 - iS I a h = x2 + -(iS I a h) by omega]; exact this
      · rintro ⟨n, p⟩
        cases n with
        | zero => exact absurd p.1 (by omega)
        | succ n =>
          obtain ⟨s1, h1, x1, x2, p1, ⟨-, a2⟩, rfl⟩ := Pa_last n 0 z (s + 1) h x p
          have b1 := Pa_mono hW n 0 z s1 h1 x1 hz p1
          rcases a2 with ⟨a3, a4, a5, a6, rfl⟩ | ⟨a3, a4, a5, a6, rfl⟩
          · obtain rfl : s1 = s := by omega
            subst a4
            exact Or.inl ⟨x1, a6, ⟨n, p1⟩, rfl⟩
          · refine Or.inr ⟨h1, b1.2.1, x1, fun y => a3 y.symm, by omega, ?_, ?_, by omega⟩
            · rw [show s + 1 - iT I h1 h = s1 by omega]; exact a6
            · rw [show s + 1 - iT I h1 h = s1 by omega]; exact ⟨n, p1⟩
theorem R_max {I : Ins} {z M : Nat} {R : Nat → Nat → Int} (hW : WF I) (hM : M ≤ iN I) (hz : z < iH I) (hR : IsR I z R M) {s h : Nat} (hs : s ≤ M) (hh : h < iH I) : isMx (PF I 0 z s h) (R s h) := R_mx hW hM hz hR s s (Nat.le_refl _) hs h hh
