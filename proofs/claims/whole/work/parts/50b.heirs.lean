/-! nine heirs one behind the other: two are one -/
theorem pigeon : ∀ (n : Nat) (f : Nat → Nat), (∀ i, i ≤ n → f i < n) → ∃ i j, i < j ∧ j ≤ n ∧ f i = f j := by
  intro n
  induction n with
  | zero => intro f h; exact absurd (h 0 (Nat.le_refl _)) (by omega)
  | succ n ih =>
    intro f h
    -- take away the value f (n + 1)
    by_cases hx : ∃ i, i ≤ n ∧ f i = f (n + 1)
    · obtain ⟨i, h1, h2⟩ := hx
      exact ⟨i, n + 1, by omega, Nat.le_refl _, h2⟩
    · have hne : ∀ i, i ≤ n → f i ≠ f (n + 1) := fun i hi e => hx ⟨i, hi, e⟩
      have hl := h (n + 1) (Nat.le_refl _)
      obtain ⟨i, j, h1, h2, h3⟩ := ih (fun i => if f i < f (n + 1) then f i else f i - 1) (fun i hi => by
        have a1 := h i (by omega)
        have a2 := hne i hi
        show (if f i < f (n + 1) then f i else f i - 1) < n
        split <;> omega)
      refine ⟨i, j, h1, by omega, ?_⟩
      have a1 := hne i (by omega)
      have a2 := hne j h2
      revert h3
      show (if f i < f (n + 1) then f i else f i - 1) = (if f j < f (n + 1) then f j else f j - 1) → _
      split <;> split <;> omega
def itE (E : Nat → Int) : Nat → Int → Int
  | 0, a => a
  | n + 1, a => itE E n (E a.toNat)
theorem itE_succ (E : Nat → Int) : ∀ n a, itE E (n + 1) a = E (itE E n a).toNat := by
  intro n
  induction n with
  | zero => intro a; rfl
  | succ n ih => intro a; show itE E (n + 1) (E a.toNat) = _; rw [ih]; rfl
theorem itE_add (E : Nat → Int) (a : Int) : ∀ n m, itE E (n + m) a = itE E n (itE E m a) := by
  intro n
  induction n with
  | zero => intro m; rw [Nat.zero_add]; rfl
  | succ n ih => intro m; rw [show n + 1 + m = (n + m) + 1 by omega, itE_succ, ih, itE_succ]
/-- an answer that is somebody was found on the way -/
theorem hOf_some {E D : Nat → Int} : ∀ n a, (∀ i, i ≤ n → itE E i a ≠ -1 ∧ D (itE E i a).toNat ≠ 0) ∨ hOf E D n a = hOf E D (n + 1) a := by
  intro n
  induction n with
  | zero =>
    intro a
    by_cases h1 : a = -1
    · right; unfold hOf; rw [if_pos h1, if_pos h1]
    · by_cases h2 : D a.toNat = 0
      · right; unfold hOf; rw [if_neg h1, if_neg h1, if_pos h2, if_pos h2]
      · left
        intro i hi
        have : i = 0 := by omega
        subst this
        exact ⟨h1, h2⟩
  | succ n ih =>
    intro a
    by_cases h1 : a = -1
    · right; unfold hOf; rw [if_pos h1, if_pos h1]
    · by_cases h2 : D a.toNat = 0
      · right; unfold hOf; rw [if_neg h1, if_neg h1, if_pos h2, if_pos h2]
      · rcases ih (E a.toNat) with h | h
        · left
          intro i hi
          cases i with
          | zero => exact ⟨h1, h2⟩
          | succ i => exact h i (by omega)
        · right
          show (if a = -1 then -1 else if D a.toNat = 0 then a else hOf E D n (E a.toNat)) = (if a = -1 then -1 else if D a.toNat = 0 then a else hOf E D (n + 1) (E a.toNat))
          rw [h]
theorem hOf_dead {E D : Nat → Int} : ∀ n a, (∀ i, i ≤ n → itE E i a ≠ -1 ∧ D (itE E i a).toNat ≠ 0) → hOf E D n a = -1 := by
  intro n
  induction n with
  | zero =>
    intro a h
    have h0 : a ≠ -1 ∧ D a.toNat ≠ 0 := h 0 (Nat.le_refl _)
    show (if a = -1 then -1 else if D a.toNat = 0 then a else -1) = -1
    rw [if_neg h0.1, if_neg h0.2]
  | succ n ih =>
    intro a h
    have h0 : a ≠ -1 ∧ D a.toNat ≠ 0 := h 0 (by omega)
    show (if a = -1 then -1 else if D a.toNat = 0 then a else hOf E D n (E a.toNat)) = -1
    rw [if_neg h0.1, if_neg h0.2]
    exact ih _ (fun i hi => h (i + 1) (by omega))
theorem hOf78 {E D : Nat → Int} {h : Nat} (hE : ∀ h, h < 8 → -1 ≤ E h ∧ E h ≤ 7) (hh : h < 8) (hd : D h ≠ 0) : hOf E D 8 (E h) = hOf E D 7 (E h) := by
  rcases hOf_some (E := E) (D := D) 7 (E h) with q | q
  · -- all dead: nine of eight
    have hall : ∀ i, i ≤ 8 → 0 ≤ itE E i (h : Int) ∧ itE E i (h : Int) ≤ 7 ∧ D (itE E i (h : Int)).toNat ≠ 0 := by
      intro i
      induction i with
      | zero => intro _; exact ⟨by show (0 : Int) ≤ (h : Int); omega, by show (h : Int) ≤ 7; omega, by show D ((h : Int)).toNat ≠ 0; rw [Int.toNat_natCast]; exact hd⟩
      | succ i ih =>
        intro hi
        have h1 := ih (by omega)
        have h2 := q i (by omega)
        have e : itE E (i + 1) (h : Int) = itE E i (E h) := rfl
        have h3 := hE (itE E i (h : Int)).toNat (by omega)
        have e2 := itE_succ E i (h : Int)
        rw [← e2] at h3
        rw [e] at *
        exact ⟨by omega, h3.2, h2.2⟩
    obtain ⟨i, j, a1, a2, a3⟩ := pigeon 8 (fun i => (itE E i (h : Int)).toNat) (fun i hi => by
      have := hall i hi
      show (itE E i (h : Int)).toNat < 8
      omega)
    have a4 : itE E i (h : Int) = itE E j (h : Int) := by
      have b1 := hall i (by omega)
      have b2 := hall j (by omega)
      have a3 : (itE E i (h : Int)).toNat = (itE E j (h : Int)).toNat := a3
      omega
    have a5 : itE E 9 (h : Int) = itE E (9 - (j - i)) (h : Int) := by
      have c1 := itE_add E (h : Int) (9 - j) j
      have c2 := itE_add E (h : Int) (9 - j) i
      rw [show 9 - j + j = 9 by omega] at c1
      rw [show 9 - j + i = 9 - (j - i) by omega] at c2
      rw [c1, c2, a4]
    have a6 := hall (9 - (j - i)) (by omega)
    have hd8 : ∀ i, i ≤ 8 → itE E i (E h) ≠ -1 ∧ D (itE E i (E h)).toNat ≠ 0 := by
      intro m hm
      by_cases y : m ≤ 7
      · exact q m y
      · have : m = 8 := by omega
        subst this
        have e : itE E 9 (h : Int) = itE E 8 (E h) := rfl
        rw [← e, a5]
        exact ⟨by omega, a6.2.2⟩
    rw [hOf_dead 8 _ hd8, hOf_dead 7 _ q]
  · exact q.symm
