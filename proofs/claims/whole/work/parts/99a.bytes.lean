/-! ===== text: bytes, words ===== -/
/-- letters as one number, in base 32 -/
def wv (c : Nat → Int) : Nat → Int
  | 0 => 0
  | n + 1 => 32 * wv c n + c n
theorem wv_nn {c : Nat → Int} : ∀ n, (∀ i, i < n → 1 ≤ c i ∧ c i ≤ 26) → 0 ≤ wv c n := by
  intro n
  induction n with
  | zero => intro _; exact Int.le_refl _
  | succ n ih =>
    intro h
    have h1 := ih (fun i hi => h i (by omega))
    have h2 := h n (by omega)
    show 0 ≤ 32 * wv c n + c n
    omega
theorem wv_uniq {c d : Nat → Int} : ∀ n m, (∀ i, i < n → 1 ≤ c i ∧ c i ≤ 26) → (∀ i, i < m → 1 ≤ d i ∧ d i ≤ 26) → wv c n = wv d m → n = m ∧ ∀ i, i < n → c i = d i := by
  intro n
  induction n with
  | zero =>
    intro m _ hd e
    cases m with
    | zero => exact ⟨rfl, fun i hi => absurd hi (Nat.not_lt_zero i)⟩
    | succ m =>
      have e : 0 = 32 * wv d m + d m := e
      have h1 := wv_nn m (fun i hi => hd i (by omega))
      have h2 := hd m (by omega)
      omega
  | succ n ih =>
    intro m hc hd e
    cases m with
    | zero =>
      have e : 32 * wv c n + c n = 0 := e
      have h1 := wv_nn n (fun i hi => hc i (by omega))
      have h2 := hc n (by omega)
      omega
    | succ m =>
      have e : 32 * wv c n + c n = 32 * wv d m + d m := e
      have h1 := hc n (by omega)
      have h2 := hd m (by omega)
      have e1 : c n = d m := by omega
      have e2 : wv c n = wv d m := by omega
      obtain ⟨a1, a2⟩ := ih m (fun i hi => hc i (by omega)) (fun i hi => hd i (by omega)) e2
      subst a1
      refine ⟨rfl, fun i hi => ?_⟩
      by_cases y : i = n
      · rw [y]; exact e1
      · exact a2 i (by omega)
/-- the bytes of a tape, -1 behind its end -/
def byA (A : Nat → Int) (k : Nat) : Int := if A 6 ≤ (k : Int) then -1 else A (10 + k)
theorem m_byteAt {F : Mem} {A : Nat → Int} (h2 : F 173 2 = A 6) (hA : ∀ k : Nat, (k : Int) < A 6 → F 174 (10 + k) = A (10 + k)) (h6 : A 6 ≤ 600) (k : Nat) : fX10_byteAt 173 (k : Int) F = some (byA A k) := by
  unfold fX10_byteAt byA
  rw [h2]
  by_cases y : A 6 ≤ (k : Int)
  · rw [if_pos y, if_pos y]
  · have hk : (k : Int) < A 6 := by omega
    have bt : (0 : Int) ≤ ((10 + k : Nat) : Int) ∧ ((10 + k : Nat) : Int) < ((5268 : Nat) : Int) := by omega
    have hb := hA k hk
    have w : xw (10 + (k : Int)) = ((10 + k : Nat) : Int) := by rw [xwn (by omega) (by omega)]; rfl
    rw [if_neg y, if_neg y, w, al174, if_pos bt, Int.toNat_natCast, show (173 + 1 : Nat) = 174 from rfl, hb]
/-- a signed byte passes the same tests -/
theorem sb_eq {x y : Int} (hx : 0 ≤ x ∧ x ≤ 255) (hy : 0 ≤ y ∧ y < 128) : sb x = y ↔ x = y := by
  unfold sb
  split <;> omega
theorem sb_in {x a b : Int} (hx : 0 ≤ x ∧ x ≤ 255) (ha : 0 ≤ a) (hb : b < 128) : (a ≤ sb x ∧ sb x ≤ b) ↔ (a ≤ x ∧ x ≤ b) := by
  unfold sb
  split <;> omega
