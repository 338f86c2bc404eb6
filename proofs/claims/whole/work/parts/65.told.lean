/-! ===== errors told back: the pure part ===== -/
theorem sm_0 {f : Nat → Int} : ∀ n, (∀ i, i < n → f i = 0) → sm n f = 0 := by
  intro n
  induction n with
  | zero => intro _; rfl
  | succ n ih => intro h; show sm n f + f n = 0; rw [ih (fun i hi => h i (by omega)), h n (by omega)]; rfl
theorem sm_1 {f : Nat → Int} : ∀ {n k : Nat}, k < n → (∀ i, i < n → i ≠ k → f i = 0) → sm n f = f k := by
  intro n
  induction n with
  | zero => intro k hk; omega
  | succ n ih =>
    intro k hk h
    show sm n f + f n = f k
    by_cases q : k = n
    · subst q
      rw [sm_0 k (fun i hi => h i (by omega) (by omega)), Int.zero_add]
    · rw [ih (k := k) (by omega) (fun i hi => h i (by omega)), h n (by omega) (by omega), Int.add_zero]
theorem sm_plus {f g : Nat → Int} : ∀ n, sm n (fun i => f i + g i) = sm n f + sm n g := by
  intro n
  induction n with
  | zero => rfl
  | succ n ih => show sm n (fun i => f i + g i) + (f n + g n) = (sm n f + f n) + (sm n g + g n); rw [ih]; omega
theorem sm_k (c : Int) : ∀ n : Nat, sm n (fun _ => c) = c * n := by
  intro n
  induction n with
  | zero => exact (Int.mul_zero c).symm
  | succ n ih => show sm n (fun _ => c) + c = c * ((n + 1 : Nat) : Int); rw [ih, show ((n + 1 : Nat) : Int) = (n : Int) + 1 from rfl, Int.mul_add, Int.mul_one]
theorem sm_mon {g : Nat → Int} {N : Nat} (hg : ∀ i, i < N → 0 ≤ g i) : ∀ b a, b ≤ N → a ≤ b → sm a g ≤ sm b g := by
  intro b
  induction b with
  | zero => intro a _ h; have : a = 0 := by omega
            subst this; exact Int.le_refl _
  | succ b ih =>
    intro a hb h
    by_cases q : a = b + 1
    · subst q; exact Int.le_refl _
    · have h1 := ih a (by omega) (by omega)
      have h2 := hg b (by omega)
      show sm a g ≤ sm b g + g b
      omega
/-- the first of N places where the sum passes n -/
def slF (g : Nat → Int) (n : Int) : Nat → Int
  | 0 => -1
  | N + 1 => if slF g n N ≠ -1 then slF g n N else if n < sm (N + 1) g then (N : Int) else -1
theorem slF_FF (g : Nat → Int) (n : Int) : ∀ N, FF N (fun s => n < sm (s + 1) g) (fun s => (s : Int)) (-1) (slF g n N) := by
  intro N
  induction N with
  | zero => exact Or.inr ⟨fun j hj => absurd hj (by omega), rfl⟩
  | succ N ih =>
    show FF (N + 1) _ _ _ (if slF g n N ≠ -1 then slF g n N else if n < sm (N + 1) g then (N : Int) else -1)
    rcases ih with ⟨s, a1, a2, a3, a4⟩ | ⟨a1, a2⟩
    · have a4 : slF g n N = (s : Int) := a4
      rw [if_pos (by omega)]
      exact Or.inl ⟨s, by omega, a2, a3, a4⟩
    · rw [if_neg (by omega)]
      by_cases q : n < sm (N + 1) g
      · rw [if_pos q]
        exact Or.inl ⟨N, by omega, q, a1, rfl⟩
      · rw [if_neg q]
        refine Or.inr ⟨fun j hj => ?_, rfl⟩
        by_cases y : j = N
        · subst y; exact q
        · exact a1 j (by omega)
/-- the slot of a row -/
def sR (v S : Nat → Int) (h n : Int) : Int := if 0 ≤ h ∧ h < v 5 ∧ 0 ≤ n then slF (rwI v S h.toNat) n (v 0).toNat else -1
def exI (v S a : Nat → Int) (k : Nat) : Int := if sR v S (a (1 + 2 * k)) (a (1 + 2 * k + 1)) = -1 then 0 else if rgI v S (a (1 + 2 * k)).toNat (sR v S (a (1 + 2 * k)) (a (1 + 2 * k + 1))).toNat ≠ 0 then 0 else 1
/-- told among the first K -/
def tdI (a : Nat → Int) : Nat → Int → Int → Int
  | 0, _, _ => 0
  | k + 1, h, n => if a (1 + 2 * k) = h ∧ a (1 + 2 * k + 1) = n then 1 else tdI a k h n
theorem tdI01 (a : Nat → Int) (K : Nat) (h n : Int) : tdI a K h n = 0 ∨ tdI a K h n = 1 := by
  induction K with
  | zero => exact Or.inl rfl
  | succ K ih =>
    show (if a (1 + 2 * K) = h ∧ a (1 + 2 * K + 1) = n then 1 else tdI a K h n) = 0 ∨ (if a (1 + 2 * K) = h ∧ a (1 + 2 * K + 1) = n then 1 else tdI a K h n) = 1
    split
    · exact Or.inr rfl
    · exact ih
def onI (v S a : Nat → Int) (k : Nat) : Int := if exI v S a k = 1 ∧ tdI a k (a (1 + 2 * k)) (a (1 + 2 * k + 1)) = 0 then 1 else 0
theorem exI01 (v S a : Nat → Int) (k : Nat) : exI v S a k = 0 ∨ exI v S a k = 1 := by
  unfold exI
  split
  · exact Or.inl rfl
  · split
    · exact Or.inl rfl
    · exact Or.inr rfl
/-- a row of a wrong slot that is told among the first K -/
def tlI (v S a : Nat → Int) (K h s i : Nat) : Int := if rgI v S h s = 0 ∧ tdI a K (h : Int) (sm s (rwI v S h) + (i : Int)) ≠ 0 then 1 else 0
def unI (v S a : Nat → Int) (K h s i : Nat) : Int := if rgI v S h s = 0 ∧ tdI a K (h : Int) (sm s (rwI v S h) + (i : Int)) = 0 then 1 else 0
def tlS (v S a : Nat → Int) (K h s : Nat) : Int := sm (rwI v S h s).toNat (tlI v S a K h s)
def unS (v S a : Nat → Int) (K h s : Nat) : Int := sm (rwI v S h s).toNat (unI v S a K h s)
def tlA (v S a : Nat → Int) (K : Nat) : Int := sm (v 5).toNat (fun h => sm (v 0).toNat (tlS v S a K h))
def unA (v S a : Nat → Int) (K : Nat) : Int := sm (v 5).toNat (fun h => sm (v 0).toNat (unS v S a K h))
theorem un_tl {v S : Nat → Int} (hO : VO v) (a : Nat → Int) (K : Nat) : unA v S a K + tlA v S a K = sm (v 5).toNat (fun h => sm (v 0).toNat (wrI v S h)) := by
  have b5 := hO.2.2.2.1
  unfold unA tlA
  rw [← sm_plus]
  refine sm_congr _ (fun h hh => ?_)
  rw [← sm_plus]
  refine sm_congr _ (fun s hs => ?_)
  unfold unS tlS
  rw [← sm_plus]
  have hb := rwI_bd (S := S) hO (h := h) (by omega) s
  rcases rgI01 v S h s with q | q
  · have e : wrI v S h s = rwI v S h s := by unfold wrI rwI; rw [if_pos q, if_pos q]
    rw [e, sm_congr (g := fun _ => (1 : Int)) _ (fun i hi => ?_), sm_k]
    · omega
    · unfold unI tlI
      by_cases y : tdI a K (h : Int) (sm s (rwI v S h) + (i : Int)) = 0
      · rw [if_pos ⟨q, y⟩, if_neg (fun z => z.2 y)]; rfl
      · rw [if_neg (fun z => y z.2), if_pos ⟨q, y⟩]; rfl
  · have e : wrI v S h s = 0 := by unfold wrI; rw [if_neg (by omega)]
    rw [e]
    refine sm_0 _ (fun i hi => ?_)
    unfold unI tlI
    rw [if_neg (fun z => absurd z.1 (by omega)), if_neg (fun z => absurd z.1 (by omega))]; rfl
/-- the one row that error k tells -/
def owI (v S a : Nat → Int) (k h s i : Nat) : Int := if rgI v S h s = 0 ∧ a (1 + 2 * k) = (h : Int) ∧ a (1 + 2 * k + 1) = sm s (rwI v S h) + (i : Int) then 1 else 0
theorem ow_ex {v S a : Nat → Int} (hO : VO v) (k : Nat) (hp : 0 ≤ a (1 + 2 * k) ∧ 0 ≤ a (1 + 2 * k + 1)) : sm (v 5).toNat (fun h => sm (v 0).toNat (fun s => sm (rwI v S h s).toNat (owI v S a k h s))) = exI v S a k := by
  have b0 := hO.1
  have b5 := hO.2.2.2.1
  obtain ⟨h0, e0⟩ := nat_of hp.1
  obtain ⟨n0, e1⟩ := nat_of hp.2
  have zz : ∀ h s i : Nat, (h : Int) ≠ a (1 + 2 * k) → owI v S a k h s i = 0 := fun h s i hh => by
    unfold owI; rw [if_neg (fun z => hh z.2.1.symm)]
  by_cases hr : (h0 : Int) < v 5
  · rw [sm_1 (k := h0) (by omega) (fun h hh hne => sm_0 _ (fun s _ => sm_0 _ (fun i _ => zz h s i (by omega))))]
    have hg : ∀ i, i < (v 0).toNat → 0 ≤ rwI v S h0 i := fun i _ => (rwI_bd hO hr i).1
    have hs := slF_FF (rwI v S h0) (n0 : Int) (v 0).toNat
    have es : sR v S (a (1 + 2 * k)) (a (1 + 2 * k + 1)) = slF (rwI v S h0) (n0 : Int) (v 0).toNat := by
      unfold sR; rw [e0, e1, if_pos (by omega), Int.toNat_natCast]
    unfold exI
    rw [es, e0, Int.toNat_natCast]
    rcases hs with ⟨s0, a1, a2, a3, a4⟩ | ⟨a1, a2⟩
    · have a4 : slF (rwI v S h0) (n0 : Int) (v 0).toNat = (s0 : Int) := a4
      rw [a4, if_neg (by omega), Int.toNat_natCast]
      have hb := rwI_bd (S := S) hO hr s0
      have a3 : ∀ j, j < s0 → ¬ ((n0 : Int) < sm (j + 1) (rwI v S h0)) := a3
      have p0 : sm s0 (rwI v S h0) ≤ (n0 : Int) := by
        by_cases y : s0 = 0
        · subst y; show (0 : Int) ≤ n0; omega
        · have := a3 (s0 - 1) (by omega)
          rw [show s0 - 1 + 1 = s0 by omega] at this
          omega
      have p1 : (n0 : Int) < sm s0 (rwI v S h0) + rwI v S h0 s0 := a2
      have p2 : 0 ≤ sm s0 (rwI v S h0) := sm_nn _ (fun i hi => hg i (by omega))
      rw [sm_1 (k := s0) a1 (fun s hs hne => sm_0 _ (fun i hi => ?_))]
      · obtain ⟨i0, ei⟩ := nat_of (show 0 ≤ (n0 : Int) - sm s0 (rwI v S h0) by omega)
        rw [sm_1 (k := i0) (by omega) (fun i hi hne => ?_)]
        · unfold owI
          rcases rgI01 v S h0 s0 with q | q
          · rw [if_pos ⟨q, by omega, by omega⟩, if_neg (by omega)]
          · rw [if_neg (fun z => absurd z.1 (by omega)), if_pos (by omega)]
        · unfold owI
          rw [if_neg (fun z => absurd z.2.2 (by omega))]
      · unfold owI
        rw [if_neg]
        rintro ⟨-, -, z⟩
        have hbs := rwI_bd (S := S) hO hr s
        have hbi : (i : Int) < rwI v S h0 s := by omega
        by_cases y : s < s0
        · have h1 := a3 s y
          have h2 : sm (s + 1) (rwI v S h0) = sm s (rwI v S h0) + rwI v S h0 s := rfl
          omega
        · have h1 := sm_mon hg s (s0 + 1) (by omega) (by omega)
          have h2 : sm (s0 + 1) (rwI v S h0) = sm s0 (rwI v S h0) + rwI v S h0 s0 := rfl
          omega
    · rw [a2, if_pos rfl]
      refine sm_0 _ (fun s hs => sm_0 _ (fun i hi => ?_))
      unfold owI
      rw [if_neg]
      rintro ⟨-, -, z⟩
      have hbs := rwI_bd (S := S) hO hr s
      have h1 : ¬ ((n0 : Int) < sm (s + 1) (rwI v S h0)) := a1 s hs
      have h2 : sm (s + 1) (rwI v S h0) = sm s (rwI v S h0) + rwI v S h0 s := rfl
      omega
  · rw [sm_0 _ (fun h hh => sm_0 _ (fun s _ => sm_0 _ (fun i _ => zz h s i (by omega))))]
    have e : sR v S (a (1 + 2 * k)) (a (1 + 2 * k + 1)) = -1 := by unfold sR; rw [if_neg (by omega)]
    unfold exI
    rw [if_pos e]
theorem tl_step {v S a : Nat → Int} (hO : VO v) (k : Nat) (hp : 0 ≤ a (1 + 2 * k) ∧ 0 ≤ a (1 + 2 * k + 1)) : tlA v S a (k + 1) = tlA v S a k + onI v S a k := by
  have e1 := ow_ex (S := S) hO k hp
  have ed : ∀ h s i : Nat, tlI v S a (k + 1) h s i = tlI v S a k h s i + (if tdI a k (a (1 + 2 * k)) (a (1 + 2 * k + 1)) = 0 then owI v S a k h s i else 0) := by
    intro h s i
    unfold tlI owI
    generalize sm s (rwI v S h) + (i : Int) = n
    show (if rgI v S h s = 0 ∧ (if a (1 + 2 * k) = (h : Int) ∧ a (1 + 2 * k + 1) = n then 1 else tdI a k (h : Int) n) ≠ 0 then 1 else 0) = _
    by_cases q : rgI v S h s = 0
    · by_cases y : a (1 + 2 * k) = (h : Int) ∧ a (1 + 2 * k + 1) = n
      · rw [if_pos y, if_pos ⟨q, by decide⟩, if_pos (c := rgI v S h s = 0 ∧ a (1 + 2 * k) = (h : Int) ∧ _) ⟨q, y⟩, y.1, y.2]
        by_cases w : tdI a k (h : Int) n = 0
        · rw [if_neg (fun z => z.2 w), if_pos w]; rfl
        · rw [if_pos ⟨q, w⟩, if_neg w]; rfl
      · rw [if_neg y, if_neg (c := rgI v S h s = 0 ∧ a (1 + 2 * k) = (h : Int) ∧ _) (fun z => y z.2)]
        split <;> split <;> rfl
    · rw [if_neg (fun z => q z.1), if_neg (fun z => q z.1), if_neg (c := rgI v S h s = 0 ∧ a (1 + 2 * k) = (h : Int) ∧ _) (fun z => q z.1), ite_self]; rfl
  have e2 : tlA v S a (k + 1) = tlA v S a k + sm (v 5).toNat (fun h => sm (v 0).toNat (fun s => sm (rwI v S h s).toNat (fun i => if tdI a k (a (1 + 2 * k)) (a (1 + 2 * k + 1)) = 0 then owI v S a k h s i else 0))) := by
    unfold tlA
    rw [← sm_plus]
    refine sm_congr _ (fun h hh => ?_)
    rw [← sm_plus]
    refine sm_congr _ (fun s hs => ?_)
    unfold tlS
    rw [← sm_plus]
    exact sm_congr _ (fun i hi => ed h s i)
  rw [e2]
  congr 1
  unfold onI
  by_cases w : tdI a k (a (1 + 2 * k)) (a (1 + 2 * k + 1)) = 0
  · simp only [if_pos w]
    rw [e1]
    rcases exI01 v S a k with q | q
    · rw [q, if_neg (fun z => absurd z.1 (by decide))]
    · rw [q, if_pos ⟨rfl, w⟩]
  · simp only [if_neg w]
    rw [if_neg (fun z => w z.2)]
    exact sm_0 _ (fun h _ => sm_0 _ (fun s _ => sm_0 _ (fun i _ => rfl)))
theorem tl_all {v S a : Nat → Int} (hO : VO v) : ∀ K : Nat, (∀ k, k < K → 0 ≤ a (1 + 2 * k) ∧ 0 ≤ a (1 + 2 * k + 1)) → tlA v S a K = sm K (onI v S a) := by
  intro K
  induction K with
  | zero =>
    intro _
    refine sm_0 _ (fun h _ => sm_0 _ (fun s _ => sm_0 _ (fun i _ => ?_)))
    unfold tlI
    rw [if_neg (fun z => z.2 rfl)]
  | succ K ih => intro h; rw [tl_step hO K (h K (by omega)), ih (fun k hk => h k (by omega))]; rfl
