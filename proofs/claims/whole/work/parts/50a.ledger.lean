/-! ===== ledgers: the picture ===== -/
abbrev LSt : Type := (Nat → Int) × (Nat → Int) × (Nat → Int) × (Nat → Int) × (Nat → Int)
def gD (g : Nat → Int) (k : Nat) : Nat → Int := fun i => g (1 + 6 * k + i)
def frD (d : Nat → Int) : Int := if d 0 = 0 then 48 * d 2 + d 3 else 48 * d 3 + d 4
def toD (d : Nat → Int) : Int := if d 0 = 0 then 48 * d 2 + d 4 else 48 * d 3 + d 5
/-- the first heir who lives, n further ones tried -/
def hOf (E D : Nat → Int) : Nat → Int → Int
  | 0, at_ => if at_ = -1 then -1 else if D at_.toNat = 0 then at_ else -1
  | n + 1, at_ => if at_ = -1 then -1 else if D at_.toNat = 0 then at_ else hOf E D n (E at_.toNat)
def inD (d : Nat → Int) (s : Nat) : Prop := frD d ≤ (s : Int) ∧ (s : Int) < toD d
def fillR (fr to x : Int) (f : Nat → Int) : Nat → Int := fun s => if fr ≤ (s : Int) ∧ (s : Int) < to then x else f s
def setF (a x : Int) (f : Nat → Int) : Nat → Int := fun h => if (h : Int) = a then x else f h
def dieO (a to : Int) (O : Nat → Int) : Nat → Int := fun s => if O s = a then to else O s
def dieH (a to : Int) (O H : Nat → Int) : Nat → Int := fun s => if O s = a ∧ to = -1 then -1 else if H s = a then (if to = -1 then dieO a to O s else to) else H s
def doD (g : Nat → Int) (k : Nat) (t : LSt) : LSt :=
  if gD g k 0 = 0 then (fillR (frD (gD g k)) (toD (gD g k)) (gD g k 1) t.1, fillR (frD (gD g k)) (toD (gD g k)) (gD g k 1) t.2.1, t.2.2)
  else if gD g k 0 = 1 then (fillR (frD (gD g k)) (toD (gD g k)) (gD g k 2) t.1, fillR (frD (gD g k)) (toD (gD g k)) (gD g k 2) t.2.1, t.2.2)
  else if gD g k 0 = 2 then (t.1, fillR (frD (gD g k)) (toD (gD g k)) (gD g k 2) t.2.1, t.2.2)
  else if gD g k 0 = 3 then (t.1, (fun s => if frD (gD g (gD g k 1).toNat) ≤ (s : Int) ∧ (s : Int) < toD (gD g (gD g k 1).toNat) then t.1 s else t.2.1 s), t.2.2.1, t.2.2.2.1, setF (gD g k 1) 1 t.2.2.2.2)
  else if gD g k 0 = 4 then (t.1, t.2.1, setF (gD g k 1) (gD g k 2) t.2.2.1, t.2.2.2.1, t.2.2.2.2)
  else (dieO (gD g k 1) (hOf t.2.2.1 (setF (gD g k 1) 1 t.2.2.2.1) 7 (t.2.2.1 (gD g k 1).toNat)) t.1, dieH (gD g k 1) (hOf t.2.2.1 (setF (gD g k 1) 1 t.2.2.2.1) 7 (t.2.2.1 (gD g k 1).toNat)) t.1 t.2.1, t.2.2.1, setF (gD g k 1) 1 t.2.2.2.1, t.2.2.2.2)
def canD (g : Nat → Int) (k : Nat) (t : LSt) : Prop :=
  (gD g k 0 = 3 ∧ gD g k 1 < (k : Int) ∧ gD g (gD g k 1).toNat 0 = 2 ∧ t.2.2.2.2 (gD g k 1).toNat = 0) ∨
  (gD g k 0 ≠ 3 ∧ t.2.2.2.1 (gD g k 1).toNat = 0 ∧ (gD g k 0 = 1 ∨ gD g k 0 = 2 ∨ gD g k 0 = 4 → t.2.2.2.1 (gD g k 2).toNat = 0) ∧ (gD g k 0 = 0 → ∀ s : Nat, inD (gD g k) s → t.1 s = -1) ∧ (gD g k 0 = 1 ∨ gD g k 0 = 2 → ∀ s : Nat, inD (gD g k) s → t.1 s = gD g k 1 ∧ t.2.1 s = gD g k 1))
def stL (g : Nat → Int) : Nat → LSt
  | 0 => (fun _ => -1, fun _ => -1, fun _ => -1, fun _ => 0, fun _ => 0)
  | k + 1 => doD g k (stL g k)
def LI (t : LSt) : Prop := (∀ s, s < 336 → (-1 ≤ t.1 s ∧ t.1 s ≤ 7) ∧ (-1 ≤ t.2.1 s ∧ t.2.1 s ≤ 7) ∧ (t.1 s = -1 → t.2.1 s = -1)) ∧ (∀ h, h < 8 → (-1 ≤ t.2.2.1 h ∧ t.2.2.1 h ≤ 7) ∧ (t.2.2.2.1 h = 0 ∨ t.2.2.2.1 h = 1)) ∧ (∀ k, k < 30 → t.2.2.2.2 k = 0 ∨ t.2.2.2.2 k = 1)
def isStopL (g : Nat → Int) (n : Int) (k : Nat) : Prop := ((k : Int) ≤ n ∧ (k : Int) ≤ g 0) ∧ (∀ j, j < k → canD g j (stL g j)) ∧ ((k : Int) = n ∨ (k : Int) = g 0 ∨ ¬ canD g k (stL g k))
theorem stopL_uniq {g : Nat → Int} {n : Int} {a b : Nat} (ha : isStopL g n a) (hb : isStopL g n b) : a = b := by
  obtain ⟨a1, a2, a3⟩ := ha
  obtain ⟨b1, b2, b3⟩ := hb
  rcases Nat.lt_trichotomy a b with h | h | h
  · rcases a3 with q | q | q
    · omega
    · omega
    · exact absurd (b2 a h) q
  · exact h
  · rcases b3 with q | q | q
    · omega
    · omega
    · exact absurd (a2 b h) q
/-- memory holds a state -/
def XS (o : Nat) (F : Mem) (t : LSt) : Prop := (∀ s, s < 336 → F (o + 1) s = t.1 s ∧ F (o + 2) s = t.2.1 s) ∧ (∀ h, h < 8 → F (o + 3) h = t.2.2.1 h ∧ F (o + 4) h = t.2.2.2.1 h) ∧ (∀ k, k < 30 → F (o + 5) k = t.2.2.2.2 k)
theorem XS.mono {o : Nat} {F F' : Mem} {t : LSt} (h : XS o F t) (hF : ∀ q k, o + 1 ≤ q → q ≤ o + 5 → F' q k = F q k) : XS o F' t :=
  ⟨fun s hs => ⟨(hF _ _ (by omega) (by omega)).trans (h.1 s hs).1, (hF _ _ (by omega) (by omega)).trans (h.1 s hs).2⟩, fun s hs => ⟨(hF _ _ (by omega) (by omega)).trans (h.2.1 s hs).1, (hF _ _ (by omega) (by omega)).trans (h.2.1 s hs).2⟩, fun s hs => (hF _ _ (by omega) (by omega)).trans (h.2.2 s hs)⟩
theorem frto_bd {d : Nat → Int} (hd : DO d) (h : d 0 = 0 ∨ d 0 = 1 ∨ d 0 = 2) : 0 ≤ frD d ∧ frD d < toD d ∧ toD d ≤ 336 := by
  unfold frD toD
  rcases hd.2 with q | q | q | q | q
  · rw [if_pos q.1, if_pos q.1]; omega
  · rw [if_neg (by omega), if_neg (by omega)]; omega
  · omega
  · omega
  · omega
theorem frto_any {d : Nat → Int} (hd : DO d) : -49 ≤ frD d ∧ frD d ≤ 2352 ∧ -49 ≤ toD d ∧ toD d ≤ 2352 := by
  have h2 := hd.1 2 (by omega)
  have h3 := hd.1 3 (by omega)
  have h4 := hd.1 4 (by omega)
  have h5 := hd.1 5 (by omega)
  unfold frD toD
  split <;> omega
theorem hOf_bd {E D : Nat → Int} (hE : ∀ h, h < 8 → -1 ≤ E h ∧ E h ≤ 7) : ∀ n at_, -1 ≤ at_ → at_ ≤ 7 → -1 ≤ hOf E D n at_ ∧ hOf E D n at_ ≤ 7 := by
  intro n
  induction n with
  | zero => intro a h1 h2; unfold hOf; split <;> (try split) <;> omega
  | succ n ih =>
    intro a h1 h2
    unfold hOf
    split
    · omega
    · split
      · omega
      · have := hE a.toNat (by omega)
        exact ih _ this.1 this.2
theorem setF_at {a x : Int} {f : Nat → Int} {h : Nat} (e : (h : Int) = a) : setF a x f h = x := if_pos e
theorem setF_ne {a x : Int} {f : Nat → Int} {h : Nat} (e : ¬ (h : Int) = a) : setF a x f h = f h := if_neg e
theorem DO_1 {d : Nat → Int} (h : DO d) (h3 : d 0 ≠ 3) : 0 ≤ d 1 ∧ d 1 ≤ 7 := by
  rcases h.2 with q | q | q | q | q
  · exact q.2.1
  · exact q.2.1
  · exact absurd q.1 h3
  · exact q.2.1
  · exact q.2
theorem DO_2 {d : Nat → Int} (h : DO d) (h3 : d 0 = 1 ∨ d 0 = 2 ∨ d 0 = 4) : 0 ≤ d 2 ∧ d 2 ≤ 7 := by
  rcases h.2 with q | q | q | q | q
  · have := q.1; omega
  · exact q.2.2.1
  · have := q.1; omega
  · exact q.2.2
  · have := q.1; omega
theorem DO_3 {d : Nat → Int} (h : DO d) (h3 : d 0 = 3) : 0 ≤ d 1 ∧ d 1 ≤ 29 := by
  rcases h.2 with q | q | q | q | q
  · have := q.1; omega
  · have := q.1; omega
  · exact q.2
  · have := q.1; omega
  · have := q.1; omega
theorem DO_k {d : Nat → Int} (h : DO d) : d 0 = 0 ∨ d 0 = 1 ∨ d 0 = 2 ∨ d 0 = 3 ∨ d 0 = 4 ∨ d 0 = 5 := by
  rcases h.2 with q | q | q | q | q
  · have := q.1; omega
  · have := q.1; omega
  · have := q.1; omega
  · have := q.1; omega
  · have := q.1; omega
theorem LI_O {t : LSt} (ht : LI t) {fr to x : Int} (hx : 0 ≤ x ∧ x ≤ 7) : LI (fillR fr to x t.1, fillR fr to x t.2.1, t.2.2) := by
  refine ⟨fun s hs => ?_, ht.2⟩
  have h := ht.1 s hs
  dsimp only [fillR]
  split
  · exact ⟨⟨by omega, hx.2⟩, ⟨by omega, hx.2⟩, fun _ => by omega⟩
  · exact h
theorem LI_H {t : LSt} (ht : LI t) {fr to x : Int} (hx : 0 ≤ x ∧ x ≤ 7) (hc : ∀ s : Nat, fr ≤ (s : Int) → (s : Int) < to → t.1 s ≠ -1) : LI (t.1, fillR fr to x t.2.1, t.2.2) := by
  refine ⟨fun s hs => ?_, ht.2⟩
  have h := ht.1 s hs
  dsimp only [fillR]
  split
  · rename_i z
    exact ⟨h.1, ⟨by omega, hx.2⟩, fun e => absurd e (hc s z.1 z.2)⟩
  · exact h
theorem LI_B {t : LSt} (ht : LI t) (fr to a : Int) : LI (t.1, (fun s => if fr ≤ (s : Int) ∧ (s : Int) < to then t.1 s else t.2.1 s), t.2.2.1, t.2.2.2.1, setF a 1 t.2.2.2.2) := by
  refine ⟨fun s hs => ?_, ht.2.1, fun j hj => ?_⟩
  · have h := ht.1 s hs
    dsimp only
    split
    · exact ⟨h.1, h.1, fun e => e⟩
    · exact h
  · have h := ht.2.2 j hj
    dsimp only [setF]
    split
    · exact Or.inr rfl
    · exact h
theorem LI_W {t : LSt} (ht : LI t) {a b : Int} (hb : 0 ≤ b ∧ b ≤ 7) : LI (t.1, t.2.1, setF a b t.2.2.1, t.2.2.2.1, t.2.2.2.2) := by
  refine ⟨ht.1, fun h hh => ?_, ht.2.2⟩
  have q := ht.2.1 h hh
  dsimp only [setF]
  split
  · exact ⟨⟨by omega, hb.2⟩, q.2⟩
  · exact q
theorem LI_D {t : LSt} (ht : LI t) {a to : Int} (hto : -1 ≤ to ∧ to ≤ 7) : LI (dieO a to t.1, dieH a to t.1 t.2.1, t.2.2.1, setF a 1 t.2.2.2.1, t.2.2.2.2) := by
  refine ⟨fun s hs => ?_, fun h hh => ?_, ht.2.2⟩
  · obtain ⟨q1, q2, q3⟩ := ht.1 s hs
    dsimp only [dieO, dieH]
    by_cases z1 : t.1 s = a
    · rw [if_pos z1]
      by_cases z2 : to = -1
      · rw [if_pos ⟨z1, z2⟩]
        exact ⟨hto, by omega, fun _ => rfl⟩
      · rw [if_neg (fun z => z2 z.2)]
        refine ⟨hto, ?_, fun e => absurd e z2⟩
        split
        · exact hto
        · exact q2
    · rw [if_neg z1, if_neg (fun z => z1 z.1)]
      refine ⟨q1, ?_, fun e => ?_⟩
      · split
        · split
          · exact q1
          · exact hto
        · exact q2
      · have e2 := q3 e
        split
        · rename_i z3
          rw [e2] at z3
          split
          · exact e
          · rename_i z4
            exact absurd (e.trans z3) z1
        · exact e2
  · have q := ht.2.1 h hh
    dsimp only [setF]
    split
    · exact ⟨q.1, Or.inr rfl⟩
    · exact q
theorem doD_LI {g : Nat → Int} {k : Nat} {t : LSt} (hg : LO g) (hk : (k : Int) < g 0) (ht : LI t) (hc : canD g k t) : LI (doD g k t) := by
  have hd : DO (gD g k) := hg.2 k hk
  unfold doD
  by_cases k0 : gD g k 0 = 0
  · rw [if_pos k0]
    exact LI_O ht (DO_1 hd (by omega))
  · rw [if_neg k0]
    by_cases k1 : gD g k 0 = 1
    · rw [if_pos k1]
      exact LI_O ht (DO_2 hd (Or.inl k1))
    · rw [if_neg k1]
      by_cases k2 : gD g k 0 = 2
      · rw [if_pos k2]
        have b := DO_1 hd (by omega)
        rcases hc with c | c
        · exact absurd c.1 (by omega)
        · exact LI_H ht (DO_2 hd (Or.inr (Or.inl k2))) (fun s h1 h2 => by rw [(c.2.2.2.2 (Or.inr k2) s ⟨h1, h2⟩).1]; omega)
      · rw [if_neg k2]
        by_cases k3 : gD g k 0 = 3
        · rw [if_pos k3]
          exact LI_B ht _ _ _
        · rw [if_neg k3]
          by_cases k4 : gD g k 0 = 4
          · rw [if_pos k4]
            exact LI_W ht (DO_2 hd (Or.inr (Or.inr k4)))
          · rw [if_neg k4]
            have b1 := DO_1 hd k3
            have b2 := ht.2.1 (gD g k 1).toNat (by omega)
            exact LI_D ht (hOf_bd (fun h hh => (ht.2.1 h hh).1) 7 _ b2.1.1 b2.1.2)
theorem stL_LI {g : Nat → Int} (hg : LO g) : ∀ k : Nat, (k : Int) ≤ g 0 → (∀ j, j < k → canD g j (stL g j)) → LI (stL g k) := by
  intro k
  induction k with
  | zero =>
    intro _ _
    refine ⟨fun s hs => ?_, fun h hh => ?_, fun k hk => ?_⟩
    · show (-1 ≤ (-1 : Int) ∧ (-1 : Int) ≤ 7) ∧ (-1 ≤ (-1 : Int) ∧ (-1 : Int) ≤ 7) ∧ ((-1 : Int) = -1 → (-1 : Int) = -1)
      omega
    · show (-1 ≤ (-1 : Int) ∧ (-1 : Int) ≤ 7) ∧ ((0 : Int) = 0 ∨ (0 : Int) = 1)
      omega
    · exact Or.inl rfl
  | succ k ih =>
    intro h1 h2
    exact doD_LI hg (by omega) (ih (by omega) (fun j hj => h2 j (by omega))) (h2 k (by omega))
