/-! ===== the layout: cells by the order of their making ===== -/
abbrev KD : Type := (Nat × List Int) ⊕ (Nat × Nat) ⊕ (Nat × Nat × Nat × Nat)
def layN : Nat := 187
def layT : List KD := [.inl (9, []), .inl (4, []), .inr (.inl (1, 600)), .inr (.inl (0, 4)), .inr (.inr (7, 2, 4, 9)), .inr (.inr (3, 3, 21, 2)), .inr (.inr (3, 2, 7, 9)), .inr (.inr (3, 2, 8, 9)), .inl (7, []), .inl (3, [8, 4]), .inr (.inl (0, 32)), .inl (3, [6, 3]), .inr (.inl (0, 18)), .inl (3, [30, 6]), .inr (.inl (0, 180)), .inl (3, [20, 2]), .inr (.inl (0, 40)), .inl (7, []), .inl (3, [8, 4]), .inr (.inl (0, 32)), .inl (3, [6, 3]), .inr (.inl (0, 18)), .inl (3, [30, 6]), .inr (.inl (0, 180)), .inl (3, [20, 2]), .inr (.inl (0, 40)), .inl (3, [16, 3]), .inr (.inl (0, 48)), .inl (3, [16, 3]), .inr (.inl (0, 48)), .inl (3, [16, 3]), .inr (.inl (0, 48)), .inr (.inr (4, 3, 47, 31)), .inr (.inl (2, 3)), .inl (2, []), .inr (.inl (0, 5)), .inl (7, []), .inl (3, [8, 4]), .inr (.inl (0, 32)), .inl (3, [6, 3]), .inr (.inl (0, 18)), .inl (3, [16, 3]), .inr (.inl (0, 48)), .inl (3, [30, 6]), .inr (.inl (0, 180)), .inl (3, [20, 2]), .inr (.inl (0, 40)), .inl (0, []), .inr (.inl (0, 336)), .inr (.inl (0, 336)), .inr (.inl (0, 8)), .inr (.inl (2, 8)), .inr (.inl (2, 30)), .inl (0, []), .inr (.inl (0, 336)), .inr (.inl (0, 336)), .inr (.inl (0, 8)), .inr (.inl (2, 8)), .inr (.inl (2, 30)), .inl (8, []), .inr (.inl (0, 48)), .inr (.inl (0, 8)), .inl (1, []), .inr (.inl (0, 8)), .inr (.inl (0, 2688)), .inr (.inl (0, 336)), .inr (.inl (0, 337)), .inr (.inl (0, 64)), .inr (.inl (0, 64)), .inr (.inl (0, 2696)), .inr (.inl (0, 392)), .inl (6, []), .inr (.inl (0, 336)), .inr (.inl (0, 336)), .inr (.inl (0, 336)), .inr (.inl (0, 336)), .inr (.inl (3, 392)), .inl (5, []), .inr (.inl (0, 48)), .inl (4, []), .inr (.inl (1, 600)), .inr (.inl (0, 4)), .inr (.inr (7, 2, 4, 9)), .inr (.inr (3, 3, 21, 2)), .inr (.inr (3, 2, 7, 9)), .inr (.inr (3, 2, 8, 9)), .inl (7, []), .inl (3, [8, 4]), .inr (.inl (0, 32)), .inl (3, [6, 3]), .inr (.inl (0, 18)), .inl (3, [30, 6]), .inr (.inl (0, 180)), .inl (3, [20, 2]), .inr (.inl (0, 40)), .inl (7, []), .inl (3, [8, 4]), .inr (.inl (0, 32)), .inl (3, [6, 3]), .inr (.inl (0, 18)), .inl (3, [30, 6]), .inr (.inl (0, 180)), .inl (3, [20, 2]), .inr (.inl (0, 40)), .inl (3, [16, 3]), .inr (.inl (0, 48)), .inl (3, [16, 3]), .inr (.inl (0, 48)), .inl (3, [16, 3]), .inr (.inl (0, 48)), .inl (4, []), .inr (.inl (1, 600)), .inr (.inl (0, 4)), .inr (.inr (7, 2, 4, 9)), .inr (.inr (3, 3, 21, 2)), .inr (.inr (3, 2, 7, 9)), .inr (.inr (3, 2, 8, 9)), .inl (7, []), .inl (3, [8, 4]), .inr (.inl (0, 32)), .inl (3, [6, 3]), .inr (.inl (0, 18)), .inl (3, [30, 6]), .inr (.inl (0, 180)), .inl (3, [20, 2]), .inr (.inl (0, 40)), .inl (7, []), .inl (3, [8, 4]), .inr (.inl (0, 32)), .inl (3, [6, 3]), .inr (.inl (0, 18)), .inl (3, [30, 6]), .inr (.inl (0, 180)), .inl (3, [20, 2]), .inr (.inl (0, 40)), .inl (3, [16, 3]), .inr (.inl (0, 48)), .inl (3, [16, 3]), .inr (.inl (0, 48)), .inl (3, [16, 3]), .inr (.inl (0, 48)), .inl (4, []), .inr (.inl (1, 600)), .inr (.inl (0, 4)), .inr (.inr (7, 2, 4, 9)), .inr (.inr (3, 3, 21, 2)), .inr (.inr (3, 2, 7, 9)), .inr (.inr (3, 2, 8, 9)), .inl (7, []), .inl (3, [8, 4]), .inr (.inl (0, 32)), .inl (3, [6, 3]), .inr (.inl (0, 18)), .inl (3, [30, 6]), .inr (.inl (0, 180)), .inl (3, [20, 2]), .inr (.inl (0, 40)), .inl (7, []), .inl (3, [8, 4]), .inr (.inl (0, 32)), .inl (3, [6, 3]), .inr (.inl (0, 18)), .inl (3, [30, 6]), .inr (.inl (0, 180)), .inl (3, [20, 2]), .inr (.inl (0, 40)), .inl (3, [16, 3]), .inr (.inl (0, 48)), .inl (3, [16, 3]), .inr (.inl (0, 48)), .inl (3, [16, 3]), .inr (.inl (0, 48)), .inl (10, []), .inr (.inl (0, 5268)), .inr (.inl (2, 3)), .inr (.inl (0, 200)), .inr (.inl (0, 48)), .inr (.inl (0, 336)), .inr (.inl (0, 336)), .inr (.inl (0, 8)), .inr (.inl (2, 8)), .inr (.inl (2, 30)), .inr (.inl (0, 2696)), .inr (.inl (0, 2696)), .inr (.inl (0, 336)), .inr (.inl (3, 2696)), .inr (.inl (0, 48))]
def lay (o : Nat) : Option KD := match o with | 0 => none | n + 1 => layT[n]?
def cfd (ci : Nat) : List (Nat × Nat) := match ci with
  | 0 => [(2, 1), (2, 2), (2, 3), (2, 4), (2, 5), (0, 0), (0, 0)]
  | 1 => [(3, 0), (3, 0), (0, 0), (0, 0), (0, 0), (2, 1), (2, 2), (2, 3), (2, 4), (2, 5), (2, 6), (2, 7), (2, 8)]
  | 2 => [(3, 0), (0, 0), (0, 0), (0, 0), (0, 0), (0, 0), (2, 1), (0, 0), (0, 0), (2, 2), (2, 7), (2, 9), (2, 11)]
  | 3 => [(1, 0), (1, 1), (2, 1), (0, 0)]
  | 4 => [(2, 1), (0, 0), (0, 0), (0, 0), (2, 2), (2, 3), (2, 4), (2, 5), (2, 6)]
  | 5 => [(0, 0), (0, 0), (0, 0), (0, 0), (2, 1)]
  | 6 => [(2, 1), (2, 2), (2, 3), (2, 4), (0, 0), (2, 5)]
  | 7 => [(0, 0), (0, 0), (0, 0), (0, 0), (0, 0), (2, 1), (2, 3)]
  | 8 => [(3, 0), (0, 0), (0, 0), (2, 1), (2, 2)]
  | 9 => [(2, 1), (2, 32), (2, 33), (2, 34), (2, 47), (2, 53), (2, 59), (2, 62), (2, 71), (2, 77)]
  | 10 => [(2, 1), (2, 2), (0, 0), (0, 0), (0, 0), (0, 0), (0, 0), (0, 0), (0, 0), (2, 3), (0, 0), (0, 0), (0, 0), (0, 0), (2, 4), (0, 0), (0, 0), (2, 5), (2, 6), (2, 7), (2, 8), (2, 9), (0, 0), (0, 0), (2, 10), (2, 11), (0, 0), (0, 0), (0, 0), (0, 0), (0, 0), (0, 0), (0, 0), (0, 0), (0, 0), (0, 0), (0, 0), (0, 0), (0, 0), (0, 0), (0, 0), (0, 0), (0, 0), (0, 0), (0, 0), (2, 12), (2, 13), (2, 14)]
  | _ => []
def kcls : KD → Option Nat := fun k => match k with | .inl (ci, _) => some ci | _ => none
def kprim : KD → Option Nat := fun k => match k with | .inr (.inl (t, _)) => some t | _ => none
def kref : KD → Option Nat := fun k => match k with | .inr (.inr (c, _, _, _)) => some c | _ => none
def klen : KD → Nat := fun k => match k with | .inr (.inl (_, n)) => n | .inr (.inr (_, n, _, _)) => n | _ => 0
def isK (o ci : Nat) : Prop := (lay o).bind kcls = some ci
def isA (o t : Nat) : Prop := (lay o).bind kprim = some t
def isRA (o ci : Nat) : Prop := (lay o).bind kref = some ci
def alen (o : Nat) : Nat := match lay o with | some k => klen k | none => 0
def aref (o i : Nat) : Nat := match lay o with | some (.inr (.inr (_, _, b, s))) => o + b + s * i | _ => 0
def cst (o d : Nat) : Int := match lay o with | some (.inl (_, cs)) => cs.getD d 0 | _ => 0
theorem isK_cs {o ci : Nat} (h : isK o ci) : ∃ cs, lay o = some (.inl (ci, cs)) := by
  unfold isK at h
  cases hl : lay o with
  | none => rw [hl] at h; cases h
  | some k =>
    rw [hl] at h
    rcases k with ⟨c, cs⟩ | ⟨t, n⟩ | ⟨c, n, b, s⟩
    · cases h; exact ⟨cs, rfl⟩
    · cases h
    · cases h
theorem isA_n {o t : Nat} (h : isA o t) : lay o = some (.inr (.inl (t, alen o))) := by
  unfold isA at h
  unfold alen
  cases hl : lay o with
  | none => rw [hl] at h; cases h
  | some k =>
    rw [hl] at h
    rcases k with ⟨c, cs⟩ | ⟨t, n⟩ | ⟨c, n, b, s⟩
    · cases h
    · cases h; rfl
    · cases h
theorem isRA_n {o ci : Nat} (h : isRA o ci) : ∃ b s, lay o = some (.inr (.inr (ci, alen o, b, s))) ∧ ∀ i, aref o i = o + b + s * i := by
  unfold isRA at h
  unfold alen aref
  cases hl : lay o with
  | none => rw [hl] at h; cases h
  | some k =>
    rw [hl] at h
    rcases k with ⟨c, cs⟩ | ⟨t, n⟩ | ⟨c, n, b, s⟩
    · cases h
    · cases h
    · cases h; exact ⟨b, s, rfl, fun i => rfl⟩
theorem lay_le {o : Nat} {k : KD} (h : lay o = some k) : 1 ≤ o ∧ o ≤ layN := by
  cases o with
  | zero => cases h
  | succ n =>
    have h1 : n < layT.length := (List.getElem?_eq_some_iff.mp h).1
    have h2 : layT.length = layN := by decide +kernel
    omega
theorem lay_all {P : Nat → Bool} (h : (List.range (layN + 1)).all P = true) {o : Nat} {k : KD} (hk : lay o = some k) : P o = true :=
  List.all_eq_true.mp h o (List.mem_range.mpr (by have := lay_le hk; omega))
/-- a static reference of a class leads to a class, or an array, everywhere -/
def isKb (o ci : Nat) : Bool := decide ((lay o).bind kcls = some ci)
def isAb (o t : Nat) : Bool := decide ((lay o).bind kprim = some t)
def isRAb (o t : Nat) : Bool := decide ((lay o).bind kref = some t)
theorem tK {ci d cj : Nat} (h : (List.range (layN + 1)).all (fun o => !isKb o ci || isKb (o + d) cj) = true) {o : Nat} (ho : isK o ci) : isK (o + d) cj := by
  obtain ⟨cs, hc⟩ := isK_cs ho
  have h1 := lay_all h hc
  have h2 : isKb o ci = true := decide_eq_true ho
  rw [h2] at h1
  exact of_decide_eq_true (p := (lay (o + d)).bind kcls = some cj) h1
theorem tA {ci d t : Nat} (h : (List.range (layN + 1)).all (fun o => !isKb o ci || isAb (o + d) t) = true) {o : Nat} (ho : isK o ci) : isA (o + d) t := by
  obtain ⟨cs, hc⟩ := isK_cs ho
  have h1 := lay_all h hc
  have h2 : isKb o ci = true := decide_eq_true ho
  rw [h2] at h1
  exact of_decide_eq_true (p := (lay (o + d)).bind kprim = some t) h1
theorem tR {ci d t : Nat} (h : (List.range (layN + 1)).all (fun o => !isKb o ci || isRAb (o + d) t) = true) {o : Nat} (ho : isK o ci) : isRA (o + d) t := by
  obtain ⟨cs, hc⟩ := isK_cs ho
  have h1 := lay_all h hc
  have h2 : isKb o ci = true := decide_eq_true ho
  rw [h2] at h1
  exact of_decide_eq_true (p := (lay (o + d)).bind kref = some t) h1
theorem aref_K {o ci i : Nat} (ho : isRA o ci) (hi : i < alen o) : isK (aref o i) ci := by
  have hd : (List.range (layN + 1)).all (fun o => (List.range (if ((lay o).bind kref).isSome then alen o else 0)).all fun i => (List.range 12).all fun c => !isRAb o c || isKb (aref o i) c) = true := by decide +kernel
  obtain ⟨b, s, h1, -⟩ := isRA_n ho
  have h2 := lay_all hd h1
  have h0 : ((lay o).bind kref).isSome = true := by unfold isRA at ho; rw [ho]; rfl
  rw [if_pos h0] at h2
  have h3 := List.all_eq_true.mp h2 i (List.mem_range.mpr hi)
  have h5 : isRAb o ci = true := decide_eq_true ho
  have h6 : ci < 12 := by
    have hd2 : (List.range (layN + 1)).all (fun o => match (lay o).bind kref with | some c => decide (c < 12) | none => true) = true := by decide +kernel
    have h7 := lay_all hd2 h1
    unfold isRA at ho
    simp only [ho] at h7
    exact of_decide_eq_true h7
  have h4 := List.all_eq_true.mp h3 ci (List.mem_range.mpr h6)
  rw [h5] at h4
  exact of_decide_eq_true (p := (lay (aref o i)).bind kcls = some ci) h4

