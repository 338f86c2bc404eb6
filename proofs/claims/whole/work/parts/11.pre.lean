/-! ===== what the printed walks stand on ===== -/
def FU : Nat := 100000
theorem ifp {α : Sort _} {c : Prop} {inst : Decidable c} {x y r : α} (hc : c) (h : (@ite α c inst x y) = r) : x = r := by rw [if_pos hc] at h; exact h
theorem ifn {α : Sort _} {c : Prop} {inst : Decidable c} {x y r : α} (hc : ¬ c) (h : (@ite α c inst x y) = r) : y = r := by rw [if_neg hc] at h; exact h
theorem gd {α : Type _} {c : Prop} {inst : Decidable c} {x : Option α} {r : α} (h : (@ite _ c inst x none) = some r) : c ∧ x = some r := by
  by_cases hc : c
  · rw [if_pos hc] at h; exact ⟨hc, h⟩
  · rw [if_neg hc] at h; cases h
theorem gdn {α : Type _} {c : Prop} {inst : Decidable c} {x : Option α} {r : α} (h : (@ite _ c inst none x) = some r) : ¬ c ∧ x = some r := by
  by_cases hc : c
  · rw [if_pos hc] at h; cases h
  · rw [if_neg hc] at h; exact ⟨hc, h⟩
theorem bnd {α β : Type _} {x : Option α} {f : α → Option β} {r : β} (h : x.bind f = some r) : ∃ v, x = some v ∧ f v = some r := by
  cases x with
  | none => cases h
  | some v => exact ⟨v, rfl, h⟩
def in32b (n : Int) : Bool := decide (-2147483648 ≤ n) && decide (n < 2147483648)
theorem cin {n : Int} (h : in32b n = true) : in32 n := by
  unfold in32b at h
  simp only [Bool.and_eq_true, decide_eq_true_eq] at h
  exact h
def in64b (n : Int) : Bool := decide (-9223372036854775808 ≤ n) && decide (n < 9223372036854775808)
theorem cin64 {n : Int} (h : in64b n = true) : in64 n := by
  unfold in64b at h
  simp only [Bool.and_eq_true, decide_eq_true_eq] at h
  exact h
theorem cst_in (o d : Nat) : in32 (cst o d) := by
  have hd : (List.range (layN + 1)).all (fun o => match lay o with | some (.inl (_, cs)) => cs.all fun x => decide (0 ≤ x) && decide (x < 100) | _ => true) = true := by decide +kernel
  unfold cst
  cases hl : lay o with
  | none => exact in32_0
  | some k =>
    rcases k with ⟨ci, cs⟩ | z
    · have h1 := lay_all hd hl
      simp only [hl] at h1
      show in32 (cs.getD d 0)
      rw [List.getD_eq_getElem?_getD]
      cases hc : cs[d]? with
      | none => exact in32_0
      | some x =>
        have h2 := List.all_eq_true.mp h1 x (List.mem_of_getElem? hc)
        simp only [Bool.and_eq_true, decide_eq_true_eq] at h2
        show in32 x
        unfold in32; omega
    · exact in32_0
theorem tolt {i : Int} {n : Nat} (h : 0 ≤ i ∧ i < (n : Int)) : i.toNat < n := by omega
def slen (x : Nat) : Int := ((strL.getD (x - 1000) 0 : Nat) : Int)
def sch (x : Nat) (i : Int) : Int := (((strB.getD (x - 1000) []).getD i.toNat 0) &&& 255).toInt
def isS_c (j : Nat) (h : j < nStr) : isS (1000 + j) := ⟨j, h, rfl⟩
def bytesOk (F : Mem) (s : Nat) (sp n : Int) : Bool := (List.range (alen s)).all fun k => decide ((k : Int) < sp) || (decide (sp + n ≤ (k : Int)) || (decide (-128 ≤ F s k) && decide (F s k < 128)))
theorem bytesOk_of {F : Mem} {s : Nat} {sp n : Int} (h4 : sp + n ≤ (alen s : Int)) (h : bytesOk F s sp n = true) : ∀ k, sp ≤ (k : Nat) → (k : Int) < sp + n → -128 ≤ F s k ∧ F s k < 128 := by
  intro k h1 h2
  have h3 := List.all_eq_true.mp h k (List.mem_range.mpr (by omega))
  simp only [Bool.or_eq_true, Bool.and_eq_true, decide_eq_true_eq] at h3
  omega
def mcopy (F : Mem) (s : Nat) (sp : Int) (d : Nat) (dp n : Int) : Mem := fun o k => if o = d ∧ dp.toNat ≤ k ∧ k < dp.toNat + n.toNat then F s (sp.toNat + (k - dp.toNat)) else F o k
def gJ_length : XG := fun As F r F' => ∃ x : Nat, As = [vR x] ∧ isS x ∧ r = some (vI (slen x)) ∧ F' = F
def gJ_charAt : XG := fun As F r F' => ∃ (x : Nat) (i : Int), As = [vR x, vI i] ∧ isS x ∧ 0 ≤ i ∧ i < slen x ∧ r = some (vI (sch x i)) ∧ F' = F
theorem flX0_9 : xFld RX0 9 0 0 2 1 := ⟨_, _, _, rfl, Nat.le_of_ble_eq_true rfl, rfl, (xinT 329 (by decide +kernel) (by decide +kernel)), rfl⟩
theorem flX0_15 : xFld RX0 15 0 1 2 2 := ⟨_, _, _, rfl, Nat.le_of_ble_eq_true rfl, rfl, (xinT 331 (by decide +kernel) (by decide +kernel)), rfl⟩
theorem flX0_18 : xFld RX0 18 0 2 2 3 := ⟨_, _, _, rfl, Nat.le_of_ble_eq_true rfl, rfl, (xinT 334 (by decide +kernel) (by decide +kernel)), rfl⟩
theorem flX0_21 : xFld RX0 21 0 3 2 4 := ⟨_, _, _, rfl, Nat.le_of_ble_eq_true rfl, rfl, (xinT 336 (by decide +kernel) (by decide +kernel)), rfl⟩
theorem flX0_25 : xFld RX0 25 0 4 2 5 := ⟨_, _, _, rfl, Nat.le_of_ble_eq_true rfl, rfl, (xinT 338 (by decide +kernel) (by decide +kernel)), rfl⟩
theorem flX0_28 : xFld RX0 28 0 5 0 0 := ⟨_, _, _, rfl, Nat.le_of_ble_eq_true rfl, rfl, (xinT 339 (by decide +kernel) (by decide +kernel)), rfl⟩
theorem flX0_32 : xFld RX0 32 0 6 0 0 := ⟨_, _, _, rfl, Nat.le_of_ble_eq_true rfl, rfl, (xinT 340 (by decide +kernel) (by decide +kernel)), rfl⟩
theorem flX0_38 : xFld RX0 38 3 3 0 0 := ⟨_, _, _, rfl, Nat.le_of_ble_eq_true rfl, rfl, (xinT 171 (by decide +kernel) (by decide +kernel)), rfl⟩
theorem flX1_9 : xFld RX1 9 1 0 3 0 := ⟨_, _, _, rfl, Nat.le_of_ble_eq_true rfl, rfl, (xinT 388 (by decide +kernel) (by decide +kernel)), rfl⟩
theorem flX1_15 : xFld RX1 15 1 1 3 0 := ⟨_, _, _, rfl, Nat.le_of_ble_eq_true rfl, rfl, (xinT 391 (by decide +kernel) (by decide +kernel)), rfl⟩
theorem flX1_19 : xFld RX1 19 1 2 0 0 := ⟨_, _, _, rfl, Nat.le_of_ble_eq_true rfl, rfl, (xinT 392 (by decide +kernel) (by decide +kernel)), rfl⟩
theorem flX1_23 : xFld RX1 23 1 3 0 0 := ⟨_, _, _, rfl, Nat.le_of_ble_eq_true rfl, rfl, (xinT 393 (by decide +kernel) (by decide +kernel)), rfl⟩
theorem flX1_26 : xFld RX1 26 1 4 0 0 := ⟨_, _, _, rfl, Nat.le_of_ble_eq_true rfl, rfl, (xinT 394 (by decide +kernel) (by decide +kernel)), rfl⟩
theorem flX1_29 : xFld RX1 29 1 5 2 1 := ⟨_, _, _, rfl, Nat.le_of_ble_eq_true rfl, rfl, (xinT 398 (by decide +kernel) (by decide +kernel)), rfl⟩
theorem flX1_33 : xFld RX1 33 1 6 2 2 := ⟨_, _, _, rfl, Nat.le_of_ble_eq_true rfl, rfl, (xinT 399 (by decide +kernel) (by decide +kernel)), rfl⟩
theorem flX1_36 : xFld RX1 36 1 7 2 3 := ⟨_, _, _, rfl, Nat.le_of_ble_eq_true rfl, rfl, (xinT 400 (by decide +kernel) (by decide +kernel)), rfl⟩
theorem flX1_39 : xFld RX1 39 1 8 2 4 := ⟨_, _, _, rfl, Nat.le_of_ble_eq_true rfl, rfl, (xinT 401 (by decide +kernel) (by decide +kernel)), rfl⟩
theorem flX1_42 : xFld RX1 42 1 9 2 5 := ⟨_, _, _, rfl, Nat.le_of_ble_eq_true rfl, rfl, (xinT 402 (by decide +kernel) (by decide +kernel)), rfl⟩
theorem flX1_45 : xFld RX1 45 1 10 2 6 := ⟨_, _, _, rfl, Nat.le_of_ble_eq_true rfl, rfl, (xinT 403 (by decide +kernel) (by decide +kernel)), rfl⟩
theorem flX1_48 : xFld RX1 48 1 11 2 7 := ⟨_, _, _, rfl, Nat.le_of_ble_eq_true rfl, rfl, (xinT 404 (by decide +kernel) (by decide +kernel)), rfl⟩
theorem flX1_51 : xFld RX1 51 1 12 2 8 := ⟨_, _, _, rfl, Nat.le_of_ble_eq_true rfl, rfl, (xinT 405 (by decide +kernel) (by decide +kernel)), rfl⟩
theorem flX1_54 : xFld RX1 54 7 0 0 0 := ⟨_, _, _, rfl, Nat.le_of_ble_eq_true rfl, rfl, (xinT 188 (by decide +kernel) (by decide +kernel)), rfl⟩
theorem flX1_57 : xFld RX1 57 7 1 0 0 := ⟨_, _, _, rfl, Nat.le_of_ble_eq_true rfl, rfl, (xinT 194 (by decide +kernel) (by decide +kernel)), rfl⟩
theorem flX1_67 : xFld RX1 67 7 5 2 1 := ⟨_, _, _, rfl, Nat.le_of_ble_eq_true rfl, rfl, (xinT 210 (by decide +kernel) (by decide +kernel)), rfl⟩
theorem flX1_71 : xFld RX1 71 3 3 0 0 := ⟨_, _, _, rfl, Nat.le_of_ble_eq_true rfl, rfl, (xinT 172 (by decide +kernel) (by decide +kernel)), rfl⟩
theorem flX1_84 : xFld RX1 84 7 6 2 3 := ⟨_, _, _, rfl, Nat.le_of_ble_eq_true rfl, rfl, (xinT 216 (by decide +kernel) (by decide +kernel)), rfl⟩
theorem flX1_130 : xFld RX1 130 7 4 0 0 := ⟨_, _, _, rfl, Nat.le_of_ble_eq_true rfl, rfl, (xinT 207 (by decide +kernel) (by decide +kernel)), rfl⟩
theorem flX1_155 : xFld RX1 155 0 1 2 2 := ⟨_, _, _, rfl, Nat.le_of_ble_eq_true rfl, rfl, (xinT 333 (by decide +kernel) (by decide +kernel)), rfl⟩
theorem flX2_9 : xFld RX2 9 2 0 3 0 := ⟨_, _, _, rfl, Nat.le_of_ble_eq_true rfl, rfl, (xinT 279 (by decide +kernel) (by decide +kernel)), rfl⟩
theorem flX2_15 : xFld RX2 15 2 1 0 0 := ⟨_, _, _, rfl, Nat.le_of_ble_eq_true rfl, rfl, (xinT 280 (by decide +kernel) (by decide +kernel)), rfl⟩
theorem flX2_19 : xFld RX2 19 2 2 0 0 := ⟨_, _, _, rfl, Nat.le_of_ble_eq_true rfl, rfl, (xinT 281 (by decide +kernel) (by decide +kernel)), rfl⟩
theorem flX2_22 : xFld RX2 22 2 3 0 0 := ⟨_, _, _, rfl, Nat.le_of_ble_eq_true rfl, rfl, (xinT 282 (by decide +kernel) (by decide +kernel)), rfl⟩
theorem flX2_25 : xFld RX2 25 2 4 0 0 := ⟨_, _, _, rfl, Nat.le_of_ble_eq_true rfl, rfl, (xinT 283 (by decide +kernel) (by decide +kernel)), rfl⟩
theorem flX2_28 : xFld RX2 28 2 5 0 0 := ⟨_, _, _, rfl, Nat.le_of_ble_eq_true rfl, rfl, (xinT 284 (by decide +kernel) (by decide +kernel)), rfl⟩
theorem flX2_31 : xFld RX2 31 2 6 2 1 := ⟨_, _, _, rfl, Nat.le_of_ble_eq_true rfl, rfl, (xinT 285 (by decide +kernel) (by decide +kernel)), rfl⟩
theorem flX2_35 : xFld RX2 35 2 7 0 0 := ⟨_, _, _, rfl, Nat.le_of_ble_eq_true rfl, rfl, (xinT 286 (by decide +kernel) (by decide +kernel)), rfl⟩
theorem flX2_38 : xFld RX2 38 2 8 0 0 := ⟨_, _, _, rfl, Nat.le_of_ble_eq_true rfl, rfl, (xinT 288 (by decide +kernel) (by decide +kernel)), rfl⟩
theorem flX2_44 : xFld RX2 44 2 9 2 2 := ⟨_, _, _, rfl, Nat.le_of_ble_eq_true rfl, rfl, (xinT 290 (by decide +kernel) (by decide +kernel)), rfl⟩
theorem flX2_53 : xFld RX2 53 2 10 2 7 := ⟨_, _, _, rfl, Nat.le_of_ble_eq_true rfl, rfl, (xinT 292 (by decide +kernel) (by decide +kernel)), rfl⟩
theorem flX2_57 : xFld RX2 57 2 11 2 9 := ⟨_, _, _, rfl, Nat.le_of_ble_eq_true rfl, rfl, (xinT 293 (by decide +kernel) (by decide +kernel)), rfl⟩
theorem flX2_60 : xFld RX2 60 2 12 2 11 := ⟨_, _, _, rfl, Nat.le_of_ble_eq_true rfl, rfl, (xinT 294 (by decide +kernel) (by decide +kernel)), rfl⟩
theorem flX2_76 : xFld RX2 76 3 3 0 0 := ⟨_, _, _, rfl, Nat.le_of_ble_eq_true rfl, rfl, (xinT 174 (by decide +kernel) (by decide +kernel)), rfl⟩
theorem flX2_202 : xFld RX2 202 7 5 2 1 := ⟨_, _, _, rfl, Nat.le_of_ble_eq_true rfl, rfl, (xinT 214 (by decide +kernel) (by decide +kernel)), rfl⟩
theorem flX2_205 : xFld RX2 205 7 6 2 3 := ⟨_, _, _, rfl, Nat.le_of_ble_eq_true rfl, rfl, (xinT 218 (by decide +kernel) (by decide +kernel)), rfl⟩
theorem flX2_208 : xFld RX2 208 7 0 0 0 := ⟨_, _, _, rfl, Nat.le_of_ble_eq_true rfl, rfl, (xinT 191 (by decide +kernel) (by decide +kernel)), rfl⟩
theorem flX2_210 : xFld RX2 210 7 1 0 0 := ⟨_, _, _, rfl, Nat.le_of_ble_eq_true rfl, rfl, (xinT 196 (by decide +kernel) (by decide +kernel)), rfl⟩
theorem flX2_212 : xFld RX2 212 7 2 0 0 := ⟨_, _, _, rfl, Nat.le_of_ble_eq_true rfl, rfl, (xinT 199 (by decide +kernel) (by decide +kernel)), rfl⟩
theorem flX2_215 : xFld RX2 215 7 3 0 0 := ⟨_, _, _, rfl, Nat.le_of_ble_eq_true rfl, rfl, (xinT 202 (by decide +kernel) (by decide +kernel)), rfl⟩
theorem flX2_218 : xFld RX2 218 7 4 0 0 := ⟨_, _, _, rfl, Nat.le_of_ble_eq_true rfl, rfl, (xinT 208 (by decide +kernel) (by decide +kernel)), rfl⟩
theorem flX3_9 : xFld RX3 9 3 3 0 0 := ⟨_, _, _, rfl, Nat.le_of_ble_eq_true rfl, rfl, (xinT 168 (by decide +kernel) (by decide +kernel)), rfl⟩
theorem flX3_21 : xFld RX3 21 3 0 1 0 := ⟨_, _, _, rfl, Nat.le_of_ble_eq_true rfl, rfl, (xinT 165 (by decide +kernel) (by decide +kernel)), rfl⟩
theorem flX3_24 : xFld RX3 24 3 1 1 1 := ⟨_, _, _, rfl, Nat.le_of_ble_eq_true rfl, rfl, (xinT 166 (by decide +kernel) (by decide +kernel)), rfl⟩
theorem flX3_27 : xFld RX3 27 3 2 2 1 := ⟨_, _, _, rfl, Nat.le_of_ble_eq_true rfl, rfl, (xinT 167 (by decide +kernel) (by decide +kernel)), rfl⟩
theorem flX4_9 : xFld RX4 9 4 0 2 1 := ⟨_, _, _, rfl, Nat.le_of_ble_eq_true rfl, rfl, (xinT 235 (by decide +kernel) (by decide +kernel)), rfl⟩
theorem flX4_15 : xFld RX4 15 4 1 0 0 := ⟨_, _, _, rfl, Nat.le_of_ble_eq_true rfl, rfl, (xinT 237 (by decide +kernel) (by decide +kernel)), rfl⟩
theorem flX4_19 : xFld RX4 19 4 2 0 0 := ⟨_, _, _, rfl, Nat.le_of_ble_eq_true rfl, rfl, (xinT 239 (by decide +kernel) (by decide +kernel)), rfl⟩
theorem flX4_22 : xFld RX4 22 4 3 0 0 := ⟨_, _, _, rfl, Nat.le_of_ble_eq_true rfl, rfl, (xinT 241 (by decide +kernel) (by decide +kernel)), rfl⟩
theorem flX4_25 : xFld RX4 25 4 4 2 2 := ⟨_, _, _, rfl, Nat.le_of_ble_eq_true rfl, rfl, (xinT 243 (by decide +kernel) (by decide +kernel)), rfl⟩
theorem flX4_31 : xFld RX4 31 4 5 2 3 := ⟨_, _, _, rfl, Nat.le_of_ble_eq_true rfl, rfl, (xinT 245 (by decide +kernel) (by decide +kernel)), rfl⟩
theorem flX4_37 : xFld RX4 37 4 6 2 4 := ⟨_, _, _, rfl, Nat.le_of_ble_eq_true rfl, rfl, (xinT 246 (by decide +kernel) (by decide +kernel)), rfl⟩
theorem flX4_41 : xFld RX4 41 4 7 2 5 := ⟨_, _, _, rfl, Nat.le_of_ble_eq_true rfl, rfl, (xinT 247 (by decide +kernel) (by decide +kernel)), rfl⟩
theorem flX4_44 : xFld RX4 44 4 8 2 6 := ⟨_, _, _, rfl, Nat.le_of_ble_eq_true rfl, rfl, (xinT 248 (by decide +kernel) (by decide +kernel)), rfl⟩
theorem flX4_72 : xFld RX4 72 2 9 2 2 := ⟨_, _, _, rfl, Nat.le_of_ble_eq_true rfl, rfl, (xinT 291 (by decide +kernel) (by decide +kernel)), rfl⟩
theorem flX5_9 : xFld RX5 9 5 0 0 0 := ⟨_, _, _, rfl, Nat.le_of_ble_eq_true rfl, rfl, (xinT 470 (by decide +kernel) (by decide +kernel)), rfl⟩
theorem flX5_15 : xFld RX5 15 5 1 0 0 := ⟨_, _, _, rfl, Nat.le_of_ble_eq_true rfl, rfl, (xinT 472 (by decide +kernel) (by decide +kernel)), rfl⟩
theorem flX5_18 : xFld RX5 18 5 2 0 0 := ⟨_, _, _, rfl, Nat.le_of_ble_eq_true rfl, rfl, (xinT 474 (by decide +kernel) (by decide +kernel)), rfl⟩
theorem flX5_21 : xFld RX5 21 5 3 0 0 := ⟨_, _, _, rfl, Nat.le_of_ble_eq_true rfl, rfl, (xinT 476 (by decide +kernel) (by decide +kernel)), rfl⟩
theorem flX5_24 : xFld RX5 24 5 4 2 1 := ⟨_, _, _, rfl, Nat.le_of_ble_eq_true rfl, rfl, (xinT 478 (by decide +kernel) (by decide +kernel)), rfl⟩
theorem flX5_33 : xFld RX5 33 1 4 0 0 := ⟨_, _, _, rfl, Nat.le_of_ble_eq_true rfl, rfl, (xinT 396 (by decide +kernel) (by decide +kernel)), rfl⟩
theorem flX6_9 : xFld RX6 9 6 0 2 1 := ⟨_, _, _, rfl, Nat.le_of_ble_eq_true rfl, rfl, (xinT 439 (by decide +kernel) (by decide +kernel)), rfl⟩
theorem flX6_15 : xFld RX6 15 6 1 2 2 := ⟨_, _, _, rfl, Nat.le_of_ble_eq_true rfl, rfl, (xinT 441 (by decide +kernel) (by decide +kernel)), rfl⟩
theorem flX6_18 : xFld RX6 18 6 2 2 3 := ⟨_, _, _, rfl, Nat.le_of_ble_eq_true rfl, rfl, (xinT 443 (by decide +kernel) (by decide +kernel)), rfl⟩
theorem flX6_21 : xFld RX6 21 6 3 2 4 := ⟨_, _, _, rfl, Nat.le_of_ble_eq_true rfl, rfl, (xinT 445 (by decide +kernel) (by decide +kernel)), rfl⟩
theorem flX6_24 : xFld RX6 24 6 4 0 0 := ⟨_, _, _, rfl, Nat.le_of_ble_eq_true rfl, rfl, (xinT 447 (by decide +kernel) (by decide +kernel)), rfl⟩
theorem flX6_28 : xFld RX6 28 6 5 2 5 := ⟨_, _, _, rfl, Nat.le_of_ble_eq_true rfl, rfl, (xinT 449 (by decide +kernel) (by decide +kernel)), rfl⟩
theorem flX6_32 : xFld RX6 32 1 0 3 0 := ⟨_, _, _, rfl, Nat.le_of_ble_eq_true rfl, rfl, (xinT 389 (by decide +kernel) (by decide +kernel)), rfl⟩
theorem flX6_38 : xFld RX6 38 7 4 0 0 := ⟨_, _, _, rfl, Nat.le_of_ble_eq_true rfl, rfl, (xinT 204 (by decide +kernel) (by decide +kernel)), rfl⟩
theorem flX6_43 : xFld RX6 43 1 4 0 0 := ⟨_, _, _, rfl, Nat.le_of_ble_eq_true rfl, rfl, (xinT 395 (by decide +kernel) (by decide +kernel)), rfl⟩
theorem flX6_68 : xFld RX6 68 7 5 2 1 := ⟨_, _, _, rfl, Nat.le_of_ble_eq_true rfl, rfl, (xinT 211 (by decide +kernel) (by decide +kernel)), rfl⟩
theorem flX6_72 : xFld RX6 72 3 3 0 0 := ⟨_, _, _, rfl, Nat.le_of_ble_eq_true rfl, rfl, (xinT 173 (by decide +kernel) (by decide +kernel)), rfl⟩
theorem flX7_9 : xFld RX7 9 7 0 0 0 := ⟨_, _, _, rfl, Nat.le_of_ble_eq_true rfl, rfl, (xinT 187 (by decide +kernel) (by decide +kernel)), rfl⟩
theorem flX7_15 : xFld RX7 15 7 1 0 0 := ⟨_, _, _, rfl, Nat.le_of_ble_eq_true rfl, rfl, (xinT 192 (by decide +kernel) (by decide +kernel)), rfl⟩
theorem flX7_18 : xFld RX7 18 7 2 0 0 := ⟨_, _, _, rfl, Nat.le_of_ble_eq_true rfl, rfl, (xinT 197 (by decide +kernel) (by decide +kernel)), rfl⟩
theorem flX7_21 : xFld RX7 21 7 3 0 0 := ⟨_, _, _, rfl, Nat.le_of_ble_eq_true rfl, rfl, (xinT 200 (by decide +kernel) (by decide +kernel)), rfl⟩
theorem flX7_24 : xFld RX7 24 7 4 0 0 := ⟨_, _, _, rfl, Nat.le_of_ble_eq_true rfl, rfl, (xinT 203 (by decide +kernel) (by decide +kernel)), rfl⟩
theorem flX7_32 : xFld RX7 32 7 5 2 1 := ⟨_, _, _, rfl, Nat.le_of_ble_eq_true rfl, rfl, (xinT 209 (by decide +kernel) (by decide +kernel)), rfl⟩
theorem flX7_36 : xFld RX7 36 7 6 2 3 := ⟨_, _, _, rfl, Nat.le_of_ble_eq_true rfl, rfl, (xinT 215 (by decide +kernel) (by decide +kernel)), rfl⟩
theorem flX7_39 : xFld RX7 39 3 3 0 0 := ⟨_, _, _, rfl, Nat.le_of_ble_eq_true rfl, rfl, (xinT 170 (by decide +kernel) (by decide +kernel)), rfl⟩
theorem flX8_9 : xFld RX8 9 8 0 3 0 := ⟨_, _, _, rfl, Nat.le_of_ble_eq_true rfl, rfl, (xinT 362 (by decide +kernel) (by decide +kernel)), rfl⟩
theorem flX8_15 : xFld RX8 15 8 1 0 0 := ⟨_, _, _, rfl, Nat.le_of_ble_eq_true rfl, rfl, (xinT 364 (by decide +kernel) (by decide +kernel)), rfl⟩
theorem flX8_19 : xFld RX8 19 8 2 0 0 := ⟨_, _, _, rfl, Nat.le_of_ble_eq_true rfl, rfl, (xinT 366 (by decide +kernel) (by decide +kernel)), rfl⟩
theorem flX8_22 : xFld RX8 22 8 3 2 1 := ⟨_, _, _, rfl, Nat.le_of_ble_eq_true rfl, rfl, (xinT 368 (by decide +kernel) (by decide +kernel)), rfl⟩
theorem flX8_26 : xFld RX8 26 8 4 2 2 := ⟨_, _, _, rfl, Nat.le_of_ble_eq_true rfl, rfl, (xinT 370 (by decide +kernel) (by decide +kernel)), rfl⟩
theorem flX8_29 : xFld RX8 29 7 4 0 0 := ⟨_, _, _, rfl, Nat.le_of_ble_eq_true rfl, rfl, (xinT 205 (by decide +kernel) (by decide +kernel)), rfl⟩
theorem flX8_34 : xFld RX8 34 3 3 0 0 := ⟨_, _, _, rfl, Nat.le_of_ble_eq_true rfl, rfl, (xinT 169 (by decide +kernel) (by decide +kernel)), rfl⟩
theorem flX8_43 : xFld RX8 43 7 1 0 0 := ⟨_, _, _, rfl, Nat.le_of_ble_eq_true rfl, rfl, (xinT 193 (by decide +kernel) (by decide +kernel)), rfl⟩
theorem flX8_54 : xFld RX8 54 7 0 0 0 := ⟨_, _, _, rfl, Nat.le_of_ble_eq_true rfl, rfl, (xinT 189 (by decide +kernel) (by decide +kernel)), rfl⟩
theorem flX8_69 : xFld RX8 69 7 5 2 1 := ⟨_, _, _, rfl, Nat.le_of_ble_eq_true rfl, rfl, (xinT 212 (by decide +kernel) (by decide +kernel)), rfl⟩
theorem flX9_10 : xFld RX9 10 9 0 2 1 := ⟨_, _, _, rfl, Nat.le_of_ble_eq_true rfl, rfl, (xinT 491 (by decide +kernel) (by decide +kernel)), rfl⟩
theorem flX9_16 : xFld RX9 16 9 1 2 32 := ⟨_, _, _, rfl, Nat.le_of_ble_eq_true rfl, rfl, (xinT 492 (by decide +kernel) (by decide +kernel)), rfl⟩
theorem flX9_20 : xFld RX9 20 9 2 2 33 := ⟨_, _, _, rfl, Nat.le_of_ble_eq_true rfl, rfl, (xinT 493 (by decide +kernel) (by decide +kernel)), rfl⟩
theorem flX9_27 : xFld RX9 27 9 3 2 34 := ⟨_, _, _, rfl, Nat.le_of_ble_eq_true rfl, rfl, (xinT 494 (by decide +kernel) (by decide +kernel)), rfl⟩
theorem flX9_34 : xFld RX9 34 9 4 2 47 := ⟨_, _, _, rfl, Nat.le_of_ble_eq_true rfl, rfl, (xinT 495 (by decide +kernel) (by decide +kernel)), rfl⟩
theorem flX9_38 : xFld RX9 38 9 5 2 53 := ⟨_, _, _, rfl, Nat.le_of_ble_eq_true rfl, rfl, (xinT 496 (by decide +kernel) (by decide +kernel)), rfl⟩
theorem flX9_44 : xFld RX9 44 9 6 2 59 := ⟨_, _, _, rfl, Nat.le_of_ble_eq_true rfl, rfl, (xinT 497 (by decide +kernel) (by decide +kernel)), rfl⟩
theorem flX9_51 : xFld RX9 51 9 7 2 62 := ⟨_, _, _, rfl, Nat.le_of_ble_eq_true rfl, rfl, (xinT 498 (by decide +kernel) (by decide +kernel)), rfl⟩
theorem flX9_58 : xFld RX9 58 9 8 2 71 := ⟨_, _, _, rfl, Nat.le_of_ble_eq_true rfl, rfl, (xinT 499 (by decide +kernel) (by decide +kernel)), rfl⟩
theorem flX9_65 : xFld RX9 65 9 9 2 77 := ⟨_, _, _, rfl, Nat.le_of_ble_eq_true rfl, rfl, (xinT 500 (by decide +kernel) (by decide +kernel)), rfl⟩
theorem flX9_69 : xFld RX9 69 4 1 0 0 := ⟨_, _, _, rfl, Nat.le_of_ble_eq_true rfl, rfl, (xinT 238 (by decide +kernel) (by decide +kernel)), rfl⟩
theorem flX9_85 : xFld RX9 85 4 0 2 1 := ⟨_, _, _, rfl, Nat.le_of_ble_eq_true rfl, rfl, (xinT 236 (by decide +kernel) (by decide +kernel)), rfl⟩
theorem flX9_93 : xFld RX9 93 2 7 0 0 := ⟨_, _, _, rfl, Nat.le_of_ble_eq_true rfl, rfl, (xinT 287 (by decide +kernel) (by decide +kernel)), rfl⟩
theorem flX9_96 : xFld RX9 96 2 8 0 0 := ⟨_, _, _, rfl, Nat.le_of_ble_eq_true rfl, rfl, (xinT 289 (by decide +kernel) (by decide +kernel)), rfl⟩
theorem flX9_103 : xFld RX9 103 4 2 0 0 := ⟨_, _, _, rfl, Nat.le_of_ble_eq_true rfl, rfl, (xinT 240 (by decide +kernel) (by decide +kernel)), rfl⟩
theorem flX9_104 : xFld RX9 104 4 3 0 0 := ⟨_, _, _, rfl, Nat.le_of_ble_eq_true rfl, rfl, (xinT 242 (by decide +kernel) (by decide +kernel)), rfl⟩
theorem flX9_109 : xFld RX9 109 7 0 0 0 := ⟨_, _, _, rfl, Nat.le_of_ble_eq_true rfl, rfl, (xinT 190 (by decide +kernel) (by decide +kernel)), rfl⟩
theorem flX9_114 : xFld RX9 114 7 1 0 0 := ⟨_, _, _, rfl, Nat.le_of_ble_eq_true rfl, rfl, (xinT 195 (by decide +kernel) (by decide +kernel)), rfl⟩
theorem flX9_117 : xFld RX9 117 7 2 0 0 := ⟨_, _, _, rfl, Nat.le_of_ble_eq_true rfl, rfl, (xinT 198 (by decide +kernel) (by decide +kernel)), rfl⟩
theorem flX9_120 : xFld RX9 120 7 3 0 0 := ⟨_, _, _, rfl, Nat.le_of_ble_eq_true rfl, rfl, (xinT 201 (by decide +kernel) (by decide +kernel)), rfl⟩
theorem flX9_123 : xFld RX9 123 7 4 0 0 := ⟨_, _, _, rfl, Nat.le_of_ble_eq_true rfl, rfl, (xinT 206 (by decide +kernel) (by decide +kernel)), rfl⟩
theorem flX9_126 : xFld RX9 126 7 5 2 1 := ⟨_, _, _, rfl, Nat.le_of_ble_eq_true rfl, rfl, (xinT 213 (by decide +kernel) (by decide +kernel)), rfl⟩
theorem flX9_130 : xFld RX9 130 3 3 0 0 := ⟨_, _, _, rfl, Nat.le_of_ble_eq_true rfl, rfl, (xinT 175 (by decide +kernel) (by decide +kernel)), rfl⟩
theorem flX9_135 : xFld RX9 135 7 6 2 3 := ⟨_, _, _, rfl, Nat.le_of_ble_eq_true rfl, rfl, (xinT 217 (by decide +kernel) (by decide +kernel)), rfl⟩
theorem flX9_160 : xFld RX9 160 4 4 2 2 := ⟨_, _, _, rfl, Nat.le_of_ble_eq_true rfl, rfl, (xinT 244 (by decide +kernel) (by decide +kernel)), rfl⟩
theorem flX9_172 : xFld RX9 172 8 1 0 0 := ⟨_, _, _, rfl, Nat.le_of_ble_eq_true rfl, rfl, (xinT 365 (by decide +kernel) (by decide +kernel)), rfl⟩
theorem flX9_183 : xFld RX9 183 8 2 0 0 := ⟨_, _, _, rfl, Nat.le_of_ble_eq_true rfl, rfl, (xinT 367 (by decide +kernel) (by decide +kernel)), rfl⟩
theorem flX9_186 : xFld RX9 186 8 0 3 0 := ⟨_, _, _, rfl, Nat.le_of_ble_eq_true rfl, rfl, (xinT 363 (by decide +kernel) (by decide +kernel)), rfl⟩
theorem flX9_190 : xFld RX9 190 8 3 2 1 := ⟨_, _, _, rfl, Nat.le_of_ble_eq_true rfl, rfl, (xinT 369 (by decide +kernel) (by decide +kernel)), rfl⟩
theorem flX9_222 : xFld RX9 222 0 1 2 2 := ⟨_, _, _, rfl, Nat.le_of_ble_eq_true rfl, rfl, (xinT 332 (by decide +kernel) (by decide +kernel)), rfl⟩
theorem flX9_225 : xFld RX9 225 0 0 2 1 := ⟨_, _, _, rfl, Nat.le_of_ble_eq_true rfl, rfl, (xinT 330 (by decide +kernel) (by decide +kernel)), rfl⟩
theorem flX9_232 : xFld RX9 232 0 2 2 3 := ⟨_, _, _, rfl, Nat.le_of_ble_eq_true rfl, rfl, (xinT 335 (by decide +kernel) (by decide +kernel)), rfl⟩
theorem flX9_235 : xFld RX9 235 0 3 2 4 := ⟨_, _, _, rfl, Nat.le_of_ble_eq_true rfl, rfl, (xinT 337 (by decide +kernel) (by decide +kernel)), rfl⟩
theorem flX9_259 : xFld RX9 259 1 0 3 0 := ⟨_, _, _, rfl, Nat.le_of_ble_eq_true rfl, rfl, (xinT 390 (by decide +kernel) (by decide +kernel)), rfl⟩
theorem flX9_264 : xFld RX9 264 6 0 2 1 := ⟨_, _, _, rfl, Nat.le_of_ble_eq_true rfl, rfl, (xinT 440 (by decide +kernel) (by decide +kernel)), rfl⟩
theorem flX9_278 : xFld RX9 278 6 2 2 3 := ⟨_, _, _, rfl, Nat.le_of_ble_eq_true rfl, rfl, (xinT 444 (by decide +kernel) (by decide +kernel)), rfl⟩
theorem flX9_281 : xFld RX9 281 6 3 2 4 := ⟨_, _, _, rfl, Nat.le_of_ble_eq_true rfl, rfl, (xinT 446 (by decide +kernel) (by decide +kernel)), rfl⟩
theorem flX9_291 : xFld RX9 291 5 2 0 0 := ⟨_, _, _, rfl, Nat.le_of_ble_eq_true rfl, rfl, (xinT 475 (by decide +kernel) (by decide +kernel)), rfl⟩
theorem flX9_294 : xFld RX9 294 5 0 0 0 := ⟨_, _, _, rfl, Nat.le_of_ble_eq_true rfl, rfl, (xinT 471 (by decide +kernel) (by decide +kernel)), rfl⟩
theorem flX9_297 : xFld RX9 297 5 1 0 0 := ⟨_, _, _, rfl, Nat.le_of_ble_eq_true rfl, rfl, (xinT 473 (by decide +kernel) (by decide +kernel)), rfl⟩
theorem flX9_327 : xFld RX9 327 1 4 0 0 := ⟨_, _, _, rfl, Nat.le_of_ble_eq_true rfl, rfl, (xinT 397 (by decide +kernel) (by decide +kernel)), rfl⟩
theorem flX9_346 : xFld RX9 346 6 4 0 0 := ⟨_, _, _, rfl, Nat.le_of_ble_eq_true rfl, rfl, (xinT 448 (by decide +kernel) (by decide +kernel)), rfl⟩
theorem flX9_359 : xFld RX9 359 5 3 0 0 := ⟨_, _, _, rfl, Nat.le_of_ble_eq_true rfl, rfl, (xinT 477 (by decide +kernel) (by decide +kernel)), rfl⟩
theorem flX9_362 : xFld RX9 362 5 4 2 1 := ⟨_, _, _, rfl, Nat.le_of_ble_eq_true rfl, rfl, (xinT 479 (by decide +kernel) (by decide +kernel)), rfl⟩
theorem flX9_393 : xFld RX9 393 6 1 2 2 := ⟨_, _, _, rfl, Nat.le_of_ble_eq_true rfl, rfl, (xinT 442 (by decide +kernel) (by decide +kernel)), rfl⟩
theorem flX10_7 : xFld RX10 7 10 0 2 1 := ⟨_, _, _, rfl, Nat.le_of_ble_eq_true rfl, rfl, (xinT 1327 (by decide +kernel) (by decide +kernel)), rfl⟩
theorem flX10_13 : xFld RX10 13 10 1 2 2 := ⟨_, _, _, rfl, Nat.le_of_ble_eq_true rfl, rfl, (xinT 1328 (by decide +kernel) (by decide +kernel)), rfl⟩
theorem flX10_17 : xFld RX10 17 10 9 2 3 := ⟨_, _, _, rfl, Nat.le_of_ble_eq_true rfl, rfl, (xinT 1336 (by decide +kernel) (by decide +kernel)), rfl⟩
theorem flX10_20 : xFld RX10 20 10 11 0 0 := ⟨_, _, _, rfl, Nat.le_of_ble_eq_true rfl, rfl, (xinT 1338 (by decide +kernel) (by decide +kernel)), rfl⟩
theorem flX10_24 : xFld RX10 24 10 13 0 0 := ⟨_, _, _, rfl, Nat.le_of_ble_eq_true rfl, rfl, (xinT 1340 (by decide +kernel) (by decide +kernel)), rfl⟩
theorem flX10_27 : xFld RX10 27 10 14 2 4 := ⟨_, _, _, rfl, Nat.le_of_ble_eq_true rfl, rfl, (xinT 1341 (by decide +kernel) (by decide +kernel)), rfl⟩
theorem flX10_30 : xFld RX10 30 10 17 2 5 := ⟨_, _, _, rfl, Nat.le_of_ble_eq_true rfl, rfl, (xinT 1344 (by decide +kernel) (by decide +kernel)), rfl⟩
theorem flX10_33 : xFld RX10 33 10 18 2 6 := ⟨_, _, _, rfl, Nat.le_of_ble_eq_true rfl, rfl, (xinT 1345 (by decide +kernel) (by decide +kernel)), rfl⟩
theorem flX10_36 : xFld RX10 36 10 19 2 7 := ⟨_, _, _, rfl, Nat.le_of_ble_eq_true rfl, rfl, (xinT 1346 (by decide +kernel) (by decide +kernel)), rfl⟩
theorem flX10_39 : xFld RX10 39 10 20 2 8 := ⟨_, _, _, rfl, Nat.le_of_ble_eq_true rfl, rfl, (xinT 1347 (by decide +kernel) (by decide +kernel)), rfl⟩
theorem flX10_42 : xFld RX10 42 10 21 2 9 := ⟨_, _, _, rfl, Nat.le_of_ble_eq_true rfl, rfl, (xinT 1348 (by decide +kernel) (by decide +kernel)), rfl⟩
theorem flX10_45 : xFld RX10 45 10 24 2 10 := ⟨_, _, _, rfl, Nat.le_of_ble_eq_true rfl, rfl, (xinT 1351 (by decide +kernel) (by decide +kernel)), rfl⟩
theorem flX10_48 : xFld RX10 48 10 25 2 11 := ⟨_, _, _, rfl, Nat.le_of_ble_eq_true rfl, rfl, (xinT 1352 (by decide +kernel) (by decide +kernel)), rfl⟩
theorem flX10_51 : xFld RX10 51 10 29 0 0 := ⟨_, _, _, rfl, Nat.le_of_ble_eq_true rfl, rfl, (xinT 1356 (by decide +kernel) (by decide +kernel)), rfl⟩
theorem flX10_55 : xFld RX10 55 10 32 0 0 := ⟨_, _, _, rfl, Nat.le_of_ble_eq_true rfl, rfl, (xinT 1359 (by decide +kernel) (by decide +kernel)), rfl⟩
theorem flX10_58 : xFld RX10 58 10 45 2 12 := ⟨_, _, _, rfl, Nat.le_of_ble_eq_true rfl, rfl, (xinT 1372 (by decide +kernel) (by decide +kernel)), rfl⟩
theorem flX10_61 : xFld RX10 61 10 46 2 13 := ⟨_, _, _, rfl, Nat.le_of_ble_eq_true rfl, rfl, (xinT 1373 (by decide +kernel) (by decide +kernel)), rfl⟩
theorem flX10_65 : xFld RX10 65 10 47 2 14 := ⟨_, _, _, rfl, Nat.le_of_ble_eq_true rfl, rfl, (xinT 1374 (by decide +kernel) (by decide +kernel)), rfl⟩
theorem flX10_68 : xFld RX10 68 10 2 0 0 := ⟨_, _, _, rfl, Nat.le_of_ble_eq_true rfl, rfl, (xinT 1329 (by decide +kernel) (by decide +kernel)), rfl⟩
theorem flX10_80 : xFld RX10 80 10 3 0 0 := ⟨_, _, _, rfl, Nat.le_of_ble_eq_true rfl, rfl, (xinT 1330 (by decide +kernel) (by decide +kernel)), rfl⟩
theorem flX10_87 : xFld RX10 87 10 4 0 0 := ⟨_, _, _, rfl, Nat.le_of_ble_eq_true rfl, rfl, (xinT 1331 (by decide +kernel) (by decide +kernel)), rfl⟩
theorem flX10_90 : xFld RX10 90 10 5 0 0 := ⟨_, _, _, rfl, Nat.le_of_ble_eq_true rfl, rfl, (xinT 1332 (by decide +kernel) (by decide +kernel)), rfl⟩
theorem flX10_100 : xFld RX10 100 10 7 0 0 := ⟨_, _, _, rfl, Nat.le_of_ble_eq_true rfl, rfl, (xinT 1334 (by decide +kernel) (by decide +kernel)), rfl⟩
theorem flX10_106 : xFld RX10 106 10 6 0 0 := ⟨_, _, _, rfl, Nat.le_of_ble_eq_true rfl, rfl, (xinT 1333 (by decide +kernel) (by decide +kernel)), rfl⟩
theorem flX10_109 : xFld RX10 109 10 8 0 0 := ⟨_, _, _, rfl, Nat.le_of_ble_eq_true rfl, rfl, (xinT 1335 (by decide +kernel) (by decide +kernel)), rfl⟩
theorem flX10_172 : xFld RX10 172 10 10 0 0 := ⟨_, _, _, rfl, Nat.le_of_ble_eq_true rfl, rfl, (xinT 1337 (by decide +kernel) (by decide +kernel)), rfl⟩
theorem flX10_178 : xFld RX10 178 10 12 0 0 := ⟨_, _, _, rfl, Nat.le_of_ble_eq_true rfl, rfl, (xinT 1339 (by decide +kernel) (by decide +kernel)), rfl⟩
theorem flX10_205 : xFld RX10 205 10 15 0 0 := ⟨_, _, _, rfl, Nat.le_of_ble_eq_true rfl, rfl, (xinT 1342 (by decide +kernel) (by decide +kernel)), rfl⟩
theorem flX10_208 : xFld RX10 208 10 16 0 0 := ⟨_, _, _, rfl, Nat.le_of_ble_eq_true rfl, rfl, (xinT 1343 (by decide +kernel) (by decide +kernel)), rfl⟩
theorem flX10_237 : xFld RX10 237 10 22 0 0 := ⟨_, _, _, rfl, Nat.le_of_ble_eq_true rfl, rfl, (xinT 1349 (by decide +kernel) (by decide +kernel)), rfl⟩
theorem flX10_240 : xFld RX10 240 10 23 0 0 := ⟨_, _, _, rfl, Nat.le_of_ble_eq_true rfl, rfl, (xinT 1350 (by decide +kernel) (by decide +kernel)), rfl⟩
theorem flX10_282 : xFld RX10 282 10 28 0 0 := ⟨_, _, _, rfl, Nat.le_of_ble_eq_true rfl, rfl, (xinT 1355 (by decide +kernel) (by decide +kernel)), rfl⟩
theorem flX10_285 : xFld RX10 285 10 30 0 0 := ⟨_, _, _, rfl, Nat.le_of_ble_eq_true rfl, rfl, (xinT 1357 (by decide +kernel) (by decide +kernel)), rfl⟩
theorem flX10_288 : xFld RX10 288 10 36 0 0 := ⟨_, _, _, rfl, Nat.le_of_ble_eq_true rfl, rfl, (xinT 1363 (by decide +kernel) (by decide +kernel)), rfl⟩
theorem flX10_291 : xFld RX10 291 10 37 0 0 := ⟨_, _, _, rfl, Nat.le_of_ble_eq_true rfl, rfl, (xinT 1364 (by decide +kernel) (by decide +kernel)), rfl⟩
theorem flX10_294 : xFld RX10 294 10 31 0 0 := ⟨_, _, _, rfl, Nat.le_of_ble_eq_true rfl, rfl, (xinT 1358 (by decide +kernel) (by decide +kernel)), rfl⟩
theorem flX10_297 : xFld RX10 297 10 33 0 0 := ⟨_, _, _, rfl, Nat.le_of_ble_eq_true rfl, rfl, (xinT 1360 (by decide +kernel) (by decide +kernel)), rfl⟩
theorem flX10_300 : xFld RX10 300 10 34 0 0 := ⟨_, _, _, rfl, Nat.le_of_ble_eq_true rfl, rfl, (xinT 1361 (by decide +kernel) (by decide +kernel)), rfl⟩
theorem flX10_303 : xFld RX10 303 10 26 0 0 := ⟨_, _, _, rfl, Nat.le_of_ble_eq_true rfl, rfl, (xinT 1353 (by decide +kernel) (by decide +kernel)), rfl⟩
theorem flX10_306 : xFld RX10 306 10 35 0 0 := ⟨_, _, _, rfl, Nat.le_of_ble_eq_true rfl, rfl, (xinT 1362 (by decide +kernel) (by decide +kernel)), rfl⟩
theorem flX10_315 : xFld RX10 315 10 27 0 0 := ⟨_, _, _, rfl, Nat.le_of_ble_eq_true rfl, rfl, (xinT 1354 (by decide +kernel) (by decide +kernel)), rfl⟩
theorem flX10_333 : xFld RX10 333 10 38 0 0 := ⟨_, _, _, rfl, Nat.le_of_ble_eq_true rfl, rfl, (xinT 1365 (by decide +kernel) (by decide +kernel)), rfl⟩
theorem flX10_336 : xFld RX10 336 10 39 0 0 := ⟨_, _, _, rfl, Nat.le_of_ble_eq_true rfl, rfl, (xinT 1366 (by decide +kernel) (by decide +kernel)), rfl⟩
theorem flX10_339 : xFld RX10 339 10 40 0 0 := ⟨_, _, _, rfl, Nat.le_of_ble_eq_true rfl, rfl, (xinT 1367 (by decide +kernel) (by decide +kernel)), rfl⟩
theorem flX10_371 : xFld RX10 371 10 41 0 0 := ⟨_, _, _, rfl, Nat.le_of_ble_eq_true rfl, rfl, (xinT 1368 (by decide +kernel) (by decide +kernel)), rfl⟩
theorem flX10_374 : xFld RX10 374 10 43 0 0 := ⟨_, _, _, rfl, Nat.le_of_ble_eq_true rfl, rfl, (xinT 1370 (by decide +kernel) (by decide +kernel)), rfl⟩
theorem flX10_377 : xFld RX10 377 10 42 0 0 := ⟨_, _, _, rfl, Nat.le_of_ble_eq_true rfl, rfl, (xinT 1369 (by decide +kernel) (by decide +kernel)), rfl⟩
theorem flX10_383 : xFld RX10 383 10 44 0 0 := ⟨_, _, _, rfl, Nat.le_of_ble_eq_true rfl, rfl, (xinT 1371 (by decide +kernel) (by decide +kernel)), rfl⟩
theorem fpX0_5 : xPut 0 5 .int := ⟨_, _, _, rfl, rfl, by decide +kernel⟩
theorem fpX0_6 : xPut 0 6 .int := ⟨_, _, _, rfl, rfl, by decide +kernel⟩
theorem fpX1_0 : xPut 1 0 (.object "OnePair$Valley") := ⟨_, _, _, rfl, rfl, by decide +kernel⟩
theorem fpX1_1 : xPut 1 1 (.object "OnePair$Claims") := ⟨_, _, _, rfl, rfl, by decide +kernel⟩
theorem fpX1_2 : xPut 1 2 .int := ⟨_, _, _, rfl, rfl, by decide +kernel⟩
theorem fpX1_3 : xPut 1 3 .int := ⟨_, _, _, rfl, rfl, by decide +kernel⟩
theorem fpX1_4 : xPut 1 4 .int := ⟨_, _, _, rfl, rfl, by decide +kernel⟩
theorem fpX2_0 : xPut 2 0 (.array .byte) := ⟨_, _, _, rfl, rfl, by decide +kernel⟩
theorem fpX2_1 : xPut 2 1 .int := ⟨_, _, _, rfl, rfl, by decide +kernel⟩
theorem fpX2_2 : xPut 2 2 .int := ⟨_, _, _, rfl, rfl, by decide +kernel⟩
theorem fpX2_3 : xPut 2 3 .int := ⟨_, _, _, rfl, rfl, by decide +kernel⟩
theorem fpX2_4 : xPut 2 4 .int := ⟨_, _, _, rfl, rfl, by decide +kernel⟩
theorem fpX2_5 : xPut 2 5 .int := ⟨_, _, _, rfl, rfl, by decide +kernel⟩
theorem fpX2_7 : xPut 2 7 .int := ⟨_, _, _, rfl, rfl, by decide +kernel⟩
theorem fpX2_8 : xPut 2 8 .int := ⟨_, _, _, rfl, rfl, by decide +kernel⟩
theorem fpX3_3 : xPut 3 3 .int := ⟨_, _, _, rfl, rfl, by decide +kernel⟩
theorem fpX4_1 : xPut 4 1 .int := ⟨_, _, _, rfl, rfl, by decide +kernel⟩
theorem fpX4_2 : xPut 4 2 .int := ⟨_, _, _, rfl, rfl, by decide +kernel⟩
theorem fpX4_3 : xPut 4 3 .int := ⟨_, _, _, rfl, rfl, by decide +kernel⟩
theorem fpX5_0 : xPut 5 0 .int := ⟨_, _, _, rfl, rfl, by decide +kernel⟩
theorem fpX5_1 : xPut 5 1 .int := ⟨_, _, _, rfl, rfl, by decide +kernel⟩
theorem fpX5_2 : xPut 5 2 .int := ⟨_, _, _, rfl, rfl, by decide +kernel⟩
theorem fpX5_3 : xPut 5 3 .int := ⟨_, _, _, rfl, rfl, by decide +kernel⟩
theorem fpX6_4 : xPut 6 4 .int := ⟨_, _, _, rfl, rfl, by decide +kernel⟩
theorem fpX7_0 : xPut 7 0 .int := ⟨_, _, _, rfl, rfl, by decide +kernel⟩
theorem fpX7_1 : xPut 7 1 .int := ⟨_, _, _, rfl, rfl, by decide +kernel⟩
theorem fpX7_2 : xPut 7 2 .int := ⟨_, _, _, rfl, rfl, by decide +kernel⟩
theorem fpX7_3 : xPut 7 3 .int := ⟨_, _, _, rfl, rfl, by decide +kernel⟩
theorem fpX7_4 : xPut 7 4 .int := ⟨_, _, _, rfl, rfl, by decide +kernel⟩
theorem fpX8_0 : xPut 8 0 (.object "OnePair$Valley") := ⟨_, _, _, rfl, rfl, by decide +kernel⟩
theorem fpX8_1 : xPut 8 1 .int := ⟨_, _, _, rfl, rfl, by decide +kernel⟩
theorem fpX8_2 : xPut 8 2 .int := ⟨_, _, _, rfl, rfl, by decide +kernel⟩
theorem fpX10_2 : xPut 10 2 .int := ⟨_, _, _, rfl, rfl, by decide +kernel⟩
theorem fpX10_3 : xPut 10 3 .int := ⟨_, _, _, rfl, rfl, by decide +kernel⟩
theorem fpX10_4 : xPut 10 4 .int := ⟨_, _, _, rfl, rfl, by decide +kernel⟩
theorem fpX10_5 : xPut 10 5 .int := ⟨_, _, _, rfl, rfl, by decide +kernel⟩
theorem fpX10_6 : xPut 10 6 .int := ⟨_, _, _, rfl, rfl, by decide +kernel⟩
theorem fpX10_7 : xPut 10 7 .int := ⟨_, _, _, rfl, rfl, by decide +kernel⟩
theorem fpX10_8 : xPut 10 8 .boolean := ⟨_, _, _, rfl, rfl, by decide +kernel⟩
theorem fpX10_10 : xPut 10 10 .int := ⟨_, _, _, rfl, rfl, by decide +kernel⟩
theorem fpX10_11 : xPut 10 11 .int := ⟨_, _, _, rfl, rfl, by decide +kernel⟩
theorem fpX10_12 : xPut 10 12 .int := ⟨_, _, _, rfl, rfl, by decide +kernel⟩
theorem fpX10_13 : xPut 10 13 .int := ⟨_, _, _, rfl, rfl, by decide +kernel⟩
theorem fpX10_15 : xPut 10 15 .int := ⟨_, _, _, rfl, rfl, by decide +kernel⟩
theorem fpX10_16 : xPut 10 16 .int := ⟨_, _, _, rfl, rfl, by decide +kernel⟩
theorem fpX10_22 : xPut 10 22 .int := ⟨_, _, _, rfl, rfl, by decide +kernel⟩
theorem fpX10_23 : xPut 10 23 .int := ⟨_, _, _, rfl, rfl, by decide +kernel⟩
theorem fpX10_26 : xPut 10 26 .int := ⟨_, _, _, rfl, rfl, by decide +kernel⟩
theorem fpX10_27 : xPut 10 27 .int := ⟨_, _, _, rfl, rfl, by decide +kernel⟩
theorem fpX10_28 : xPut 10 28 .boolean := ⟨_, _, _, rfl, rfl, by decide +kernel⟩
theorem fpX10_29 : xPut 10 29 .boolean := ⟨_, _, _, rfl, rfl, by decide +kernel⟩
theorem fpX10_30 : xPut 10 30 .boolean := ⟨_, _, _, rfl, rfl, by decide +kernel⟩
theorem fpX10_31 : xPut 10 31 .boolean := ⟨_, _, _, rfl, rfl, by decide +kernel⟩
theorem fpX10_32 : xPut 10 32 .int := ⟨_, _, _, rfl, rfl, by decide +kernel⟩
theorem fpX10_33 : xPut 10 33 .int := ⟨_, _, _, rfl, rfl, by decide +kernel⟩
theorem fpX10_34 : xPut 10 34 .int := ⟨_, _, _, rfl, rfl, by decide +kernel⟩
theorem fpX10_35 : xPut 10 35 .int := ⟨_, _, _, rfl, rfl, by decide +kernel⟩
theorem fpX10_36 : xPut 10 36 .int := ⟨_, _, _, rfl, rfl, by decide +kernel⟩
theorem fpX10_37 : xPut 10 37 .int := ⟨_, _, _, rfl, rfl, by decide +kernel⟩
theorem fpX10_38 : xPut 10 38 .int := ⟨_, _, _, rfl, rfl, by decide +kernel⟩
theorem fpX10_39 : xPut 10 39 .int := ⟨_, _, _, rfl, rfl, by decide +kernel⟩
theorem fpX10_40 : xPut 10 40 .int := ⟨_, _, _, rfl, rfl, by decide +kernel⟩
theorem fpX10_41 : xPut 10 41 .int := ⟨_, _, _, rfl, rfl, by decide +kernel⟩
theorem fpX10_42 : xPut 10 42 .int := ⟨_, _, _, rfl, rfl, by decide +kernel⟩
theorem fpX10_43 : xPut 10 43 .int := ⟨_, _, _, rfl, rfl, by decide +kernel⟩
theorem fpX10_44 : xPut 10 44 .int := ⟨_, _, _, rfl, rfl, by decide +kernel⟩
theorem trX0_0 {o : Nat} (h : isK o 0) : isA (o + 1) 0 := tA (by decide +kernel) h
theorem trX0_1 {o : Nat} (h : isK o 0) : isA (o + 2) 0 := tA (by decide +kernel) h
theorem trX0_2 {o : Nat} (h : isK o 0) : isA (o + 3) 0 := tA (by decide +kernel) h
theorem trX0_3 {o : Nat} (h : isK o 0) : isA (o + 4) 2 := tA (by decide +kernel) h
theorem trX0_4 {o : Nat} (h : isK o 0) : isA (o + 5) 2 := tA (by decide +kernel) h
theorem trX1_5 {o : Nat} (h : isK o 1) : isA (o + 1) 0 := tA (by decide +kernel) h
theorem trX1_6 {o : Nat} (h : isK o 1) : isA (o + 2) 0 := tA (by decide +kernel) h
theorem trX1_7 {o : Nat} (h : isK o 1) : isA (o + 3) 0 := tA (by decide +kernel) h
theorem trX1_8 {o : Nat} (h : isK o 1) : isA (o + 4) 0 := tA (by decide +kernel) h
theorem trX1_9 {o : Nat} (h : isK o 1) : isA (o + 5) 0 := tA (by decide +kernel) h
theorem trX1_10 {o : Nat} (h : isK o 1) : isA (o + 6) 0 := tA (by decide +kernel) h
theorem trX1_11 {o : Nat} (h : isK o 1) : isA (o + 7) 0 := tA (by decide +kernel) h
theorem trX1_12 {o : Nat} (h : isK o 1) : isA (o + 8) 0 := tA (by decide +kernel) h
theorem trX2_6 {o : Nat} (h : isK o 2) : isA (o + 1) 0 := tA (by decide +kernel) h
theorem trX2_9 {o : Nat} (h : isK o 2) : isK (o + 2) 7 := tK (by decide +kernel) h
theorem trX2_10 {o : Nat} (h : isK o 2) : isK (o + 7) 3 := tK (by decide +kernel) h
theorem trX2_11 {o : Nat} (h : isK o 2) : isK (o + 9) 3 := tK (by decide +kernel) h
theorem trX2_12 {o : Nat} (h : isK o 2) : isK (o + 11) 3 := tK (by decide +kernel) h
theorem trX3_2 {o : Nat} (h : isK o 3) : isA (o + 1) 0 := tA (by decide +kernel) h
theorem trX4_0 {o : Nat} (h : isK o 4) : isA (o + 1) 1 := tA (by decide +kernel) h
theorem trX4_4 {o : Nat} (h : isK o 4) : isA (o + 2) 0 := tA (by decide +kernel) h
theorem trX4_5 {o : Nat} (h : isK o 4) : isRA (o + 3) 7 := tR (by decide +kernel) h
theorem trX4_6 {o : Nat} (h : isK o 4) : isRA (o + 4) 3 := tR (by decide +kernel) h
theorem trX4_7 {o : Nat} (h : isK o 4) : isRA (o + 5) 3 := tR (by decide +kernel) h
theorem trX4_8 {o : Nat} (h : isK o 4) : isRA (o + 6) 3 := tR (by decide +kernel) h
theorem trX5_4 {o : Nat} (h : isK o 5) : isA (o + 1) 0 := tA (by decide +kernel) h
theorem trX6_0 {o : Nat} (h : isK o 6) : isA (o + 1) 0 := tA (by decide +kernel) h
theorem trX6_1 {o : Nat} (h : isK o 6) : isA (o + 2) 0 := tA (by decide +kernel) h
theorem trX6_2 {o : Nat} (h : isK o 6) : isA (o + 3) 0 := tA (by decide +kernel) h
theorem trX6_3 {o : Nat} (h : isK o 6) : isA (o + 4) 0 := tA (by decide +kernel) h
theorem trX6_5 {o : Nat} (h : isK o 6) : isA (o + 5) 3 := tA (by decide +kernel) h
theorem trX7_5 {o : Nat} (h : isK o 7) : isK (o + 1) 3 := tK (by decide +kernel) h
theorem trX7_6 {o : Nat} (h : isK o 7) : isK (o + 3) 3 := tK (by decide +kernel) h
theorem trX8_3 {o : Nat} (h : isK o 8) : isA (o + 1) 0 := tA (by decide +kernel) h
theorem trX8_4 {o : Nat} (h : isK o 8) : isA (o + 2) 0 := tA (by decide +kernel) h
theorem trX9_0 {o : Nat} (h : isK o 9) : isK (o + 1) 4 := tK (by decide +kernel) h
theorem trX9_1 {o : Nat} (h : isK o 9) : isRA (o + 32) 4 := tR (by decide +kernel) h
theorem trX9_2 {o : Nat} (h : isK o 9) : isA (o + 33) 2 := tA (by decide +kernel) h
theorem trX9_3 {o : Nat} (h : isK o 9) : isK (o + 34) 2 := tK (by decide +kernel) h
theorem trX9_4 {o : Nat} (h : isK o 9) : isK (o + 47) 0 := tK (by decide +kernel) h
theorem trX9_5 {o : Nat} (h : isK o 9) : isK (o + 53) 0 := tK (by decide +kernel) h
theorem trX9_6 {o : Nat} (h : isK o 9) : isK (o + 59) 8 := tK (by decide +kernel) h
theorem trX9_7 {o : Nat} (h : isK o 9) : isK (o + 62) 1 := tK (by decide +kernel) h
theorem trX9_8 {o : Nat} (h : isK o 9) : isK (o + 71) 6 := tK (by decide +kernel) h
theorem trX9_9 {o : Nat} (h : isK o 9) : isK (o + 77) 5 := tK (by decide +kernel) h
theorem trX10_0 {o : Nat} (h : isK o 10) : isA (o + 1) 0 := tA (by decide +kernel) h
theorem trX10_1 {o : Nat} (h : isK o 10) : isA (o + 2) 2 := tA (by decide +kernel) h
theorem trX10_9 {o : Nat} (h : isK o 10) : isA (o + 3) 0 := tA (by decide +kernel) h
theorem trX10_14 {o : Nat} (h : isK o 10) : isA (o + 4) 0 := tA (by decide +kernel) h
theorem trX10_17 {o : Nat} (h : isK o 10) : isA (o + 5) 0 := tA (by decide +kernel) h
theorem trX10_18 {o : Nat} (h : isK o 10) : isA (o + 6) 0 := tA (by decide +kernel) h
theorem trX10_19 {o : Nat} (h : isK o 10) : isA (o + 7) 0 := tA (by decide +kernel) h
theorem trX10_20 {o : Nat} (h : isK o 10) : isA (o + 8) 2 := tA (by decide +kernel) h
theorem trX10_21 {o : Nat} (h : isK o 10) : isA (o + 9) 2 := tA (by decide +kernel) h
theorem trX10_24 {o : Nat} (h : isK o 10) : isA (o + 10) 0 := tA (by decide +kernel) h
theorem trX10_25 {o : Nat} (h : isK o 10) : isA (o + 11) 0 := tA (by decide +kernel) h
theorem trX10_45 {o : Nat} (h : isK o 10) : isA (o + 12) 0 := tA (by decide +kernel) h
theorem trX10_46 {o : Nat} (h : isK o 10) : isA (o + 13) 3 := tA (by decide +kernel) h
theorem trX10_47 {o : Nat} (h : isK o 10) : isA (o + 14) 0 := tA (by decide +kernel) h
theorem kcX9_378 : Cond.constant RX9 378 (Int32.ofInt (1103515245)) ∈ xw_T := xinT 1187 (by decide +kernel) (by decide +kernel)
theorem kcX1_126 : Cond.constant RX1 126 (Int32.ofInt (-1000000000)) ∈ xw_T := xinT 1053 (by decide +kernel) (by decide +kernel)
theorem kcX1_144 : Cond.constant RX1 144 (Int32.ofInt (65536)) ∈ xw_T := xinT 1066 (by decide +kernel) (by decide +kernel)
theorem kcX10_75 : Cond.constant RX10 75 (Int32.ofInt (32768)) ∈ xw_T := xinT 1511 (by decide +kernel) (by decide +kernel)
theorem kcX10_318 : Cond.constant RX10 318 (Int32.ofInt (-1000000)) ∈ xw_T := xinT 1761 (by decide +kernel) (by decide +kernel)
theorem kcX10_386 : Cond.constant RX10 386 (Int32.ofInt (1103515245)) ∈ xw_T := xinT 1850 (by decide +kernel) (by decide +kernel)
theorem kcX9_349 : Cond.constantLong RX9 349 (Int64.ofInt (-2)) ∈ xw_T := xinT 1252 (by decide +kernel) (by decide +kernel)
theorem kcX6_104 : Cond.constantLong RX6 104 (Int64.ofInt (1000000000000)) ∈ xw_T := xinT 1264 (by decide +kernel) (by decide +kernel)
theorem kcX10_429 : Cond.constantLong RX10 429 (Int64.ofInt (-2)) ∈ xw_T := xinT 1931 (by decide +kernel) (by decide +kernel)
theorem kcX10_431 : Cond.constantLong RX10 431 (Int64.ofInt (1000000000000)) ∈ xw_T := xinT 1932 (by decide +kernel) (by decide +kernel)
theorem mtX0_58 {fr lo : Nat} (h1 : 1 ≤ fr := by exact Nat.le_of_ble_eq_true rfl) (h2 : 40 ≤ lo := by exact Nat.le_of_ble_eq_true rfl) : xMath RX0 fr lo 58 Lib.Math.min.name := ⟨(xinT 919 (by decide +kernel) (by decide +kernel)), h1, h2⟩
theorem mtX0_70 {fr lo : Nat} (h1 : 1 ≤ fr := by exact Nat.le_of_ble_eq_true rfl) (h2 : 40 ≤ lo := by exact Nat.le_of_ble_eq_true rfl) : xMath RX0 fr lo 70 Lib.Math.max.name := ⟨(xinT 918 (by decide +kernel) (by decide +kernel)), h1, h2⟩
theorem mtX1_115 {fr lo : Nat} (h1 : 1 ≤ fr := by exact Nat.le_of_ble_eq_true rfl) (h2 : 40 ≤ lo := by exact Nat.le_of_ble_eq_true rfl) : xMath RX1 fr lo 115 Lib.Math.max.name := ⟨(xinT 1034 (by decide +kernel) (by decide +kernel)), h1, h2⟩
theorem mtX2_63 {fr lo : Nat} (h1 : 1 ≤ fr := by exact Nat.le_of_ble_eq_true rfl) (h2 : 40 ≤ lo := by exact Nat.le_of_ble_eq_true rfl) : xMath RX2 fr lo 63 Lib.Math.min.name := ⟨(xinT 558 (by decide +kernel) (by decide +kernel)), h1, h2⟩
theorem mtX3_39 {fr lo : Nat} (h1 : 1 ≤ fr := by exact Nat.le_of_ble_eq_true rfl) (h2 : 40 ≤ lo := by exact Nat.le_of_ble_eq_true rfl) : xMath RX3 fr lo 39 Lib.Math.min.name := ⟨(xinT 739 (by decide +kernel) (by decide +kernel)), h1, h2⟩
theorem mtX3_42 {fr lo : Nat} (h1 : 1 ≤ fr := by exact Nat.le_of_ble_eq_true rfl) (h2 : 40 ≤ lo := by exact Nat.le_of_ble_eq_true rfl) : xMath RX3 fr lo 42 arraycopyName := ⟨(xinT 740 (by decide +kernel) (by decide +kernel)), h1, h2⟩
theorem mtX4_51 {fr lo : Nat} (h1 : 1 ≤ fr := by exact Nat.le_of_ble_eq_true rfl) (h2 : 40 ≤ lo := by exact Nat.le_of_ble_eq_true rfl) : xMath RX4 fr lo 51 arraycopyName := ⟨(xinT 812 (by decide +kernel) (by decide +kernel)), h1, h2⟩
theorem mtX4_82 {fr lo : Nat} (h1 : 1 ≤ fr := by exact Nat.le_of_ble_eq_true rfl) (h2 : 40 ≤ lo := by exact Nat.le_of_ble_eq_true rfl) : xMath RX4 fr lo 82 Lib.Math.max.name := ⟨(xinT 745 (by decide +kernel) (by decide +kernel)), h1, h2⟩
theorem mtX6_54 {fr lo : Nat} (h1 : 1 ≤ fr := by exact Nat.le_of_ble_eq_true rfl) (h2 : 40 ≤ lo := by exact Nat.le_of_ble_eq_true rfl) : xMath RX6 fr lo 54 Lib.Math.max.name := ⟨(xinT 1098 (by decide +kernel) (by decide +kernel)), h1, h2⟩
theorem mtX6_106 {fr lo : Nat} (h1 : 1 ≤ fr := by exact Nat.le_of_ble_eq_true rfl) (h2 : 40 ≤ lo := by exact Nat.le_of_ble_eq_true rfl) : xMath RX6 fr lo 106 ⟨"java/lang/Math", "min", "(JJ)J"⟩ := ⟨(xinT 1265 (by decide +kernel) (by decide +kernel)), h1, h2⟩
theorem mtX7_54 {fr lo : Nat} (h1 : 1 ≤ fr := by exact Nat.le_of_ble_eq_true rfl) (h2 : 40 ≤ lo := by exact Nat.le_of_ble_eq_true rfl) : xMath RX7 fr lo 54 Lib.Math.abs.name := ⟨(xinT 772 (by decide +kernel) (by decide +kernel)), h1, h2⟩
theorem mtX7_60 {fr lo : Nat} (h1 : 1 ≤ fr := by exact Nat.le_of_ble_eq_true rfl) (h2 : 40 ≤ lo := by exact Nat.le_of_ble_eq_true rfl) : xMath RX7 fr lo 60 Lib.Math.max.name := ⟨(xinT 775 (by decide +kernel) (by decide +kernel)), h1, h2⟩
theorem mtX8_64 {fr lo : Nat} (h1 : 1 ≤ fr := by exact Nat.le_of_ble_eq_true rfl) (h2 : 40 ≤ lo := by exact Nat.le_of_ble_eq_true rfl) : xMath RX8 fr lo 64 Lib.Math.max.name := ⟨(xinT 836 (by decide +kernel) (by decide +kernel)), h1, h2⟩
theorem mtX9_312 {fr lo : Nat} (h1 : 1 ≤ fr := by exact Nat.le_of_ble_eq_true rfl) (h2 : 40 ≤ lo := by exact Nat.le_of_ble_eq_true rfl) : xMath RX9 fr lo 312 Lib.Math.min.name := ⟨(xinT 984 (by decide +kernel) (by decide +kernel)), h1, h2⟩
theorem mtX9_317 {fr lo : Nat} (h1 : 1 ≤ fr := by exact Nat.le_of_ble_eq_true rfl) (h2 : 40 ≤ lo := by exact Nat.le_of_ble_eq_true rfl) : xMath RX9 fr lo 317 Lib.Math.max.name := ⟨(xinT 985 (by decide +kernel) (by decide +kernel)), h1, h2⟩
