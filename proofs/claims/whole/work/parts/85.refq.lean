/-! ===== the reference's plan ===== -/
/-- the must of a slot, as the reference's questions stand -/
def mMb (v : Nat → Int) (F : Mem) (s : Nat) : Int := if F 173 29 = 0 then -1 else muD v s
def mMu (v : Nat → Int) (F : Mem) (s : Nat) : Int := if F 173 32 = -1 ∨ ¬ (F 173 33 ≤ (s : Int) ∧ (s : Int) < F 173 34) then mMb v F s else mad (mMb v F s) (F 173 32)
/-- the gain, as the reference's questions stand -/
def mGn (v : Nat → Int) (F : Mem) (s h : Nat) : Int :=
  if mkd v F h = 0 ∨ (F 173 30 ≠ 0 ∧ mkd v F h ≠ 1) then 0
  else if ¬ (mkd v F h ≠ 3 ∨ (v 2 ≤ ((s % (v 0).toNat : Nat) : Int) ∧ ((s % (v 0).toNat : Nat) : Int) < v 3)) then 0
  else if ¬ (F 179 (48 * (((F 173 26).toNat + s / (v 0).toNat) % 7) + s % (v 0).toNat) = -1 ∨ F 179 (48 * (((F 173 26).toNat + s / (v 0).toNat) % 7) + s % (v 0).toNat) = (h : Int)) then 0
  else if (F 173 36 ≤ (s : Int) ∧ (s : Int) < F 173 37) ∧ (F 173 35 = -1 ∨ F 173 35 = (h : Int)) then 0
  else rt v (F 173 28) h
/-- the reference's questions are in order -/
def QO (F : Mem) : Prop := (0 ≤ F 173 26 ∧ F 173 26 ≤ 6) ∧ (F 173 32 = -1 ∨ ((0 ≤ F 173 33 ∧ F 173 33 ≤ 1000) ∧ (0 ≤ F 173 34 ∧ F 173 34 ≤ 1000))) ∧ ((0 ≤ F 173 36 ∧ F 173 36 ≤ 1000) ∧ (0 ≤ F 173 37 ∧ F 173 37 ≤ 1000))
/-- alike in all that a question reads -/
def sameQ (F G : Mem) : Prop := (∀ k, k < 27 ∨ (27 < k ∧ k < 38) → G 173 k = F 173 k) ∧ (∀ k, G 174 k = F 174 k) ∧ (∀ k, G 179 k = F 179 k)
theorem sameQ.rf (F : Mem) : sameQ F F := ⟨fun _ _ => rfl, fun _ => rfl, fun _ => rfl⟩
theorem sameQ.tr {F G H : Mem} (h1 : sameQ F G) (h2 : sameQ G H) : sameQ F H := ⟨fun k a => (h2.1 k a).trans (h1.1 k a), fun k => (h2.2.1 k).trans (h1.2.1 k), fun k => (h2.2.2 k).trans (h1.2.2 k)⟩
section RFQ
variable {v : Nat → Int} {F G : Mem}
theorem sq_mkd (h : sameQ F G) (k : Nat) : mkd v G k = mkd v F k := by
  unfold mkd
  rw [h.1 11 (by omega), h.1 13 (by omega)]
theorem sq_mu (h : sameQ F G) (s : Nat) : mMu v G s = mMu v F s := by
  unfold mMu mMb
  rw [h.1 32 (by omega), h.1 33 (by omega), h.1 34 (by omega), h.1 29 (by omega)]
theorem sq_gn (h : sameQ F G) (s k : Nat) : mGn v G s k = mGn v F s k := by
  unfold mGn
  rw [sq_mkd h, h.1 30 (by omega), h.1 26 (by omega), h.1 36 (by omega), h.1 37 (by omega), h.1 35 (by omega), h.1 28 (by omega), h.2.2]
theorem sq_pc (h : sameQ F G) : mpc v G = mpc v F := by
  unfold mpc
  rw [h.1 12 (by omega)]
theorem sq_QO (h : sameQ F G) (hQ : QO F) : QO G := by
  unfold QO at *
  rw [h.1 26 (by omega), h.1 32 (by omega), h.1 33 (by omega), h.1 34 (by omega), h.1 36 (by omega), h.1 37 (by omega)]
  exact hQ
theorem sq_MV (h : sameQ F G) (hM : MV v F) : MV v G := hM.mono (h.1 10 (by omega)) h.2.1
theorem dnn {p : Prop} (a : p) : ¬ ¬ p := fun b => b a
theorem tmod_nat (a b : Nat) : Int.tmod (a : Int) (b : Int) = ((a % b : Nat) : Int) := (Int.ofNat_tmod a b).symm
theorem m_mustIn (hM : MV v F) (hO : VO v) (hQ : QO F) {s : Nat} (hs : s ≤ 1000) : fX10_mustIn 173 (s : Int) F = some (mMu v F s) := by
  have b0 := hO.1
  have b6 := hO.2.2.2.2.1
  obtain ⟨n, en⟩ := nat_of (show 0 ≤ v 0 by omega)
  have hn : (v 0).toNat = n := by omega
  have B : ∀ x : Int, fX10_mustIn_b92 F 173 (s : Int) x = some (if F 173 32 = -1 ∨ ¬ (F 173 33 ≤ (s : Int) ∧ (s : Int) < F 173 34) then x else mad x (F 173 32)) := by
    intro x
    unfold fX10_mustIn_b92
    by_cases q : F 173 32 = -1
    · rw [if_pos q, if_pos (Or.inl q)]
    · rcases hQ.2.1 with w | ⟨w1, w2⟩
      · exact absurd w q
      · rw [if_neg q, m_isIn, xwn (x := F 173 34 - 1) (by omega) (by omega), i10]
        by_cases q2 : F 173 33 ≤ (s : Int) ∧ (s : Int) < F 173 34
        · rw [if_pos (show F 173 33 ≤ (s : Int) ∧ (s : Int) ≤ F 173 34 - 1 by omega), if_neg (show ¬ (F 173 32 = -1 ∨ ¬ (F 173 33 ≤ (s : Int) ∧ (s : Int) < F 173 34)) from fun z => z.elim q (fun y => y q2))]
          unfold mad
          by_cases q3 : x = -1
          · rw [if_pos q3, if_pos (Or.inl q3)]
          · rw [if_neg q3]
            by_cases q4 : x = F 173 32
            · rw [if_neg (fun z => z q4), if_pos (Or.inr q4)]
            · rw [if_pos q4, if_neg (fun z => z.elim q3 q4)]
        · rw [if_neg (show ¬ (F 173 33 ≤ (s : Int) ∧ (s : Int) ≤ F 173 34 - 1) by omega), if_pos (Or.inr q2)]
  unfold fX10_mustIn
  rw [m_of hM (i := 0) (x := 0) rfl (by omega), Option.bind_some, if_neg (show ¬ v 0 = 0 by omega), en, tmod_nat]
  unfold mMu mMb muD
  rw [hn]
  generalize hx : s % n = x
  have hx48 : x < 48 := by rw [← hx]; have := Nat.mod_lt s (show 0 < n by omega); omega
  clear hx
  by_cases c29 : F 173 29 = 0
  · rw [if_pos c29]
    show fX10_mustIn_b13 F (99999 + 1) 173 (s : Int) (-1) (x : Int) 0 = _
    rw [fX10_mustIn_b13, m_of hM (i := 6) (x := 6) rfl (by omega), Option.bind_some, B, if_pos c29]
    split <;> rfl
  · rw [if_neg c29]
    refine lp (fun m k y => fX10_mustIn_b13 F m 173 (s : Int) y (x : Int) (k : Int)) (v 6).toNat (fun k y => y = muK v (x : Int) k) (fun r => r = some (if F 173 32 = -1 ∨ ¬ (F 173 33 ≤ (s : Int) ∧ (s : Int) < F 173 34) then muK v (x : Int) (v 6).toNat else mad (muK v (x : Int) (v 6).toNat) (F 173 32))) ?_ ?_ FU 0 (-1) (by omega) rfl (FU_gt (by omega))
    · rintro m k y hk rfl
      left
      refine ⟨_, rfl, ?_⟩
      have hk6 : (k : Int) < v 6 := by omega
      have n6 : ¬ v 6 ≤ (k : Int) := by omega
      have hk1 : k < 2147483647 := by omega
      have hm := hO.2.2.2.2.2.2 k hk6
      have c0 := m_must0 hM (h := k) (by omega)
      have c1 := m_must hM (h := k) (i := 1) (y := 1) (by omega) (by omega) rfl
      have c2 := m_must hM (h := k) (i := 2) (y := 2) (by omega) (by omega) rfl
      have e : muK v (x : Int) (k + 1) = if v (40 + 3 * k + 1) ≤ (x : Int) ∧ (x : Int) < v (40 + 3 * k + 2) then mad (muK v (x : Int) k) (v (40 + 3 * k)) else muK v (x : Int) k := rfl
      have w1 : xw (v (40 + 3 * k + 2) - 1) = v (40 + 3 * k + 2) - 1 := xwn (by omega) (by omega)
      have cond : (v (40 + 3 * k + 1) ≤ (x : Int) ∧ (x : Int) ≤ v (40 + 3 * k + 2) - 1) ↔ (v (40 + 3 * k + 1) ≤ (x : Int) ∧ (x : Int) < v (40 + 3 * k + 2)) := ⟨fun z => ⟨z.1, Int.lt_of_le_sub_one z.2⟩, fun z => ⟨z.1, Int.le_sub_one_of_lt z.2⟩⟩
      rw [e]
      generalize muK v (x : Int) k = y
      show fX10_mustIn_b13 F (m + 1) 173 (s : Int) y (x : Int) (k : Int) = _
      have E73 : fX10_mustIn_b73 F (fX10_mustIn_b13 F m) 173 (s : Int) (x : Int) (k : Int) = fX10_mustIn_b13 F m 173 (s : Int) (v (40 + 3 * k)) (x : Int) ((k + 1 : Nat) : Int) := by
        unfold fX10_mustIn_b73
        rw [c0, Option.bind_some, xwS hk1]
      rw [fX10_mustIn_b13, m_of hM (i := 6) (x := 6) rfl (by omega), Option.bind_some, if_neg n6, if_neg c29, c1, Option.bind_some, c2, Option.bind_some, w1, m_isIn, i11, E73, c0, Option.bind_some, xwS hk1]
      by_cases q : v (40 + 3 * k + 1) ≤ (x : Int) ∧ (x : Int) < v (40 + 3 * k + 2)
      · rw [if_pos (cond.mpr q), if_pos q]
        unfold mad
        by_cases q3 : y = -1
        · rw [if_pos q3, if_pos (Or.inl q3)]
        · rw [if_neg q3]
          by_cases q4 : y = v (40 + 3 * k)
          · rw [if_neg (fun z => z q4), if_pos (Or.inr q4)]
          · rw [if_pos q4, if_neg (fun z => z.elim q3 q4)]
      · rw [if_neg (fun z => q (cond.mp z)), if_neg q]
    · rintro m y rfl
      have n6 : v 6 ≤ (((v 6).toNat : Nat) : Int) := by omega
      show fX10_mustIn_b13 F (m + 1) 173 (s : Int) _ (x : Int) (((v 6).toNat : Nat) : Int) = _
      rw [fX10_mustIn_b13, m_of hM (i := 6) (x := 6) rfl (by omega), Option.bind_some, if_pos n6, B]
theorem al179 : alen (173 + 6) = 336 := rfl
theorem m_mayI {d x : Nat} (hd : d < 7) (hx : x < 48) (h : Int) : fX10_may 173 h (d : Int) (x : Int) F = some (if F 179 (48 * d + x) = -1 ∨ F 179 (48 * d + x) = h then 1 else 0) := by
  have w : xw (xw (48 * (d : Int)) + (x : Int)) = ((48 * d + x : Nat) : Int) := by rw [xwn (x := 48 * (d : Int)) (by omega) (by omega), xwn (by omega) (by omega)]; omega
  have b := b336 (show 48 * d + x < 336 by omega)
  unfold fX10_may
  rw [w, al179]
  simp only [if_pos b, Int.toNat_natCast, Nat.reduceAdd]
  by_cases q : F 179 (48 * d + x) = -1
  · rw [if_pos q, if_pos (Or.inl q)]
  · rw [if_neg q]
    by_cases q2 : F 179 (48 * d + x) = h
    · rw [if_neg (fun z => z q2), if_pos (Or.inr q2)]
    · rw [if_pos q2, if_neg (fun z => z.elim q q2)]
theorem m_gainIn (hM : MV v F) (hO : VO v) (hQ : QO F) {s h : Nat} (hs : s ≤ 1000) (hh : (h : Int) < v 5) : fX10_gainIn 173 (h : Int) (s : Int) F = some (mGn v F s h) := by
  have b0 := hO.1
  have b5 := hO.2.2.2.1
  have h8 : h < 8 := by omega
  obtain ⟨n, en⟩ := nat_of (show 0 ≤ v 0 by omega)
  have hn : (v 0).toNat = n := by omega
  obtain ⟨d0, ed⟩ := nat_of hQ.1.1
  have hd0 : (F 173 26).toNat = d0 := by omega
  have hd06 : d0 ≤ 6 := by have := hQ.1.2; omega
  have hs48 : s % n < 48 := by have := Nat.mod_lt s (show 0 < n by omega); omega
  have hdv : s / n ≤ 1000 := Nat.le_trans (Nat.div_le_self s n) hs
  have hm7 : (d0 + s / n) % 7 < 7 := Nat.mod_lt _ (by decide)
  have hb1 : d0 + s / n < 2147483648 := by omega
  have hb2 : s / n < 2147483648 := by omega
  have v00 : ¬ v 0 = 0 := by omega
  have q37 := hQ.2.2
  have w37 : xw (F 173 37 - 1) = F 173 37 - 1 := xwn (by omega) (by omega)
  have cond : (F 173 36 ≤ (s : Int) ∧ (s : Int) ≤ F 173 37 - 1) ↔ (F 173 36 ≤ (s : Int) ∧ (s : Int) < F 173 37) := ⟨fun z => ⟨z.1, Int.lt_of_le_sub_one z.2⟩, fun z => ⟨z.1, Int.le_sub_one_of_lt z.2⟩⟩
  have wd : xw (Int.tdiv (s : Int) (n : Int)) = ((s / n : Nat) : Int) := by
    rw [show Int.tdiv (s : Int) (n : Int) = ((s / n : Nat) : Int) from (Int.ofNat_tdiv s n).symm]
    exact xwN hb2
  have wd2 : xw ((d0 : Int) + ((s / n : Nat) : Int)) = ((d0 + s / n : Nat) : Int) := xwA hb1
  have E31 : fX10_gainIn_b31 F 173 (h : Int) (s : Int) ((s % n : Nat) : Int) = some (if ¬ (mkd v F h = 0 ∨ (mkd v F h ≠ 3 ∨ (v 2 ≤ ((s % n : Nat) : Int) ∧ ((s % n : Nat) : Int) < v 3))) then 0 else if ¬ (F 179 (48 * ((d0 + s / n) % 7) + s % n) = -1 ∨ F 179 (48 * ((d0 + s / n) % 7) + s % n) = (h : Int)) then 0 else if (F 173 36 ≤ (s : Int) ∧ (s : Int) < F 173 37) ∧ (F 173 35 = -1 ∨ F 173 35 = (h : Int)) then 0 else rt v (F 173 28) h) := by
    have r0 : fX10_gainIn_b107 F 173 (h : Int) 0 = some (rt v (F 173 28) h) := by
      unfold fX10_gainIn_b107
      rw [if_pos rfl, m_rate hM hO _ hh, Option.bind_some]
    have r1 : fX10_gainIn_b107 F 173 (h : Int) 1 = some 0 := if_neg (by decide)
    have t7 : Int.tmod ((d0 + s / n : Nat) : Int) 7 = (((d0 + s / n) % 7 : Nat) : Int) := tmod_nat _ 7
    unfold fX10_gainIn_b31
    rw [m_sees hM h8, Option.bind_some, i10, m_of hM (i := 0) (x := 0) rfl (by omega), Option.bind_some, if_neg v00, en, wd, ed, wd2, t7, m_mayI hm7 hs48, Option.bind_some, i11, w37, m_isIn, i10, r0, r1]
    by_cases q1 : mkd v F h = 0 ∨ (mkd v F h ≠ 3 ∨ (v 2 ≤ ((s % n : Nat) : Int) ∧ ((s % n : Nat) : Int) < v 3))
    · rw [if_pos (q1.imp id (fun z => ⟨by decide, z⟩)), if_neg (dnn q1)]
      by_cases q2 : F 179 (48 * ((d0 + s / n) % 7) + s % n) = -1 ∨ F 179 (48 * ((d0 + s / n) % 7) + s % n) = (h : Int)
      · rw [if_pos q2, if_neg (dnn q2)]
        by_cases q3 : F 173 36 ≤ (s : Int) ∧ (s : Int) < F 173 37
        · rw [if_pos (cond.mpr q3)]
          by_cases q4 : F 173 35 = -1
          · rw [if_pos q4, if_pos ⟨q3, Or.inl q4⟩]
          · rw [if_neg q4]
            by_cases q5 : F 173 35 = (h : Int)
            · rw [if_neg (fun z => z q5), if_pos ⟨q3, Or.inr q5⟩]
            · rw [if_pos q5, if_neg (fun z => z.2.elim q4 q5)]
        · rw [if_neg (fun z => q3 (cond.mp z)), if_neg (fun z => q3 z.1)]
      · rw [if_neg q2, if_pos q2]
    · rw [if_neg (show ¬ (mkd v F h = 0 ∨ ((1 : Int) ≠ 0 ∧ (mkd v F h ≠ 3 ∨ (v 2 ≤ ((s % n : Nat) : Int) ∧ ((s % n : Nat) : Int) < v 3)))) from fun z => q1 (z.imp id (fun y => y.2))), if_pos q1]
  unfold fX10_gainIn
  rw [m_kind hM h8, Option.bind_some, m_of hM (i := 0) (x := 0) rfl (by omega), Option.bind_some, if_neg v00, en, tmod_nat, E31]
  unfold mGn
  rw [hn, hd0]
  by_cases q1 : mkd v F h = 0
  · rw [if_pos q1, if_pos (Or.inl q1)]
  · have eq : (mkd v F h = 0 ∨ (mkd v F h ≠ 3 ∨ (v 2 ≤ ((s % n : Nat) : Int) ∧ ((s % n : Nat) : Int) < v 3))) ↔ (mkd v F h ≠ 3 ∨ (v 2 ≤ ((s % n : Nat) : Int) ∧ ((s % n : Nat) : Int) < v 3)) := ⟨fun z => z.elim (fun y => absurd y q1) id, Or.inr⟩
    rw [if_neg q1]
    by_cases q2 : F 173 30 = 0
    · have nq : ¬ (mkd v F h = 0 ∨ (F 173 30 ≠ 0 ∧ mkd v F h ≠ 1)) := fun z => z.elim q1 (fun y => y.1 q2)
      rw [if_pos q2, if_neg nq]
      by_cases q3 : mkd v F h ≠ 3 ∨ (v 2 ≤ ((s % n : Nat) : Int) ∧ ((s % n : Nat) : Int) < v 3)
      · rw [if_neg (dnn (eq.mpr q3)), if_neg (dnn q3)]
      · have nq3 : ¬ (mkd v F h = 0 ∨ (mkd v F h ≠ 3 ∨ (v 2 ≤ ((s % n : Nat) : Int) ∧ ((s % n : Nat) : Int) < v 3))) := fun z => q3 (eq.mp z)
        rw [if_pos nq3, if_pos q3]
    · rw [if_neg q2]
      by_cases q4 : mkd v F h = 1
      · have nq : ¬ (mkd v F h = 0 ∨ (F 173 30 ≠ 0 ∧ mkd v F h ≠ 1)) := fun z => z.elim q1 (fun y => y.2 q4)
        rw [if_neg (dnn q4), if_neg nq]
        by_cases q3 : mkd v F h ≠ 3 ∨ (v 2 ≤ ((s % n : Nat) : Int) ∧ ((s % n : Nat) : Int) < v 3)
        · rw [if_neg (dnn (eq.mpr q3)), if_neg (dnn q3)]
        · have nq3 : ¬ (mkd v F h = 0 ∨ (mkd v F h ≠ 3 ∨ (v 2 ≤ ((s % n : Nat) : Int) ∧ ((s % n : Nat) : Int) < v 3))) := fun z => q3 (eq.mp z)
          rw [if_pos nq3, if_pos q3]
      · have nq : mkd v F h = 0 ∨ (F 173 30 ≠ 0 ∧ mkd v F h ≠ 1) := Or.inr ⟨q2, q4⟩
        rw [if_pos q4, if_pos nq]
end RFQ
