/-! ===== likely ===== -/
noncomputable def stopN (v r : Nat → Int) : Nat := Classical.epsilon (fun k => isStop v r k)
theorem stopN_eq {v r : Nat → Int} {k : Nat} (h : isStop v r k) : stopN v r = k := stop_uniq (Classical.epsilon_spec (p := fun k => isStop v r k) ⟨k, h⟩) h
noncomputable def rS (v r : Nat → Int) : Nat → Int := sta v r (stopN v r)
noncomputable def lkE (v A a : Nat → Int) (i : Nat) : Int := sm (a 0).toNat (exI v (rS v (rOf A i)) a)
noncomputable def lkU (v A a : Nat → Int) (i : Nat) : Int := unA v (rS v (rOf A i)) a (a 0).toNat
def lk (E U : Nat → Int) : Nat → Int × Int × Int
  | 0 => (-1, -1, -1)
  | n + 1 => if (lk E U n).2.1 < E n ∨ (E n = (lk E U n).2.1 ∧ U n < (lk E U n).2.2) then ((n : Int), E n, U n) else lk E U n
theorem lk_pos {E U : Nat → Int} : ∀ n, (∀ i, i < n → 0 ≤ E i) → 1 ≤ n → 0 ≤ (lk E U n).1 := by
  intro n
  induction n with
  | zero => intro _ h; omega
  | succ n ih =>
    intro hE _
    show 0 ≤ (if (lk E U n).2.1 < E n ∨ (E n = (lk E U n).2.1 ∧ U n < (lk E U n).2.2) then ((n : Int), E n, U n) else lk E U n).1
    split
    · show (0 : Int) ≤ (n : Int); omega
    · rename_i h
      by_cases q : n = 0
      · subst q
        exact absurd (Or.inl (by show (-1 : Int) < E 0; have := hE 0 (by omega); omega)) h
      · exact ih (fun i hi => hE i (by omega)) (by omega)
section LIK
variable {F : Mem} {a c : Int}
theorem x_likely (hR : RR F) (ha : 0 ≤ a ∧ a < F 174 0) (hc : 0 ≤ c ∧ c < F 174 3) : ∃ F', fX9_likely 1 a c F = some ((lk (lkE (vOf (F 174) a.toNat) (F 174) (eOf (F 174) c.toNat)) (lkU (vOf (F 174) a.toNat) (F 174) (eOf (F 174) c.toNat)) (F 174 1).toNat).1, F') ∧ kX F F' := by
  obtain ⟨hA, hT, -⟩ := id hR
  obtain ⟨hE, hS, hc2⟩ := e_list hR hc
  have h1 := hA.2.1
  have sh : fX4_sheetAt (1 + 1) 3 c F = some (16 + 9 * c.toNat) := by
    rw [t_sheet hA hT (s := 3) (x := 3) (by omega) (by omega) c rfl, if_pos hc]
    rfl
  have n0 : ¬ 16 + 9 * c.toNat = 0 := by omega
  have hO : VO (vOf (F 174) a.toNat) := hA.2.2.2.2.2.2.1 a.toNat (by have := hA.1; omega)
  generalize hv : vOf (F 174) a.toNat = v at *
  generalize he : eOf (F 174) c.toNat = A at *
  unfold fX9_likely
  rw [sh, Option.bind_some]
  refine lp (fun n k (x : (Int × Int × Int) × Mem) => fX9_likely_b22 n 1 a (16 + 9 * c.toNat) x.1.1 x.1.2.1 x.1.2.2 (k : Int) x.2) (F 174 1).toNat (fun k x => x.1 = lk (lkE v (F 174) A) (lkU v (F 174) A) k ∧ kX F x.2) (fun r => ∃ F', r = some ((lk (lkE v (F 174) A) (lkU v (F 174) A) (F 174 1).toNat).1, F') ∧ kX F F') ?_ ?_ FU 0 ((-1, -1, -1), F) (by omega) ⟨rfl, kX.rf F⟩ (FU_gt (by omega))
  · rintro n k ⟨x, G⟩ hk ⟨rfl, hG⟩
    left
    dsimp only at hG ⊢
    have hRG := hR.x hG
    have eA := RR.A hG
    have b5 := hO.2.2.2.1
    obtain ⟨F', k', w1, w2, w3, w4, -⟩ := x_walked (F := G) hRG (a := a) (b := (k : Int)) (by rw [eA]; exact ha) (by rw [eA]; omega)
    rw [eA, Int.toNat_natCast, hv] at w3 w4
    have es := stopN_eq w3
    have hS' : SR 2 20 A F' (16 + 9 * c.toNat) := hS.mono (fun o j q1 q2 => (w2 o j (by omega)).trans (hG o j (by omega)))
    have w5 : WX v (rS v (rOf (F 174) k)) (2 + 7 + 9 * a.toNat) F' := by unfold rS; rw [es]; exact w4
    have e4 : G 4 1 = F 174 1 := (hG 4 1 (by omega)).trans (hT.2.2.2.2.1 1 (by omega))
    have un : unA v (rS v (rOf (F 174) k)) A (A 0).toNat = sm (v 5).toNat (fun h => sm (v 0).toNat (wrI v (rS v (rOf (F 174) k)) h)) - sm (A 0).toNat (onI v (rS v (rOf (F 174) k)) A) := by
      have u1 := un_tl (S := rS v (rOf (F 174) k)) hO A (A 0).toNat
      rw [tl_all hO (A 0).toNat (fun k hk => by have := hE.2 k (by omega); omega)] at u1
      omega
    have hcn := hE.1
    have B1 := sum_bd48 (N := (v 5).toNat) (B := 9 * 48) (g := fun h => sm (v 0).toNat (wrI v (rS v (rOf (F 174) k)) h)) (by omega) (fun i hi => sum_bd48 (by have := hO.1; omega) (fun j _ => wrI_bd hO (by omega) j))
    have B2 := sum_bd48 (N := (A 0).toNat) (B := 1) (g := onI v (rS v (rOf (F 174) k)) A) (by omega) (fun i hi => by have := onI01 v (rS v (rOf (F 174) k)) A i; omega)
    refine ⟨(lk (lkE v (F 174) A) (lkU v (F 174) A) (k + 1), F'), ⟨rfl, hG.tr w2⟩, ?_⟩
    dsimp only
    generalize hX : lk (lkE v (F 174) A) (lkU v (F 174) A) k = X
    have eX : lk (lkE v (F 174) A) (lkU v (F 174) A) (k + 1) = if X.2.1 < lkE v (F 174) A k ∨ (lkE v (F 174) A k = X.2.1 ∧ lkU v (F 174) A k < X.2.2) then ((k : Int), lkE v (F 174) A k, lkU v (F 174) A k) else X := by
      rw [← hX]; rfl
    rw [eX, fX9_likely_b22, if_neg n0, show alen (1 + 1 + 2) = 4 from rfl, if_pos (by decide), show (1 + 1 + 2 : Nat) = 4 from rfl, e4, if_neg (by omega), w1, Option.bind_some]
    dsimp only
    rw [e11, show (1 + 59 : Nat) = 60 from rfl, x_explained w5 hO hS' n0, x_explained w5 hO hS' n0, x_allWrong w5 hO]
    simp only [Option.bind_some, if_true]
    rw [if_neg (c := (1 : Int) = 0) (by decide), xwn (x := _ - _) (by omega) (by omega), ← un, xwS (by omega)]
    have f1 : sm (A 0).toNat (exI v (rS v (rOf (F 174) k)) A) = lkE v (F 174) A k := rfl
    have f2 : unA v (rS v (rOf (F 174) k)) A (A 0).toNat = lkU v (F 174) A k := rfl
    rw [f1, f2]
    by_cases q1 : X.2.1 < lkE v (F 174) A k
    · rw [if_pos q1, if_pos (Or.inl q1)]
    · rw [if_neg q1]
      by_cases q2 : lkE v (F 174) A k = X.2.1
      · rw [if_neg (c := lkE v (F 174) A k ≠ X.2.1) (fun z => z q2)]
        by_cases q3 : X.2.2 ≤ lkU v (F 174) A k
        · rw [if_pos q3, if_neg (by omega)]
        · rw [if_neg q3, if_pos (Or.inr ⟨q2, by omega⟩)]
      · rw [if_pos (c := lkE v (F 174) A k ≠ X.2.1) q2, if_neg (by rintro (z | z); exact q1 z; exact q2 z.1)]
  · rintro n ⟨x, G⟩ ⟨rfl, hG⟩
    dsimp only at hG ⊢
    have e4 : G 4 1 = F 174 1 := (hG 4 1 (by omega)).trans (hT.2.2.2.2.1 1 (by omega))
    refine ⟨G, ?_, hG⟩
    rw [fX9_likely_b22, if_neg n0, show alen (1 + 1 + 2) = 4 from rfl, if_pos (by decide), show (1 + 1 + 2 : Nat) = 4 from rfl, e4, if_pos (by omega)]
theorem m_likely (hR : RR F) (ha : 0 ≤ a ∧ a < F 174 0) (hc : 0 ≤ c ∧ c < F 174 3) : ∃ F', fX10_likely 173 a c F = some ((lk (lkE (vOf (F 174) a.toNat) (F 174) (eOf (F 174) c.toNat)) (lkU (vOf (F 174) a.toNat) (F 174) (eOf (F 174) c.toNat)) (F 174 1).toNat).1, F') ∧ kM F F' := by
  obtain ⟨hA, hT, -, h11, h12, h13⟩ := id hR
  obtain ⟨hE, hS, hc2⟩ := e_list hR hc
  have h1 := hA.2.1
  obtain ⟨hM, hO⟩ := m_valleyMV hA ha
  generalize hF0 : mset F 173 10 (610 + 58 * a) = F0 at hM
  have k0 : kM F F0 := by rw [← hF0]; exact kM_v0 _ _
  have e0 : F0 174 = F 174 := funext fun j => k0.1 174 j (by omega)
  have hA0 : AO (F0 174) := by rw [e0]; exact hA
  have LAk : ∀ G : Mem, G 174 = F 174 → LA (eOf (F 174) c.toNat) c.toNat G := fun G hG => e_la hR hc hG
  generalize hv : vOf (F 174) a.toNat = v at *
  generalize he : eOf (F 174) c.toNat = A at *
  have b5 := hO.2.2.2.1
  have hcn := hE.1
  unfold fX10_likely
  rw [m_valley hA, if_pos ha, Option.bind_some]
  dsimp only
  rw [hF0, if_neg (c := (1 : Int) = 0) (by decide), m_isOf hA0 (s := 3) (x := 3) (by omega) c rfl, e0, if_pos hc, Option.bind_some, if_pos (c := (1 : Int) ≠ 0) (by decide)]
  obtain ⟨nc, rfl⟩ := nat_of hc.1
  rw [Int.toNat_natCast] at *
  have hE0 : ∀ i, 0 ≤ lkE v (F 174) A i := fun i => sm_nn _ (fun k _ => by have := exI01 v (rS v (rOf (F 174) i)) A k; omega)
  refine lp (fun n k (x : (Int × Int × Int) × Mem) => fX10_likely_b30 n 173 (nc : Int) x.1.1 x.1.2.1 x.1.2.2 (k : Int) x.2) (F 174 1).toNat (fun k x => ((k = 0 ∧ x.1 = (-1, 0, 0)) ∨ (1 ≤ k ∧ x.1 = lk (lkE v (F 174) A) (lkU v (F 174) A) k)) ∧ kM F x.2 ∧ MV v x.2) (fun r => ∃ F', r = some ((lk (lkE v (F 174) A) (lkU v (F 174) A) (F 174 1).toNat).1, F') ∧ kM F F') ?_ ?_ FU 0 ((-1, 0, 0), F0) (by omega) ⟨Or.inl ⟨rfl, rfl⟩, k0, hM⟩ (FU_gt (by omega))
  · rintro n k ⟨x, G⟩ hk ⟨hx, hG, hMG⟩
    left
    dsimp only at hx hG hMG ⊢
    have eA : G 174 = F 174 := funext fun j => hG.1 174 j (by omega)
    have hRO := hA.2.2.2.2.2.2.2.1 k (by omega)
    obtain ⟨G', k', w1, w2, w3, w4, w5, w6, w7⟩ := m_goes (F := G) (i := k) (r := rOf (F 174) k) hMG hO (by omega) (by rw [eA]) hRO (hG.2.2.1.trans h12)
    have es := stopN_eq w2
    have hM' : MV v G' := hMG.mono (w7 10 (by omega) (by omega)) (fun j => w6 174 j (by omega) (by omega))
    have hG' : kM F G' := hG.tr ⟨fun o j h => w6 o j (by omega) (by omega), w7 11 (by omega) (by omega), w7 12 (by omega) (by omega), w7 13 (by omega) (by omega)⟩
    have hX' : MX v (rS v (rOf (F 174) k)) G' := by
      unfold rS
      rw [es]
      exact ⟨hM', hG'.2.1.trans h11, hG'.2.2.2.trans h13, w5⟩
    have eA' : G' 174 = F 174 := funext fun j => hG'.1 174 j (by omega)
    have hL := LAk G' eA'
    refine ⟨(lk (lkE v (F 174) A) (lkU v (F 174) A) (k + 1), G'), ⟨Or.inr ⟨by omega, rfl⟩, hG', hM'⟩, ?_⟩
    dsimp only
    have f1 : sm (A 0).toNat (exI v (rS v (rOf (F 174) k)) A) = lkE v (F 174) A k := rfl
    have f2 : unA v (rS v (rOf (F 174) k)) A (A 0).toNat = lkU v (F 174) A k := rfl
    have e1 : G 174 1 = F 174 1 := by rw [eA]
    rw [fX10_likely_b30, al174, if_pos (by decide), show (173 + 1 : Nat) = 174 from rfl, e1, if_neg (by omega), w1, Option.bind_some, m_explained hX' hO hL, Option.bind_some, m_untold hX' hO hL, Option.bind_some, f1, f2, xwS (by omega)]
    rcases hx with ⟨rfl, rfl⟩ | ⟨hk1, rfl⟩
    · have eX : lk (lkE v (F 174) A) (lkU v (F 174) A) (0 + 1) = (((0 : Nat) : Int), lkE v (F 174) A 0, lkU v (F 174) A 0) := by
        exact if_pos (Or.inl (Int.lt_of_lt_of_le (show (-1 : Int) < 0 by decide) (hE0 0)))
      rw [eX, if_pos (by decide)]
    · have hp := lk_pos (E := lkE v (F 174) A) (U := lkU v (F 174) A) k (fun i _ => hE0 i) hk1
      generalize hX : lk (lkE v (F 174) A) (lkU v (F 174) A) k = X at *
      have eX : lk (lkE v (F 174) A) (lkU v (F 174) A) (k + 1) = if X.2.1 < lkE v (F 174) A k ∨ (lkE v (F 174) A k = X.2.1 ∧ lkU v (F 174) A k < X.2.2) then ((k : Int), lkE v (F 174) A k, lkU v (F 174) A k) else X := by
        rw [← hX]; rfl
      rw [eX, if_neg (by omega)]
      by_cases q1 : lkE v (F 174) A k < X.2.1
      · rw [if_pos q1, if_neg (by omega)]
      · rw [if_neg q1]
        by_cases q2 : lkE v (F 174) A k = X.2.1
        · rw [if_neg (c := lkE v (F 174) A k ≠ X.2.1) (fun z => z q2)]
          by_cases q3 : lkU v (F 174) A k < X.2.2
          · rw [if_pos q3, if_pos (Or.inr ⟨q2, q3⟩)]
          · rw [if_neg q3, if_neg (by omega)]
        · rw [if_pos (c := lkE v (F 174) A k ≠ X.2.1) q2, if_pos (by omega)]
  · rintro n ⟨x, G⟩ ⟨hx, hG, hMG⟩
    dsimp only at hx hG hMG ⊢
    have eA : G 174 = F 174 := funext fun j => hG.1 174 j (by omega)
    have e1 : G 174 1 = F 174 1 := by rw [eA]
    refine ⟨G, ?_, hG⟩
    rw [fX10_likely_b30, al174, if_pos (by decide), show (173 + 1 : Nat) = 174 from rfl, e1, if_pos (by omega)]
    rcases hx with ⟨h0, rfl⟩ | ⟨hk1, rfl⟩
    · rw [h0]; rfl
    · rfl
end LIK
theorem pc_likely (a b : Int) : pcase RR gX9_likely gX10_likely [vI a, vI b] := by
  intro F hR hm
  obtain ⟨hA, hT, -⟩ := id hR
  by_cases hb : 0 ≤ b ∧ b < F 174 3
  · by_cases ha : 0 ≤ a ∧ a < F 174 0
    · obtain ⟨F1, x1, x2⟩ := x_likely hR ha hb
      have hR1 := hR.x x2
      have eA := RR.A x2
      obtain ⟨F2, y1, y2⟩ := m_likely hR1 (a := a) (c := b) (by rw [eA]; exact ha) (by rw [eA]; exact hb)
      rw [eA] at y1
      exact ⟨_, F1, F2, ⟨1, a, b, _, rfl, k9, x1, rfl, rfl⟩, ⟨173, a, b, _, rfl, k10, y1, rfl, rfl⟩, hR.step x2 y2⟩
    · have n0 : ¬ 16 + 9 * b.toNat = 0 := by omega
      refine ⟨-1, F, F, ⟨1, a, b, (-1, F), rfl, k9, ?_, rfl, rfl⟩, ⟨173, a, b, (-1, F), rfl, k10, ?_, rfl, rfl⟩, hR⟩
      · have sh : fX4_sheetAt (1 + 1) 3 b F = some (16 + 9 * b.toNat) := by
          rw [t_sheet hA hT (s := 3) (x := 3) (by omega) (by omega) b rfl, if_pos hb]
          rfl
        unfold fX9_likely
        rw [sh, Option.bind_some]
        show fX9_likely_b22 (99999 + 1) 1 a (16 + 9 * b.toNat) (-1) (-1) (-1) 0 F = _
        rw [fX9_likely_b22, if_neg n0, show alen (1 + 1 + 2) = 4 from rfl, if_pos (by decide)]
        split
        · rfl
        · rw [x_walkedN hR (fun z => ha z.1), Option.bind_some]
          dsimp only
          rw [e01]
      · unfold fX10_likely
        rw [m_valley hA, if_neg ha, Option.bind_some]
        dsimp only
        rw [e00]
  · have X : fX9_likely 1 a b F = some (-1, F) := by
      unfold fX9_likely
      rw [t_sheet hA hT (s := 3) (x := 3) (by omega) (by omega) b rfl, if_neg hb, Option.bind_some]
      show fX9_likely_b22 (99999 + 1) 1 a 0 (-1) (-1) (-1) 0 F = _
      rw [fX9_likely_b22, if_pos rfl]
    by_cases ha : 0 ≤ a ∧ a < F 174 0
    · obtain ⟨hM, hO⟩ := m_valleyMV hA ha
      have k0 := kM_v0 F (610 + 58 * a)
      have e0 : (mset F 173 10 (610 + 58 * a)) 174 = F 174 := funext fun j => k0.1 174 j (by omega)
      refine ⟨-1, F, _, ⟨1, a, b, _, rfl, k9, X, rfl, rfl⟩, ⟨173, a, b, (-1, mset F 173 10 (610 + 58 * a)), rfl, k10, ?_, rfl, rfl⟩, hR.step (kX.rf F) k0⟩
      unfold fX10_likely
      rw [m_valley hA, if_pos ha, Option.bind_some]
      dsimp only
      rw [if_neg (c := (1 : Int) = 0) (by decide), m_isOf (F := mset F 173 10 (610 + 58 * a)) (by rw [e0]; exact hA) (s := 3) (x := 3) (by omega) b rfl, e0, if_neg hb, Option.bind_some, if_neg (c := (0 : Int) ≠ 0) (by decide)]
    · refine ⟨-1, F, F, ⟨1, a, b, _, rfl, k9, X, rfl, rfl⟩, ⟨173, a, b, (-1, F), rfl, k10, ?_, rfl, rfl⟩, hR⟩
      unfold fX10_likely
      rw [m_valley hA, if_neg ha, Option.bind_some]
      dsimp only
      rw [e00]
