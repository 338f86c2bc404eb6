/-! ===== deal, the class, all slots ===== -/
theorem xwM {f j N : Nat} (h : f + 1 + j = N) (hN : N ≤ 1000) : xw ((f : Int) + (-1)) = (N : Int) - 1 - ((j + 1 : Nat) : Int) := by rw [xwn (by omega) (by omega)]; omega
theorem xwM0 {x : Int} {N : Nat} (h : x = (N : Int)) (hN : N ≤ 1000) : xw (x - 1) = (N : Int) - 1 - ((0 : Nat) : Int) := by rw [xwn (by omega) (by omega)]; omega
section DLO
variable {v hd : Nat → Int} {V day : Nat} {F : Mem}
theorem c_deal (hC : CSV v hd V day 1 0 0 F) (hne : yD v hd day ≠ BD) {one : Int} {two : Nat} (htwo : (two : Int) < v 5) : ∃ F', fX5_findDeal 78 63 (gof (yD v hd day)) one (two : Int) F = some F' ∧ isBD (v 0).toNat (fun f => (dlM v hd day one (two : Int) f).1) (fun f => (dlM v hd day one (two : Int) f).2) (F' 78 2) (F' 78 0) (F' 78 1) ∧ (∀ o k, o ≠ 71 → o ≠ 78 → F' o k = F o k) := by
  have hO := hC.1.1.1.2.2.2.2
  have b0 := hO.1
  have hd7 := hC.1.1.2.2.2.2.2.1.1
  have h48 : (v 0).toNat ≤ 48 := by omega
  have n63 : ¬ (63 : Nat) = 0 := by decide
  have hW := insD_WF (hd := hd) (day := day) hO (show 1 ≤ 7 by decide) 0 0
  generalize hF1 : mset (mset (mset F 78 0 (-1)) 78 1 (-1)) 78 2 0 = F1
  have f1 : ∀ o k, o ≠ 78 → F1 o k = F o k := fun o k ho => by rw [← hF1, mset_ne _ _ (by omega), mset_ne _ _ (by omega), mset_ne _ _ (by omega)]
  have c2 : F1 78 2 = 0 := by rw [← hF1, mset_eq]
  have c0 : F1 78 0 = -1 := by rw [← hF1, mset_ne _ _ (by omega), mset_ne _ _ (by omega), mset_eq]
  have hC1 := csv_fr hC (F' := F1) (fun o k ho => f1 o k (by omega))
  obtain ⟨F2, a1, a2, a3, a4, a5⟩ := csv_reach hC1.1
  have e634 : F2 63 4 = (((v 0).toNat : Nat) : Int) := by rw [a2.1.1.2.2.2.2.1]; omega
  generalize hm : (fun f => (dlM v hd day one (two : Int) f).1) = m
  generalize he : (fun f => (dlM v hd day one (two : Int) f).2) = e
  have em : ∀ f, (dlM v hd day one (two : Int) f).1 = m f := fun f => congrFun hm f
  have ee : ∀ f, (dlM v hd day one (two : Int) f).2 = e f := fun f => congrFun he f
  have start : isBU (v 0).toNat ((v 0).toNat - 0) m e (F2 78 2) (F2 78 0) (F2 78 1) := Or.inl ⟨(a5 78 2 (by decide)).trans c2, (a5 78 0 (by decide)).trans c0, fun j h1 h2 => by omega⟩
  unfold fX5_findDeal
  rw [if_neg n63, hF1, a1, Option.bind_some, if_neg n63, xwM0 e634 (by omega)]
  generalize hN : (v 0).toNat = N at *
  refine lp (fun n j (K : Mem) => fX5_findDeal_b27 n 78 63 (gof (yD v hd day)) one (two : Int) ((N : Int) - 1 - (j : Int)) K) N (fun j K => (∀ o k, o ≠ 71 → o ≠ 78 → K o k = F2 o k) ∧ (∀ t h, t + j + 1 ≤ N → h < (v 5).toNat → rch K t h = rch F2 t h) ∧ isBU N (N - j) m e (K 78 2) (K 78 0) (K 78 1)) (fun r => ∃ F', r = some F' ∧ isBD N m e (F' 78 2) (F' 78 0) (F' 78 1) ∧ (∀ o k, o ≠ 71 → o ≠ 78 → F' o k = F o k)) ?_ ?_ FU 0 F2 (Nat.zero_le _) ⟨fun _ _ _ _ => rfl, fun _ _ _ _ => rfl, start⟩ (FU_gt (by omega))
  · rintro n j K hj ⟨frK, rowK, bK⟩
    left
    obtain ⟨f, hf⟩ : ∃ f, f + 1 + j = N := ⟨N - 1 - j, by omega⟩
    have ef : (N : Int) - 1 - (j : Int) = (f : Int) := by omega
    have eN1 : N - j = f + 1 := by omega
    have eN2 : N - (j + 1) = f := by omega
    rw [eN1] at bK
    have hCK := csv_fr a2 (F' := K) (fun o k ho => frK o k (by omega) (by omega))
    have hV := insD_WF (hd := dlH hd day (two : Int) f N) (day := day) hO (show 1 ≤ 7 by decide) 0 0
    obtain ⟨Rf, hRf⟩ := R_ex hV (v 4).toNat (1 * N)
    have hup := R_upto (hd' := dlH hd day (two : Int) f N) hW a4 hRf (f := f) (by omega) (by omega) (fun s h hs => gnD_eq hd7 (by rw [hN]; omega) (by unfold dlH; rw [if_neg (by omega)])) f (Nat.le_refl _)
    have hin := c_dealIn (K := K) (one := one) (k27 := fX5_findDeal_b27 n) hCK.1 hne htwo (f := f) (by rw [hN]; omega) (Rf := Rf) (by rw [hN]; exact hRf) (fun t h ht hh => (rowK t h (by omega) hh).trans (hup t h ht hh).symm)
    obtain ⟨K2, q1, q2⟩ := hin
    have nn : ¬ ((f : Int) < 0) := by omega
    have k78 : ∀ k, K2 78 k = K 78 k := fun k => q1 78 k (by omega)
    have frK2 : ∀ o k, o ≠ 71 → o ≠ 78 → K2 o k = F2 o k := fun o k h1 h2 => (q1 o k (by omega)).trans (frK o k h1 h2)
    have rowK2 : ∀ t h, t + (j + 1) + 1 ≤ N → h < (v 5).toNat → rch K2 t h = rch F2 t h := fun t h ht hh => by
      have h8 : h < 8 := by have := hO.2.2.2.1; omega
      have : rch K2 t h = rch K t h := q1 71 _ (by omega)
      rw [this]; exact rowK t h (by omega) hh
    have hfN : f < N := by omega
    have sf : f < 2147483647 ∧ N ≤ 1000 := by omega
    have w1 := xwS sf.1
    have w2 := xwM hf sf.2
    have E : fX5_findDeal_b27 (n + 1) 78 63 (gof (yD v hd day)) one (two : Int) ((N : Int) - 1 - (j : Int)) K = if m f ≤ 0 then fX5_findDeal_b27 n 78 63 (gof (yD v hd day)) one (two : Int) ((N : Int) - 1 - ((j + 1 : Nat) : Int)) K2 else if m f < K 78 2 then fX5_findDeal_b27 n 78 63 (gof (yD v hd day)) one (two : Int) ((N : Int) - 1 - ((j + 1 : Nat) : Int)) K2 else fX5_findDeal_b27 n 78 63 (gof (yD v hd day)) one (two : Int) ((N : Int) - 1 - ((j + 1 : Nat) : Int)) (mset (mset (mset K2 78 2 (m f)) 78 0 (f : Int)) 78 1 (e f)) := by
      rw [ef, fX5_findDeal_b27, if_neg nn, w1, q2]
      unfold fX5_findDeal_b104
      rw [w2, em, ee, k78]
    clear w1 w2
    by_cases y1 : m f ≤ 0
    · rw [if_pos y1] at E
      refine ⟨K2, ⟨frK2, rowK2, ?_⟩, E⟩
      rw [eN2, k78, k78, k78]
      exact isBU_no bK (Or.inl y1)
    · rw [if_neg y1] at E
      by_cases y2 : m f < K 78 2
      · rw [if_pos y2] at E
        refine ⟨K2, ⟨frK2, rowK2, ?_⟩, E⟩
        rw [eN2, k78, k78, k78]
        exact isBU_no bK (Or.inr y2)
      · rw [if_neg y2] at E
        refine ⟨_, ⟨fun o k h1 h2 => ?_, fun t h ht hh => ?_, ?_⟩, E⟩
        · rw [mset_ne _ _ (by omega), mset_ne _ _ (by omega), mset_ne _ _ (by omega)]; exact frK2 o k h1 h2
        · rw [← rowK2 t h ht hh]
          unfold rch
          rw [mset_ne _ _ (by omega), mset_ne _ _ (by omega), mset_ne _ _ (by omega)]
        · have e1 : (mset (mset (mset K2 78 2 (m f)) 78 0 (f : Int)) 78 1 (e f)) 78 2 = m f := by rw [mset_ne _ _ (by omega), mset_ne _ _ (by omega), mset_eq]
          have e2 : (mset (mset (mset K2 78 2 (m f)) 78 0 (f : Int)) 78 1 (e f)) 78 0 = (f : Int) := by rw [mset_ne _ _ (by omega), mset_eq]
          have e3 : (mset (mset (mset K2 78 2 (m f)) 78 0 (f : Int)) 78 1 (e f)) 78 1 = e f := mset_eq _ _ _ _
          rw [eN2, e1, e2, e3]
          exact isBU_yes bK hfN (by omega) (by omega)
  · rintro n K ⟨frK, rowK, bK⟩
    rw [Nat.sub_self] at bK
    have nn : (N : Int) - 1 - ((N : Nat) : Int) < 0 := by omega
    refine ⟨K, ?_, isBU_0 bK, fun o k h1 h2 => (frK o k h1 h2).trans ((a5 o k h1).trans (f1 o k h2))⟩
    rw [fX5_findDeal_b27, if_pos nn]
end DLO
