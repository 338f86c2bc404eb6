theorem dX2_init_0 : decode cX2_init 0 = .ok (.aload_n 0, 1) := by decide +kernel
theorem dX2_init_1 : decode cX2_init 1 = .ok (.invokespecial 3, 3) := by decide +kernel
theorem dX2_init_4 : decode cX2_init 4 = .ok (.aload_n 0, 1) := by decide +kernel
theorem dX2_init_5 : decode cX2_init 5 = .ok (.aconst_null, 1) := by decide +kernel
theorem dX2_init_6 : decode cX2_init 6 = .ok (.putfield 9, 3) := by decide +kernel
theorem dX2_init_9 : decode cX2_init 9 = .ok (.aload_n 0, 1) := by decide +kernel
theorem dX2_init_10 : decode cX2_init 10 = .ok (.iconst 0, 1) := by decide +kernel
theorem dX2_init_11 : decode cX2_init 11 = .ok (.putfield 15, 3) := by decide +kernel
theorem dX2_init_14 : decode cX2_init 14 = .ok (.aload_n 0, 1) := by decide +kernel
theorem dX2_init_15 : decode cX2_init 15 = .ok (.iconst 0, 1) := by decide +kernel
theorem dX2_init_16 : decode cX2_init 16 = .ok (.putfield 19, 3) := by decide +kernel
theorem dX2_init_19 : decode cX2_init 19 = .ok (.aload_n 0, 1) := by decide +kernel
theorem dX2_init_20 : decode cX2_init 20 = .ok (.iconst 0, 1) := by decide +kernel
theorem dX2_init_21 : decode cX2_init 21 = .ok (.putfield 22, 3) := by decide +kernel
theorem dX2_init_24 : decode cX2_init 24 = .ok (.aload_n 0, 1) := by decide +kernel
theorem dX2_init_25 : decode cX2_init 25 = .ok (.iconst 0, 1) := by decide +kernel
theorem dX2_init_26 : decode cX2_init 26 = .ok (.putfield 25, 3) := by decide +kernel
theorem dX2_init_29 : decode cX2_init 29 = .ok (.aload_n 0, 1) := by decide +kernel
theorem dX2_init_30 : decode cX2_init 30 = .ok (.iconst 0, 1) := by decide +kernel
theorem dX2_init_31 : decode cX2_init 31 = .ok (.putfield 28, 3) := by decide +kernel
theorem dX2_init_34 : decode cX2_init 34 = .ok (.aload_n 0, 1) := by decide +kernel
theorem dX2_init_35 : decode cX2_init 35 = .ok (.iconst 5, 1) := by decide +kernel
theorem dX2_init_36 : decode cX2_init 36 = .ok (.newarray .int, 2) := by decide +kernel
theorem dX2_init_38 : decode cX2_init 38 = .ok (.putfield 31, 3) := by decide +kernel
theorem dX2_init_41 : decode cX2_init 41 = .ok (.aload_n 0, 1) := by decide +kernel
theorem dX2_init_42 : decode cX2_init 42 = .ok (.iconst 0, 1) := by decide +kernel
theorem dX2_init_43 : decode cX2_init 43 = .ok (.putfield 35, 3) := by decide +kernel
theorem dX2_init_46 : decode cX2_init 46 = .ok (.aload_n 0, 1) := by decide +kernel
theorem dX2_init_47 : decode cX2_init 47 = .ok (.iconst (-1), 1) := by decide +kernel
theorem dX2_init_48 : decode cX2_init 48 = .ok (.putfield 38, 3) := by decide +kernel
theorem dX2_init_51 : decode cX2_init 51 = .ok (.aload_n 0, 1) := by decide +kernel
theorem dX2_init_52 : decode cX2_init 52 = .ok (.new 41, 3) := by decide +kernel
theorem dX2_init_55 : decode cX2_init 55 = .ok (.dup, 1) := by decide +kernel
theorem dX2_init_56 : decode cX2_init 56 = .ok (.invokespecial 43, 3) := by decide +kernel
theorem dX2_init_59 : decode cX2_init 59 = .ok (.putfield 44, 3) := by decide +kernel
theorem dX2_init_62 : decode cX2_init 62 = .ok (.aload_n 0, 1) := by decide +kernel
theorem dX2_init_63 : decode cX2_init 63 = .ok (.new 48, 3) := by decide +kernel
theorem dX2_init_66 : decode cX2_init 66 = .ok (.dup, 1) := by decide +kernel
theorem dX2_init_67 : decode cX2_init 67 = .ok (.bipush 16, 2) := by decide +kernel
theorem dX2_init_69 : decode cX2_init 69 = .ok (.iconst 3, 1) := by decide +kernel
theorem dX2_init_70 : decode cX2_init 70 = .ok (.invokespecial 50, 3) := by decide +kernel
theorem dX2_init_73 : decode cX2_init 73 = .ok (.putfield 53, 3) := by decide +kernel
theorem dX2_init_76 : decode cX2_init 76 = .ok (.aload_n 0, 1) := by decide +kernel
theorem dX2_init_77 : decode cX2_init 77 = .ok (.new 48, 3) := by decide +kernel
theorem dX2_init_80 : decode cX2_init 80 = .ok (.dup, 1) := by decide +kernel
theorem dX2_init_81 : decode cX2_init 81 = .ok (.bipush 30, 2) := by decide +kernel
theorem dX2_init_83 : decode cX2_init 83 = .ok (.bipush 6, 2) := by decide +kernel
theorem dX2_init_85 : decode cX2_init 85 = .ok (.invokespecial 50, 3) := by decide +kernel
theorem dX2_init_88 : decode cX2_init 88 = .ok (.putfield 57, 3) := by decide +kernel
theorem dX2_init_91 : decode cX2_init 91 = .ok (.aload_n 0, 1) := by decide +kernel
theorem dX2_init_92 : decode cX2_init 92 = .ok (.new 48, 3) := by decide +kernel
theorem dX2_init_95 : decode cX2_init 95 = .ok (.dup, 1) := by decide +kernel
theorem dX2_init_96 : decode cX2_init 96 = .ok (.bipush 20, 2) := by decide +kernel
theorem dX2_init_98 : decode cX2_init 98 = .ok (.iconst 2, 1) := by decide +kernel
theorem dX2_init_99 : decode cX2_init 99 = .ok (.invokespecial 50, 3) := by decide +kernel
theorem dX2_init_102 : decode cX2_init 102 = .ok (.putfield 60, 3) := by decide +kernel
theorem dX2_init_105 : decode cX2_init 105 = .ok (.return_, 1) := by decide +kernel
theorem fcX2_9 : xFld RX2 9 2 0 3 0 := ⟨_, _, _, rfl, Nat.le_of_ble_eq_true rfl, rfl, (xinT 279 (by decide +kernel) (by decide +kernel)), rfl⟩
theorem fcX2_15 : xFld RX2 15 2 1 0 0 := ⟨_, _, _, rfl, Nat.le_of_ble_eq_true rfl, rfl, (xinT 280 (by decide +kernel) (by decide +kernel)), rfl⟩
theorem fcX2_19 : xFld RX2 19 2 2 0 0 := ⟨_, _, _, rfl, Nat.le_of_ble_eq_true rfl, rfl, (xinT 281 (by decide +kernel) (by decide +kernel)), rfl⟩
theorem fcX2_22 : xFld RX2 22 2 3 0 0 := ⟨_, _, _, rfl, Nat.le_of_ble_eq_true rfl, rfl, (xinT 282 (by decide +kernel) (by decide +kernel)), rfl⟩
theorem fcX2_25 : xFld RX2 25 2 4 0 0 := ⟨_, _, _, rfl, Nat.le_of_ble_eq_true rfl, rfl, (xinT 283 (by decide +kernel) (by decide +kernel)), rfl⟩
theorem fcX2_28 : xFld RX2 28 2 5 0 0 := ⟨_, _, _, rfl, Nat.le_of_ble_eq_true rfl, rfl, (xinT 284 (by decide +kernel) (by decide +kernel)), rfl⟩
theorem fcX2_31 : xFld RX2 31 2 6 2 1 := ⟨_, _, _, rfl, Nat.le_of_ble_eq_true rfl, rfl, (xinT 285 (by decide +kernel) (by decide +kernel)), rfl⟩
theorem fcX2_35 : xFld RX2 35 2 7 0 0 := ⟨_, _, _, rfl, Nat.le_of_ble_eq_true rfl, rfl, (xinT 286 (by decide +kernel) (by decide +kernel)), rfl⟩
theorem fcX2_38 : xFld RX2 38 2 8 0 0 := ⟨_, _, _, rfl, Nat.le_of_ble_eq_true rfl, rfl, (xinT 288 (by decide +kernel) (by decide +kernel)), rfl⟩
theorem fcX2_44 : xFld RX2 44 2 9 2 2 := ⟨_, _, _, rfl, Nat.le_of_ble_eq_true rfl, rfl, (xinT 290 (by decide +kernel) (by decide +kernel)), rfl⟩
theorem fcX2_53 : xFld RX2 53 2 10 2 7 := ⟨_, _, _, rfl, Nat.le_of_ble_eq_true rfl, rfl, (xinT 292 (by decide +kernel) (by decide +kernel)), rfl⟩
theorem fcX2_57 : xFld RX2 57 2 11 2 9 := ⟨_, _, _, rfl, Nat.le_of_ble_eq_true rfl, rfl, (xinT 293 (by decide +kernel) (by decide +kernel)), rfl⟩
theorem fcX2_60 : xFld RX2 60 2 12 2 11 := ⟨_, _, _, rfl, Nat.le_of_ble_eq_true rfl, rfl, (xinT 294 (by decide +kernel) (by decide +kernel)), rfl⟩
theorem layX2 {o : Nat} (ho : isK o 2) : o + 12 ≤ layN ∧ o ≠ 0 ∧ lay (o + 1) = some (.inr (.inl (0, 5))) ∧ lay (o + 2) = some (.inl (7, [])) ∧ lay (o + 7) = some (.inl (3, [16, 3])) ∧ lay (o + 9) = some (.inl (3, [30, 6])) ∧ lay (o + 11) = some (.inl (3, [20, 2])) := by
  have h := layq (P := fun o => decide (o + 12 ≤ layN) && (decide (o ≠ 0) && decide (lay (o + 1) = some (.inr (.inl (0, 5)))) && decide (lay (o + 2) = some (.inl (7, []))) && decide (lay (o + 7) = some (.inl (3, [16, 3]))) && decide (lay (o + 9) = some (.inl (3, [30, 6]))) && decide (lay (o + 11) = some (.inl (3, [20, 2]))))) (by decide +kernel) ho
  simp only [Bool.and_eq_true, decide_eq_true_eq] at h
  obtain ⟨h1, ⟨⟨⟨⟨⟨h2, g1⟩, g2⟩, g7⟩, g9⟩, g11⟩⟩ := h
  exact ⟨h1, h2, g1, g2, g7, g9, g11⟩
theorem ssX2 {o : Nat} (ho : isK o 2) : ssum (o + 12) = ssum o + 350 := of_decide_eq_true (layq (P := fun o => decide (ssum (o + 12) = ssum o + 350)) (by decide +kernel) ho)
def rgX2 : List (Nat × Nat) := [(0, 12), (11, 2), (11, 1), (11, 0), (0, 11), (9, 2), (9, 1), (9, 0), (0, 10), (7, 2), (7, 1), (7, 0), (0, 9), (2, 6), (5, 2), (5, 1), (5, 0), (2, 5), (3, 2), (3, 1), (3, 0), (0, 6)]
def rfX2 : List (Nat × Nat × Int) := [(11, 3, 0), (9, 3, 0), (7, 3, 0), (5, 3, 0), (3, 3, 0), (2, 4, 0), (2, 3, 48), (2, 2, 0), (2, 1, 9), (2, 0, 24), (0, 8, -1), (0, 7, 0), (0, 5, 0), (0, 4, 0), (0, 3, 0), (0, 2, 0), (0, 1, 0), (0, 0, 0)]
def mkX2 (o : Nat) (M : CM) : CM := (o + 12, (o, 12) :: (o + 11, 2) :: (o + 11, 1) :: (o + 11, 0) :: (o, 11) :: (o + 9, 2) :: (o + 9, 1) :: (o + 9, 0) :: (o, 10) :: (o + 7, 2) :: (o + 7, 1) :: (o + 7, 0) :: (o, 9) :: (o + 2, 6) :: (o + 5, 2) :: (o + 5, 1) :: (o + 5, 0) :: (o + 2, 5) :: (o + 3, 2) :: (o + 3, 1) :: (o + 3, 0) :: (o, 6) :: M.2.1, (o + 11, 3, 0) :: (o + 9, 3, 0) :: (o + 7, 3, 0) :: (o + 5, 3, 0) :: (o + 3, 3, 0) :: (o + 2, 4, 0) :: (o + 2, 3, 48) :: (o + 2, 2, 0) :: (o + 2, 1, 9) :: (o + 2, 0, 24) :: (o, 8, -1) :: (o, 7, 0) :: (o, 5, 0) :: (o, 4, 0) :: (o, 3, 0) :: (o, 2, 0) :: (o, 1, 0) :: (o, 0, 0) :: M.2.2)
theorem gk_mk2 {M : CM} {o k o2 : Nat} (h : gL M.2.1 o k = true) : gL (mkX2 o2 M).2.1 o k = true := (gk_app h : gL ((rgX2.map fun q => (o2 + q.1, q.2)) ++ M.2.1) o k = true)
theorem cfrX2 {o : Nat} {M : CM} (hM : M.1 = o) (h : cfresh M) : cfresh (mkX2 o M) := (cfresh_app (o := o) (n := 12) (Gs := rgX2) (Fs := rfX2) h (by omega) (by decide +kernel) (by decide +kernel) : _)
theorem mcI2 : Cond.code yX2_init cX2_init 1 none ∈ xw_T ∧ Cond.initialized yX2_init.cls ∈ xw_T ∧ Cond.instanceMethod yX2_init ∈ xw_T := ⟨(xinT 273 (by decide +kernel) (by decide +kernel)), (xinT 121 (by decide +kernel) (by decide +kernel)), (xinT 272 (by decide +kernel) (by decide +kernel))⟩
set_option maxHeartbeats 8000000 in
set_option maxRecDepth 100000 in
theorem ccX2 {o : Nat} {M : CM} (ho : isK o 2) (hM : M.1 = o) (hfr : cfresh M) : xCC yX2_init cX2_init 1 3 82 12 (350) [vR o] M (mkX2 o M) := by
  obtain ⟨n, Gm, Fm⟩ := M
  obtain rfl : n = o := hM
  have hl := layX2 ho
  obtain ⟨hlN, ho0, l1, l2, l7, l9, l11⟩ := hl
  have hss := ssX2 ho
  refine xcc_of (n1 := n + 12) (by decide +kernel) rfl (Nat.le_of_ble_eq_true rfl) (fun v hv => by rcases List.mem_cons.mp hv with rfl | hv <;> first | trivial | cases hv) hfr (show n ≤ layN by omega) (show n + 12 - n = 12 by omega) (show ssum (n + 12) - ssum n = _ by omega) (fun p l e R s m args below meth c D ad cA base C hret hnm => ?_)
  refine cx_aload_n C (j := 0) dX2_init_0 rfl rfl (by omega) ?_
  refine cx_objInit C dX2_init_1 (xinT 274 (by decide +kernel) (by decide +kernel)) oi_inst oi_code (by omega) (Nat.le_of_ble_eq_true rfl) (Nat.le_of_ble_eq_true rfl) (Nat.le_of_ble_eq_true rfl) ?_
  refine cx_aload_n C (j := 0) dX2_init_4 rfl rfl (by omega) ?_
  refine cx_null C dX2_init_5 ?_
  refine cx_putN C (ty := .array .byte) dX2_init_6 fcX2_9 ⟨_, _, _, rfl, rfl, by decide +kernel, rfl⟩ hnm ho (show n ≤ n by omega) (Or.inr ⟨_, rfl⟩) ?_
  refine cx_aload_n C (j := 0) dX2_init_9 rfl rfl (by omega) ?_
  refine cx_iconst C dX2_init_10 (cin rfl) ?_
  refine cx_putI C dX2_init_11 fcX2_15 ⟨_, _, _, rfl, rfl, by decide +kernel, rfl⟩ hnm ho (show n ≤ n by omega) ?_
  refine cx_aload_n C (j := 0) dX2_init_14 rfl rfl (by omega) ?_
  refine cx_iconst C dX2_init_15 (cin rfl) ?_
  refine cx_putI C dX2_init_16 fcX2_19 ⟨_, _, _, rfl, rfl, by decide +kernel, rfl⟩ hnm ho (show n ≤ n by omega) ?_
  refine cx_aload_n C (j := 0) dX2_init_19 rfl rfl (by omega) ?_
  refine cx_iconst C dX2_init_20 (cin rfl) ?_
  refine cx_putI C dX2_init_21 fcX2_22 ⟨_, _, _, rfl, rfl, by decide +kernel, rfl⟩ hnm ho (show n ≤ n by omega) ?_
  refine cx_aload_n C (j := 0) dX2_init_24 rfl rfl (by omega) ?_
  refine cx_iconst C dX2_init_25 (cin rfl) ?_
  refine cx_putI C dX2_init_26 fcX2_25 ⟨_, _, _, rfl, rfl, by decide +kernel, rfl⟩ hnm ho (show n ≤ n by omega) ?_
  refine cx_aload_n C (j := 0) dX2_init_29 rfl rfl (by omega) ?_
  refine cx_iconst C dX2_init_30 (cin rfl) ?_
  refine cx_putI C dX2_init_31 fcX2_28 ⟨_, _, _, rfl, rfl, by decide +kernel, rfl⟩ hnm ho (show n ≤ n by omega) ?_
  refine cx_aload_n C (j := 0) dX2_init_34 rfl rfl (by omega) ?_
  refine cx_iconst C dX2_init_35 (cin rfl) ?_
  refine cx_newa C dX2_init_36 l1 rfl (Or.inl ⟨rfl, rfl⟩) (xinT 186 (by decide +kernel) (by decide +kernel)) rfl (Nat.le_of_ble_eq_true rfl) (show n + 1 ≤ n + 12 by omega) ?_
  refine cx_putR C (ty := .array .int) dX2_init_38 fcX2_31 ⟨_, _, _, rfl, rfl, by decide +kernel, rfl⟩ hnm ho (show n ≤ n + 1 by omega) (Or.inr ⟨_, rfl⟩) rfl ?_
  refine cx_aload_n C (j := 0) dX2_init_41 rfl rfl (by omega) ?_
  refine cx_iconst C dX2_init_42 (cin rfl) ?_
  refine cx_putI C dX2_init_43 fcX2_35 ⟨_, _, _, rfl, rfl, by decide +kernel, rfl⟩ hnm ho (show n ≤ n + 1 by omega) ?_
  refine cx_aload_n C (j := 0) dX2_init_46 rfl rfl (by omega) ?_
  refine cx_iconst C dX2_init_47 (cin rfl) ?_
  refine cx_putI C dX2_init_48 fcX2_38 ⟨_, _, _, rfl, rfl, by decide +kernel, rfl⟩ hnm ho (show n ≤ n + 1 by omega) ?_
  refine cx_aload_n C (j := 0) dX2_init_51 rfl rfl (by omega) ?_
  refine cx_new C (C0 := RX7) (N := 7) dX2_init_52 l2 (xinT 275 (by decide +kernel) (by decide +kernel)) (xinT 151 (by decide +kernel) (by decide +kernel)) (xinT 118 (by decide +kernel) (by decide +kernel)) rfl (show n + 2 ≤ n + 12 by omega) ?_
  refine cx_dup C dX2_init_55 rfl ?_
  refine cx_callI' C (As := []) (rest := [vR (n + 2), vR n]) dX2_init_56 (fun hfr => ccX7 (o := n + 2) (by unfold isK; rw [l2]; rfl) rfl hfr) (Nat.le_of_ble_eq_true rfl) (Nat.le_of_ble_eq_true rfl) mcI7.1 (xinT 276 (by decide +kernel) (by decide +kernel)) mcI7.2.1 mcI7.2.2 rfl ⟨by decide +kernel, by decide +kernel, by decide +kernel⟩ (by omega) rfl rfl (Nat.le_of_ble_eq_true rfl) rfl (ssX7 (by unfold isK; rw [l2]; rfl)) (show n + 6 ≤ layN by omega) (show n + 6 ≤ n + 12 by omega) (fun q => cfrX7 rfl q) ?_
  refine cx_putR C (ty := .object "OnePair$Valley") dX2_init_59 fcX2_44 ⟨_, _, _, rfl, rfl, by decide +kernel, rfl⟩ hnm ho (show n ≤ n + 6 by omega) (Or.inl ⟨_, rfl⟩) rfl ?_
  refine cx_aload_n C (j := 0) dX2_init_62 rfl rfl (by omega) ?_
  refine cx_new C (C0 := RX3) (N := 4) dX2_init_63 l7 (xinT 277 (by decide +kernel) (by decide +kernel)) (xinT 157 (by decide +kernel) (by decide +kernel)) (xinT 119 (by decide +kernel) (by decide +kernel)) rfl (show n + 7 ≤ n + 12 by omega) ?_
  refine cx_dup C dX2_init_66 rfl ?_
  refine cx_bipush C dX2_init_67 rfl (cin rfl) ?_
  refine cx_iconst C dX2_init_69 (cin rfl) ?_
  refine cx_callI' C (As := [vI 16, vI 3]) (rest := [vR (n + 7), vR n]) dX2_init_70 (fun hfr => ccX3 (o := n + 7) (by unfold isK; rw [l7]; rfl) rfl hfr (by unfold cst; rw [l7]; rfl) (by unfold cst; rw [l7]; rfl)) (Nat.le_of_ble_eq_true rfl) (Nat.le_of_ble_eq_true rfl) mcI3.1 (xinT 278 (by decide +kernel) (by decide +kernel)) mcI3.2.1 mcI3.2.2 rfl ⟨by decide +kernel, by decide +kernel, by decide +kernel⟩ (by omega) rfl rfl (Nat.le_of_ble_eq_true rfl) rfl (ssX3 (by unfold isK; rw [l7]; rfl)) (show n + 8 ≤ layN by omega) (show n + 8 ≤ n + 12 by omega) (fun q => cfrX3 rfl q) ?_
  refine cx_putR C (ty := .object "OnePair$Sheet") dX2_init_73 fcX2_53 ⟨_, _, _, rfl, rfl, by decide +kernel, rfl⟩ hnm ho (show n ≤ n + 8 by omega) (Or.inl ⟨_, rfl⟩) rfl ?_
  refine cx_aload_n C (j := 0) dX2_init_76 rfl rfl (by omega) ?_
  refine cx_new C (C0 := RX3) (N := 4) dX2_init_77 l9 (xinT 277 (by decide +kernel) (by decide +kernel)) (xinT 157 (by decide +kernel) (by decide +kernel)) (xinT 119 (by decide +kernel) (by decide +kernel)) rfl (show n + 9 ≤ n + 12 by omega) ?_
  refine cx_dup C dX2_init_80 rfl ?_
  refine cx_bipush C dX2_init_81 rfl (cin rfl) ?_
  refine cx_bipush C dX2_init_83 rfl (cin rfl) ?_
  refine cx_callI' C (As := [vI 30, vI 6]) (rest := [vR (n + 9), vR n]) dX2_init_85 (fun hfr => ccX3 (o := n + 9) (by unfold isK; rw [l9]; rfl) rfl hfr (by unfold cst; rw [l9]; rfl) (by unfold cst; rw [l9]; rfl)) (Nat.le_of_ble_eq_true rfl) (Nat.le_of_ble_eq_true rfl) mcI3.1 (xinT 278 (by decide +kernel) (by decide +kernel)) mcI3.2.1 mcI3.2.2 rfl ⟨by decide +kernel, by decide +kernel, by decide +kernel⟩ (by omega) rfl rfl (Nat.le_of_ble_eq_true rfl) rfl (ssX3 (by unfold isK; rw [l9]; rfl)) (show n + 10 ≤ layN by omega) (show n + 10 ≤ n + 12 by omega) (fun q => cfrX3 rfl q) ?_
  refine cx_putR C (ty := .object "OnePair$Sheet") dX2_init_88 fcX2_57 ⟨_, _, _, rfl, rfl, by decide +kernel, rfl⟩ hnm ho (show n ≤ n + 10 by omega) (Or.inl ⟨_, rfl⟩) rfl ?_
  refine cx_aload_n C (j := 0) dX2_init_91 rfl rfl (by omega) ?_
  refine cx_new C (C0 := RX3) (N := 4) dX2_init_92 l11 (xinT 277 (by decide +kernel) (by decide +kernel)) (xinT 157 (by decide +kernel) (by decide +kernel)) (xinT 119 (by decide +kernel) (by decide +kernel)) rfl (show n + 11 ≤ n + 12 by omega) ?_
  refine cx_dup C dX2_init_95 rfl ?_
  refine cx_bipush C dX2_init_96 rfl (cin rfl) ?_
  refine cx_iconst C dX2_init_98 (cin rfl) ?_
  refine cx_callI' C (As := [vI 20, vI 2]) (rest := [vR (n + 11), vR n]) dX2_init_99 (fun hfr => ccX3 (o := n + 11) (by unfold isK; rw [l11]; rfl) rfl hfr (by unfold cst; rw [l11]; rfl) (by unfold cst; rw [l11]; rfl)) (Nat.le_of_ble_eq_true rfl) (Nat.le_of_ble_eq_true rfl) mcI3.1 (xinT 278 (by decide +kernel) (by decide +kernel)) mcI3.2.1 mcI3.2.2 rfl ⟨by decide +kernel, by decide +kernel, by decide +kernel⟩ (by omega) rfl rfl (Nat.le_of_ble_eq_true rfl) rfl (ssX3 (by unfold isK; rw [l11]; rfl)) (show n + 12 ≤ layN by omega) (show n + 12 ≤ n + 12 by omega) (fun q => cfrX3 rfl q) ?_
  refine cx_putR C (ty := .object "OnePair$Sheet") dX2_init_102 fcX2_60 ⟨_, _, _, rfl, rfl, by decide +kernel, rfl⟩ hnm ho (show n ≤ n + 12 by omega) (Or.inl ⟨_, rfl⟩) rfl ?_
  exact cx_return C dX2_init_105 hret rfl
