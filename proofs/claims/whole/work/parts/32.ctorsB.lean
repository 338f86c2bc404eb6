theorem dX2_init_0 : decode cX2_init 0 = .ok (.aload_n 0, 1) := by decide +kernel
theorem dX2_init_1 : decode cX2_init 1 = .ok (.invokespecial 3, 3) := by decide +kernel
theorem dX2_init_4 : decode cX2_init 4 = .ok (.aload_n 0, 1) := by decide +kernel
theorem dX2_init_5 : decode cX2_init 5 = .ok (.aconst_null, 1) := by decide +kernel
theorem dX2_init_6 : decode cX2_init 6 = .ok (.putfield 9, 3) := by decide +kernel
theorem dX2_init_9 : decode cX2_init 9 = .ok (.aload_n 0, 1) := by decide +kernel
theorem dX2_init_10 : decode cX2_init 10 = .ok (.iconst 0, 1) := by decide +kernel
theorem dX2_init_11 : decode cX2_init 11 = .ok (.putfield 15, 3) := by decide +kernel
theorem dX2_init_14 : decode cX2_init 14 = .ok (.aload_n 0, 1) := by decide +kernel
theorem dX2_init_15 : decode cX2_init 15 = .ok (.iconst 0, 1) := by decide +kernel
theorem dX2_init_16 : decode cX2_init 16 = .ok (.putfield 19, 3) := by decide +kernel
theorem dX2_init_19 : decode cX2_init 19 = .ok (.aload_n 0, 1) := by decide +kernel
theorem dX2_init_20 : decode cX2_init 20 = .ok (.iconst 0, 1) := by decide +kernel
theorem dX2_init_21 : decode cX2_init 21 = .ok (.putfield 22, 3) := by decide +kernel
theorem dX2_init_24 : decode cX2_init 24 = .ok (.aload_n 0, 1) := by decide +kernel
theorem dX2_init_25 : decode cX2_init 25 = .ok (.iconst 0, 1) := by decide +kernel
theorem dX2_init_26 : decode cX2_init 26 = .ok (.putfield 25, 3) := by decide +kernel
theorem dX2_init_29 : decode cX2_init 29 = .ok (.aload_n 0, 1) := by decide +kernel
theorem dX2_init_30 : decode cX2_init 30 = .ok (.iconst 0, 1) := by decide +kernel
theorem dX2_init_31 : decode cX2_init 31 = .ok (.putfield 28, 3) := by decide +kernel
theorem dX2_init_34 : decode cX2_init 34 = .ok (.aload_n 0, 1) := by decide +kernel
theorem dX2_init_35 : decode cX2_init 35 = .ok (.iconst 5, 1) := by decide +kernel
theorem dX2_init_36 : decode cX2_init 36 = .ok (.newarray .int, 2) := by decide +kernel
theorem dX2_init_38 : decode cX2_init 38 = .ok (.putfield 31, 3) := by decide +kernel
theorem dX2_init_41 : decode cX2_init 41 = .ok (.aload_n 0, 1) := by decide +kernel
theorem dX2_init_42 : decode cX2_init 42 = .ok (.iconst 0, 1) := by decide +kernel
theorem dX2_init_43 : decode cX2_init 43 = .ok (.putfield 35, 3) := by decide +kernel
theorem dX2_init_46 : decode cX2_init 46 = .ok (.aload_n 0, 1) := by decide +kernel
theorem dX2_init_47 : decode cX2_init 47 = .ok (.iconst (-1), 1) := by decide +kernel
theorem dX2_init_48 : decode cX2_init 48 = .ok (.putfield 38, 3) := by decide +kernel
theorem dX2_init_51 : decode cX2_init 51 = .ok (.aload_n 0, 1) := by decide +kernel
theorem dX2_init_52 : decode cX2_init 52 = .ok (.new 41, 3) := by decide +kernel
theorem dX2_init_55 : decode cX2_init 55 = .ok (.dup, 1) := by decide +kernel
theorem dX2_init_56 : decode cX2_init 56 = .ok (.invokespecial 43, 3) := by decide +kernel
theorem dX2_init_59 : decode cX2_init 59 = .ok (.putfield 44, 3) := by decide +kernel
theorem dX2_init_62 : decode cX2_init 62 = .ok (.aload_n 0, 1) := by decide +kernel
theorem dX2_init_63 : decode cX2_init 63 = .ok (.new 48, 3) := by decide +kernel
theorem dX2_init_66 : decode cX2_init 66 = .ok (.dup, 1) := by decide +kernel
theorem dX2_init_67 : decode cX2_init 67 = .ok (.bipush 16, 2) := by decide +kernel
theorem dX2_init_69 : decode cX2_init 69 = .ok (.iconst 3, 1) := by decide +kernel
theorem dX2_init_70 : decode cX2_init 70 = .ok (.invokespecial 50, 3) := by decide +kernel
theorem dX2_init_73 : decode cX2_init 73 = .ok (.putfield 53, 3) := by decide +kernel
theorem dX2_init_76 : decode cX2_init 76 = .ok (.aload_n 0, 1) := by decide +kernel
theorem dX2_init_77 : decode cX2_init 77 = .ok (.new 48, 3) := by decide +kernel
theorem dX2_init_80 : decode cX2_init 80 = .ok (.dup, 1) := by decide +kernel
theorem dX2_init_81 : decode cX2_init 81 = .ok (.bipush 30, 2) := by decide +kernel
theorem dX2_init_83 : decode cX2_init 83 = .ok (.bipush 6, 2) := by decide +kernel
theorem dX2_init_85 : decode cX2_init 85 = .ok (.invokespecial 50, 3) := by decide +kernel
theorem dX2_init_88 : decode cX2_init 88 = .ok (.putfield 57, 3) := by decide +kernel
theorem dX2_init_91 : decode cX2_init 91 = .ok (.aload_n 0, 1) := by decide +kernel
theorem dX2_init_92 : decode cX2_init 92 = .ok (.new 48, 3) := by decide +kernel
theorem dX2_init_95 : decode cX2_init 95 = .ok (.dup, 1) := by decide +kernel
theorem dX2_init_96 : decode cX2_init 96 = .ok (.bipush 20, 2) := by decide +kernel
theorem dX2_init_98 : decode cX2_init 98 = .ok (.iconst 2, 1) := by decide +kernel
theorem dX2_init_99 : decode cX2_init 99 = .ok (.invokespecial 50, 3) := by decide +kernel
theorem dX2_init_102 : decode cX2_init 102 = .ok (.putfield 60, 3) := by decide +kernel
theorem dX2_init_105 : decode cX2_init 105 = .ok (.return_, 1) := by decide +kernel
theorem fcX2_9 : xFld RX2 9 2 0 3 0 := ⟨_, _, _, rfl, Nat.le_of_ble_eq_true rfl, rfl, (xinT 279 (by decide +kernel) (by decide +kernel)), rfl⟩
theorem fcX2_15 : xFld RX2 15 2 1 0 0 := ⟨_, _, _, rfl, Nat.le_of_ble_eq_true rfl, rfl, (xinT 280 (by decide +kernel) (by decide +kernel)), rfl⟩
theorem fcX2_19 : xFld RX2 19 2 2 0 0 := ⟨_, _, _, rfl, Nat.le_of_ble_eq_true rfl, rfl, (xinT 281 (by decide +kernel) (by decide +kernel)), rfl⟩
theorem fcX2_22 : xFld RX2 22 2 3 0 0 := ⟨_, _, _, rfl, Nat.le_of_ble_eq_true rfl, rfl, (xinT 282 (by decide +kernel) (by decide +kernel)), rfl⟩
theorem fcX2_25 : xFld RX2 25 2 4 0 0 := ⟨_, _, _, rfl, Nat.le_of_ble_eq_true rfl, rfl, (xinT 283 (by decide +kernel) (by decide +kernel)), rfl⟩
theorem fcX2_28 : xFld RX2 28 2 5 0 0 := ⟨_, _, _, rfl, Nat.le_of_ble_eq_true rfl, rfl, (xinT 284 (by decide +kernel) (by decide +kernel)), rfl⟩
theorem fcX2_31 : xFld RX2 31 2 6 2 1 := ⟨_, _, _, rfl, Nat.le_of_ble_eq_true rfl, rfl, (xinT 285 (by decide +kernel) (by decide +kernel)), rfl⟩
theorem fcX2_35 : xFld RX2 35 2 7 0 0 := ⟨_, _, _, rfl, Nat.le_of_ble_eq_true rfl, rfl, (xinT 286 (by decide +kernel) (by decide +kernel)), rfl⟩
theorem fcX2_38 : xFld RX2 38 2 8 0 0 := ⟨_, _, _, rfl, Nat.le_of_ble_eq_true rfl, rfl, (xinT 288 (by decide +kernel) (by decide +kernel)), rfl⟩
theorem fcX2_44 : xFld RX2 44 2 9 2 2 := ⟨_, _, _, rfl, Nat.le_of_ble_eq_true rfl, rfl, (xinT 290 (by decide +kernel) (by decide +kernel)), rfl⟩
theorem fcX2_53 : xFld RX2 53 2 10 2 7 := ⟨_, _, _, rfl, Nat.le_of_ble_eq_true rfl, rfl, (xinT 292 (by decide +kernel) (by decide +kernel)), rfl⟩
theorem fcX2_57 : xFld RX2 57 2 11 2 9 := ⟨_, _, _, rfl, Nat.le_of_ble_eq_true rfl, rfl, (xinT 293 (by decide +kernel) (by decide +kernel)), rfl⟩
theorem fcX2_60 : xFld RX2 60 2 12 2 11 := ⟨_, _, _, rfl, Nat.le_of_ble_eq_true rfl, rfl, (xinT 294 (by decide +kernel) (by decide +kernel)), rfl⟩
theorem layX2 {o : Nat} (ho : isK o 2) : o + 12 ≤ layN ∧ o ≠ 0 ∧ lay (o + 1) = some (.inr (.inl (0, 5))) ∧ lay (o + 2) = some (.inl (7, [])) ∧ lay (o + 7) = some (.inl (3, [16, 3])) ∧ lay (o + 9) = some (.inl (3, [30, 6])) ∧ lay (o + 11) = some (.inl (3, [20, 2])) := by
  have h := layq (P := fun o => decide (o + 12 ≤ layN) && (decide (o ≠ 0) && decide (lay (o + 1) = some (.inr (.inl (0, 5)))) && decide (lay (o + 2) = some (.inl (7, []))) && decide (lay (o + 7) = some (.inl (3, [16, 3]))) && decide (lay (o + 9) = some (.inl (3, [30, 6]))) && decide (lay (o + 11) = some (.inl (3, [20, 2]))))) (by decide +kernel) ho
  simp only [Bool.and_eq_true, decide_eq_true_eq] at h
  obtain ⟨h1, ⟨⟨⟨⟨⟨h2, g1⟩, g2⟩, g7⟩, g9⟩, g11⟩⟩ := h
  exact ⟨h1, h2, g1, g2, g7, g9, g11⟩
theorem ssX2 {o : Nat} (ho : isK o 2) : ssum (o + 12) = ssum o + 350 := of_decide_eq_true (layq (P := fun o => decide (ssum (o + 12) = ssum o + 350)) (by decide +kernel) ho)
def rgX2 : List (Nat × Nat) := [(0, 12), (11, 2), (11, 1), (11, 0), (0, 11), (9, 2), (9, 1), (9, 0), (0, 10), (7, 2), (7, 1), (7, 0), (0, 9), (2, 6), (5, 2), (5, 1), (5, 0), (2, 5), (3, 2), (3, 1), (3, 0), (0, 6)]
def rfX2 : List (Nat × Nat × Int) := [(11, 3, 0), (9, 3, 0), (7, 3, 0), (5, 3, 0), (3, 3, 0), (2, 4, 0), (2, 3, 48), (2, 2, 0), (2, 1, 9), (2, 0, 24), (0, 8, -1), (0, 7, 0), (0, 5, 0), (0, 4, 0), (0, 3, 0), (0, 2, 0), (0, 1, 0), (0, 0, 0)]
def mkX2 (o : Nat) (M : CM) : CM := (o + 12, (o, 12) :: (o + 11, 2) :: (o + 11, 1) :: (o + 11, 0) :: (o, 11) :: (o + 9, 2) :: (o + 9, 1) :: (o + 9, 0) :: (o, 10) :: (o + 7, 2) :: (o + 7, 1) :: (o + 7, 0) :: (o, 9) :: (o + 2, 6) :: (o + 5, 2) :: (o + 5, 1) :: (o + 5, 0) :: (o + 2, 5) :: (o + 3, 2) :: (o + 3, 1) :: (o + 3, 0) :: (o, 6) :: M.2.1, (o + 11, 3, 0) :: (o + 9, 3, 0) :: (o + 7, 3, 0) :: (o + 5, 3, 0) :: (o + 3, 3, 0) :: (o + 2, 4, 0) :: (o + 2, 3, 48) :: (o + 2, 2, 0) :: (o + 2, 1, 9) :: (o + 2, 0, 24) :: (o, 8, -1) :: (o, 7, 0) :: (o, 5, 0) :: (o, 4, 0) :: (o, 3, 0) :: (o, 2, 0) :: (o, 1, 0) :: (o, 0, 0) :: M.2.2)
theorem gk_mk2 {M : CM} {o k o2 : Nat} (h : gL M.2.1 o k = true) : gL (mkX2 o2 M).2.1 o k = true := (gk_app h : gL ((rgX2.map fun q => (o2 + q.1, q.2)) ++ M.2.1) o k = true)
theorem cfrX2 {o : Nat} {M : CM} (hM : M.1 = o) (h : cfresh M) : cfresh (mkX2 o M) := (cfresh_app (o := o) (n := 12) (Gs := rgX2) (Fs := rfX2) h (by omega) (by decide +kernel) (by decide +kernel) : _)
theorem mcI2 : Cond.code yX2_init cX2_init 1 none ∈ xw_T ∧ Cond.initialized yX2_init.cls ∈ xw_T ∧ Cond.instanceMethod yX2_init ∈ xw_T := ⟨(xinT 273 (by decide +kernel) (by decide +kernel)), (xinT 121 (by decide +kernel) (by decide +kernel)), (xinT 272 (by decide +kernel) (by decide +kernel))⟩
set_option maxHeartbeats 2000000 in
set_option maxRecDepth 100000 in
theorem ccX2 {o : Nat} {M : CM} (ho : isK o 2) (hM : M.1 = o) (hfr : cfresh M) : xCC yX2_init cX2_init 1 3 82 12 (350) [vR o] M (mkX2 o M) := by
  obtain ⟨n, Gm, Fm⟩ := M
  obtain rfl : n = o := hM
  have hl := layX2 ho
  obtain ⟨hlN, ho0, l1, l2, l7, l9, l11⟩ := hl
  refine xcc_of (n1 := n + 12) (by decide +kernel) rfl (Nat.le_of_ble_eq_true rfl) (fun v hv => by rcases List.mem_cons.mp hv with rfl | hv <;> first | trivial | cases hv) hfr (show n ≤ layN by omega) (show n + 12 - n = 12 by omega) (sub_of (ssX2 ho)) (fun p l e R s m args below meth c D ad cA base C hret hnm => ?_)
  refine cx_aload_n C (j := 0) dX2_init_0 rfl rfl (by omega) ?_
  refine cx_objInit C dX2_init_1 (xinT 274 (by decide +kernel) (by decide +kernel)) oi_inst oi_code (by omega) (Nat.le_of_ble_eq_true rfl) (Nat.le_of_ble_eq_true rfl) (Nat.le_of_ble_eq_true rfl) ?_
  refine cx_aload_n C (j := 0) dX2_init_4 rfl rfl (by omega) ?_
  refine cx_null C dX2_init_5 ?_
  refine cx_putN C (ty := .array .byte) dX2_init_6 fcX2_9 ⟨_, _, _, rfl, rfl, by decide +kernel, rfl⟩ hnm ho (show n ≤ n by omega) (Or.inr ⟨_, rfl⟩) ?_
  refine cx_aload_n C (j := 0) dX2_init_9 rfl rfl (by omega) ?_
  refine cx_iconst C dX2_init_10 (cin rfl) ?_
  refine cx_putI C dX2_init_11 fcX2_15 ⟨_, _, _, rfl, rfl, by decide +kernel, rfl⟩ hnm ho (show n ≤ n by omega) ?_
  refine cx_aload_n C (j := 0) dX2_init_14 rfl rfl (by omega) ?_
  refine cx_iconst C dX2_init_15 (cin rfl) ?_
  refine cx_putI C dX2_init_16 fcX2_19 ⟨_, _, _, rfl, rfl, by decide +kernel, rfl⟩ hnm ho (show n ≤ n by omega) ?_
  refine cx_aload_n C (j := 0) dX2_init_19 rfl rfl (by omega) ?_
  refine cx_iconst C dX2_init_20 (cin rfl) ?_
  refine cx_putI C dX2_init_21 fcX2_22 ⟨_, _, _, rfl, rfl, by decide +kernel, rfl⟩ hnm ho (show n ≤ n by omega) ?_
  refine cx_aload_n C (j := 0) dX2_init_24 rfl rfl (by omega) ?_
  refine cx_iconst C dX2_init_25 (cin rfl) ?_
  refine cx_putI C dX2_init_26 fcX2_25 ⟨_, _, _, rfl, rfl, by decide +kernel, rfl⟩ hnm ho (show n ≤ n by omega) ?_
  refine cx_aload_n C (j := 0) dX2_init_29 rfl rfl (by omega) ?_
  refine cx_iconst C dX2_init_30 (cin rfl) ?_
  refine cx_putI C dX2_init_31 fcX2_28 ⟨_, _, _, rfl, rfl, by decide +kernel, rfl⟩ hnm ho (show n ≤ n by omega) ?_
  refine cx_aload_n C (j := 0) dX2_init_34 rfl rfl (by omega) ?_
  refine cx_iconst C dX2_init_35 (cin rfl) ?_
  refine cx_newa C dX2_init_36 l1 rfl (Or.inl ⟨rfl, rfl⟩) (xinT 186 (by decide +kernel) (by decide +kernel)) rfl (Nat.le_of_ble_eq_true rfl) (show n + 1 ≤ n + 12 by omega) ?_
  refine cx_putR C (ty := .array .int) dX2_init_38 fcX2_31 ⟨_, _, _, rfl, rfl, by decide +kernel, rfl⟩ hnm ho (show n ≤ n + 1 by omega) (Or.inr ⟨_, rfl⟩) rfl ?_
  refine cx_aload_n C (j := 0) dX2_init_41 rfl rfl (by omega) ?_
  refine cx_iconst C dX2_init_42 (cin rfl) ?_
  refine cx_putI C dX2_init_43 fcX2_35 ⟨_, _, _, rfl, rfl, by decide +kernel, rfl⟩ hnm ho (show n ≤ n + 1 by omega) ?_
  refine cx_aload_n C (j := 0) dX2_init_46 rfl rfl (by omega) ?_
  refine cx_iconst C dX2_init_47 (cin rfl) ?_
  refine cx_putI C dX2_init_48 fcX2_38 ⟨_, _, _, rfl, rfl, by decide +kernel, rfl⟩ hnm ho (show n ≤ n + 1 by omega) ?_
  refine cx_aload_n C (j := 0) dX2_init_51 rfl rfl (by omega) ?_
  refine cx_new C (C0 := RX7) (N := 7) dX2_init_52 l2 (xinT 275 (by decide +kernel) (by decide +kernel)) (xinT 151 (by decide +kernel) (by decide +kernel)) (xinT 118 (by decide +kernel) (by decide +kernel)) rfl (show n + 2 ≤ n + 12 by omega) ?_
  refine cx_dup C dX2_init_55 rfl ?_
  refine cx_callI' C (As := []) (rest := [vR (n + 2), vR n]) dX2_init_56 (fun hfr => ccX7 (o := n + 2) (by unfold isK; rw [l2]; rfl) rfl hfr) (Nat.le_of_ble_eq_true rfl) (Nat.le_of_ble_eq_true rfl) mcI7.1 (xinT 276 (by decide +kernel) (by decide +kernel)) mcI7.2.1 mcI7.2.2 rfl ⟨by decide +kernel, by decide +kernel, by decide +kernel⟩ (by omega) rfl rfl (Nat.le_of_ble_eq_true rfl) rfl (ssX7 (by unfold isK; rw [l2]; rfl)) (show n + 6 ≤ layN by omega) (show n + 6 ≤ n + 12 by omega) (fun q => cfrX7 rfl q) ?_
  refine cx_putR C (ty := .object "OnePair$Valley") dX2_init_59 fcX2_44 ⟨_, _, _, rfl, rfl, by decide +kernel, rfl⟩ hnm ho (show n ≤ n + 6 by omega) (Or.inl ⟨_, rfl⟩) rfl ?_
  refine cx_aload_n C (j := 0) dX2_init_62 rfl rfl (by omega) ?_
  refine cx_new C (C0 := RX3) (N := 4) dX2_init_63 l7 (xinT 277 (by decide +kernel) (by decide +kernel)) (xinT 157 (by decide +kernel) (by decide +kernel)) (xinT 119 (by decide +kernel) (by decide +kernel)) rfl (show n + 7 ≤ n + 12 by omega) ?_
  refine cx_dup C dX2_init_66 rfl ?_
  refine cx_bipush C dX2_init_67 rfl (cin rfl) ?_
  refine cx_iconst C dX2_init_69 (cin rfl) ?_
  refine cx_callI' C (As := [vI 16, vI 3]) (rest := [vR (n + 7), vR n]) dX2_init_70 (fun hfr => ccX3 (o := n + 7) (by unfold isK; rw [l7]; rfl) rfl hfr (by unfold cst; rw [l7]; rfl) (by unfold cst; rw [l7]; rfl)) (Nat.le_of_ble_eq_true rfl) (Nat.le_of_ble_eq_true rfl) mcI3.1 (xinT 278 (by decide +kernel) (by decide +kernel)) mcI3.2.1 mcI3.2.2 rfl ⟨by decide +kernel, by decide +kernel, by decide +kernel⟩ (by omega) rfl rfl (Nat.le_of_ble_eq_true rfl) rfl (ssX3 (by unfold isK; rw [l7]; rfl)) (show n + 8 ≤ layN by omega) (show n + 8 ≤ n + 12 by omega) (fun q => cfrX3 rfl q) ?_
  refine cx_putR C (ty := .object "OnePair$Sheet") dX2_init_73 fcX2_53 ⟨_, _, _, rfl, rfl, by decide +kernel, rfl⟩ hnm ho (show n ≤ n + 8 by omega) (Or.inl ⟨_, rfl⟩) rfl ?_
  refine cx_aload_n C (j := 0) dX2_init_76 rfl rfl (by omega) ?_
  refine cx_new C (C0 := RX3) (N := 4) dX2_init_77 l9 (xinT 277 (by decide +kernel) (by decide +kernel)) (xinT 157 (by decide +kernel) (by decide +kernel)) (xinT 119 (by decide +kernel) (by decide +kernel)) rfl (show n + 9 ≤ n + 12 by omega) ?_
  refine cx_dup C dX2_init_80 rfl ?_
  refine cx_bipush C dX2_init_81 rfl (cin rfl) ?_
  refine cx_bipush C dX2_init_83 rfl (cin rfl) ?_
  refine cx_callI' C (As := [vI 30, vI 6]) (rest := [vR (n + 9), vR n]) dX2_init_85 (fun hfr => ccX3 (o := n + 9) (by unfold isK; rw [l9]; rfl) rfl hfr (by unfold cst; rw [l9]; rfl) (by unfold cst; rw [l9]; rfl)) (Nat.le_of_ble_eq_true rfl) (Nat.le_of_ble_eq_true rfl) mcI3.1 (xinT 278 (by decide +kernel) (by decide +kernel)) mcI3.2.1 mcI3.2.2 rfl ⟨by decide +kernel, by decide +kernel, by decide +kernel⟩ (by omega) rfl rfl (Nat.le_of_ble_eq_true rfl) rfl (ssX3 (by unfold isK; rw [l9]; rfl)) (show n + 10 ≤ layN by omega) (show n + 10 ≤ n + 12 by omega) (fun q => cfrX3 rfl q) ?_
  refine cx_putR C (ty := .object "OnePair$Sheet") dX2_init_88 fcX2_57 ⟨_, _, _, rfl, rfl, by decide +kernel, rfl⟩ hnm ho (show n ≤ n + 10 by omega) (Or.inl ⟨_, rfl⟩) rfl ?_
  refine cx_aload_n C (j := 0) dX2_init_91 rfl rfl (by omega) ?_
  refine cx_new C (C0 := RX3) (N := 4) dX2_init_92 l11 (xinT 277 (by decide +kernel) (by decide +kernel)) (xinT 157 (by decide +kernel) (by decide +kernel)) (xinT 119 (by decide +kernel) (by decide +kernel)) rfl (show n + 11 ≤ n + 12 by omega) ?_
  refine cx_dup C dX2_init_95 rfl ?_
  refine cx_bipush C dX2_init_96 rfl (cin rfl) ?_
  refine cx_iconst C dX2_init_98 (cin rfl) ?_
  refine cx_callI' C (As := [vI 20, vI 2]) (rest := [vR (n + 11), vR n]) dX2_init_99 (fun hfr => ccX3 (o := n + 11) (by unfold isK; rw [l11]; rfl) rfl hfr (by unfold cst; rw [l11]; rfl) (by unfold cst; rw [l11]; rfl)) (Nat.le_of_ble_eq_true rfl) (Nat.le_of_ble_eq_true rfl) mcI3.1 (xinT 278 (by decide +kernel) (by decide +kernel)) mcI3.2.1 mcI3.2.2 rfl ⟨by decide +kernel, by decide +kernel, by decide +kernel⟩ (by omega) rfl rfl (Nat.le_of_ble_eq_true rfl) rfl (ssX3 (by unfold isK; rw [l11]; rfl)) (show n + 12 ≤ layN by omega) (show n + 12 ≤ n + 12 by omega) (fun q => cfrX3 rfl q) ?_
  refine cx_putR C (ty := .object "OnePair$Sheet") dX2_init_102 fcX2_60 ⟨_, _, _, rfl, rfl, by decide +kernel, rfl⟩ hnm ho (show n ≤ n + 12 by omega) (Or.inl ⟨_, rfl⟩) rfl ?_
  exact cx_return C dX2_init_105 hret rfl
theorem dX4_init_0 : decode cX4_init 0 = .ok (.aload_n 0, 1) := by decide +kernel
theorem dX4_init_1 : decode cX4_init 1 = .ok (.invokespecial 3, 3) := by decide +kernel
theorem dX4_init_4 : decode cX4_init 4 = .ok (.aload_n 0, 1) := by decide +kernel
theorem dX4_init_5 : decode cX4_init 5 = .ok (.sipush 600, 3) := by decide +kernel
theorem dX4_init_8 : decode cX4_init 8 = .ok (.newarray .byte, 2) := by decide +kernel
theorem dX4_init_10 : decode cX4_init 10 = .ok (.putfield 9, 3) := by decide +kernel
theorem dX4_init_13 : decode cX4_init 13 = .ok (.aload_n 0, 1) := by decide +kernel
theorem dX4_init_14 : decode cX4_init 14 = .ok (.iconst 0, 1) := by decide +kernel
theorem dX4_init_15 : decode cX4_init 15 = .ok (.putfield 15, 3) := by decide +kernel
theorem dX4_init_18 : decode cX4_init 18 = .ok (.aload_n 0, 1) := by decide +kernel
theorem dX4_init_19 : decode cX4_init 19 = .ok (.iconst 0, 1) := by decide +kernel
theorem dX4_init_20 : decode cX4_init 20 = .ok (.putfield 19, 3) := by decide +kernel
theorem dX4_init_23 : decode cX4_init 23 = .ok (.aload_n 0, 1) := by decide +kernel
theorem dX4_init_24 : decode cX4_init 24 = .ok (.iconst (-1), 1) := by decide +kernel
theorem dX4_init_25 : decode cX4_init 25 = .ok (.putfield 22, 3) := by decide +kernel
theorem dX4_init_28 : decode cX4_init 28 = .ok (.aload_n 0, 1) := by decide +kernel
theorem dX4_init_29 : decode cX4_init 29 = .ok (.iconst 4, 1) := by decide +kernel
theorem dX4_init_30 : decode cX4_init 30 = .ok (.newarray .int, 2) := by decide +kernel
theorem dX4_init_32 : decode cX4_init 32 = .ok (.putfield 25, 3) := by decide +kernel
theorem dX4_init_35 : decode cX4_init 35 = .ok (.aload_n 0, 1) := by decide +kernel
theorem dX4_init_36 : decode cX4_init 36 = .ok (.iconst 2, 1) := by decide +kernel
theorem dX4_init_37 : decode cX4_init 37 = .ok (.anewarray 29, 3) := by decide +kernel
theorem dX4_init_40 : decode cX4_init 40 = .ok (.putfield 31, 3) := by decide +kernel
theorem dX4_init_43 : decode cX4_init 43 = .ok (.aload_n 0, 1) := by decide +kernel
theorem dX4_init_44 : decode cX4_init 44 = .ok (.iconst 3, 1) := by decide +kernel
theorem dX4_init_45 : decode cX4_init 45 = .ok (.anewarray 35, 3) := by decide +kernel
theorem dX4_init_48 : decode cX4_init 48 = .ok (.putfield 37, 3) := by decide +kernel
theorem dX4_init_51 : decode cX4_init 51 = .ok (.aload_n 0, 1) := by decide +kernel
theorem dX4_init_52 : decode cX4_init 52 = .ok (.iconst 2, 1) := by decide +kernel
theorem dX4_init_53 : decode cX4_init 53 = .ok (.anewarray 35, 3) := by decide +kernel
theorem dX4_init_56 : decode cX4_init 56 = .ok (.putfield 41, 3) := by decide +kernel
theorem dX4_init_59 : decode cX4_init 59 = .ok (.aload_n 0, 1) := by decide +kernel
theorem dX4_init_60 : decode cX4_init 60 = .ok (.iconst 2, 1) := by decide +kernel
theorem dX4_init_61 : decode cX4_init 61 = .ok (.anewarray 35, 3) := by decide +kernel
theorem dX4_init_64 : decode cX4_init 64 = .ok (.putfield 44, 3) := by decide +kernel
theorem dX4_init_67 : decode cX4_init 67 = .ok (.iconst 0, 1) := by decide +kernel
theorem dX4_init_68 : decode cX4_init 68 = .ok (.istore_n 1, 1) := by decide +kernel
theorem dX4_init_69 : decode cX4_init 69 = .ok (.iload_n 1, 1) := by decide +kernel
theorem dX4_init_70 : decode cX4_init 70 = .ok (.iconst 2, 1) := by decide +kernel
theorem dX4_init_71 : decode cX4_init 71 = .ok (.if_icmp .ge 55, 3) := by decide +kernel
theorem dX4_init_74 : decode cX4_init 74 = .ok (.aload_n 0, 1) := by decide +kernel
theorem dX4_init_75 : decode cX4_init 75 = .ok (.getfield 31, 3) := by decide +kernel
theorem dX4_init_78 : decode cX4_init 78 = .ok (.iload_n 1, 1) := by decide +kernel
theorem dX4_init_79 : decode cX4_init 79 = .ok (.new 29, 3) := by decide +kernel
theorem dX4_init_82 : decode cX4_init 82 = .ok (.dup, 1) := by decide +kernel
theorem dX4_init_83 : decode cX4_init 83 = .ok (.invokespecial 47, 3) := by decide +kernel
theorem dX4_init_86 : decode cX4_init 86 = .ok (.aastore, 1) := by decide +kernel
theorem dX4_init_87 : decode cX4_init 87 = .ok (.aload_n 0, 1) := by decide +kernel
theorem dX4_init_88 : decode cX4_init 88 = .ok (.getfield 41, 3) := by decide +kernel
theorem dX4_init_91 : decode cX4_init 91 = .ok (.iload_n 1, 1) := by decide +kernel
theorem dX4_init_92 : decode cX4_init 92 = .ok (.new 35, 3) := by decide +kernel
theorem dX4_init_95 : decode cX4_init 95 = .ok (.dup, 1) := by decide +kernel
theorem dX4_init_96 : decode cX4_init 96 = .ok (.bipush 30, 2) := by decide +kernel
theorem dX4_init_98 : decode cX4_init 98 = .ok (.bipush 6, 2) := by decide +kernel
theorem dX4_init_100 : decode cX4_init 100 = .ok (.invokespecial 48, 3) := by decide +kernel
theorem dX4_init_103 : decode cX4_init 103 = .ok (.aastore, 1) := by decide +kernel
theorem dX4_init_104 : decode cX4_init 104 = .ok (.aload_n 0, 1) := by decide +kernel
theorem dX4_init_105 : decode cX4_init 105 = .ok (.getfield 44, 3) := by decide +kernel
theorem dX4_init_108 : decode cX4_init 108 = .ok (.iload_n 1, 1) := by decide +kernel
theorem dX4_init_109 : decode cX4_init 109 = .ok (.new 35, 3) := by decide +kernel
theorem dX4_init_112 : decode cX4_init 112 = .ok (.dup, 1) := by decide +kernel
theorem dX4_init_113 : decode cX4_init 113 = .ok (.bipush 20, 2) := by decide +kernel
theorem dX4_init_115 : decode cX4_init 115 = .ok (.iconst 2, 1) := by decide +kernel
theorem dX4_init_116 : decode cX4_init 116 = .ok (.invokespecial 48, 3) := by decide +kernel
theorem dX4_init_119 : decode cX4_init 119 = .ok (.aastore, 1) := by decide +kernel
theorem dX4_init_120 : decode cX4_init 120 = .ok (.iinc 1 1, 3) := by decide +kernel
theorem dX4_init_123 : decode cX4_init 123 = .ok (.goto (-54), 3) := by decide +kernel
theorem dX4_init_126 : decode cX4_init 126 = .ok (.iconst 0, 1) := by decide +kernel
theorem dX4_init_127 : decode cX4_init 127 = .ok (.istore_n 1, 1) := by decide +kernel
theorem dX4_init_128 : decode cX4_init 128 = .ok (.iload_n 1, 1) := by decide +kernel
theorem dX4_init_129 : decode cX4_init 129 = .ok (.iconst 3, 1) := by decide +kernel
theorem dX4_init_130 : decode cX4_init 130 = .ok (.if_icmp .ge 25, 3) := by decide +kernel
theorem dX4_init_133 : decode cX4_init 133 = .ok (.aload_n 0, 1) := by decide +kernel
theorem dX4_init_134 : decode cX4_init 134 = .ok (.getfield 37, 3) := by decide +kernel
theorem dX4_init_137 : decode cX4_init 137 = .ok (.iload_n 1, 1) := by decide +kernel
theorem dX4_init_138 : decode cX4_init 138 = .ok (.new 35, 3) := by decide +kernel
theorem dX4_init_141 : decode cX4_init 141 = .ok (.dup, 1) := by decide +kernel
theorem dX4_init_142 : decode cX4_init 142 = .ok (.bipush 16, 2) := by decide +kernel
theorem dX4_init_144 : decode cX4_init 144 = .ok (.iconst 3, 1) := by decide +kernel
theorem dX4_init_145 : decode cX4_init 145 = .ok (.invokespecial 48, 3) := by decide +kernel
theorem dX4_init_148 : decode cX4_init 148 = .ok (.aastore, 1) := by decide +kernel
theorem dX4_init_149 : decode cX4_init 149 = .ok (.iinc 1 1, 3) := by decide +kernel
theorem dX4_init_152 : decode cX4_init 152 = .ok (.goto (-24), 3) := by decide +kernel
theorem dX4_init_155 : decode cX4_init 155 = .ok (.return_, 1) := by decide +kernel
theorem fcX4_9 : xFld RX4 9 4 0 2 1 := ⟨_, _, _, rfl, Nat.le_of_ble_eq_true rfl, rfl, (xinT 235 (by decide +kernel) (by decide +kernel)), rfl⟩
theorem fcX4_15 : xFld RX4 15 4 1 0 0 := ⟨_, _, _, rfl, Nat.le_of_ble_eq_true rfl, rfl, (xinT 237 (by decide +kernel) (by decide +kernel)), rfl⟩
theorem fcX4_19 : xFld RX4 19 4 2 0 0 := ⟨_, _, _, rfl, Nat.le_of_ble_eq_true rfl, rfl, (xinT 239 (by decide +kernel) (by decide +kernel)), rfl⟩
theorem fcX4_22 : xFld RX4 22 4 3 0 0 := ⟨_, _, _, rfl, Nat.le_of_ble_eq_true rfl, rfl, (xinT 241 (by decide +kernel) (by decide +kernel)), rfl⟩
theorem fcX4_25 : xFld RX4 25 4 4 2 2 := ⟨_, _, _, rfl, Nat.le_of_ble_eq_true rfl, rfl, (xinT 243 (by decide +kernel) (by decide +kernel)), rfl⟩
theorem fcX4_31 : xFld RX4 31 4 5 2 3 := ⟨_, _, _, rfl, Nat.le_of_ble_eq_true rfl, rfl, (xinT 245 (by decide +kernel) (by decide +kernel)), rfl⟩
theorem fcX4_37 : xFld RX4 37 4 6 2 4 := ⟨_, _, _, rfl, Nat.le_of_ble_eq_true rfl, rfl, (xinT 246 (by decide +kernel) (by decide +kernel)), rfl⟩
theorem fcX4_41 : xFld RX4 41 4 7 2 5 := ⟨_, _, _, rfl, Nat.le_of_ble_eq_true rfl, rfl, (xinT 247 (by decide +kernel) (by decide +kernel)), rfl⟩
theorem fcX4_44 : xFld RX4 44 4 8 2 6 := ⟨_, _, _, rfl, Nat.le_of_ble_eq_true rfl, rfl, (xinT 248 (by decide +kernel) (by decide +kernel)), rfl⟩
theorem layX4 {o : Nat} (ho : isK o 4) : o + 30 ≤ layN ∧ o ≠ 0 ∧ lay (o + 1) = some (.inr (.inl (1, 600))) ∧ lay (o + 2) = some (.inr (.inl (0, 4))) ∧ lay (o + 3) = some (.inr (.inr (7, 2, 4, 9))) ∧ lay (o + 4) = some (.inr (.inr (3, 3, 21, 2))) ∧ lay (o + 5) = some (.inr (.inr (3, 2, 7, 9))) ∧ lay (o + 6) = some (.inr (.inr (3, 2, 8, 9))) ∧ lay (o + 7) = some (.inl (7, [])) ∧ lay (o + 12) = some (.inl (3, [30, 6])) ∧ lay (o + 14) = some (.inl (3, [20, 2])) ∧ lay (o + 16) = some (.inl (7, [])) ∧ lay (o + 21) = some (.inl (3, [30, 6])) ∧ lay (o + 23) = some (.inl (3, [20, 2])) ∧ lay (o + 25) = some (.inl (3, [16, 3])) ∧ lay (o + 27) = some (.inl (3, [16, 3])) ∧ lay (o + 29) = some (.inl (3, [16, 3])) := by
  have h := layq (P := fun o => decide (o + 30 ≤ layN) && (decide (o ≠ 0) && decide (lay (o + 1) = some (.inr (.inl (1, 600)))) && decide (lay (o + 2) = some (.inr (.inl (0, 4)))) && decide (lay (o + 3) = some (.inr (.inr (7, 2, 4, 9)))) && decide (lay (o + 4) = some (.inr (.inr (3, 3, 21, 2)))) && decide (lay (o + 5) = some (.inr (.inr (3, 2, 7, 9)))) && decide (lay (o + 6) = some (.inr (.inr (3, 2, 8, 9)))) && decide (lay (o + 7) = some (.inl (7, []))) && decide (lay (o + 12) = some (.inl (3, [30, 6]))) && decide (lay (o + 14) = some (.inl (3, [20, 2]))) && decide (lay (o + 16) = some (.inl (7, []))) && decide (lay (o + 21) = some (.inl (3, [30, 6]))) && decide (lay (o + 23) = some (.inl (3, [20, 2]))) && decide (lay (o + 25) = some (.inl (3, [16, 3]))) && decide (lay (o + 27) = some (.inl (3, [16, 3]))) && decide (lay (o + 29) = some (.inl (3, [16, 3]))))) (by decide +kernel) ho
  simp only [Bool.and_eq_true, decide_eq_true_eq] at h
  obtain ⟨h1, ⟨⟨⟨⟨⟨⟨⟨⟨⟨⟨⟨⟨⟨⟨⟨h2, g1⟩, g2⟩, g3⟩, g4⟩, g5⟩, g6⟩, g7⟩, g12⟩, g14⟩, g16⟩, g21⟩, g23⟩, g25⟩, g27⟩, g29⟩⟩ := h
  exact ⟨h1, h2, g1, g2, g3, g4, g5, g6, g7, g12, g14, g16, g21, g23, g25, g27, g29⟩
theorem ssX4 {o : Nat} (ho : isK o 4) : ssum (o + 30) = ssum o + 1355 := of_decide_eq_true (layq (P := fun o => decide (ssum (o + 30) = ssum o + 1355)) (by decide +kernel) ho)
def rgX4 : List (Nat × Nat) := [(4, 2), (29, 2), (29, 1), (29, 0), (4, 1), (27, 2), (27, 1), (27, 0), (4, 0), (25, 2), (25, 1), (25, 0), (6, 1), (23, 2), (23, 1), (23, 0), (5, 1), (21, 2), (21, 1), (21, 0), (3, 1), (16, 6), (19, 2), (19, 1), (19, 0), (16, 5), (17, 2), (17, 1), (17, 0), (6, 0), (14, 2), (14, 1), (14, 0), (5, 0), (12, 2), (12, 1), (12, 0), (3, 0), (7, 6), (10, 2), (10, 1), (10, 0), (7, 5), (8, 2), (8, 1), (8, 0), (0, 8), (0, 7), (0, 6), (0, 5), (0, 4), (0, 0)]
def rfX4 : List (Nat × Nat × Int) := [(29, 3, 0), (27, 3, 0), (25, 3, 0), (23, 3, 0), (21, 3, 0), (19, 3, 0), (17, 3, 0), (16, 4, 0), (16, 3, 48), (16, 2, 0), (16, 1, 9), (16, 0, 24), (14, 3, 0), (12, 3, 0), (10, 3, 0), (8, 3, 0), (7, 4, 0), (7, 3, 48), (7, 2, 0), (7, 1, 9), (7, 0, 24), (0, 3, -1), (0, 2, 0), (0, 1, 0)]
def mkX4 (o : Nat) (M : CM) : CM := (o + 30, (o + 4, 2) :: (o + 29, 2) :: (o + 29, 1) :: (o + 29, 0) :: (o + 4, 1) :: (o + 27, 2) :: (o + 27, 1) :: (o + 27, 0) :: (o + 4, 0) :: (o + 25, 2) :: (o + 25, 1) :: (o + 25, 0) :: (o + 6, 1) :: (o + 23, 2) :: (o + 23, 1) :: (o + 23, 0) :: (o + 5, 1) :: (o + 21, 2) :: (o + 21, 1) :: (o + 21, 0) :: (o + 3, 1) :: (o + 16, 6) :: (o + 19, 2) :: (o + 19, 1) :: (o + 19, 0) :: (o + 16, 5) :: (o + 17, 2) :: (o + 17, 1) :: (o + 17, 0) :: (o + 6, 0) :: (o + 14, 2) :: (o + 14, 1) :: (o + 14, 0) :: (o + 5, 0) :: (o + 12, 2) :: (o + 12, 1) :: (o + 12, 0) :: (o + 3, 0) :: (o + 7, 6) :: (o + 10, 2) :: (o + 10, 1) :: (o + 10, 0) :: (o + 7, 5) :: (o + 8, 2) :: (o + 8, 1) :: (o + 8, 0) :: (o, 8) :: (o, 7) :: (o, 6) :: (o, 5) :: (o, 4) :: (o, 0) :: M.2.1, (o + 29, 3, 0) :: (o + 27, 3, 0) :: (o + 25, 3, 0) :: (o + 23, 3, 0) :: (o + 21, 3, 0) :: (o + 19, 3, 0) :: (o + 17, 3, 0) :: (o + 16, 4, 0) :: (o + 16, 3, 48) :: (o + 16, 2, 0) :: (o + 16, 1, 9) :: (o + 16, 0, 24) :: (o + 14, 3, 0) :: (o + 12, 3, 0) :: (o + 10, 3, 0) :: (o + 8, 3, 0) :: (o + 7, 4, 0) :: (o + 7, 3, 48) :: (o + 7, 2, 0) :: (o + 7, 1, 9) :: (o + 7, 0, 24) :: (o, 3, -1) :: (o, 2, 0) :: (o, 1, 0) :: M.2.2)
theorem gk_mk4 {M : CM} {o k o2 : Nat} (h : gL M.2.1 o k = true) : gL (mkX4 o2 M).2.1 o k = true := (gk_app h : gL ((rgX4.map fun q => (o2 + q.1, q.2)) ++ M.2.1) o k = true)
theorem cfrX4 {o : Nat} {M : CM} (hM : M.1 = o) (h : cfresh M) : cfresh (mkX4 o M) := (cfresh_app (o := o) (n := 30) (Gs := rgX4) (Fs := rfX4) h (by omega) (by decide +kernel) (by decide +kernel) : _)
theorem mcI4 : Cond.code yX4_init cX4_init 2 none ∈ xw_T ∧ Cond.initialized yX4_init.cls ∈ xw_T ∧ Cond.instanceMethod yX4_init ∈ xw_T := ⟨(xinT 145 (by decide +kernel) (by decide +kernel)), (xinT 117 (by decide +kernel) (by decide +kernel)), (xinT 144 (by decide +kernel) (by decide +kernel))⟩
set_option maxHeartbeats 2000000 in
set_option maxRecDepth 100000 in
theorem ccX4 {o : Nat} {M : CM} (ho : isK o 4) (hM : M.1 = o) (hfr : cfresh M) : xCC yX4_init cX4_init 2 3 82 30 (1355) [vR o] M (mkX4 o M) := by
  obtain ⟨n, Gm, Fm⟩ := M
  obtain rfl : n = o := hM
  have hl := layX4 ho
  obtain ⟨hlN, ho0, l1, l2, l3, l4, l5, l6, l7, l12, l14, l16, l21, l23, l25, l27, l29⟩ := hl
  refine xcc_of (n1 := n + 30) (by decide +kernel) rfl (Nat.le_of_ble_eq_true rfl) (fun v hv => by rcases List.mem_cons.mp hv with rfl | hv <;> first | trivial | cases hv) hfr (show n ≤ layN by omega) (show n + 30 - n = 30 by omega) (sub_of (ssX4 ho)) (fun p l e R s m args below meth c D ad cA base C hret hnm => ?_)
  refine cx_aload_n C (j := 0) dX4_init_0 rfl rfl (by omega) ?_
  refine cx_objInit C dX4_init_1 (xinT 146 (by decide +kernel) (by decide +kernel)) oi_inst oi_code (by omega) (Nat.le_of_ble_eq_true rfl) (Nat.le_of_ble_eq_true rfl) (Nat.le_of_ble_eq_true rfl) ?_
  refine cx_aload_n C (j := 0) dX4_init_4 rfl rfl (by omega) ?_
  refine cx_sipush C dX4_init_5 rfl (cin rfl) ?_
  refine cx_newa C dX4_init_8 l1 rfl (Or.inr (Or.inl ⟨rfl, rfl⟩)) (xinT 185 (by decide +kernel) (by decide +kernel)) rfl (Nat.le_of_ble_eq_true rfl) (show n + 1 ≤ n + 30 by omega) ?_
  refine cx_putR C (ty := .array .byte) dX4_init_10 fcX4_9 ⟨_, _, _, rfl, rfl, by decide +kernel, rfl⟩ hnm ho (show n ≤ n + 1 by omega) (Or.inr ⟨_, rfl⟩) rfl ?_
  refine cx_aload_n C (j := 0) dX4_init_13 rfl rfl (by omega) ?_
  refine cx_iconst C dX4_init_14 (cin rfl) ?_
  refine cx_putI C dX4_init_15 fcX4_15 ⟨_, _, _, rfl, rfl, by decide +kernel, rfl⟩ hnm ho (show n ≤ n + 1 by omega) ?_
  refine cx_aload_n C (j := 0) dX4_init_18 rfl rfl (by omega) ?_
  refine cx_iconst C dX4_init_19 (cin rfl) ?_
  refine cx_putI C dX4_init_20 fcX4_19 ⟨_, _, _, rfl, rfl, by decide +kernel, rfl⟩ hnm ho (show n ≤ n + 1 by omega) ?_
  refine cx_aload_n C (j := 0) dX4_init_23 rfl rfl (by omega) ?_
  refine cx_iconst C dX4_init_24 (cin rfl) ?_
  refine cx_putI C dX4_init_25 fcX4_22 ⟨_, _, _, rfl, rfl, by decide +kernel, rfl⟩ hnm ho (show n ≤ n + 1 by omega) ?_
  refine cx_aload_n C (j := 0) dX4_init_28 rfl rfl (by omega) ?_
  refine cx_iconst C dX4_init_29 (cin rfl) ?_
  refine cx_newa C dX4_init_30 l2 rfl (Or.inl ⟨rfl, rfl⟩) (xinT 186 (by decide +kernel) (by decide +kernel)) rfl (Nat.le_of_ble_eq_true rfl) (show n + 2 ≤ n + 30 by omega) ?_
  refine cx_putR C (ty := .array .int) dX4_init_32 fcX4_25 ⟨_, _, _, rfl, rfl, by decide +kernel, rfl⟩ hnm ho (show n ≤ n + 2 by omega) (Or.inr ⟨_, rfl⟩) rfl ?_
  refine cx_aload_n C (j := 0) dX4_init_35 rfl rfl (by omega) ?_
  refine cx_iconst C dX4_init_36 (cin rfl) ?_
  refine cx_newq C (C0 := "OnePair$Valley") dX4_init_37 l3 (Or.inl ⟨rfl, rfl⟩) (xinT 147 (by decide +kernel) (by decide +kernel)) (va_AO.use C.2.2.2.2.2.2.2.2.2.2.2.2.2.1) rfl (Nat.le_of_ble_eq_true rfl) (show n + 3 ≤ n + 30 by omega) ?_
  refine cx_putR C (ty := .array (.object "OnePair$Valley")) dX4_init_40 fcX4_31 ⟨_, _, _, rfl, rfl, by decide +kernel, rfl⟩ hnm ho (show n ≤ n + 3 by omega) (Or.inr ⟨_, rfl⟩) rfl ?_
  refine cx_aload_n C (j := 0) dX4_init_43 rfl rfl (by omega) ?_
  refine cx_iconst C dX4_init_44 (cin rfl) ?_
  refine cx_newq C (C0 := "OnePair$Sheet") dX4_init_45 l4 (Or.inr (Or.inl ⟨rfl, rfl⟩)) (xinT 149 (by decide +kernel) (by decide +kernel)) (va_AO.use C.2.2.2.2.2.2.2.2.2.2.2.2.2.2.1) rfl (Nat.le_of_ble_eq_true rfl) (show n + 4 ≤ n + 30 by omega) ?_
  refine cx_putR C (ty := .array (.object "OnePair$Sheet")) dX4_init_48 fcX4_37 ⟨_, _, _, rfl, rfl, by decide +kernel, rfl⟩ hnm ho (show n ≤ n + 4 by omega) (Or.inr ⟨_, rfl⟩) rfl ?_
  refine cx_aload_n C (j := 0) dX4_init_51 rfl rfl (by omega) ?_
  refine cx_iconst C dX4_init_52 (cin rfl) ?_
  refine cx_newq C (C0 := "OnePair$Sheet") dX4_init_53 l5 (Or.inr (Or.inl ⟨rfl, rfl⟩)) (xinT 149 (by decide +kernel) (by decide +kernel)) (va_AO.use C.2.2.2.2.2.2.2.2.2.2.2.2.2.2.1) rfl (Nat.le_of_ble_eq_true rfl) (show n + 5 ≤ n + 30 by omega) ?_
  refine cx_putR C (ty := .array (.object "OnePair$Sheet")) dX4_init_56 fcX4_41 ⟨_, _, _, rfl, rfl, by decide +kernel, rfl⟩ hnm ho (show n ≤ n + 5 by omega) (Or.inr ⟨_, rfl⟩) rfl ?_
  refine cx_aload_n C (j := 0) dX4_init_59 rfl rfl (by omega) ?_
  refine cx_iconst C dX4_init_60 (cin rfl) ?_
  refine cx_newq C (C0 := "OnePair$Sheet") dX4_init_61 l6 (Or.inr (Or.inl ⟨rfl, rfl⟩)) (xinT 149 (by decide +kernel) (by decide +kernel)) (va_AO.use C.2.2.2.2.2.2.2.2.2.2.2.2.2.2.1) rfl (Nat.le_of_ble_eq_true rfl) (show n + 6 ≤ n + 30 by omega) ?_
  refine cx_putR C (ty := .array (.object "OnePair$Sheet")) dX4_init_64 fcX4_44 ⟨_, _, _, rfl, rfl, by decide +kernel, rfl⟩ hnm ho (show n ≤ n + 6 by omega) (Or.inr ⟨_, rfl⟩) rfl ?_
  refine cx_iconst C dX4_init_67 (cin rfl) ?_
  refine cx_istore_n C (ls' := [(1, vI 0), (0, vR n)]) dX4_init_68 rfl (Nat.le_of_ble_eq_true rfl) rfl ?_
  refine cx_iload_n C (j := 0) dX4_init_69 rfl rfl ?_
  refine cx_iconst C dX4_init_70 (cin rfl) ?_
  refine cx_icmp_geF C (tgt := 126) dX4_init_71 rfl (by decide) ?_
  refine cx_aload_n C (j := 1) dX4_init_74 rfl rfl (by omega) ?_
  refine cx_getR C dX4_init_75 fcX4_31 ho (show n ≤ n + 6 by omega) (gk_gs (gk_al (gk_gs (gk_al (gk_gs (gk_al (gs_on _ _ _))))))) ?_
  refine cx_iload_n C (j := 0) dX4_init_78 rfl rfl ?_
  refine cx_new C (C0 := RX7) (N := 7) dX4_init_79 l7 (xinT 147 (by decide +kernel) (by decide +kernel)) (xinT 151 (by decide +kernel) (by decide +kernel)) (xinT 118 (by decide +kernel) (by decide +kernel)) rfl (show n + 7 ≤ n + 30 by omega) ?_
  refine cx_dup C dX4_init_82 rfl ?_
  refine cx_callI' C (As := []) (rest := [vR (n + 7), vI 0, vR (n + 3)]) dX4_init_83 (fun hfr => ccX7 (o := n + 7) (by unfold isK; rw [l7]; rfl) rfl hfr) (Nat.le_of_ble_eq_true rfl) (Nat.le_of_ble_eq_true rfl) mcI7.1 (xinT 152 (by decide +kernel) (by decide +kernel)) mcI7.2.1 mcI7.2.2 rfl ⟨by decide +kernel, by decide +kernel, by decide +kernel⟩ (by omega) rfl rfl (Nat.le_of_ble_eq_true rfl) rfl (ssX7 (by unfold isK; rw [l7]; rfl)) (show n + 11 ≤ layN by omega) (show n + 11 ≤ n + 30 by omega) (fun q => cfrX7 rfl q) ?_
  refine cx_aastore C (ci := 7) (cj := 0) (C0 := RX7) dX4_init_86 (by unfold isRA; rw [l3]; rfl) (show n + 3 ≤ n + 11 by omega) (by decide) (by unfold alen; rw [l3]; decide) (by unfold aref; rw [l3]; rfl) (by unfold isK; rw [l7]; rfl) (show n + 7 ≤ n + 11 by omega) rfl ⟨4, rfl⟩ ?_
  refine cx_aload_n C (j := 1) dX4_init_87 rfl rfl (by omega) ?_
  refine cx_getR C dX4_init_88 fcX4_41 ho (show n ≤ n + 11 by omega) (gk_gs (gk_mk7 (gk_al (gk_gs (gk_al (gs_on _ _ _)))))) ?_
  refine cx_iload_n C (j := 0) dX4_init_91 rfl rfl ?_
  refine cx_new C (C0 := RX3) (N := 4) dX4_init_92 l12 (xinT 149 (by decide +kernel) (by decide +kernel)) (xinT 157 (by decide +kernel) (by decide +kernel)) (xinT 119 (by decide +kernel) (by decide +kernel)) rfl (show n + 12 ≤ n + 30 by omega) ?_
  refine cx_dup C dX4_init_95 rfl ?_
  refine cx_bipush C dX4_init_96 rfl (cin rfl) ?_
  refine cx_bipush C dX4_init_98 rfl (cin rfl) ?_
  refine cx_callI' C (As := [vI 30, vI 6]) (rest := [vR (n + 12), vI 0, vR (n + 5)]) dX4_init_100 (fun hfr => ccX3 (o := n + 12) (by unfold isK; rw [l12]; rfl) rfl hfr (by unfold cst; rw [l12]; rfl) (by unfold cst; rw [l12]; rfl)) (Nat.le_of_ble_eq_true rfl) (Nat.le_of_ble_eq_true rfl) mcI3.1 (xinT 234 (by decide +kernel) (by decide +kernel)) mcI3.2.1 mcI3.2.2 rfl ⟨by decide +kernel, by decide +kernel, by decide +kernel⟩ (by omega) rfl rfl (Nat.le_of_ble_eq_true rfl) rfl (ssX3 (by unfold isK; rw [l12]; rfl)) (show n + 13 ≤ layN by omega) (show n + 13 ≤ n + 30 by omega) (fun q => cfrX3 rfl q) ?_
  refine cx_aastore C (ci := 3) (cj := 0) (C0 := RX3) dX4_init_103 (by unfold isRA; rw [l5]; rfl) (show n + 5 ≤ n + 13 by omega) (by decide) (by unfold alen; rw [l5]; decide) (by unfold aref; rw [l5]; rfl) (by unfold isK; rw [l12]; rfl) (show n + 12 ≤ n + 13 by omega) rfl ⟨5, rfl⟩ ?_
  refine cx_aload_n C (j := 1) dX4_init_104 rfl rfl (by omega) ?_
  refine cx_getR C dX4_init_105 fcX4_44 ho (show n ≤ n + 13 by omega) (gk_gs (gk_mk3 (gk_al (gk_gs (gk_mk7 (gk_al (gs_on _ _ _))))))) ?_
  refine cx_iload_n C (j := 0) dX4_init_108 rfl rfl ?_
  refine cx_new C (C0 := RX3) (N := 4) dX4_init_109 l14 (xinT 149 (by decide +kernel) (by decide +kernel)) (xinT 157 (by decide +kernel) (by decide +kernel)) (xinT 119 (by decide +kernel) (by decide +kernel)) rfl (show n + 14 ≤ n + 30 by omega) ?_
  refine cx_dup C dX4_init_112 rfl ?_
  refine cx_bipush C dX4_init_113 rfl (cin rfl) ?_
  refine cx_iconst C dX4_init_115 (cin rfl) ?_
  refine cx_callI' C (As := [vI 20, vI 2]) (rest := [vR (n + 14), vI 0, vR (n + 6)]) dX4_init_116 (fun hfr => ccX3 (o := n + 14) (by unfold isK; rw [l14]; rfl) rfl hfr (by unfold cst; rw [l14]; rfl) (by unfold cst; rw [l14]; rfl)) (Nat.le_of_ble_eq_true rfl) (Nat.le_of_ble_eq_true rfl) mcI3.1 (xinT 234 (by decide +kernel) (by decide +kernel)) mcI3.2.1 mcI3.2.2 rfl ⟨by decide +kernel, by decide +kernel, by decide +kernel⟩ (by omega) rfl rfl (Nat.le_of_ble_eq_true rfl) rfl (ssX3 (by unfold isK; rw [l14]; rfl)) (show n + 15 ≤ layN by omega) (show n + 15 ≤ n + 30 by omega) (fun q => cfrX3 rfl q) ?_
  refine cx_aastore C (ci := 3) (cj := 0) (C0 := RX3) dX4_init_119 (by unfold isRA; rw [l6]; rfl) (show n + 6 ≤ n + 15 by omega) (by decide) (by unfold alen; rw [l6]; decide) (by unfold aref; rw [l6]; rfl) (by unfold isK; rw [l14]; rfl) (show n + 14 ≤ n + 15 by omega) rfl ⟨5, rfl⟩ ?_
  refine cx_iinc C (ls' := [(1, vI 1), (0, vR n)]) (j := 0) dX4_init_120 rfl (Nat.le_of_ble_eq_true rfl) rfl ?_
  refine cx_goto C (tgt := 69) dX4_init_123 rfl ?_
  refine cx_iload_n C (j := 0) dX4_init_69 rfl rfl ?_
  refine cx_iconst C dX4_init_70 (cin rfl) ?_
  refine cx_icmp_geF C (tgt := 126) dX4_init_71 rfl (by decide) ?_
  refine cx_aload_n C (j := 1) dX4_init_74 rfl rfl (by omega) ?_
  refine cx_getR C dX4_init_75 fcX4_31 ho (show n ≤ n + 15 by omega) (gk_gs (gk_mk3 (gk_al (gk_gs (gk_mk3 (gk_al (gk_gs (gk_mk7 (gk_al (gk_gs (gk_al (gk_gs (gk_al (gk_gs (gk_al (gs_on _ _ _)))))))))))))))) ?_
  refine cx_iload_n C (j := 0) dX4_init_78 rfl rfl ?_
  refine cx_new C (C0 := RX7) (N := 7) dX4_init_79 l16 (xinT 147 (by decide +kernel) (by decide +kernel)) (xinT 151 (by decide +kernel) (by decide +kernel)) (xinT 118 (by decide +kernel) (by decide +kernel)) rfl (show n + 16 ≤ n + 30 by omega) ?_
  refine cx_dup C dX4_init_82 rfl ?_
  refine cx_callI' C (As := []) (rest := [vR (n + 16), vI 1, vR (n + 3)]) dX4_init_83 (fun hfr => ccX7 (o := n + 16) (by unfold isK; rw [l16]; rfl) rfl hfr) (Nat.le_of_ble_eq_true rfl) (Nat.le_of_ble_eq_true rfl) mcI7.1 (xinT 152 (by decide +kernel) (by decide +kernel)) mcI7.2.1 mcI7.2.2 rfl ⟨by decide +kernel, by decide +kernel, by decide +kernel⟩ (by omega) rfl rfl (Nat.le_of_ble_eq_true rfl) rfl (ssX7 (by unfold isK; rw [l16]; rfl)) (show n + 20 ≤ layN by omega) (show n + 20 ≤ n + 30 by omega) (fun q => cfrX7 rfl q) ?_
  refine cx_aastore C (ci := 7) (cj := 0) (C0 := RX7) dX4_init_86 (by unfold isRA; rw [l3]; rfl) (show n + 3 ≤ n + 20 by omega) (by decide) (by unfold alen; rw [l3]; decide) (by unfold aref; rw [l3]; rfl) (by unfold isK; rw [l16]; rfl) (show n + 16 ≤ n + 20 by omega) rfl ⟨4, rfl⟩ ?_
  refine cx_aload_n C (j := 1) dX4_init_87 rfl rfl (by omega) ?_
  refine cx_getR C dX4_init_88 fcX4_41 ho (show n ≤ n + 20 by omega) (gk_gs (gk_mk7 (gk_al (gk_gs (gk_mk3 (gk_al (gk_gs (gk_mk3 (gk_al (gk_gs (gk_mk7 (gk_al (gk_gs (gk_al (gs_on _ _ _))))))))))))))) ?_
  refine cx_iload_n C (j := 0) dX4_init_91 rfl rfl ?_
  refine cx_new C (C0 := RX3) (N := 4) dX4_init_92 l21 (xinT 149 (by decide +kernel) (by decide +kernel)) (xinT 157 (by decide +kernel) (by decide +kernel)) (xinT 119 (by decide +kernel) (by decide +kernel)) rfl (show n + 21 ≤ n + 30 by omega) ?_
  refine cx_dup C dX4_init_95 rfl ?_
  refine cx_bipush C dX4_init_96 rfl (cin rfl) ?_
  refine cx_bipush C dX4_init_98 rfl (cin rfl) ?_
  refine cx_callI' C (As := [vI 30, vI 6]) (rest := [vR (n + 21), vI 1, vR (n + 5)]) dX4_init_100 (fun hfr => ccX3 (o := n + 21) (by unfold isK; rw [l21]; rfl) rfl hfr (by unfold cst; rw [l21]; rfl) (by unfold cst; rw [l21]; rfl)) (Nat.le_of_ble_eq_true rfl) (Nat.le_of_ble_eq_true rfl) mcI3.1 (xinT 234 (by decide +kernel) (by decide +kernel)) mcI3.2.1 mcI3.2.2 rfl ⟨by decide +kernel, by decide +kernel, by decide +kernel⟩ (by omega) rfl rfl (Nat.le_of_ble_eq_true rfl) rfl (ssX3 (by unfold isK; rw [l21]; rfl)) (show n + 22 ≤ layN by omega) (show n + 22 ≤ n + 30 by omega) (fun q => cfrX3 rfl q) ?_
  refine cx_aastore C (ci := 3) (cj := 0) (C0 := RX3) dX4_init_103 (by unfold isRA; rw [l5]; rfl) (show n + 5 ≤ n + 22 by omega) (by decide) (by unfold alen; rw [l5]; decide) (by unfold aref; rw [l5]; rfl) (by unfold isK; rw [l21]; rfl) (show n + 21 ≤ n + 22 by omega) rfl ⟨5, rfl⟩ ?_
  refine cx_aload_n C (j := 1) dX4_init_104 rfl rfl (by omega) ?_
  refine cx_getR C dX4_init_105 fcX4_44 ho (show n ≤ n + 22 by omega) (gk_gs (gk_mk3 (gk_al (gk_gs (gk_mk7 (gk_al (gk_gs (gk_mk3 (gk_al (gk_gs (gk_mk3 (gk_al (gk_gs (gk_mk7 (gk_al (gs_on _ _ _)))))))))))))))) ?_
  refine cx_iload_n C (j := 0) dX4_init_108 rfl rfl ?_
  refine cx_new C (C0 := RX3) (N := 4) dX4_init_109 l23 (xinT 149 (by decide +kernel) (by decide +kernel)) (xinT 157 (by decide +kernel) (by decide +kernel)) (xinT 119 (by decide +kernel) (by decide +kernel)) rfl (show n + 23 ≤ n + 30 by omega) ?_
  refine cx_dup C dX4_init_112 rfl ?_
  refine cx_bipush C dX4_init_113 rfl (cin rfl) ?_
  refine cx_iconst C dX4_init_115 (cin rfl) ?_
  refine cx_callI' C (As := [vI 20, vI 2]) (rest := [vR (n + 23), vI 1, vR (n + 6)]) dX4_init_116 (fun hfr => ccX3 (o := n + 23) (by unfold isK; rw [l23]; rfl) rfl hfr (by unfold cst; rw [l23]; rfl) (by unfold cst; rw [l23]; rfl)) (Nat.le_of_ble_eq_true rfl) (Nat.le_of_ble_eq_true rfl) mcI3.1 (xinT 234 (by decide +kernel) (by decide +kernel)) mcI3.2.1 mcI3.2.2 rfl ⟨by decide +kernel, by decide +kernel, by decide +kernel⟩ (by omega) rfl rfl (Nat.le_of_ble_eq_true rfl) rfl (ssX3 (by unfold isK; rw [l23]; rfl)) (show n + 24 ≤ layN by omega) (show n + 24 ≤ n + 30 by omega) (fun q => cfrX3 rfl q) ?_
  refine cx_aastore C (ci := 3) (cj := 0) (C0 := RX3) dX4_init_119 (by unfold isRA; rw [l6]; rfl) (show n + 6 ≤ n + 24 by omega) (by decide) (by unfold alen; rw [l6]; decide) (by unfold aref; rw [l6]; rfl) (by unfold isK; rw [l23]; rfl) (show n + 23 ≤ n + 24 by omega) rfl ⟨5, rfl⟩ ?_
  refine cx_iinc C (ls' := [(1, vI 2), (0, vR n)]) (j := 0) dX4_init_120 rfl (Nat.le_of_ble_eq_true rfl) rfl ?_
  refine cx_goto C (tgt := 69) dX4_init_123 rfl ?_
  refine cx_iload_n C (j := 0) dX4_init_69 rfl rfl ?_
  refine cx_iconst C dX4_init_70 (cin rfl) ?_
  refine cx_icmp_geT C (tgt := 126) dX4_init_71 rfl (by decide) ?_
  refine cx_iconst C dX4_init_126 (cin rfl) ?_
  refine cx_istore_n C (ls' := [(1, vI 0), (0, vR n)]) dX4_init_127 rfl (Nat.le_of_ble_eq_true rfl) rfl ?_
  refine cx_iload_n C (j := 0) dX4_init_128 rfl rfl ?_
  refine cx_iconst C dX4_init_129 (cin rfl) ?_
  refine cx_icmp_geF C (tgt := 155) dX4_init_130 rfl (by decide) ?_
  refine cx_aload_n C (j := 1) dX4_init_133 rfl rfl (by omega) ?_
  refine cx_getR C dX4_init_134 fcX4_37 ho (show n ≤ n + 24 by omega) (gk_gs (gk_mk3 (gk_al (gk_gs (gk_mk3 (gk_al (gk_gs (gk_mk7 (gk_al (gk_gs (gk_mk3 (gk_al (gk_gs (gk_mk3 (gk_al (gk_gs (gk_mk7 (gk_al (gk_gs (gk_al (gk_gs (gk_al (gs_on _ _ _))))))))))))))))))))))) ?_
  refine cx_iload_n C (j := 0) dX4_init_137 rfl rfl ?_
  refine cx_new C (C0 := RX3) (N := 4) dX4_init_138 l25 (xinT 149 (by decide +kernel) (by decide +kernel)) (xinT 157 (by decide +kernel) (by decide +kernel)) (xinT 119 (by decide +kernel) (by decide +kernel)) rfl (show n + 25 ≤ n + 30 by omega) ?_
  refine cx_dup C dX4_init_141 rfl ?_
  refine cx_bipush C dX4_init_142 rfl (cin rfl) ?_
  refine cx_iconst C dX4_init_144 (cin rfl) ?_
  refine cx_callI' C (As := [vI 16, vI 3]) (rest := [vR (n + 25), vI 0, vR (n + 4)]) dX4_init_145 (fun hfr => ccX3 (o := n + 25) (by unfold isK; rw [l25]; rfl) rfl hfr (by unfold cst; rw [l25]; rfl) (by unfold cst; rw [l25]; rfl)) (Nat.le_of_ble_eq_true rfl) (Nat.le_of_ble_eq_true rfl) mcI3.1 (xinT 234 (by decide +kernel) (by decide +kernel)) mcI3.2.1 mcI3.2.2 rfl ⟨by decide +kernel, by decide +kernel, by decide +kernel⟩ (by omega) rfl rfl (Nat.le_of_ble_eq_true rfl) rfl (ssX3 (by unfold isK; rw [l25]; rfl)) (show n + 26 ≤ layN by omega) (show n + 26 ≤ n + 30 by omega) (fun q => cfrX3 rfl q) ?_
  refine cx_aastore C (ci := 3) (cj := 0) (C0 := RX3) dX4_init_148 (by unfold isRA; rw [l4]; rfl) (show n + 4 ≤ n + 26 by omega) (by decide) (by unfold alen; rw [l4]; decide) (by unfold aref; rw [l4]; rfl) (by unfold isK; rw [l25]; rfl) (show n + 25 ≤ n + 26 by omega) rfl ⟨5, rfl⟩ ?_
  refine cx_iinc C (ls' := [(1, vI 1), (0, vR n)]) (j := 0) dX4_init_149 rfl (Nat.le_of_ble_eq_true rfl) rfl ?_
  refine cx_goto C (tgt := 128) dX4_init_152 rfl ?_
  refine cx_iload_n C (j := 0) dX4_init_128 rfl rfl ?_
  refine cx_iconst C dX4_init_129 (cin rfl) ?_
  refine cx_icmp_geF C (tgt := 155) dX4_init_130 rfl (by decide) ?_
  refine cx_aload_n C (j := 1) dX4_init_133 rfl rfl (by omega) ?_
  refine cx_getR C dX4_init_134 fcX4_37 ho (show n ≤ n + 26 by omega) (gk_gs (gk_mk3 (gk_al (gk_gs (gk_mk3 (gk_al (gk_gs (gk_mk3 (gk_al (gk_gs (gk_mk7 (gk_al (gk_gs (gk_mk3 (gk_al (gk_gs (gk_mk3 (gk_al (gk_gs (gk_mk7 (gk_al (gk_gs (gk_al (gk_gs (gk_al (gs_on _ _ _)))))))))))))))))))))))))) ?_
  refine cx_iload_n C (j := 0) dX4_init_137 rfl rfl ?_
  refine cx_new C (C0 := RX3) (N := 4) dX4_init_138 l27 (xinT 149 (by decide +kernel) (by decide +kernel)) (xinT 157 (by decide +kernel) (by decide +kernel)) (xinT 119 (by decide +kernel) (by decide +kernel)) rfl (show n + 27 ≤ n + 30 by omega) ?_
  refine cx_dup C dX4_init_141 rfl ?_
  refine cx_bipush C dX4_init_142 rfl (cin rfl) ?_
  refine cx_iconst C dX4_init_144 (cin rfl) ?_
  refine cx_callI' C (As := [vI 16, vI 3]) (rest := [vR (n + 27), vI 1, vR (n + 4)]) dX4_init_145 (fun hfr => ccX3 (o := n + 27) (by unfold isK; rw [l27]; rfl) rfl hfr (by unfold cst; rw [l27]; rfl) (by unfold cst; rw [l27]; rfl)) (Nat.le_of_ble_eq_true rfl) (Nat.le_of_ble_eq_true rfl) mcI3.1 (xinT 234 (by decide +kernel) (by decide +kernel)) mcI3.2.1 mcI3.2.2 rfl ⟨by decide +kernel, by decide +kernel, by decide +kernel⟩ (by omega) rfl rfl (Nat.le_of_ble_eq_true rfl) rfl (ssX3 (by unfold isK; rw [l27]; rfl)) (show n + 28 ≤ layN by omega) (show n + 28 ≤ n + 30 by omega) (fun q => cfrX3 rfl q) ?_
  refine cx_aastore C (ci := 3) (cj := 0) (C0 := RX3) dX4_init_148 (by unfold isRA; rw [l4]; rfl) (show n + 4 ≤ n + 28 by omega) (by decide) (by unfold alen; rw [l4]; decide) (by unfold aref; rw [l4]; rfl) (by unfold isK; rw [l27]; rfl) (show n + 27 ≤ n + 28 by omega) rfl ⟨5, rfl⟩ ?_
  refine cx_iinc C (ls' := [(1, vI 2), (0, vR n)]) (j := 0) dX4_init_149 rfl (Nat.le_of_ble_eq_true rfl) rfl ?_
  refine cx_goto C (tgt := 128) dX4_init_152 rfl ?_
  refine cx_iload_n C (j := 0) dX4_init_128 rfl rfl ?_
  refine cx_iconst C dX4_init_129 (cin rfl) ?_
  refine cx_icmp_geF C (tgt := 155) dX4_init_130 rfl (by decide) ?_
  refine cx_aload_n C (j := 1) dX4_init_133 rfl rfl (by omega) ?_
  refine cx_getR C dX4_init_134 fcX4_37 ho (show n ≤ n + 28 by omega) (gk_gs (gk_mk3 (gk_al (gk_gs (gk_mk3 (gk_al (gk_gs (gk_mk3 (gk_al (gk_gs (gk_mk3 (gk_al (gk_gs (gk_mk7 (gk_al (gk_gs (gk_mk3 (gk_al (gk_gs (gk_mk3 (gk_al (gk_gs (gk_mk7 (gk_al (gk_gs (gk_al (gk_gs (gk_al (gs_on _ _ _))))))))))))))))))))))))))))) ?_
  refine cx_iload_n C (j := 0) dX4_init_137 rfl rfl ?_
  refine cx_new C (C0 := RX3) (N := 4) dX4_init_138 l29 (xinT 149 (by decide +kernel) (by decide +kernel)) (xinT 157 (by decide +kernel) (by decide +kernel)) (xinT 119 (by decide +kernel) (by decide +kernel)) rfl (show n + 29 ≤ n + 30 by omega) ?_
  refine cx_dup C dX4_init_141 rfl ?_
  refine cx_bipush C dX4_init_142 rfl (cin rfl) ?_
  refine cx_iconst C dX4_init_144 (cin rfl) ?_
  refine cx_callI' C (As := [vI 16, vI 3]) (rest := [vR (n + 29), vI 2, vR (n + 4)]) dX4_init_145 (fun hfr => ccX3 (o := n + 29) (by unfold isK; rw [l29]; rfl) rfl hfr (by unfold cst; rw [l29]; rfl) (by unfold cst; rw [l29]; rfl)) (Nat.le_of_ble_eq_true rfl) (Nat.le_of_ble_eq_true rfl) mcI3.1 (xinT 234 (by decide +kernel) (by decide +kernel)) mcI3.2.1 mcI3.2.2 rfl ⟨by decide +kernel, by decide +kernel, by decide +kernel⟩ (by omega) rfl rfl (Nat.le_of_ble_eq_true rfl) rfl (ssX3 (by unfold isK; rw [l29]; rfl)) (show n + 30 ≤ layN by omega) (show n + 30 ≤ n + 30 by omega) (fun q => cfrX3 rfl q) ?_
  refine cx_aastore C (ci := 3) (cj := 0) (C0 := RX3) dX4_init_148 (by unfold isRA; rw [l4]; rfl) (show n + 4 ≤ n + 30 by omega) (by decide) (by unfold alen; rw [l4]; decide) (by unfold aref; rw [l4]; rfl) (by unfold isK; rw [l29]; rfl) (show n + 29 ≤ n + 30 by omega) rfl ⟨5, rfl⟩ ?_
  refine cx_iinc C (ls' := [(1, vI 3), (0, vR n)]) (j := 0) dX4_init_149 rfl (Nat.le_of_ble_eq_true rfl) rfl ?_
  refine cx_goto C (tgt := 128) dX4_init_152 rfl ?_
  refine cx_iload_n C (j := 0) dX4_init_128 rfl rfl ?_
  refine cx_iconst C dX4_init_129 (cin rfl) ?_
  refine cx_icmp_geT C (tgt := 155) dX4_init_130 rfl (by decide) ?_
  exact cx_return C dX4_init_155 hret rfl
