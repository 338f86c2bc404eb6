theorem dX9_feed_0 : decode cX9_feed 0 = .ok (.aload_n 0, 1) := by decide +kernel
theorem dX9_feed_1 : decode cX9_feed 1 = .ok (.getfield 10, 3) := by decide +kernel
theorem dX9_feed_4 : decode cX9_feed 4 = .ok (.getfield 69, 3) := by decide +kernel
theorem dX9_feed_7 : decode cX9_feed 7 = .ok (.sipush 580, 3) := by decide +kernel
theorem dX9_feed_10 : decode cX9_feed 10 = .ok (.if_icmp .le 5, 3) := by decide +kernel
theorem dX9_feed_13 : decode cX9_feed 13 = .ok (.iconst (-1), 1) := by decide +kernel
theorem dX9_feed_14 : decode cX9_feed 14 = .ok (.ireturn, 1) := by decide +kernel
theorem dX9_feed_15 : decode cX9_feed 15 = .ok (.aload_n 0, 1) := by decide +kernel
theorem dX9_feed_16 : decode cX9_feed 16 = .ok (.getfield 10, 3) := by decide +kernel
theorem dX9_feed_19 : decode cX9_feed 19 = .ok (.iload_n 1, 1) := by decide +kernel
theorem dX9_feed_20 : decode cX9_feed 20 = .ok (.invokevirtual 73, 3) := by decide +kernel
theorem dX9_feed_23 : decode cX9_feed 23 = .ok (.aload_n 0, 1) := by decide +kernel
theorem dX9_feed_24 : decode cX9_feed 24 = .ok (.getfield 10, 3) := by decide +kernel
theorem dX9_feed_27 : decode cX9_feed 27 = .ok (.iload_n 2, 1) := by decide +kernel
theorem dX9_feed_28 : decode cX9_feed 28 = .ok (.invokevirtual 73, 3) := by decide +kernel
theorem dX9_feed_31 : decode cX9_feed 31 = .ok (.aload_n 0, 1) := by decide +kernel
theorem dX9_feed_32 : decode cX9_feed 32 = .ok (.getfield 10, 3) := by decide +kernel
theorem dX9_feed_35 : decode cX9_feed 35 = .ok (.iload_n 3, 1) := by decide +kernel
theorem dX9_feed_36 : decode cX9_feed 36 = .ok (.invokevirtual 73, 3) := by decide +kernel
theorem dX9_feed_39 : decode cX9_feed 39 = .ok (.aload_n 0, 1) := by decide +kernel
theorem dX9_feed_40 : decode cX9_feed 40 = .ok (.getfield 10, 3) := by decide +kernel
theorem dX9_feed_43 : decode cX9_feed 43 = .ok (.iload 4, 2) := by decide +kernel
theorem dX9_feed_45 : decode cX9_feed 45 = .ok (.invokevirtual 73, 3) := by decide +kernel
theorem dX9_feed_48 : decode cX9_feed 48 = .ok (.aload_n 0, 1) := by decide +kernel
theorem dX9_feed_49 : decode cX9_feed 49 = .ok (.getfield 10, 3) := by decide +kernel
theorem dX9_feed_52 : decode cX9_feed 52 = .ok (.iload 5, 2) := by decide +kernel
theorem dX9_feed_54 : decode cX9_feed 54 = .ok (.invokevirtual 73, 3) := by decide +kernel
theorem dX9_feed_57 : decode cX9_feed 57 = .ok (.aload_n 0, 1) := by decide +kernel
theorem dX9_feed_58 : decode cX9_feed 58 = .ok (.getfield 10, 3) := by decide +kernel
theorem dX9_feed_61 : decode cX9_feed 61 = .ok (.getfield 69, 3) := by decide +kernel
theorem dX9_feed_64 : decode cX9_feed 64 = .ok (.ireturn, 1) := by decide +kernel
def zX9_feed (Qr : Option PV → Mem → Prop) : XZ := (RX9, 1, 22, 6, some FieldType.int, Qr)
noncomputable def fX9_feed (o : Nat) (x1 : Int) (x2 : Int) (x3 : Int) (x4 : Int) (x5 : Int) (F : Mem) : Option (Int × Mem) :=
  if (F (o + 1) 1) ≤ 580 then
    (fX4_append (o + 1) x1 F).bind fun q2 =>
    (fX4_append (o + 1) x2 q2).bind fun q4 =>
    (fX4_append (o + 1) x3 q4).bind fun q6 =>
    (fX4_append (o + 1) x4 q6).bind fun q8 =>
    (fX4_append (o + 1) x5 q8).bind fun q10 =>
    some (q10 (o + 1) 1, q10)
  else
    some ((-1), F)
theorem fX9_feed_ok {Qr : Option PV → Mem → Prop} : ∀ (o : Nat) (x1 : Int) (x2 : Int) (x3 : Int) (x4 : Int) (x5 : Int) (F : Mem) (res : (Int × Mem)) (ho : isK o 9), fX9_feed o x1 x2 x3 x4 x5 F = some res → Qr (some (vI res.1)) res.2 → PR cX9_feed (zX9_feed Qr) 0 [(0, vR o), (1, vI x1), (2, vI x2), (3, vI x3), (4, vI x4), (5, vI x5)] [] F := by
  intro o x1 x2 x3 x4 x5 F res ho h hq
  refine s_aload_n (j := 0) dX9_feed_0 rfl rfl ?_
  refine s_getR dX9_feed_1 flX9_10 ho ?_
  refine s_getI dX9_feed_4 flX9_69 (trX9_0 ho) ?_
  refine s_sipush dX9_feed_7 rfl (cin rfl) ?_
  refine s_icmp_le (tgt := 15) dX9_feed_10 rfl (fun hc1 => ?_) (fun hc1 => ?_)
  · have h := ifp hc1 h
    refine s_aload_n (j := 0) dX9_feed_15 rfl rfl ?_
    refine s_getR dX9_feed_16 flX9_10 ho ?_
    refine s_iload_n (j := 1) dX9_feed_19 rfl rfl ?_
    obtain ⟨q2, hv3, h⟩ := bnd h
    refine s_callV (As := [vI x1]) (rest := []) (r := none) (F' := q2) dX9_feed_20 (clX9_73 (Nat.le_of_ble_eq_true rfl) (Nat.le_of_ble_eq_true rfl)) (trX9_0 ho) rfl ⟨_, _, _, rfl, (trX9_0 ho), hv3, rfl, rfl⟩ rfl (Nat.le_of_ble_eq_true rfl) ?_
    refine s_aload_n (j := 0) dX9_feed_23 rfl rfl ?_
    refine s_getR dX9_feed_24 flX9_10 ho ?_
    refine s_iload_n (j := 2) dX9_feed_27 rfl rfl ?_
    obtain ⟨q4, hv5, h⟩ := bnd h
    refine s_callV (As := [vI x2]) (rest := []) (r := none) (F' := q4) dX9_feed_28 (clX9_73 (Nat.le_of_ble_eq_true rfl) (Nat.le_of_ble_eq_true rfl)) (trX9_0 ho) rfl ⟨_, _, _, rfl, (trX9_0 ho), hv5, rfl, rfl⟩ rfl (Nat.le_of_ble_eq_true rfl) ?_
    refine s_aload_n (j := 0) dX9_feed_31 rfl rfl ?_
    refine s_getR dX9_feed_32 flX9_10 ho ?_
    refine s_iload_n (j := 3) dX9_feed_35 rfl rfl ?_
    obtain ⟨q6, hv7, h⟩ := bnd h
    refine s_callV (As := [vI x3]) (rest := []) (r := none) (F' := q6) dX9_feed_36 (clX9_73 (Nat.le_of_ble_eq_true rfl) (Nat.le_of_ble_eq_true rfl)) (trX9_0 ho) rfl ⟨_, _, _, rfl, (trX9_0 ho), hv7, rfl, rfl⟩ rfl (Nat.le_of_ble_eq_true rfl) ?_
    refine s_aload_n (j := 0) dX9_feed_39 rfl rfl ?_
    refine s_getR dX9_feed_40 flX9_10 ho ?_
    refine s_iload (j := 4) dX9_feed_43 rfl ?_
    obtain ⟨q8, hv9, h⟩ := bnd h
    refine s_callV (As := [vI x4]) (rest := []) (r := none) (F' := q8) dX9_feed_45 (clX9_73 (Nat.le_of_ble_eq_true rfl) (Nat.le_of_ble_eq_true rfl)) (trX9_0 ho) rfl ⟨_, _, _, rfl, (trX9_0 ho), hv9, rfl, rfl⟩ rfl (Nat.le_of_ble_eq_true rfl) ?_
    refine s_aload_n (j := 0) dX9_feed_48 rfl rfl ?_
    refine s_getR dX9_feed_49 flX9_10 ho ?_
    refine s_iload (j := 5) dX9_feed_52 rfl ?_
    obtain ⟨q10, hv11, h⟩ := bnd h
    refine s_callV (As := [vI x5]) (rest := []) (r := none) (F' := q10) dX9_feed_54 (clX9_73 (Nat.le_of_ble_eq_true rfl) (Nat.le_of_ble_eq_true rfl)) (trX9_0 ho) rfl ⟨_, _, _, rfl, (trX9_0 ho), hv11, rfl, rfl⟩ rfl (Nat.le_of_ble_eq_true rfl) ?_
    refine s_aload_n (j := 0) dX9_feed_57 rfl rfl ?_
    refine s_getR dX9_feed_58 flX9_10 ho ?_
    refine s_getI dX9_feed_61 flX9_69 (trX9_0 ho) ?_
    have h := Option.some.inj h
    subst h
    exact s_ireturn dX9_feed_64 rfl hq
  · have h := ifn hc1 h
    refine s_iconst dX9_feed_13 (cin rfl) ?_
    have h := Option.some.inj h
    subst h
    exact s_ireturn dX9_feed_14 rfl hq
def gX9_feed : XG := fun As F r F' => ∃ o : Nat, ∃ x1 : Int, ∃ x2 : Int, ∃ x3 : Int, ∃ x4 : Int, ∃ x5 : Int, ∃ res : (Int × Mem), As = [vR o, vI x1, vI x2, vI x3, vI x4, vI x5] ∧ isK o 9 ∧ fX9_feed o x1 x2 x3 x4 x5 F = some res ∧ r = some (vI res.1) ∧ F' = res.2
theorem ctX9_feed : xCT yX9_feed cX9_feed 6 (some FieldType.int) 1 22 gX9_feed := xmet (by decide +kernel) (fun As F r F' hg => by obtain ⟨o, x1, x2, x3, x4, x5, res, rfl, ho, h, rfl, rfl⟩ := hg; exact Nat.le_of_ble_eq_true rfl) (fun As F r F' hg => by obtain ⟨o, x1, x2, x3, x4, x5, res, rfl, ho, h, rfl, rfl⟩ := hg; exact fX9_feed_ok o x1 x2 x3 x4 x5 _ _ ho h ⟨rfl, rfl⟩)
theorem mcX9_feed : Cond.code yX9_feed cX9_feed 6 (some FieldType.int) ∈ xw_T ∧ Cond.initialized yX9_feed.cls ∈ xw_T ∧ Cond.instanceMethod yX9_feed ∈ xw_T ∧ Cond.selects yX9_feed.cls yX9_feed yX9_feed ∈ xw_T := ⟨(xinT 525 (by decide +kernel) (by decide +kernel)), (xinT 116 (by decide +kernel) (by decide +kernel)), (xinT 523 (by decide +kernel) (by decide +kernel)), (xinT 524 (by decide +kernel) (by decide +kernel))⟩
theorem dX9_end_0 : decode cX9_end 0 = .ok (.iload_n 1, 1) := by decide +kernel
theorem dX9_end_1 : decode cX9_end 1 = .ok (.ifCond .lt 14, 3) := by decide +kernel
theorem dX9_end_4 : decode cX9_end 4 = .ok (.iload_n 1, 1) := by decide +kernel
theorem dX9_end_5 : decode cX9_end 5 = .ok (.aload_n 0, 1) := by decide +kernel
theorem dX9_end_6 : decode cX9_end 6 = .ok (.getfield 10, 3) := by decide +kernel
theorem dX9_end_9 : decode cX9_end 9 = .ok (.getfield 69, 3) := by decide +kernel
theorem dX9_end_12 : decode cX9_end 12 = .ok (.if_icmp .le 5, 3) := by decide +kernel
theorem dX9_end_15 : decode cX9_end 15 = .ok (.iconst (-1), 1) := by decide +kernel
theorem dX9_end_16 : decode cX9_end 16 = .ok (.ireturn, 1) := by decide +kernel
theorem dX9_end_17 : decode cX9_end 17 = .ok (.aload_n 0, 1) := by decide +kernel
theorem dX9_end_18 : decode cX9_end 18 = .ok (.getfield 10, 3) := by decide +kernel
theorem dX9_end_21 : decode cX9_end 21 = .ok (.iload_n 1, 1) := by decide +kernel
theorem dX9_end_22 : decode cX9_end 22 = .ok (.putfield 69, 3) := by decide +kernel
theorem dX9_end_25 : decode cX9_end 25 = .ok (.iload_n 1, 1) := by decide +kernel
theorem dX9_end_26 : decode cX9_end 26 = .ok (.ireturn, 1) := by decide +kernel
def zX9_end (Qr : Option PV → Mem → Prop) : XZ := (RX9, 0, 0, 2, some FieldType.int, Qr)
noncomputable def fX9_end (o : Nat) (x1 : Int) (F : Mem) : (Int × Mem) :=
  if x1 < 0 then
    ((-1), F)
  else
    if x1 ≤ (F (o + 1) 1) then
      (x1, mset F (o + 1) 1 x1)
    else
      ((-1), F)
theorem fX9_end_ok {Qr : Option PV → Mem → Prop} : ∀ (o : Nat) (x1 : Int) (F : Mem) (res : (Int × Mem)) (ho : isK o 9), fX9_end o x1 F = res → Qr (some (vI res.1)) res.2 → PR cX9_end (zX9_end Qr) 0 [(0, vR o), (1, vI x1)] [] F := by
  intro o x1 F res ho h hq
  refine s_iload_n (j := 1) dX9_end_0 rfl rfl ?_
  refine s_if_lt (tgt := 15) dX9_end_1 rfl (fun hc1 => ?_) (fun hc1 => ?_)
  · have h := ifp hc1 h
    refine s_iconst dX9_end_15 (cin rfl) ?_
    subst h
    exact s_ireturn dX9_end_16 rfl hq
  · have h := ifn hc1 h
    refine s_iload_n (j := 1) dX9_end_4 rfl rfl ?_
    refine s_aload_n (j := 0) dX9_end_5 rfl rfl ?_
    refine s_getR dX9_end_6 flX9_10 ho ?_
    refine s_getI dX9_end_9 flX9_69 (trX9_0 ho) ?_
    refine s_icmp_le (tgt := 17) dX9_end_12 rfl (fun hc2 => ?_) (fun hc2 => ?_)
    · have h := ifp hc2 h
      refine s_aload_n (j := 0) dX9_end_17 rfl rfl ?_
      refine s_getR dX9_end_18 flX9_10 ho ?_
      refine s_iload_n (j := 1) dX9_end_21 rfl rfl ?_
      refine s_putI dX9_end_22 flX9_69 fpX4_1 (trX9_0 ho) ?_
      refine s_iload_n (j := 1) dX9_end_25 rfl rfl ?_
      subst h
      exact s_ireturn dX9_end_26 rfl hq
    · have h := ifn hc2 h
      refine s_iconst dX9_end_15 (cin rfl) ?_
      subst h
      exact s_ireturn dX9_end_16 rfl hq
def gX9_end : XG := fun As F r F' => ∃ o : Nat, ∃ x1 : Int, ∃ res : (Int × Mem), As = [vR o, vI x1] ∧ isK o 9 ∧ fX9_end o x1 F = res ∧ r = some (vI res.1) ∧ F' = res.2
theorem ctX9_end : xCT yX9_end cX9_end 2 (some FieldType.int) 0 0 gX9_end := xmet (by decide +kernel) (fun As F r F' hg => by obtain ⟨o, x1, res, rfl, ho, h, rfl, rfl⟩ := hg; exact Nat.le_of_ble_eq_true rfl) (fun As F r F' hg => by obtain ⟨o, x1, res, rfl, ho, h, rfl, rfl⟩ := hg; exact fX9_end_ok o x1 _ _ ho h ⟨rfl, rfl⟩)
theorem mcX9_end : Cond.code yX9_end cX9_end 2 (some FieldType.int) ∈ xw_T ∧ Cond.initialized yX9_end.cls ∈ xw_T ∧ Cond.instanceMethod yX9_end ∈ xw_T ∧ Cond.selects yX9_end.cls yX9_end yX9_end ∈ xw_T := ⟨(xinT 533 (by decide +kernel) (by decide +kernel)), (xinT 116 (by decide +kernel) (by decide +kernel)), (xinT 531 (by decide +kernel) (by decide +kernel)), (xinT 532 (by decide +kernel) (by decide +kernel))⟩
theorem dX9_text_0 : decode cX9_text 0 = .ok (.aload_n 0, 1) := by decide +kernel
theorem dX9_text_1 : decode cX9_text 1 = .ok (.getfield 10, 3) := by decide +kernel
theorem dX9_text_4 : decode cX9_text 4 = .ok (.iload_n 1, 1) := by decide +kernel
theorem dX9_text_5 : decode cX9_text 5 = .ok (.iload_n 2, 1) := by decide +kernel
theorem dX9_text_6 : decode cX9_text 6 = .ok (.invokevirtual 77, 3) := by decide +kernel
theorem dX9_text_9 : decode cX9_text 9 = .ok (.istore_n 3, 1) := by decide +kernel
theorem dX9_text_10 : decode cX9_text 10 = .ok (.iload_n 3, 1) := by decide +kernel
theorem dX9_text_11 : decode cX9_text 11 = .ok (.bipush (-2), 2) := by decide +kernel
theorem dX9_text_13 : decode cX9_text 13 = .ok (.if_icmp .ne 15, 3) := by decide +kernel
theorem dX9_text_16 : decode cX9_text 16 = .ok (.aload_n 0, 1) := by decide +kernel
theorem dX9_text_17 : decode cX9_text 17 = .ok (.getfield 10, 3) := by decide +kernel
theorem dX9_text_20 : decode cX9_text 20 = .ok (.iconst 0, 1) := by decide +kernel
theorem dX9_text_21 : decode cX9_text 21 = .ok (.iconst (-1), 1) := by decide +kernel
theorem dX9_text_22 : decode cX9_text 22 = .ok (.invokevirtual 81, 3) := by decide +kernel
theorem dX9_text_25 : decode cX9_text 25 = .ok (.bipush (-2), 2) := by decide +kernel
theorem dX9_text_27 : decode cX9_text 27 = .ok (.ireturn, 1) := by decide +kernel
theorem dX9_text_28 : decode cX9_text 28 = .ok (.aload_n 0, 1) := by decide +kernel
theorem dX9_text_29 : decode cX9_text 29 = .ok (.getfield 27, 3) := by decide +kernel
theorem dX9_text_32 : decode cX9_text 32 = .ok (.iload_n 1, 1) := by decide +kernel
theorem dX9_text_33 : decode cX9_text 33 = .ok (.aload_n 0, 1) := by decide +kernel
theorem dX9_text_34 : decode cX9_text 34 = .ok (.getfield 10, 3) := by decide +kernel
theorem dX9_text_37 : decode cX9_text 37 = .ok (.getfield 85, 3) := by decide +kernel
theorem dX9_text_40 : decode cX9_text 40 = .ok (.aload_n 0, 1) := by decide +kernel
theorem dX9_text_41 : decode cX9_text 41 = .ok (.getfield 10, 3) := by decide +kernel
theorem dX9_text_44 : decode cX9_text 44 = .ok (.getfield 69, 3) := by decide +kernel
theorem dX9_text_47 : decode cX9_text 47 = .ok (.invokevirtual 89, 3) := by decide +kernel
theorem dX9_text_50 : decode cX9_text 50 = .ok (.aload_n 0, 1) := by decide +kernel
theorem dX9_text_51 : decode cX9_text 51 = .ok (.getfield 10, 3) := by decide +kernel
theorem dX9_text_54 : decode cX9_text 54 = .ok (.aload_n 0, 1) := by decide +kernel
theorem dX9_text_55 : decode cX9_text 55 = .ok (.getfield 27, 3) := by decide +kernel
theorem dX9_text_58 : decode cX9_text 58 = .ok (.getfield 93, 3) := by decide +kernel
theorem dX9_text_61 : decode cX9_text 61 = .ok (.aload_n 0, 1) := by decide +kernel
theorem dX9_text_62 : decode cX9_text 62 = .ok (.getfield 27, 3) := by decide +kernel
theorem dX9_text_65 : decode cX9_text 65 = .ok (.getfield 96, 3) := by decide +kernel
theorem dX9_text_68 : decode cX9_text 68 = .ok (.invokevirtual 81, 3) := by decide +kernel
theorem dX9_text_71 : decode cX9_text 71 = .ok (.aload_n 0, 1) := by decide +kernel
theorem dX9_text_72 : decode cX9_text 72 = .ok (.getfield 27, 3) := by decide +kernel
theorem dX9_text_75 : decode cX9_text 75 = .ok (.getfield 93, 3) := by decide +kernel
theorem dX9_text_78 : decode cX9_text 78 = .ok (.ifCond .eq 5, 3) := by decide +kernel
theorem dX9_text_81 : decode cX9_text 81 = .ok (.iconst (-1), 1) := by decide +kernel
theorem dX9_text_82 : decode cX9_text 82 = .ok (.ireturn, 1) := by decide +kernel
theorem dX9_text_83 : decode cX9_text 83 = .ok (.aload_n 0, 1) := by decide +kernel
theorem dX9_text_84 : decode cX9_text 84 = .ok (.getfield 10, 3) := by decide +kernel
theorem dX9_text_87 : decode cX9_text 87 = .ok (.iload_n 1, 1) := by decide +kernel
theorem dX9_text_88 : decode cX9_text 88 = .ok (.iload_n 3, 1) := by decide +kernel
theorem dX9_text_89 : decode cX9_text 89 = .ok (.aload_n 0, 1) := by decide +kernel
theorem dX9_text_90 : decode cX9_text 90 = .ok (.getfield 27, 3) := by decide +kernel
theorem dX9_text_93 : decode cX9_text 93 = .ok (.invokevirtual 99, 3) := by decide +kernel
theorem dX9_text_96 : decode cX9_text 96 = .ok (.iload_n 3, 1) := by decide +kernel
theorem dX9_text_97 : decode cX9_text 97 = .ok (.ireturn, 1) := by decide +kernel
def zX9_text (Qr : Option PV → Mem → Prop) : XZ := (RX9, 8, 179, 4, some FieldType.int, Qr)
noncomputable def fX9_text (o : Nat) (x1 : Int) (x2 : Int) (F : Mem) : Option (Int × Mem) :=
  (fX4_numberFor (o + 1) x1 x2 F).bind fun r1 =>
  if r1 ≠ (-2) then
    (fX2_read (o + 34) x1 ((o + 1) + 1) (F (o + 1) 1) F).bind fun q4 =>
    if ((fX4_takeTape (o + 1) (q4 (o + 34) 7) (q4 (o + 34) 8) q4) (o + 34) 7) = 0 then
      (fX4_keep (o + 1) x1 r1 (o + 34) (fX4_takeTape (o + 1) (q4 (o + 34) 7) (q4 (o + 34) 8) q4)).bind fun q7 =>
      some (r1, q7)
    else
      some ((-1), (fX4_takeTape (o + 1) (q4 (o + 34) 7) (q4 (o + 34) 8) q4))
  else
    some ((-2), (fX4_takeTape (o + 1) 0 (-1) F))
theorem fX9_text_ok {Qr : Option PV → Mem → Prop} : ∀ (o : Nat) (x1 : Int) (x2 : Int) (F : Mem) (res : (Int × Mem)) (ho : isK o 9), fX9_text o x1 x2 F = some res → Qr (some (vI res.1)) res.2 → PR cX9_text (zX9_text Qr) 0 [(0, vR o), (1, vI x1), (2, vI x2)] [] F := by
  intro o x1 x2 F res ho h hq
  refine s_aload_n (j := 0) dX9_text_0 rfl rfl ?_
  refine s_getR dX9_text_1 flX9_10 ho ?_
  refine s_iload_n (j := 1) dX9_text_4 rfl rfl ?_
  refine s_iload_n (j := 2) dX9_text_5 rfl rfl ?_
  obtain ⟨r1, hv2, h⟩ := bnd h
  refine s_callV (As := [vI x1, vI x2]) (rest := []) (r := (some (vI r1))) (F' := F) dX9_text_6 (clX9_77 (Nat.le_of_ble_eq_true rfl) (Nat.le_of_ble_eq_true rfl)) (trX9_0 ho) rfl ⟨_, _, _, _, rfl, (trX9_0 ho), hv2, rfl, rfl⟩ rfl (Nat.le_of_ble_eq_true rfl) ?_
  refine s_istore_n (ls' := [(3, vI r1), (0, vR o), (1, vI x1), (2, vI x2)]) dX9_text_9 rfl (Nat.le_of_ble_eq_true rfl) rfl ?_
  refine s_iload_n (j := 0) dX9_text_10 rfl rfl ?_
  refine s_bipush dX9_text_11 rfl (cin rfl) ?_
  refine s_icmp_ne (tgt := 28) dX9_text_13 rfl (fun hc3 => ?_) (fun hc3 => ?_)
  · have h := ifp hc3 h
    refine s_aload_n (j := 1) dX9_text_28 rfl rfl ?_
    refine s_getR dX9_text_29 flX9_27 ho ?_
    refine s_iload_n (j := 2) dX9_text_32 rfl rfl ?_
    refine s_aload_n (j := 1) dX9_text_33 rfl rfl ?_
    refine s_getR dX9_text_34 flX9_10 ho ?_
    refine s_getR dX9_text_37 flX9_85 (trX9_0 ho) ?_
    refine s_aload_n (j := 1) dX9_text_40 rfl rfl ?_
    refine s_getR dX9_text_41 flX9_10 ho ?_
    refine s_getI dX9_text_44 flX9_69 (trX9_0 ho) ?_
    obtain ⟨q4, hv5, h⟩ := bnd h
    refine s_callV (As := [vI x1, vR ((o + 1) + 1), vI (F (o + 1) 1)]) (rest := []) (r := none) (F' := q4) dX9_text_47 (clX9_89 (Nat.le_of_ble_eq_true rfl) (Nat.le_of_ble_eq_true rfl)) (trX9_3 ho) rfl ⟨_, _, _, _, _, rfl, (trX9_3 ho), (Or.inr (trX4_0 (trX9_0 ho))), hv5, rfl, rfl⟩ rfl (Nat.le_of_ble_eq_true rfl) ?_
    refine s_aload_n (j := 1) dX9_text_50 rfl rfl ?_
    refine s_getR dX9_text_51 flX9_10 ho ?_
    refine s_aload_n (j := 1) dX9_text_54 rfl rfl ?_
    refine s_getR dX9_text_55 flX9_27 ho ?_
    refine s_getI dX9_text_58 flX9_93 (trX9_3 ho) ?_
    refine s_aload_n (j := 1) dX9_text_61 rfl rfl ?_
    refine s_getR dX9_text_62 flX9_27 ho ?_
    refine s_getI dX9_text_65 flX9_96 (trX9_3 ho) ?_
    refine s_callV (As := [vI (q4 (o + 34) 7), vI (q4 (o + 34) 8)]) (rest := []) (r := none) (F' := (fX4_takeTape (o + 1) (q4 (o + 34) 7) (q4 (o + 34) 8) q4)) dX9_text_68 (clX9_81 (Nat.le_of_ble_eq_true rfl) (Nat.le_of_ble_eq_true rfl)) (trX9_0 ho) rfl ⟨_, _, _, _, rfl, (trX9_0 ho), rfl, rfl, rfl⟩ rfl (Nat.le_of_ble_eq_true rfl) ?_
    refine s_aload_n (j := 1) dX9_text_71 rfl rfl ?_
    refine s_getR dX9_text_72 flX9_27 ho ?_
    refine s_getI dX9_text_75 flX9_93 (trX9_3 ho) ?_
    refine s_if_eq (tgt := 83) dX9_text_78 rfl (fun hc6 => ?_) (fun hc6 => ?_)
    · have h := ifp hc6 h
      refine s_aload_n (j := 1) dX9_text_83 rfl rfl ?_
      refine s_getR dX9_text_84 flX9_10 ho ?_
      refine s_iload_n (j := 2) dX9_text_87 rfl rfl ?_
      refine s_iload_n (j := 0) dX9_text_88 rfl rfl ?_
      refine s_aload_n (j := 1) dX9_text_89 rfl rfl ?_
      refine s_getR dX9_text_90 flX9_27 ho ?_
      obtain ⟨q7, hv8, h⟩ := bnd h
      refine s_callV (As := [vI x1, vI r1, vR (o + 34)]) (rest := []) (r := none) (F' := q7) dX9_text_93 (clX9_99 (Nat.le_of_ble_eq_true rfl) (Nat.le_of_ble_eq_true rfl)) (trX9_0 ho) rfl ⟨_, _, _, _, _, rfl, (trX9_0 ho), (Or.inr (trX9_3 ho)), hv8, rfl, rfl⟩ rfl (Nat.le_of_ble_eq_true rfl) ?_
      refine s_iload_n (j := 0) dX9_text_96 rfl rfl ?_
      have h := Option.some.inj h
      subst h
      exact s_ireturn dX9_text_97 rfl hq
    · have h := ifn hc6 h
      refine s_iconst dX9_text_81 (cin rfl) ?_
      have h := Option.some.inj h
      subst h
      exact s_ireturn dX9_text_82 rfl hq
  · have h := ifn hc3 h
    refine s_aload_n (j := 1) dX9_text_16 rfl rfl ?_
    refine s_getR dX9_text_17 flX9_10 ho ?_
    refine s_iconst dX9_text_20 (cin rfl) ?_
    refine s_iconst dX9_text_21 (cin rfl) ?_
    refine s_callV (As := [vI 0, vI (-1)]) (rest := []) (r := none) (F' := (fX4_takeTape (o + 1) 0 (-1) F)) dX9_text_22 (clX9_81 (Nat.le_of_ble_eq_true rfl) (Nat.le_of_ble_eq_true rfl)) (trX9_0 ho) rfl ⟨_, _, _, _, rfl, (trX9_0 ho), rfl, rfl, rfl⟩ rfl (Nat.le_of_ble_eq_true rfl) ?_
    refine s_bipush dX9_text_25 rfl (cin rfl) ?_
    have h := Option.some.inj h
    subst h
    exact s_ireturn dX9_text_27 rfl hq
def gX9_text : XG := fun As F r F' => ∃ o : Nat, ∃ x1 : Int, ∃ x2 : Int, ∃ res : (Int × Mem), As = [vR o, vI x1, vI x2] ∧ isK o 9 ∧ fX9_text o x1 x2 F = some res ∧ r = some (vI res.1) ∧ F' = res.2
theorem ctX9_text : xCT yX9_text cX9_text 4 (some FieldType.int) 8 179 gX9_text := xmet (by decide +kernel) (fun As F r F' hg => by obtain ⟨o, x1, x2, res, rfl, ho, h, rfl, rfl⟩ := hg; exact Nat.le_of_ble_eq_true rfl) (fun As F r F' hg => by obtain ⟨o, x1, x2, res, rfl, ho, h, rfl, rfl⟩ := hg; exact fX9_text_ok o x1 x2 _ _ ho h ⟨rfl, rfl⟩)
theorem mcX9_text : Cond.code yX9_text cX9_text 4 (some FieldType.int) ∈ xw_T ∧ Cond.initialized yX9_text.cls ∈ xw_T ∧ Cond.instanceMethod yX9_text ∈ xw_T ∧ Cond.selects yX9_text.cls yX9_text yX9_text ∈ xw_T := ⟨(xinT 537 (by decide +kernel) (by decide +kernel)), (xinT 116 (by decide +kernel) (by decide +kernel)), (xinT 535 (by decide +kernel) (by decide +kernel)), (xinT 536 (by decide +kernel) (by decide +kernel))⟩
theorem dX9_fault_0 : decode cX9_fault 0 = .ok (.iload_n 1, 1) := by decide +kernel
theorem dX9_fault_1 : decode cX9_fault 1 = .ok (.ifCond .ne 13, 3) := by decide +kernel
theorem dX9_fault_4 : decode cX9_fault 4 = .ok (.aload_n 0, 1) := by decide +kernel
theorem dX9_fault_5 : decode cX9_fault 5 = .ok (.getfield 10, 3) := by decide +kernel
theorem dX9_fault_8 : decode cX9_fault 8 = .ok (.getfield 103, 3) := by decide +kernel
theorem dX9_fault_11 : decode cX9_fault 11 = .ok (.goto 19, 3) := by decide +kernel
theorem dX9_fault_14 : decode cX9_fault 14 = .ok (.iload_n 1, 1) := by decide +kernel
theorem dX9_fault_15 : decode cX9_fault 15 = .ok (.iconst 1, 1) := by decide +kernel
theorem dX9_fault_16 : decode cX9_fault 16 = .ok (.if_icmp .ne 13, 3) := by decide +kernel
theorem dX9_fault_19 : decode cX9_fault 19 = .ok (.aload_n 0, 1) := by decide +kernel
theorem dX9_fault_20 : decode cX9_fault 20 = .ok (.getfield 10, 3) := by decide +kernel
theorem dX9_fault_23 : decode cX9_fault 23 = .ok (.getfield 104, 3) := by decide +kernel
theorem dX9_fault_26 : decode cX9_fault 26 = .ok (.goto 4, 3) := by decide +kernel
theorem dX9_fault_29 : decode cX9_fault 29 = .ok (.iconst (-1), 1) := by decide +kernel
theorem dX9_fault_30 : decode cX9_fault 30 = .ok (.ireturn, 1) := by decide +kernel
def zX9_fault (Qr : Option PV → Mem → Prop) : XZ := (RX9, 0, 0, 2, some FieldType.int, Qr)
noncomputable def fX9_fault (o : Nat) (x1 : Int) (F : Mem) : Int :=
  if x1 ≠ 0 then
    if x1 ≠ 1 then
      (-1)
    else
      F (o + 1) 3
  else
    F (o + 1) 2
theorem fX9_fault_ok {Qr : Option PV → Mem → Prop} : ∀ (o : Nat) (x1 : Int) (F : Mem) (res : Int) (ho : isK o 9), fX9_fault o x1 F = res → Qr (some (vI res)) F → PR cX9_fault (zX9_fault Qr) 0 [(0, vR o), (1, vI x1)] [] F := by
  intro o x1 F res ho h hq
  refine s_iload_n (j := 1) dX9_fault_0 rfl rfl ?_
  refine s_if_ne (tgt := 14) dX9_fault_1 rfl (fun hc1 => ?_) (fun hc1 => ?_)
  · have h := ifp hc1 h
    refine s_iload_n (j := 1) dX9_fault_14 rfl rfl ?_
    refine s_iconst dX9_fault_15 (cin rfl) ?_
    refine s_icmp_ne (tgt := 29) dX9_fault_16 rfl (fun hc2 => ?_) (fun hc2 => ?_)
    · have h := ifp hc2 h
      refine s_iconst dX9_fault_29 (cin rfl) ?_
      subst h
      exact s_ireturn dX9_fault_30 rfl hq
    · have h := ifn hc2 h
      refine s_aload_n (j := 0) dX9_fault_19 rfl rfl ?_
      refine s_getR dX9_fault_20 flX9_10 ho ?_
      refine s_getI dX9_fault_23 flX9_104 (trX9_0 ho) ?_
      refine s_goto (tgt := 30) dX9_fault_26 rfl ?_
      subst h
      exact s_ireturn dX9_fault_30 rfl hq
  · have h := ifn hc1 h
    refine s_aload_n (j := 0) dX9_fault_4 rfl rfl ?_
    refine s_getR dX9_fault_5 flX9_10 ho ?_
    refine s_getI dX9_fault_8 flX9_103 (trX9_0 ho) ?_
    refine s_goto (tgt := 30) dX9_fault_11 rfl ?_
    subst h
    exact s_ireturn dX9_fault_30 rfl hq
def gX9_fault : XG := fun As F r F' => ∃ o : Nat, ∃ x1 : Int, ∃ res : Int, As = [vR o, vI x1] ∧ isK o 9 ∧ fX9_fault o x1 F = res ∧ r = some (vI res) ∧ F' = F
theorem ctX9_fault : xCT yX9_fault cX9_fault 2 (some FieldType.int) 0 0 gX9_fault := xmet (by decide +kernel) (fun As F r F' hg => by obtain ⟨o, x1, res, rfl, ho, h, rfl, rfl⟩ := hg; exact Nat.le_of_ble_eq_true rfl) (fun As F r F' hg => by obtain ⟨o, x1, res, rfl, ho, h, rfl, rfl⟩ := hg; exact fX9_fault_ok o x1 _ _ ho h ⟨rfl, rfl⟩)
theorem mcX9_fault : Cond.code yX9_fault cX9_fault 2 (some FieldType.int) ∈ xw_T ∧ Cond.initialized yX9_fault.cls ∈ xw_T ∧ Cond.instanceMethod yX9_fault ∈ xw_T ∧ Cond.selects yX9_fault.cls yX9_fault yX9_fault ∈ xw_T := ⟨(xinT 749 (by decide +kernel) (by decide +kernel)), (xinT 116 (by decide +kernel) (by decide +kernel)), (xinT 747 (by decide +kernel) (by decide +kernel)), (xinT 748 (by decide +kernel) (by decide +kernel))⟩
theorem dX9_valley_0 : decode cX9_valley 0 = .ok (.aload_n 0, 1) := by decide +kernel
theorem dX9_valley_1 : decode cX9_valley 1 = .ok (.getfield 10, 3) := by decide +kernel
theorem dX9_valley_4 : decode cX9_valley 4 = .ok (.iload_n 1, 1) := by decide +kernel
theorem dX9_valley_5 : decode cX9_valley 5 = .ok (.invokevirtual 105, 3) := by decide +kernel
theorem dX9_valley_8 : decode cX9_valley 8 = .ok (.astore_n 3, 1) := by decide +kernel
theorem dX9_valley_9 : decode cX9_valley 9 = .ok (.aload_n 3, 1) := by decide +kernel
theorem dX9_valley_10 : decode cX9_valley 10 = .ok (.ifnonnull 5, 3) := by decide +kernel
theorem dX9_valley_13 : decode cX9_valley 13 = .ok (.iconst (-1), 1) := by decide +kernel
theorem dX9_valley_14 : decode cX9_valley 14 = .ok (.ireturn, 1) := by decide +kernel
theorem dX9_valley_15 : decode cX9_valley 15 = .ok (.iload_n 2, 1) := by decide +kernel
theorem dX9_valley_16 : decode cX9_valley 16 = .ok (.tableswitch 85 0 6 #[44, 49, 54, 59, 64, 69, 77], 44) := by decide +kernel
theorem dX9_valley_60 : decode cX9_valley 60 = .ok (.aload_n 3, 1) := by decide +kernel
theorem dX9_valley_61 : decode cX9_valley 61 = .ok (.getfield 109, 3) := by decide +kernel
theorem dX9_valley_64 : decode cX9_valley 64 = .ok (.ireturn, 1) := by decide +kernel
theorem dX9_valley_65 : decode cX9_valley 65 = .ok (.aload_n 3, 1) := by decide +kernel
theorem dX9_valley_66 : decode cX9_valley 66 = .ok (.getfield 114, 3) := by decide +kernel
theorem dX9_valley_69 : decode cX9_valley 69 = .ok (.ireturn, 1) := by decide +kernel
theorem dX9_valley_70 : decode cX9_valley 70 = .ok (.aload_n 3, 1) := by decide +kernel
theorem dX9_valley_71 : decode cX9_valley 71 = .ok (.getfield 117, 3) := by decide +kernel
theorem dX9_valley_74 : decode cX9_valley 74 = .ok (.ireturn, 1) := by decide +kernel
theorem dX9_valley_75 : decode cX9_valley 75 = .ok (.aload_n 3, 1) := by decide +kernel
theorem dX9_valley_76 : decode cX9_valley 76 = .ok (.getfield 120, 3) := by decide +kernel
theorem dX9_valley_79 : decode cX9_valley 79 = .ok (.ireturn, 1) := by decide +kernel
theorem dX9_valley_80 : decode cX9_valley 80 = .ok (.aload_n 3, 1) := by decide +kernel
theorem dX9_valley_81 : decode cX9_valley 81 = .ok (.getfield 123, 3) := by decide +kernel
theorem dX9_valley_84 : decode cX9_valley 84 = .ok (.ireturn, 1) := by decide +kernel
theorem dX9_valley_85 : decode cX9_valley 85 = .ok (.aload_n 3, 1) := by decide +kernel
theorem dX9_valley_86 : decode cX9_valley 86 = .ok (.getfield 126, 3) := by decide +kernel
theorem dX9_valley_89 : decode cX9_valley 89 = .ok (.getfield 130, 3) := by decide +kernel
theorem dX9_valley_92 : decode cX9_valley 92 = .ok (.ireturn, 1) := by decide +kernel
theorem dX9_valley_93 : decode cX9_valley 93 = .ok (.aload_n 3, 1) := by decide +kernel
theorem dX9_valley_94 : decode cX9_valley 94 = .ok (.getfield 135, 3) := by decide +kernel
theorem dX9_valley_97 : decode cX9_valley 97 = .ok (.getfield 130, 3) := by decide +kernel
theorem dX9_valley_100 : decode cX9_valley 100 = .ok (.ireturn, 1) := by decide +kernel
theorem dX9_valley_101 : decode cX9_valley 101 = .ok (.iload_n 2, 1) := by decide +kernel
theorem dX9_valley_102 : decode cX9_valley 102 = .ok (.bipush 10, 2) := by decide +kernel
theorem dX9_valley_104 : decode cX9_valley 104 = .ok (.if_icmp .lt 9, 3) := by decide +kernel
theorem dX9_valley_107 : decode cX9_valley 107 = .ok (.iload_n 2, 1) := by decide +kernel
theorem dX9_valley_108 : decode cX9_valley 108 = .ok (.bipush 39, 2) := by decide +kernel
theorem dX9_valley_110 : decode cX9_valley 110 = .ok (.if_icmp .le 7, 3) := by decide +kernel
theorem dX9_valley_113 : decode cX9_valley 113 = .ok (.iconst (-1), 1) := by decide +kernel
theorem dX9_valley_114 : decode cX9_valley 114 = .ok (.goto 20, 3) := by decide +kernel
theorem dX9_valley_117 : decode cX9_valley 117 = .ok (.aload_n 3, 1) := by decide +kernel
theorem dX9_valley_118 : decode cX9_valley 118 = .ok (.getfield 135, 3) := by decide +kernel
theorem dX9_valley_121 : decode cX9_valley 121 = .ok (.iload_n 2, 1) := by decide +kernel
theorem dX9_valley_122 : decode cX9_valley 122 = .ok (.bipush 10, 2) := by decide +kernel
theorem dX9_valley_124 : decode cX9_valley 124 = .ok (.irem, 1) := by decide +kernel
theorem dX9_valley_125 : decode cX9_valley 125 = .ok (.iload_n 2, 1) := by decide +kernel
theorem dX9_valley_126 : decode cX9_valley 126 = .ok (.bipush 10, 2) := by decide +kernel
theorem dX9_valley_128 : decode cX9_valley 128 = .ok (.idiv, 1) := by decide +kernel
theorem dX9_valley_129 : decode cX9_valley 129 = .ok (.iconst 1, 1) := by decide +kernel
theorem dX9_valley_130 : decode cX9_valley 130 = .ok (.isub, 1) := by decide +kernel
theorem dX9_valley_131 : decode cX9_valley 131 = .ok (.invokevirtual 138, 3) := by decide +kernel
theorem dX9_valley_134 : decode cX9_valley 134 = .ok (.ireturn, 1) := by decide +kernel
def zX9_valley (Qr : Option PV → Mem → Prop) : XZ := (RX9, 2, 43, 4, some FieldType.int, Qr)
noncomputable def fX9_valley (o : Nat) (x1 : Int) (x2 : Int) (F : Mem) : Option Int :=
  (fX4_valleyAt (o + 1) x1 F).bind fun r1 =>
  if r1 = 0 then
    some (-1)
  else
    if x2 = 0 then
      some (F r1 0)
    else
    if x2 = 1 then
      some (F r1 1)
    else
    if x2 = 2 then
      some (F r1 2)
    else
    if x2 = 3 then
      some (F r1 3)
    else
    if x2 = 4 then
      some (F r1 4)
    else
    if x2 = 5 then
      some (F (r1 + 1) 3)
    else
    if x2 = 6 then
      some (F (r1 + 3) 3)
    else
    if x2 < 10 then
      some (-1)
    else
      if x2 ≤ 39 then
        (fX3_cell (r1 + 3) (Int.tmod x2 10) (xw ((xw (Int.tdiv x2 10)) - 1)) F).bind fun r13 =>
        some r13
      else
        some (-1)
theorem fX9_valley_ok {Qr : Option PV → Mem → Prop} : ∀ (o : Nat) (x1 : Int) (x2 : Int) (F : Mem) (res : Int) (ho : isK o 9), fX9_valley o x1 x2 F = some res → Qr (some (vI res)) F → PR cX9_valley (zX9_valley Qr) 0 [(0, vR o), (1, vI x1), (2, vI x2)] [] F := by
  intro o x1 x2 F res ho h hq
  refine s_aload_n (j := 0) dX9_valley_0 rfl rfl ?_
  refine s_getR dX9_valley_1 flX9_10 ho ?_
  refine s_iload_n (j := 1) dX9_valley_4 rfl rfl ?_
  obtain ⟨r1, hv2, h⟩ := bnd h
  refine s_callV (As := [vI x1]) (rest := []) (r := (some (vR r1))) (F' := F) dX9_valley_5 (clX9_105 (Nat.le_of_ble_eq_true rfl) (Nat.le_of_ble_eq_true rfl)) (trX9_0 ho) rfl ⟨_, _, _, rfl, (trX9_0 ho), hv2, rfl, rfl⟩ rfl (Nat.le_of_ble_eq_true rfl) ?_
  refine s_astore_n (ls' := [(3, vR r1), (0, vR o), (1, vI x1), (2, vI x2)]) dX9_valley_8 rfl (Nat.le_of_ble_eq_true rfl) rfl ?_
  refine s_aload_n (j := 0) dX9_valley_9 rfl rfl ?_
  refine s_ifnonnull (tgt := 15) dX9_valley_10 rfl (fun hc3 => ?_) (fun hc3 => ?_)
  · have h := ifn hc3 h
    refine s_iload_n (j := 3) dX9_valley_15 rfl rfl ?_
    by_cases hc4 : x2 = 0
    · have h := ifp hc4 h
      refine s_tabIn (tgt := 60) (off := 44) dX9_valley_16 (by omega) (by omega) (by rw [hc4]; rfl) rfl ?_
      refine s_aload_n (j := 0) dX9_valley_60 rfl rfl ?_
      refine s_getI dX9_valley_61 flX9_109 ((fX4_valleyAt_rt _ _ _ _ (trX9_0 ho) hv2).resolve_left hc3) ?_
      have h := Option.some.inj h
      subst h
      exact s_ireturn dX9_valley_64 rfl hq
    have h := ifn hc4 h
    by_cases hc5 : x2 = 1
    · have h := ifp hc5 h
      refine s_tabIn (tgt := 65) (off := 49) dX9_valley_16 (by omega) (by omega) (by rw [hc5]; rfl) rfl ?_
      refine s_aload_n (j := 0) dX9_valley_65 rfl rfl ?_
      refine s_getI dX9_valley_66 flX9_114 ((fX4_valleyAt_rt _ _ _ _ (trX9_0 ho) hv2).resolve_left hc3) ?_
      have h := Option.some.inj h
      subst h
      exact s_ireturn dX9_valley_69 rfl hq
    have h := ifn hc5 h
    by_cases hc6 : x2 = 2
    · have h := ifp hc6 h
      refine s_tabIn (tgt := 70) (off := 54) dX9_valley_16 (by omega) (by omega) (by rw [hc6]; rfl) rfl ?_
      refine s_aload_n (j := 0) dX9_valley_70 rfl rfl ?_
      refine s_getI dX9_valley_71 flX9_117 ((fX4_valleyAt_rt _ _ _ _ (trX9_0 ho) hv2).resolve_left hc3) ?_
      have h := Option.some.inj h
      subst h
      exact s_ireturn dX9_valley_74 rfl hq
    have h := ifn hc6 h
    by_cases hc7 : x2 = 3
    · have h := ifp hc7 h
      refine s_tabIn (tgt := 75) (off := 59) dX9_valley_16 (by omega) (by omega) (by rw [hc7]; rfl) rfl ?_
      refine s_aload_n (j := 0) dX9_valley_75 rfl rfl ?_
      refine s_getI dX9_valley_76 flX9_120 ((fX4_valleyAt_rt _ _ _ _ (trX9_0 ho) hv2).resolve_left hc3) ?_
      have h := Option.some.inj h
      subst h
      exact s_ireturn dX9_valley_79 rfl hq
    have h := ifn hc7 h
    by_cases hc8 : x2 = 4
    · have h := ifp hc8 h
      refine s_tabIn (tgt := 80) (off := 64) dX9_valley_16 (by omega) (by omega) (by rw [hc8]; rfl) rfl ?_
      refine s_aload_n (j := 0) dX9_valley_80 rfl rfl ?_
      refine s_getI dX9_valley_81 flX9_123 ((fX4_valleyAt_rt _ _ _ _ (trX9_0 ho) hv2).resolve_left hc3) ?_
      have h := Option.some.inj h
      subst h
      exact s_ireturn dX9_valley_84 rfl hq
    have h := ifn hc8 h
    by_cases hc9 : x2 = 5
    · have h := ifp hc9 h
      refine s_tabIn (tgt := 85) (off := 69) dX9_valley_16 (by omega) (by omega) (by rw [hc9]; rfl) rfl ?_
      refine s_aload_n (j := 0) dX9_valley_85 rfl rfl ?_
      refine s_getR dX9_valley_86 flX9_126 ((fX4_valleyAt_rt _ _ _ _ (trX9_0 ho) hv2).resolve_left hc3) ?_
      refine s_getI dX9_valley_89 flX9_130 (trX7_5 ((fX4_valleyAt_rt _ _ _ _ (trX9_0 ho) hv2).resolve_left hc3)) ?_
      have h := Option.some.inj h
      subst h
      exact s_ireturn dX9_valley_92 rfl hq
    have h := ifn hc9 h
    by_cases hc10 : x2 = 6
    · have h := ifp hc10 h
      refine s_tabIn (tgt := 93) (off := 77) dX9_valley_16 (by omega) (by omega) (by rw [hc10]; rfl) rfl ?_
      refine s_aload_n (j := 0) dX9_valley_93 rfl rfl ?_
      refine s_getR dX9_valley_94 flX9_135 ((fX4_valleyAt_rt _ _ _ _ (trX9_0 ho) hv2).resolve_left hc3) ?_
      refine s_getI dX9_valley_97 flX9_130 (trX7_6 ((fX4_valleyAt_rt _ _ _ _ (trX9_0 ho) hv2).resolve_left hc3)) ?_
      have h := Option.some.inj h
      subst h
      exact s_ireturn dX9_valley_100 rfl hq
    have h := ifn hc10 h
    refine s_tabOut (tgt := 101) dX9_valley_16 (by omega) rfl ?_
    refine s_iload_n (j := 3) dX9_valley_101 rfl rfl ?_
    refine s_bipush dX9_valley_102 rfl (cin rfl) ?_
    refine s_icmp_lt (tgt := 113) dX9_valley_104 rfl (fun hc11 => ?_) (fun hc11 => ?_)
    · have h := ifp hc11 h
      refine s_iconst dX9_valley_113 (cin rfl) ?_
      refine s_goto (tgt := 134) dX9_valley_114 rfl ?_
      have h := Option.some.inj h
      subst h
      exact s_ireturn dX9_valley_134 rfl hq
    · have h := ifn hc11 h
      refine s_iload_n (j := 3) dX9_valley_107 rfl rfl ?_
      refine s_bipush dX9_valley_108 rfl (cin rfl) ?_
      refine s_icmp_le (tgt := 117) dX9_valley_110 rfl (fun hc12 => ?_) (fun hc12 => ?_)
      · have h := ifp hc12 h
        refine s_aload_n (j := 0) dX9_valley_117 rfl rfl ?_
        refine s_getR dX9_valley_118 flX9_135 ((fX4_valleyAt_rt _ _ _ _ (trX9_0 ho) hv2).resolve_left hc3) ?_
        refine s_iload_n (j := 3) dX9_valley_121 rfl rfl ?_
        refine s_bipush dX9_valley_122 rfl (cin rfl) ?_
        refine s_irem dX9_valley_124 (by decide) ?_
        refine s_iload_n (j := 3) dX9_valley_125 rfl rfl ?_
        refine s_bipush dX9_valley_126 rfl (cin rfl) ?_
        refine s_idiv dX9_valley_128 (by decide) ?_
        refine s_iconst dX9_valley_129 (cin rfl) ?_
        refine s_isub dX9_valley_130 ?_
        obtain ⟨r13, hv14, h⟩ := bnd h
        refine s_callV (As := [vI (Int.tmod x2 10), vI (xw ((xw (Int.tdiv x2 10)) - 1))]) (rest := []) (r := (some (vI r13))) (F' := F) dX9_valley_131 (clX9_138 (Nat.le_of_ble_eq_true rfl) (Nat.le_of_ble_eq_true rfl)) (trX7_6 ((fX4_valleyAt_rt _ _ _ _ (trX9_0 ho) hv2).resolve_left hc3)) rfl ⟨_, _, _, _, rfl, (trX7_6 ((fX4_valleyAt_rt _ _ _ _ (trX9_0 ho) hv2).resolve_left hc3)), hv14, rfl, rfl⟩ rfl (Nat.le_of_ble_eq_true rfl) ?_
        have h := Option.some.inj h
        subst h
        exact s_ireturn dX9_valley_134 rfl hq
      · have h := ifn hc12 h
        refine s_iconst dX9_valley_113 (cin rfl) ?_
        refine s_goto (tgt := 134) dX9_valley_114 rfl ?_
        have h := Option.some.inj h
        subst h
        exact s_ireturn dX9_valley_134 rfl hq
  · have h := ifp hc3 h
    refine s_iconst dX9_valley_13 (cin rfl) ?_
    have h := Option.some.inj h
    subst h
    exact s_ireturn dX9_valley_14 rfl hq
def gX9_valley : XG := fun As F r F' => ∃ o : Nat, ∃ x1 : Int, ∃ x2 : Int, ∃ res : Int, As = [vR o, vI x1, vI x2] ∧ isK o 9 ∧ fX9_valley o x1 x2 F = some res ∧ r = some (vI res) ∧ F' = F
theorem ctX9_valley : xCT yX9_valley cX9_valley 4 (some FieldType.int) 2 43 gX9_valley := xmet (by decide +kernel) (fun As F r F' hg => by obtain ⟨o, x1, x2, res, rfl, ho, h, rfl, rfl⟩ := hg; exact Nat.le_of_ble_eq_true rfl) (fun As F r F' hg => by obtain ⟨o, x1, x2, res, rfl, ho, h, rfl, rfl⟩ := hg; exact fX9_valley_ok o x1 x2 _ _ ho h ⟨rfl, rfl⟩)
theorem mcX9_valley : Cond.code yX9_valley cX9_valley 4 (some FieldType.int) ∈ xw_T ∧ Cond.initialized yX9_valley.cls ∈ xw_T ∧ Cond.instanceMethod yX9_valley ∈ xw_T ∧ Cond.selects yX9_valley.cls yX9_valley yX9_valley ∈ xw_T := ⟨(xinT 753 (by decide +kernel) (by decide +kernel)), (xinT 116 (by decide +kernel) (by decide +kernel)), (xinT 751 (by decide +kernel) (by decide +kernel)), (xinT 752 (by decide +kernel) (by decide +kernel))⟩
theorem dX9_house_0 : decode cX9_house 0 = .ok (.aload_n 0, 1) := by decide +kernel
theorem dX9_house_1 : decode cX9_house 1 = .ok (.getfield 10, 3) := by decide +kernel
theorem dX9_house_4 : decode cX9_house 4 = .ok (.iload_n 1, 1) := by decide +kernel
theorem dX9_house_5 : decode cX9_house 5 = .ok (.invokevirtual 105, 3) := by decide +kernel
theorem dX9_house_8 : decode cX9_house 8 = .ok (.astore 4, 2) := by decide +kernel
theorem dX9_house_10 : decode cX9_house 10 = .ok (.aload 4, 2) := by decide +kernel
theorem dX9_house_12 : decode cX9_house 12 = .ok (.ifnonnull 7, 3) := by decide +kernel
theorem dX9_house_15 : decode cX9_house 15 = .ok (.iconst (-1), 1) := by decide +kernel
theorem dX9_house_16 : decode cX9_house 16 = .ok (.goto 13, 3) := by decide +kernel
theorem dX9_house_19 : decode cX9_house 19 = .ok (.aload 4, 2) := by decide +kernel
theorem dX9_house_21 : decode cX9_house 21 = .ok (.getfield 126, 3) := by decide +kernel
theorem dX9_house_24 : decode cX9_house 24 = .ok (.iload_n 2, 1) := by decide +kernel
theorem dX9_house_25 : decode cX9_house 25 = .ok (.iload_n 3, 1) := by decide +kernel
theorem dX9_house_26 : decode cX9_house 26 = .ok (.invokevirtual 138, 3) := by decide +kernel
theorem dX9_house_29 : decode cX9_house 29 = .ok (.ireturn, 1) := by decide +kernel
def zX9_house (Qr : Option PV → Mem → Prop) : XZ := (RX9, 2, 43, 5, some FieldType.int, Qr)
noncomputable def fX9_house (o : Nat) (x1 : Int) (x2 : Int) (x3 : Int) (F : Mem) : Option Int :=
  (fX4_valleyAt (o + 1) x1 F).bind fun r1 =>
  if r1 = 0 then
    some (-1)
  else
    (fX3_cell (r1 + 1) x2 x3 F).bind fun r4 =>
    some r4
theorem fX9_house_ok {Qr : Option PV → Mem → Prop} : ∀ (o : Nat) (x1 : Int) (x2 : Int) (x3 : Int) (F : Mem) (res : Int) (ho : isK o 9), fX9_house o x1 x2 x3 F = some res → Qr (some (vI res)) F → PR cX9_house (zX9_house Qr) 0 [(0, vR o), (1, vI x1), (2, vI x2), (3, vI x3)] [] F := by
  intro o x1 x2 x3 F res ho h hq
  refine s_aload_n (j := 0) dX9_house_0 rfl rfl ?_
  refine s_getR dX9_house_1 flX9_10 ho ?_
  refine s_iload_n (j := 1) dX9_house_4 rfl rfl ?_
  obtain ⟨r1, hv2, h⟩ := bnd h
  refine s_callV (As := [vI x1]) (rest := []) (r := (some (vR r1))) (F' := F) dX9_house_5 (clX9_105 (Nat.le_of_ble_eq_true rfl) (Nat.le_of_ble_eq_true rfl)) (trX9_0 ho) rfl ⟨_, _, _, rfl, (trX9_0 ho), hv2, rfl, rfl⟩ rfl (Nat.le_of_ble_eq_true rfl) ?_
  refine s_astore (ls' := [(4, vR r1), (0, vR o), (1, vI x1), (2, vI x2), (3, vI x3)]) dX9_house_8 (Nat.le_of_ble_eq_true rfl) rfl ?_
  refine s_aload (j := 0) dX9_house_10 rfl ?_
  refine s_ifnonnull (tgt := 19) dX9_house_12 rfl (fun hc3 => ?_) (fun hc3 => ?_)
  · have h := ifn hc3 h
    refine s_aload (j := 0) dX9_house_19 rfl ?_
    refine s_getR dX9_house_21 flX9_126 ((fX4_valleyAt_rt _ _ _ _ (trX9_0 ho) hv2).resolve_left hc3) ?_
    refine s_iload_n (j := 3) dX9_house_24 rfl rfl ?_
    refine s_iload_n (j := 4) dX9_house_25 rfl rfl ?_
    obtain ⟨r4, hv5, h⟩ := bnd h
    refine s_callV (As := [vI x2, vI x3]) (rest := []) (r := (some (vI r4))) (F' := F) dX9_house_26 (clX9_138 (Nat.le_of_ble_eq_true rfl) (Nat.le_of_ble_eq_true rfl)) (trX7_5 ((fX4_valleyAt_rt _ _ _ _ (trX9_0 ho) hv2).resolve_left hc3)) rfl ⟨_, _, _, _, rfl, (trX7_5 ((fX4_valleyAt_rt _ _ _ _ (trX9_0 ho) hv2).resolve_left hc3)), hv5, rfl, rfl⟩ rfl (Nat.le_of_ble_eq_true rfl) ?_
    have h := Option.some.inj h
    subst h
    exact s_ireturn dX9_house_29 rfl hq
  · have h := ifp hc3 h
    refine s_iconst dX9_house_15 (cin rfl) ?_
    refine s_goto (tgt := 29) dX9_house_16 rfl ?_
    have h := Option.some.inj h
    subst h
    exact s_ireturn dX9_house_29 rfl hq
def gX9_house : XG := fun As F r F' => ∃ o : Nat, ∃ x1 : Int, ∃ x2 : Int, ∃ x3 : Int, ∃ res : Int, As = [vR o, vI x1, vI x2, vI x3] ∧ isK o 9 ∧ fX9_house o x1 x2 x3 F = some res ∧ r = some (vI res) ∧ F' = F
theorem ctX9_house : xCT yX9_house cX9_house 5 (some FieldType.int) 2 43 gX9_house := xmet (by decide +kernel) (fun As F r F' hg => by obtain ⟨o, x1, x2, x3, res, rfl, ho, h, rfl, rfl⟩ := hg; exact Nat.le_of_ble_eq_true rfl) (fun As F r F' hg => by obtain ⟨o, x1, x2, x3, res, rfl, ho, h, rfl, rfl⟩ := hg; exact fX9_house_ok o x1 x2 x3 _ _ ho h ⟨rfl, rfl⟩)
theorem mcX9_house : Cond.code yX9_house cX9_house 5 (some FieldType.int) ∈ xw_T ∧ Cond.initialized yX9_house.cls ∈ xw_T ∧ Cond.instanceMethod yX9_house ∈ xw_T ∧ Cond.selects yX9_house.cls yX9_house yX9_house ∈ xw_T := ⟨(xinT 762 (by decide +kernel) (by decide +kernel)), (xinT 116 (by decide +kernel) (by decide +kernel)), (xinT 760 (by decide +kernel) (by decide +kernel)), (xinT 761 (by decide +kernel) (by decide +kernel))⟩
theorem dX9_way_0 : decode cX9_way 0 = .ok (.aload_n 0, 1) := by decide +kernel
theorem dX9_way_1 : decode cX9_way 1 = .ok (.getfield 10, 3) := by decide +kernel
theorem dX9_way_4 : decode cX9_way 4 = .ok (.iload_n 1, 1) := by decide +kernel
theorem dX9_way_5 : decode cX9_way 5 = .ok (.invokevirtual 105, 3) := by decide +kernel
theorem dX9_way_8 : decode cX9_way 8 = .ok (.astore 5, 2) := by decide +kernel
theorem dX9_way_10 : decode cX9_way 10 = .ok (.aload 5, 2) := by decide +kernel
theorem dX9_way_12 : decode cX9_way 12 = .ok (.ifnull 21, 3) := by decide +kernel
theorem dX9_way_15 : decode cX9_way 15 = .ok (.aload 5, 2) := by decide +kernel
theorem dX9_way_17 : decode cX9_way 17 = .ok (.iload_n 2, 1) := by decide +kernel
theorem dX9_way_18 : decode cX9_way 18 = .ok (.invokevirtual 141, 3) := by decide +kernel
theorem dX9_way_21 : decode cX9_way 21 = .ok (.ifCond .eq 12, 3) := by decide +kernel
theorem dX9_way_24 : decode cX9_way 24 = .ok (.aload 5, 2) := by decide +kernel
theorem dX9_way_26 : decode cX9_way 26 = .ok (.iload_n 3, 1) := by decide +kernel
theorem dX9_way_27 : decode cX9_way 27 = .ok (.invokevirtual 141, 3) := by decide +kernel
theorem dX9_way_30 : decode cX9_way 30 = .ok (.ifCond .ne 5, 3) := by decide +kernel
theorem dX9_way_33 : decode cX9_way 33 = .ok (.iconst (-1), 1) := by decide +kernel
theorem dX9_way_34 : decode cX9_way 34 = .ok (.ireturn, 1) := by decide +kernel
theorem dX9_way_35 : decode cX9_way 35 = .ok (.iload 4, 2) := by decide +kernel
theorem dX9_way_37 : decode cX9_way 37 = .ok (.ifCond .eq 18, 3) := by decide +kernel
theorem dX9_way_40 : decode cX9_way 40 = .ok (.aload 5, 2) := by decide +kernel
theorem dX9_way_42 : decode cX9_way 42 = .ok (.iload_n 2, 1) := by decide +kernel
theorem dX9_way_43 : decode cX9_way 43 = .ok (.iload_n 3, 1) := by decide +kernel
theorem dX9_way_44 : decode cX9_way 44 = .ok (.aload 5, 2) := by decide +kernel
theorem dX9_way_46 : decode cX9_way 46 = .ok (.getfield 114, 3) := by decide +kernel
theorem dX9_way_49 : decode cX9_way 49 = .ok (.invokevirtual 145, 3) := by decide +kernel
theorem dX9_way_52 : decode cX9_way 52 = .ok (.goto 10, 3) := by decide +kernel
theorem dX9_way_55 : decode cX9_way 55 = .ok (.aload 5, 2) := by decide +kernel
theorem dX9_way_57 : decode cX9_way 57 = .ok (.iload_n 2, 1) := by decide +kernel
theorem dX9_way_58 : decode cX9_way 58 = .ok (.iload_n 3, 1) := by decide +kernel
theorem dX9_way_59 : decode cX9_way 59 = .ok (.invokevirtual 149, 3) := by decide +kernel
theorem dX9_way_62 : decode cX9_way 62 = .ok (.ireturn, 1) := by decide +kernel
def zX9_way (Qr : Option PV → Mem → Prop) : XZ := (RX9, 2, 64, 6, some FieldType.int, Qr)
noncomputable def fX9_way (o : Nat) (x1 : Int) (x2 : Int) (x3 : Int) (x4 : Int) (F : Mem) : Option Int :=
  (fX4_valleyAt (o + 1) x1 F).bind fun r1 =>
  if r1 = 0 then
    some (-1)
  else
    if (fX7_hasHouse r1 x2 F) = 0 then
      some (-1)
    else
      if (fX7_hasHouse r1 x3 F) ≠ 0 then
        if x4 = 0 then
          (fX7_stepsBetween r1 x2 x3 F).bind fun r7 =>
          some r7
        else
          (fX7_slotsBetween r1 x2 x3 (F r1 1) F).bind fun r9 =>
          some r9
      else
        some (-1)
theorem fX9_way_ok {Qr : Option PV → Mem → Prop} : ∀ (o : Nat) (x1 : Int) (x2 : Int) (x3 : Int) (x4 : Int) (F : Mem) (res : Int) (ho : isK o 9), fX9_way o x1 x2 x3 x4 F = some res → Qr (some (vI res)) F → PR cX9_way (zX9_way Qr) 0 [(0, vR o), (1, vI x1), (2, vI x2), (3, vI x3), (4, vI x4)] [] F := by
  intro o x1 x2 x3 x4 F res ho h hq
  refine s_aload_n (j := 0) dX9_way_0 rfl rfl ?_
  refine s_getR dX9_way_1 flX9_10 ho ?_
  refine s_iload_n (j := 1) dX9_way_4 rfl rfl ?_
  obtain ⟨r1, hv2, h⟩ := bnd h
  refine s_callV (As := [vI x1]) (rest := []) (r := (some (vR r1))) (F' := F) dX9_way_5 (clX9_105 (Nat.le_of_ble_eq_true rfl) (Nat.le_of_ble_eq_true rfl)) (trX9_0 ho) rfl ⟨_, _, _, rfl, (trX9_0 ho), hv2, rfl, rfl⟩ rfl (Nat.le_of_ble_eq_true rfl) ?_
  refine s_astore (ls' := [(5, vR r1), (0, vR o), (1, vI x1), (2, vI x2), (3, vI x3), (4, vI x4)]) dX9_way_8 (Nat.le_of_ble_eq_true rfl) rfl ?_
  refine s_aload (j := 0) dX9_way_10 rfl ?_
  refine s_ifnull (tgt := 33) dX9_way_12 rfl (fun hc3 => ?_) (fun hc3 => ?_)
  · have h := ifp hc3 h
    refine s_iconst dX9_way_33 (cin rfl) ?_
    have h := Option.some.inj h
    subst h
    exact s_ireturn dX9_way_34 rfl hq
  · have h := ifn hc3 h
    refine s_aload (j := 0) dX9_way_15 rfl ?_
    refine s_iload_n (j := 3) dX9_way_17 rfl rfl ?_
    refine s_callV (As := [vI x2]) (rest := []) (r := (some (vI (fX7_hasHouse r1 x2 F)))) (F' := F) dX9_way_18 (clX9_141 (Nat.le_of_ble_eq_true rfl) (Nat.le_of_ble_eq_true rfl)) ((fX4_valleyAt_rt _ _ _ _ (trX9_0 ho) hv2).resolve_left hc3) rfl ⟨_, _, _, rfl, ((fX4_valleyAt_rt _ _ _ _ (trX9_0 ho) hv2).resolve_left hc3), rfl, rfl, rfl⟩ rfl (Nat.le_of_ble_eq_true rfl) ?_
    refine s_if_eq (tgt := 33) dX9_way_21 rfl (fun hc4 => ?_) (fun hc4 => ?_)
    · have h := ifp hc4 h
      refine s_iconst dX9_way_33 (cin rfl) ?_
      have h := Option.some.inj h
      subst h
      exact s_ireturn dX9_way_34 rfl hq
    · have h := ifn hc4 h
      refine s_aload (j := 0) dX9_way_24 rfl ?_
      refine s_iload_n (j := 4) dX9_way_26 rfl rfl ?_
      refine s_callV (As := [vI x3]) (rest := []) (r := (some (vI (fX7_hasHouse r1 x3 F)))) (F' := F) dX9_way_27 (clX9_141 (Nat.le_of_ble_eq_true rfl) (Nat.le_of_ble_eq_true rfl)) ((fX4_valleyAt_rt _ _ _ _ (trX9_0 ho) hv2).resolve_left hc3) rfl ⟨_, _, _, rfl, ((fX4_valleyAt_rt _ _ _ _ (trX9_0 ho) hv2).resolve_left hc3), rfl, rfl, rfl⟩ rfl (Nat.le_of_ble_eq_true rfl) ?_
      refine s_if_ne (tgt := 35) dX9_way_30 rfl (fun hc5 => ?_) (fun hc5 => ?_)
      · have h := ifp hc5 h
        refine s_iload (j := 5) dX9_way_35 rfl ?_
        refine s_if_eq (tgt := 55) dX9_way_37 rfl (fun hc6 => ?_) (fun hc6 => ?_)
        · have h := ifp hc6 h
          refine s_aload (j := 0) dX9_way_55 rfl ?_
          refine s_iload_n (j := 3) dX9_way_57 rfl rfl ?_
          refine s_iload_n (j := 4) dX9_way_58 rfl rfl ?_
          obtain ⟨r7, hv8, h⟩ := bnd h
          refine s_callV (As := [vI x2, vI x3]) (rest := []) (r := (some (vI r7))) (F' := F) dX9_way_59 (clX9_149 (Nat.le_of_ble_eq_true rfl) (Nat.le_of_ble_eq_true rfl)) ((fX4_valleyAt_rt _ _ _ _ (trX9_0 ho) hv2).resolve_left hc3) rfl ⟨_, _, _, _, rfl, ((fX4_valleyAt_rt _ _ _ _ (trX9_0 ho) hv2).resolve_left hc3), hv8, rfl, rfl⟩ rfl (Nat.le_of_ble_eq_true rfl) ?_
          have h := Option.some.inj h
          subst h
          exact s_ireturn dX9_way_62 rfl hq
        · have h := ifn hc6 h
          refine s_aload (j := 0) dX9_way_40 rfl ?_
          refine s_iload_n (j := 3) dX9_way_42 rfl rfl ?_
          refine s_iload_n (j := 4) dX9_way_43 rfl rfl ?_
          refine s_aload (j := 0) dX9_way_44 rfl ?_
          refine s_getI dX9_way_46 flX9_114 ((fX4_valleyAt_rt _ _ _ _ (trX9_0 ho) hv2).resolve_left hc3) ?_
          obtain ⟨r9, hv10, h⟩ := bnd h
          refine s_callV (As := [vI x2, vI x3, vI (F r1 1)]) (rest := []) (r := (some (vI r9))) (F' := F) dX9_way_49 (clX9_145 (Nat.le_of_ble_eq_true rfl) (Nat.le_of_ble_eq_true rfl)) ((fX4_valleyAt_rt _ _ _ _ (trX9_0 ho) hv2).resolve_left hc3) rfl ⟨_, _, _, _, _, rfl, ((fX4_valleyAt_rt _ _ _ _ (trX9_0 ho) hv2).resolve_left hc3), hv10, rfl, rfl⟩ rfl (Nat.le_of_ble_eq_true rfl) ?_
          refine s_goto (tgt := 62) dX9_way_52 rfl ?_
          have h := Option.some.inj h
          subst h
          exact s_ireturn dX9_way_62 rfl hq
      · have h := ifn hc5 h
        refine s_iconst dX9_way_33 (cin rfl) ?_
        have h := Option.some.inj h
        subst h
        exact s_ireturn dX9_way_34 rfl hq
def gX9_way : XG := fun As F r F' => ∃ o : Nat, ∃ x1 : Int, ∃ x2 : Int, ∃ x3 : Int, ∃ x4 : Int, ∃ res : Int, As = [vR o, vI x1, vI x2, vI x3, vI x4] ∧ isK o 9 ∧ fX9_way o x1 x2 x3 x4 F = some res ∧ r = some (vI res) ∧ F' = F
theorem ctX9_way : xCT yX9_way cX9_way 6 (some FieldType.int) 2 64 gX9_way := xmet (by decide +kernel) (fun As F r F' hg => by obtain ⟨o, x1, x2, x3, x4, res, rfl, ho, h, rfl, rfl⟩ := hg; exact Nat.le_of_ble_eq_true rfl) (fun As F r F' hg => by obtain ⟨o, x1, x2, x3, x4, res, rfl, ho, h, rfl, rfl⟩ := hg; exact fX9_way_ok o x1 x2 x3 x4 _ _ ho h ⟨rfl, rfl⟩)
theorem mcX9_way : Cond.code yX9_way cX9_way 6 (some FieldType.int) ∈ xw_T ∧ Cond.initialized yX9_way.cls ∈ xw_T ∧ Cond.instanceMethod yX9_way ∈ xw_T ∧ Cond.selects yX9_way.cls yX9_way yX9_way ∈ xw_T := ⟨(xinT 766 (by decide +kernel) (by decide +kernel)), (xinT 116 (by decide +kernel) (by decide +kernel)), (xinT 764 (by decide +kernel) (by decide +kernel)), (xinT 765 (by decide +kernel) (by decide +kernel))⟩
theorem dX9_cellOrCount_0 : decode cX9_cellOrCount 0 = .ok (.aload_n 0, 1) := by decide +kernel
theorem dX9_cellOrCount_1 : decode cX9_cellOrCount 1 = .ok (.ifnonnull 6, 3) := by decide +kernel
theorem dX9_cellOrCount_4 : decode cX9_cellOrCount 4 = .ok (.bipush (-2), 2) := by decide +kernel
theorem dX9_cellOrCount_6 : decode cX9_cellOrCount 6 = .ok (.ireturn, 1) := by decide +kernel
theorem dX9_cellOrCount_7 : decode cX9_cellOrCount 7 = .ok (.iload_n 1, 1) := by decide +kernel
theorem dX9_cellOrCount_8 : decode cX9_cellOrCount 8 = .ok (.iconst (-1), 1) := by decide +kernel
theorem dX9_cellOrCount_9 : decode cX9_cellOrCount 9 = .ok (.if_icmp .ne 12, 3) := by decide +kernel
theorem dX9_cellOrCount_12 : decode cX9_cellOrCount 12 = .ok (.iload_n 2, 1) := by decide +kernel
theorem dX9_cellOrCount_13 : decode cX9_cellOrCount 13 = .ok (.ifCond .ne 8, 3) := by decide +kernel
theorem dX9_cellOrCount_16 : decode cX9_cellOrCount 16 = .ok (.aload_n 0, 1) := by decide +kernel
theorem dX9_cellOrCount_17 : decode cX9_cellOrCount 17 = .ok (.getfield 130, 3) := by decide +kernel
theorem dX9_cellOrCount_20 : decode cX9_cellOrCount 20 = .ok (.ireturn, 1) := by decide +kernel
theorem dX9_cellOrCount_21 : decode cX9_cellOrCount 21 = .ok (.aload_n 0, 1) := by decide +kernel
theorem dX9_cellOrCount_22 : decode cX9_cellOrCount 22 = .ok (.iload_n 1, 1) := by decide +kernel
theorem dX9_cellOrCount_23 : decode cX9_cellOrCount 23 = .ok (.iload_n 2, 1) := by decide +kernel
theorem dX9_cellOrCount_24 : decode cX9_cellOrCount 24 = .ok (.invokevirtual 375, 3) := by decide +kernel
theorem dX9_cellOrCount_27 : decode cX9_cellOrCount 27 = .ok (.ifCond .eq 12, 3) := by decide +kernel
theorem dX9_cellOrCount_30 : decode cX9_cellOrCount 30 = .ok (.aload_n 0, 1) := by decide +kernel
theorem dX9_cellOrCount_31 : decode cX9_cellOrCount 31 = .ok (.iload_n 1, 1) := by decide +kernel
theorem dX9_cellOrCount_32 : decode cX9_cellOrCount 32 = .ok (.iload_n 2, 1) := by decide +kernel
theorem dX9_cellOrCount_33 : decode cX9_cellOrCount 33 = .ok (.invokevirtual 138, 3) := by decide +kernel
theorem dX9_cellOrCount_36 : decode cX9_cellOrCount 36 = .ok (.goto 5, 3) := by decide +kernel
theorem dX9_cellOrCount_39 : decode cX9_cellOrCount 39 = .ok (.bipush (-2), 2) := by decide +kernel
theorem dX9_cellOrCount_41 : decode cX9_cellOrCount 41 = .ok (.ireturn, 1) := by decide +kernel
def zX9_cellOrCount (Qr : Option PV → Mem → Prop) : XZ := (RX9, 1, 22, 3, some FieldType.int, Qr)
noncomputable def fX9_cellOrCount_b21 (F : Mem) (x0 : Nat) (x1 : Int) (x2 : Int) : Option Int :=
  if x0 = 0 then none else
  if (fX3_isCell x0 x1 x2 F) = 0 then
    some (-2)
  else
    if x0 = 0 then none else
    (fX3_cell x0 x1 x2 F).bind fun r4 =>
    some r4
noncomputable def fX9_cellOrCount (x0 : Nat) (x1 : Int) (x2 : Int) (F : Mem) : Option Int :=
  if x0 = 0 then
    some (-2)
  else
    if x1 ≠ (-1) then
      fX9_cellOrCount_b21 F x0 x1 x2
    else
      if x2 ≠ 0 then
        fX9_cellOrCount_b21 F x0 x1 x2
      else
        some (F x0 3)
theorem fX9_cellOrCount_b21_ok {Qr : Option PV → Mem → Prop}  (F : Mem) : ∀ (x0 : Nat) (x1 : Int) (x2 : Int) (res : Int) (hx0 : x0 = 0 ∨ isK x0 3), fX9_cellOrCount_b21 F x0 x1 x2 = some res → Qr (some (vI res)) F → PR cX9_cellOrCount (zX9_cellOrCount Qr) 21 [(0, vR x0), (1, vI x1), (2, vI x2)] [] F := by
  intro x0 x1 x2 res hx0 h hq
  refine s_aload_n (j := 0) dX9_cellOrCount_21 rfl rfl ?_
  refine s_iload_n (j := 1) dX9_cellOrCount_22 rfl rfl ?_
  refine s_iload_n (j := 2) dX9_cellOrCount_23 rfl rfl ?_
  obtain ⟨hn1, h⟩ := gdn h
  refine s_callV (As := [vI x1, vI x2]) (rest := []) (r := (some (vI (fX3_isCell x0 x1 x2 F)))) (F' := F) dX9_cellOrCount_24 (clX9_375 (Nat.le_of_ble_eq_true rfl) (Nat.le_of_ble_eq_true rfl)) (hx0.resolve_left hn1) rfl ⟨_, _, _, _, rfl, (hx0.resolve_left hn1), rfl, rfl, rfl⟩ rfl (Nat.le_of_ble_eq_true rfl) ?_
  refine s_if_eq (tgt := 39) dX9_cellOrCount_27 rfl (fun hc2 => ?_) (fun hc2 => ?_)
  · have h := ifp hc2 h
    refine s_bipush dX9_cellOrCount_39 rfl (cin rfl) ?_
    have h := Option.some.inj h
    subst h
    exact s_ireturn dX9_cellOrCount_41 rfl hq
  · have h := ifn hc2 h
    refine s_aload_n (j := 0) dX9_cellOrCount_30 rfl rfl ?_
    refine s_iload_n (j := 1) dX9_cellOrCount_31 rfl rfl ?_
    refine s_iload_n (j := 2) dX9_cellOrCount_32 rfl rfl ?_
    obtain ⟨hn3, h⟩ := gdn h
    obtain ⟨r4, hv5, h⟩ := bnd h
    refine s_callV (As := [vI x1, vI x2]) (rest := []) (r := (some (vI r4))) (F' := F) dX9_cellOrCount_33 (clX9_138 (Nat.le_of_ble_eq_true rfl) (Nat.le_of_ble_eq_true rfl)) (hx0.resolve_left hn3) rfl ⟨_, _, _, _, rfl, (hx0.resolve_left hn3), hv5, rfl, rfl⟩ rfl (Nat.le_of_ble_eq_true rfl) ?_
    refine s_goto (tgt := 41) dX9_cellOrCount_36 rfl ?_
    have h := Option.some.inj h
    subst h
    exact s_ireturn dX9_cellOrCount_41 rfl hq
theorem fX9_cellOrCount_ok {Qr : Option PV → Mem → Prop} : ∀ (x0 : Nat) (x1 : Int) (x2 : Int) (F : Mem) (res : Int) (hx0 : x0 = 0 ∨ isK x0 3), fX9_cellOrCount x0 x1 x2 F = some res → Qr (some (vI res)) F → PR cX9_cellOrCount (zX9_cellOrCount Qr) 0 [(0, vR x0), (1, vI x1), (2, vI x2)] [] F := by
  intro x0 x1 x2 F res hx0 h hq
  refine s_aload_n (j := 0) dX9_cellOrCount_0 rfl rfl ?_
  refine s_ifnonnull (tgt := 7) dX9_cellOrCount_1 rfl (fun hc1 => ?_) (fun hc1 => ?_)
  · have h := ifn hc1 h
    refine s_iload_n (j := 1) dX9_cellOrCount_7 rfl rfl ?_
    refine s_iconst dX9_cellOrCount_8 (cin rfl) ?_
    refine s_icmp_ne (tgt := 21) dX9_cellOrCount_9 rfl (fun hc2 => ?_) (fun hc2 => ?_)
    · have h := ifp hc2 h
      exact s_sub (ks := [0, 1, 2]) rfl (fX9_cellOrCount_b21_ok F x0 x1 x2 _ (Or.inr (hx0.resolve_left hc1)) h hq)
    · have h := ifn hc2 h
      refine s_iload_n (j := 2) dX9_cellOrCount_12 rfl rfl ?_
      refine s_if_ne (tgt := 21) dX9_cellOrCount_13 rfl (fun hc3 => ?_) (fun hc3 => ?_)
      · have h := ifp hc3 h
        exact s_sub (ks := [0, 1, 2]) rfl (fX9_cellOrCount_b21_ok F x0 x1 x2 _ (Or.inr (hx0.resolve_left hc1)) h hq)
      · have h := ifn hc3 h
        refine s_aload_n (j := 0) dX9_cellOrCount_16 rfl rfl ?_
        refine s_getI dX9_cellOrCount_17 flX9_130 (hx0.resolve_left hc1) ?_
        have h := Option.some.inj h
        subst h
        exact s_ireturn dX9_cellOrCount_20 rfl hq
  · have h := ifp hc1 h
    refine s_bipush dX9_cellOrCount_4 rfl (cin rfl) ?_
    have h := Option.some.inj h
    subst h
    exact s_ireturn dX9_cellOrCount_6 rfl hq
def gX9_cellOrCount : XG := fun As F r F' => ∃ x0 : Nat, ∃ x1 : Int, ∃ x2 : Int, ∃ res : Int, As = [vR x0, vI x1, vI x2] ∧ (x0 = 0 ∨ isK x0 3) ∧ fX9_cellOrCount x0 x1 x2 F = some res ∧ r = some (vI res) ∧ F' = F
theorem ctX9_cellOrCount : xCT yX9_cellOrCount cX9_cellOrCount 3 (some FieldType.int) 1 22 gX9_cellOrCount := xmet (by decide +kernel) (fun As F r F' hg => by obtain ⟨x0, x1, x2, res, rfl, hx0, h, rfl, rfl⟩ := hg; exact Nat.le_of_ble_eq_true rfl) (fun As F r F' hg => by obtain ⟨x0, x1, x2, res, rfl, hx0, h, rfl, rfl⟩ := hg; exact fX9_cellOrCount_ok x0 x1 x2 _ _ hx0 h ⟨rfl, rfl⟩)
theorem mcX9_cellOrCount : Cond.code yX9_cellOrCount cX9_cellOrCount 3 (some FieldType.int) ∈ xw_T ∧ Cond.initialized yX9_cellOrCount.cls ∈ xw_T ∧ Cond.static yX9_cellOrCount ∈ xw_T := ⟨(xinT 790 (by decide +kernel) (by decide +kernel)), (xinT 116 (by decide +kernel) (by decide +kernel)), (xinT 789 (by decide +kernel) (by decide +kernel))⟩
theorem clX9_156 {fr lo : Nat} (h1 : 1 + 1 ≤ fr) (h2 : 8 + (3 + 11) + 22 ≤ lo) : xCall RX9 fr lo 1 156 0 3 gX9_cellOrCount := ⟨_, _, _, _, _, _, ctX9_cellOrCount, h1, h2, mcX9_cellOrCount.1, (xinT 788 (by decide +kernel) (by decide +kernel)), mcX9_cellOrCount.2.1, ⟨by decide +kernel, by decide +kernel, by decide +kernel⟩, by rw [if_neg (by decide)]; exact mcX9_cellOrCount.2.2⟩
theorem dX9_leg_0 : decode cX9_leg 0 = .ok (.aload_n 0, 1) := by decide +kernel
theorem dX9_leg_1 : decode cX9_leg 1 = .ok (.getfield 10, 3) := by decide +kernel
theorem dX9_leg_4 : decode cX9_leg 4 = .ok (.iconst 1, 1) := by decide +kernel
theorem dX9_leg_5 : decode cX9_leg 5 = .ok (.iload_n 1, 1) := by decide +kernel
theorem dX9_leg_6 : decode cX9_leg 6 = .ok (.invokevirtual 152, 3) := by decide +kernel
theorem dX9_leg_9 : decode cX9_leg 9 = .ok (.iload_n 2, 1) := by decide +kernel
theorem dX9_leg_10 : decode cX9_leg 10 = .ok (.iload_n 3, 1) := by decide +kernel
theorem dX9_leg_11 : decode cX9_leg 11 = .ok (.invokestatic 156, 3) := by decide +kernel
theorem dX9_leg_14 : decode cX9_leg 14 = .ok (.ireturn, 1) := by decide +kernel
def zX9_leg (Qr : Option PV → Mem → Prop) : XZ := (RX9, 2, 44, 4, some FieldType.int, Qr)
noncomputable def fX9_leg (o : Nat) (x1 : Int) (x2 : Int) (x3 : Int) (F : Mem) : Option Int :=
  (fX4_sheetAt (o + 1) 1 x1 F).bind fun r1 =>
  (fX9_cellOrCount r1 x2 x3 F).bind fun r3 =>
  some r3
theorem fX9_leg_ok {Qr : Option PV → Mem → Prop} : ∀ (o : Nat) (x1 : Int) (x2 : Int) (x3 : Int) (F : Mem) (res : Int) (ho : isK o 9), fX9_leg o x1 x2 x3 F = some res → Qr (some (vI res)) F → PR cX9_leg (zX9_leg Qr) 0 [(0, vR o), (1, vI x1), (2, vI x2), (3, vI x3)] [] F := by
  intro o x1 x2 x3 F res ho h hq
  refine s_aload_n (j := 0) dX9_leg_0 rfl rfl ?_
  refine s_getR dX9_leg_1 flX9_10 ho ?_
  refine s_iconst dX9_leg_4 (cin rfl) ?_
  refine s_iload_n (j := 1) dX9_leg_5 rfl rfl ?_
  obtain ⟨r1, hv2, h⟩ := bnd h
  refine s_callV (As := [vI 1, vI x1]) (rest := []) (r := (some (vR r1))) (F' := F) dX9_leg_6 (clX9_152 (Nat.le_of_ble_eq_true rfl) (Nat.le_of_ble_eq_true rfl)) (trX9_0 ho) rfl ⟨_, _, _, _, rfl, (trX9_0 ho), hv2, rfl, rfl⟩ rfl (Nat.le_of_ble_eq_true rfl) ?_
  refine s_iload_n (j := 2) dX9_leg_9 rfl rfl ?_
  refine s_iload_n (j := 3) dX9_leg_10 rfl rfl ?_
  obtain ⟨r3, hv4, h⟩ := bnd h
  refine s_callS (As := [vR r1, vI x2, vI x3]) (rest := []) (r := (some (vI r3))) (F' := F) dX9_leg_11 (clX9_156 (Nat.le_of_ble_eq_true rfl) (Nat.le_of_ble_eq_true rfl)) rfl ⟨_, _, _, _, rfl, (fX4_sheetAt_rt _ _ _ _ _ (trX9_0 ho) hv2), hv4, rfl, rfl⟩ rfl (Nat.le_of_ble_eq_true rfl) ?_
  have h := Option.some.inj h
  subst h
  exact s_ireturn dX9_leg_14 rfl hq
def gX9_leg : XG := fun As F r F' => ∃ o : Nat, ∃ x1 : Int, ∃ x2 : Int, ∃ x3 : Int, ∃ res : Int, As = [vR o, vI x1, vI x2, vI x3] ∧ isK o 9 ∧ fX9_leg o x1 x2 x3 F = some res ∧ r = some (vI res) ∧ F' = F
theorem ctX9_leg : xCT yX9_leg cX9_leg 4 (some FieldType.int) 2 44 gX9_leg := xmet (by decide +kernel) (fun As F r F' hg => by obtain ⟨o, x1, x2, x3, res, rfl, ho, h, rfl, rfl⟩ := hg; exact Nat.le_of_ble_eq_true rfl) (fun As F r F' hg => by obtain ⟨o, x1, x2, x3, res, rfl, ho, h, rfl, rfl⟩ := hg; exact fX9_leg_ok o x1 x2 x3 _ _ ho h ⟨rfl, rfl⟩)
theorem mcX9_leg : Cond.code yX9_leg cX9_leg 4 (some FieldType.int) ∈ xw_T ∧ Cond.initialized yX9_leg.cls ∈ xw_T ∧ Cond.instanceMethod yX9_leg ∈ xw_T ∧ Cond.selects yX9_leg.cls yX9_leg yX9_leg ∈ xw_T := ⟨(xinT 783 (by decide +kernel) (by decide +kernel)), (xinT 116 (by decide +kernel) (by decide +kernel)), (xinT 781 (by decide +kernel) (by decide +kernel)), (xinT 782 (by decide +kernel) (by decide +kernel))⟩
theorem dX9_deed_0 : decode cX9_deed 0 = .ok (.aload_n 0, 1) := by decide +kernel
theorem dX9_deed_1 : decode cX9_deed 1 = .ok (.getfield 10, 3) := by decide +kernel
theorem dX9_deed_4 : decode cX9_deed 4 = .ok (.iconst 2, 1) := by decide +kernel
theorem dX9_deed_5 : decode cX9_deed 5 = .ok (.iload_n 1, 1) := by decide +kernel
theorem dX9_deed_6 : decode cX9_deed 6 = .ok (.invokevirtual 152, 3) := by decide +kernel
theorem dX9_deed_9 : decode cX9_deed 9 = .ok (.iload_n 2, 1) := by decide +kernel
theorem dX9_deed_10 : decode cX9_deed 10 = .ok (.iload_n 3, 1) := by decide +kernel
theorem dX9_deed_11 : decode cX9_deed 11 = .ok (.invokestatic 156, 3) := by decide +kernel
theorem dX9_deed_14 : decode cX9_deed 14 = .ok (.ireturn, 1) := by decide +kernel
def zX9_deed (Qr : Option PV → Mem → Prop) : XZ := (RX9, 2, 44, 4, some FieldType.int, Qr)
noncomputable def fX9_deed (o : Nat) (x1 : Int) (x2 : Int) (x3 : Int) (F : Mem) : Option Int :=
  (fX4_sheetAt (o + 1) 2 x1 F).bind fun r1 =>
  (fX9_cellOrCount r1 x2 x3 F).bind fun r3 =>
  some r3
theorem fX9_deed_ok {Qr : Option PV → Mem → Prop} : ∀ (o : Nat) (x1 : Int) (x2 : Int) (x3 : Int) (F : Mem) (res : Int) (ho : isK o 9), fX9_deed o x1 x2 x3 F = some res → Qr (some (vI res)) F → PR cX9_deed (zX9_deed Qr) 0 [(0, vR o), (1, vI x1), (2, vI x2), (3, vI x3)] [] F := by
  intro o x1 x2 x3 F res ho h hq
  refine s_aload_n (j := 0) dX9_deed_0 rfl rfl ?_
  refine s_getR dX9_deed_1 flX9_10 ho ?_
  refine s_iconst dX9_deed_4 (cin rfl) ?_
  refine s_iload_n (j := 1) dX9_deed_5 rfl rfl ?_
  obtain ⟨r1, hv2, h⟩ := bnd h
  refine s_callV (As := [vI 2, vI x1]) (rest := []) (r := (some (vR r1))) (F' := F) dX9_deed_6 (clX9_152 (Nat.le_of_ble_eq_true rfl) (Nat.le_of_ble_eq_true rfl)) (trX9_0 ho) rfl ⟨_, _, _, _, rfl, (trX9_0 ho), hv2, rfl, rfl⟩ rfl (Nat.le_of_ble_eq_true rfl) ?_
  refine s_iload_n (j := 2) dX9_deed_9 rfl rfl ?_
  refine s_iload_n (j := 3) dX9_deed_10 rfl rfl ?_
  obtain ⟨r3, hv4, h⟩ := bnd h
  refine s_callS (As := [vR r1, vI x2, vI x3]) (rest := []) (r := (some (vI r3))) (F' := F) dX9_deed_11 (clX9_156 (Nat.le_of_ble_eq_true rfl) (Nat.le_of_ble_eq_true rfl)) rfl ⟨_, _, _, _, rfl, (fX4_sheetAt_rt _ _ _ _ _ (trX9_0 ho) hv2), hv4, rfl, rfl⟩ rfl (Nat.le_of_ble_eq_true rfl) ?_
  have h := Option.some.inj h
  subst h
  exact s_ireturn dX9_deed_14 rfl hq
def gX9_deed : XG := fun As F r F' => ∃ o : Nat, ∃ x1 : Int, ∃ x2 : Int, ∃ x3 : Int, ∃ res : Int, As = [vR o, vI x1, vI x2, vI x3] ∧ isK o 9 ∧ fX9_deed o x1 x2 x3 F = some res ∧ r = some (vI res) ∧ F' = F
theorem ctX9_deed : xCT yX9_deed cX9_deed 4 (some FieldType.int) 2 44 gX9_deed := xmet (by decide +kernel) (fun As F r F' hg => by obtain ⟨o, x1, x2, x3, res, rfl, ho, h, rfl, rfl⟩ := hg; exact Nat.le_of_ble_eq_true rfl) (fun As F r F' hg => by obtain ⟨o, x1, x2, x3, res, rfl, ho, h, rfl, rfl⟩ := hg; exact fX9_deed_ok o x1 x2 x3 _ _ ho h ⟨rfl, rfl⟩)
theorem mcX9_deed : Cond.code yX9_deed cX9_deed 4 (some FieldType.int) ∈ xw_T ∧ Cond.initialized yX9_deed.cls ∈ xw_T ∧ Cond.instanceMethod yX9_deed ∈ xw_T ∧ Cond.selects yX9_deed.cls yX9_deed yX9_deed ∈ xw_T := ⟨(xinT 795 (by decide +kernel) (by decide +kernel)), (xinT 116 (by decide +kernel) (by decide +kernel)), (xinT 793 (by decide +kernel) (by decide +kernel)), (xinT 794 (by decide +kernel) (by decide +kernel))⟩
theorem dX9_error_0 : decode cX9_error 0 = .ok (.aload_n 0, 1) := by decide +kernel
theorem dX9_error_1 : decode cX9_error 1 = .ok (.getfield 10, 3) := by decide +kernel
theorem dX9_error_4 : decode cX9_error 4 = .ok (.iconst 3, 1) := by decide +kernel
theorem dX9_error_5 : decode cX9_error 5 = .ok (.iload_n 1, 1) := by decide +kernel
theorem dX9_error_6 : decode cX9_error 6 = .ok (.invokevirtual 152, 3) := by decide +kernel
theorem dX9_error_9 : decode cX9_error 9 = .ok (.iload_n 2, 1) := by decide +kernel
theorem dX9_error_10 : decode cX9_error 10 = .ok (.iload_n 3, 1) := by decide +kernel
theorem dX9_error_11 : decode cX9_error 11 = .ok (.invokestatic 156, 3) := by decide +kernel
theorem dX9_error_14 : decode cX9_error 14 = .ok (.ireturn, 1) := by decide +kernel
def zX9_error (Qr : Option PV → Mem → Prop) : XZ := (RX9, 2, 44, 4, some FieldType.int, Qr)
noncomputable def fX9_error (o : Nat) (x1 : Int) (x2 : Int) (x3 : Int) (F : Mem) : Option Int :=
  (fX4_sheetAt (o + 1) 3 x1 F).bind fun r1 =>
  (fX9_cellOrCount r1 x2 x3 F).bind fun r3 =>
  some r3
theorem fX9_error_ok {Qr : Option PV → Mem → Prop} : ∀ (o : Nat) (x1 : Int) (x2 : Int) (x3 : Int) (F : Mem) (res : Int) (ho : isK o 9), fX9_error o x1 x2 x3 F = some res → Qr (some (vI res)) F → PR cX9_error (zX9_error Qr) 0 [(0, vR o), (1, vI x1), (2, vI x2), (3, vI x3)] [] F := by
  intro o x1 x2 x3 F res ho h hq
  refine s_aload_n (j := 0) dX9_error_0 rfl rfl ?_
  refine s_getR dX9_error_1 flX9_10 ho ?_
  refine s_iconst dX9_error_4 (cin rfl) ?_
  refine s_iload_n (j := 1) dX9_error_5 rfl rfl ?_
  obtain ⟨r1, hv2, h⟩ := bnd h
  refine s_callV (As := [vI 3, vI x1]) (rest := []) (r := (some (vR r1))) (F' := F) dX9_error_6 (clX9_152 (Nat.le_of_ble_eq_true rfl) (Nat.le_of_ble_eq_true rfl)) (trX9_0 ho) rfl ⟨_, _, _, _, rfl, (trX9_0 ho), hv2, rfl, rfl⟩ rfl (Nat.le_of_ble_eq_true rfl) ?_
  refine s_iload_n (j := 2) dX9_error_9 rfl rfl ?_
  refine s_iload_n (j := 3) dX9_error_10 rfl rfl ?_
  obtain ⟨r3, hv4, h⟩ := bnd h
  refine s_callS (As := [vR r1, vI x2, vI x3]) (rest := []) (r := (some (vI r3))) (F' := F) dX9_error_11 (clX9_156 (Nat.le_of_ble_eq_true rfl) (Nat.le_of_ble_eq_true rfl)) rfl ⟨_, _, _, _, rfl, (fX4_sheetAt_rt _ _ _ _ _ (trX9_0 ho) hv2), hv4, rfl, rfl⟩ rfl (Nat.le_of_ble_eq_true rfl) ?_
  have h := Option.some.inj h
  subst h
  exact s_ireturn dX9_error_14 rfl hq
def gX9_error : XG := fun As F r F' => ∃ o : Nat, ∃ x1 : Int, ∃ x2 : Int, ∃ x3 : Int, ∃ res : Int, As = [vR o, vI x1, vI x2, vI x3] ∧ isK o 9 ∧ fX9_error o x1 x2 x3 F = some res ∧ r = some (vI res) ∧ F' = F
theorem ctX9_error : xCT yX9_error cX9_error 4 (some FieldType.int) 2 44 gX9_error := xmet (by decide +kernel) (fun As F r F' hg => by obtain ⟨o, x1, x2, x3, res, rfl, ho, h, rfl, rfl⟩ := hg; exact Nat.le_of_ble_eq_true rfl) (fun As F r F' hg => by obtain ⟨o, x1, x2, x3, res, rfl, ho, h, rfl, rfl⟩ := hg; exact fX9_error_ok o x1 x2 x3 _ _ ho h ⟨rfl, rfl⟩)
theorem mcX9_error : Cond.code yX9_error cX9_error 4 (some FieldType.int) ∈ xw_T ∧ Cond.initialized yX9_error.cls ∈ xw_T ∧ Cond.instanceMethod yX9_error ∈ xw_T ∧ Cond.selects yX9_error.cls yX9_error yX9_error ∈ xw_T := ⟨(xinT 799 (by decide +kernel) (by decide +kernel)), (xinT 116 (by decide +kernel) (by decide +kernel)), (xinT 797 (by decide +kernel) (by decide +kernel)), (xinT 798 (by decide +kernel) (by decide +kernel))⟩
theorem dX9_count_0 : decode cX9_count 0 = .ok (.iload_n 1, 1) := by decide +kernel
theorem dX9_count_1 : decode cX9_count 1 = .ok (.ifCond .lt 8, 3) := by decide +kernel
theorem dX9_count_4 : decode cX9_count 4 = .ok (.iload_n 1, 1) := by decide +kernel
theorem dX9_count_5 : decode cX9_count 5 = .ok (.iconst 4, 1) := by decide +kernel
theorem dX9_count_6 : decode cX9_count 6 = .ok (.if_icmp .lt 8, 3) := by decide +kernel
theorem dX9_count_9 : decode cX9_count 9 = .ok (.bipush (-2), 2) := by decide +kernel
theorem dX9_count_11 : decode cX9_count 11 = .ok (.goto 12, 3) := by decide +kernel
theorem dX9_count_14 : decode cX9_count 14 = .ok (.aload_n 0, 1) := by decide +kernel
theorem dX9_count_15 : decode cX9_count 15 = .ok (.getfield 10, 3) := by decide +kernel
theorem dX9_count_18 : decode cX9_count 18 = .ok (.getfield 160, 3) := by decide +kernel
theorem dX9_count_21 : decode cX9_count 21 = .ok (.iload_n 1, 1) := by decide +kernel
theorem dX9_count_22 : decode cX9_count 22 = .ok (.iaload, 1) := by decide +kernel
theorem dX9_count_23 : decode cX9_count 23 = .ok (.ireturn, 1) := by decide +kernel
def zX9_count (Qr : Option PV → Mem → Prop) : XZ := (RX9, 0, 0, 2, some FieldType.int, Qr)
noncomputable def fX9_count (o : Nat) (x1 : Int) (F : Mem) : Option Int :=
  if x1 < 0 then
    some (-2)
  else
    if x1 < 4 then
      if (0 : Int) ≤ x1 ∧ x1 < (alen ((o + 1) + 2) : Int) then
        some (F ((o + 1) + 2) x1.toNat)
      else none
    else
      some (-2)
theorem fX9_count_ok {Qr : Option PV → Mem → Prop} : ∀ (o : Nat) (x1 : Int) (F : Mem) (res : Int) (ho : isK o 9), fX9_count o x1 F = some res → Qr (some (vI res)) F → PR cX9_count (zX9_count Qr) 0 [(0, vR o), (1, vI x1)] [] F := by
  intro o x1 F res ho h hq
  refine s_iload_n (j := 1) dX9_count_0 rfl rfl ?_
  refine s_if_lt (tgt := 9) dX9_count_1 rfl (fun hc1 => ?_) (fun hc1 => ?_)
  · have h := ifp hc1 h
    refine s_bipush dX9_count_9 rfl (cin rfl) ?_
    refine s_goto (tgt := 23) dX9_count_11 rfl ?_
    have h := Option.some.inj h
    subst h
    exact s_ireturn dX9_count_23 rfl hq
  · have h := ifn hc1 h
    refine s_iload_n (j := 1) dX9_count_4 rfl rfl ?_
    refine s_iconst dX9_count_5 (cin rfl) ?_
    refine s_icmp_lt (tgt := 14) dX9_count_6 rfl (fun hc2 => ?_) (fun hc2 => ?_)
    · have h := ifp hc2 h
      refine s_aload_n (j := 0) dX9_count_14 rfl rfl ?_
      refine s_getR dX9_count_15 flX9_10 ho ?_
      refine s_getR dX9_count_18 flX9_160 (trX9_0 ho) ?_
      refine s_iload_n (j := 1) dX9_count_21 rfl rfl ?_
      obtain ⟨hb3, h⟩ := gd h
      refine s_iaload dX9_count_22 (trX4_4 (trX9_0 ho)) hb3.1 hb3.2 ?_
      have h := Option.some.inj h
      subst h
      exact s_ireturn dX9_count_23 rfl hq
    · have h := ifn hc2 h
      refine s_bipush dX9_count_9 rfl (cin rfl) ?_
      refine s_goto (tgt := 23) dX9_count_11 rfl ?_
      have h := Option.some.inj h
      subst h
      exact s_ireturn dX9_count_23 rfl hq
def gX9_count : XG := fun As F r F' => ∃ o : Nat, ∃ x1 : Int, ∃ res : Int, As = [vR o, vI x1] ∧ isK o 9 ∧ fX9_count o x1 F = some res ∧ r = some (vI res) ∧ F' = F
theorem ctX9_count : xCT yX9_count cX9_count 2 (some FieldType.int) 0 0 gX9_count := xmet (by decide +kernel) (fun As F r F' hg => by obtain ⟨o, x1, res, rfl, ho, h, rfl, rfl⟩ := hg; exact Nat.le_of_ble_eq_true rfl) (fun As F r F' hg => by obtain ⟨o, x1, res, rfl, ho, h, rfl, rfl⟩ := hg; exact fX9_count_ok o x1 _ _ ho h ⟨rfl, rfl⟩)
theorem mcX9_count : Cond.code yX9_count cX9_count 2 (some FieldType.int) ∈ xw_T ∧ Cond.initialized yX9_count.cls ∈ xw_T ∧ Cond.instanceMethod yX9_count ∈ xw_T ∧ Cond.selects yX9_count.cls yX9_count yX9_count ∈ xw_T := ⟨(xinT 803 (by decide +kernel) (by decide +kernel)), (xinT 116 (by decide +kernel) (by decide +kernel)), (xinT 801 (by decide +kernel) (by decide +kernel)), (xinT 802 (by decide +kernel) (by decide +kernel))⟩
theorem dX9_image_0 : decode cX9_image 0 = .ok (.iload_n 1, 1) := by decide +kernel
theorem dX9_image_1 : decode cX9_image 1 = .ok (.ifCond .lt 8, 3) := by decide +kernel
theorem dX9_image_4 : decode cX9_image 4 = .ok (.iload_n 1, 1) := by decide +kernel
theorem dX9_image_5 : decode cX9_image 5 = .ok (.iconst 3, 1) := by decide +kernel
theorem dX9_image_6 : decode cX9_image 6 = .ok (.if_icmp .lt 5, 3) := by decide +kernel
theorem dX9_image_9 : decode cX9_image 9 = .ok (.iconst 0, 1) := by decide +kernel
theorem dX9_image_10 : decode cX9_image 10 = .ok (.ireturn, 1) := by decide +kernel
theorem dX9_image_11 : decode cX9_image 11 = .ok (.aload_n 0, 1) := by decide +kernel
theorem dX9_image_12 : decode cX9_image 12 = .ok (.getfield 16, 3) := by decide +kernel
theorem dX9_image_15 : decode cX9_image 15 = .ok (.iload_n 1, 1) := by decide +kernel
theorem dX9_image_16 : decode cX9_image 16 = .ok (.aaload, 1) := by decide +kernel
theorem dX9_image_17 : decode cX9_image 17 = .ok (.aload_n 0, 1) := by decide +kernel
theorem dX9_image_18 : decode cX9_image 18 = .ok (.getfield 10, 3) := by decide +kernel
theorem dX9_image_21 : decode cX9_image 21 = .ok (.invokevirtual 164, 3) := by decide +kernel
theorem dX9_image_24 : decode cX9_image 24 = .ok (.aload_n 0, 1) := by decide +kernel
theorem dX9_image_25 : decode cX9_image 25 = .ok (.getfield 20, 3) := by decide +kernel
theorem dX9_image_28 : decode cX9_image 28 = .ok (.iload_n 1, 1) := by decide +kernel
theorem dX9_image_29 : decode cX9_image 29 = .ok (.iconst 1, 1) := by decide +kernel
theorem dX9_image_30 : decode cX9_image 30 = .ok (.bastore, 1) := by decide +kernel
theorem dX9_image_31 : decode cX9_image 31 = .ok (.iconst 1, 1) := by decide +kernel
theorem dX9_image_32 : decode cX9_image 32 = .ok (.ireturn, 1) := by decide +kernel
def zX9_image (Qr : Option PV → Mem → Prop) : XZ := (RX9, 4, 104, 2, some FieldType.boolean, Qr)
noncomputable def fX9_image (o : Nat) (x1 : Int) (F : Mem) : Option (Int × Mem) :=
  if x1 < 0 then
    some (0, F)
  else
    if x1 < 3 then
      if (0 : Int) ≤ x1 ∧ x1 < (alen (o + 32) : Int) then
        (fX4_copyFrom (aref (o + 32) x1.toNat) (o + 1) F).bind fun q4 =>
        if (0 : Int) ≤ x1 ∧ x1 < (alen (o + 33) : Int) then
          some (1, mset q4 (o + 33) x1.toNat 1)
        else none
      else none
    else
      some (0, F)
theorem fX9_image_ok {Qr : Option PV → Mem → Prop} : ∀ (o : Nat) (x1 : Int) (F : Mem) (res : (Int × Mem)) (ho : isK o 9), fX9_image o x1 F = some res → Qr (some (vI res.1)) res.2 → PR cX9_image (zX9_image Qr) 0 [(0, vR o), (1, vI x1)] [] F := by
  intro o x1 F res ho h hq
  refine s_iload_n (j := 1) dX9_image_0 rfl rfl ?_
  refine s_if_lt (tgt := 9) dX9_image_1 rfl (fun hc1 => ?_) (fun hc1 => ?_)
  · have h := ifp hc1 h
    refine s_iconst dX9_image_9 (cin rfl) ?_
    have h := Option.some.inj h
    subst h
    exact s_zreturn dX9_image_10 rfl (Or.inl rfl) hq
  · have h := ifn hc1 h
    refine s_iload_n (j := 1) dX9_image_4 rfl rfl ?_
    refine s_iconst dX9_image_5 (cin rfl) ?_
    refine s_icmp_lt (tgt := 11) dX9_image_6 rfl (fun hc2 => ?_) (fun hc2 => ?_)
    · have h := ifp hc2 h
      refine s_aload_n (j := 0) dX9_image_11 rfl rfl ?_
      refine s_getR dX9_image_12 flX9_16 ho ?_
      refine s_iload_n (j := 1) dX9_image_15 rfl rfl ?_
      obtain ⟨hb3, h⟩ := gd h
      refine s_aaload dX9_image_16 (trX9_1 ho) hb3.1 hb3.2 ?_
      refine s_aload_n (j := 0) dX9_image_17 rfl rfl ?_
      refine s_getR dX9_image_18 flX9_10 ho ?_
      obtain ⟨q4, hv5, h⟩ := bnd h
      refine s_callV (As := [vR (o + 1)]) (rest := []) (r := none) (F' := q4) dX9_image_21 (clX9_164 (Nat.le_of_ble_eq_true rfl) (Nat.le_of_ble_eq_true rfl)) (aref_K (trX9_1 ho) (tolt hb3)) rfl ⟨_, _, _, rfl, (aref_K (trX9_1 ho) (tolt hb3)), (Or.inr (trX9_0 ho)), hv5, rfl, rfl⟩ rfl (Nat.le_of_ble_eq_true rfl) ?_
      refine s_aload_n (j := 0) dX9_image_24 rfl rfl ?_
      refine s_getR dX9_image_25 flX9_20 ho ?_
      refine s_iload_n (j := 1) dX9_image_28 rfl rfl ?_
      refine s_iconst dX9_image_29 (cin rfl) ?_
      obtain ⟨hb6, h⟩ := gd h
      refine s_zastore dX9_image_30 (trX9_2 ho) hb6.1 hb6.2 (Or.inr rfl) ?_
      refine s_iconst dX9_image_31 (cin rfl) ?_
      have h := Option.some.inj h
      subst h
      exact s_zreturn dX9_image_32 rfl (Or.inr rfl) hq
    · have h := ifn hc2 h
      refine s_iconst dX9_image_9 (cin rfl) ?_
      have h := Option.some.inj h
      subst h
      exact s_zreturn dX9_image_10 rfl (Or.inl rfl) hq
def gX9_image : XG := fun As F r F' => ∃ o : Nat, ∃ x1 : Int, ∃ res : (Int × Mem), As = [vR o, vI x1] ∧ isK o 9 ∧ fX9_image o x1 F = some res ∧ r = some (vI res.1) ∧ F' = res.2
theorem ctX9_image : xCT yX9_image cX9_image 2 (some FieldType.boolean) 4 104 gX9_image := xmet (by decide +kernel) (fun As F r F' hg => by obtain ⟨o, x1, res, rfl, ho, h, rfl, rfl⟩ := hg; exact Nat.le_of_ble_eq_true rfl) (fun As F r F' hg => by obtain ⟨o, x1, res, rfl, ho, h, rfl, rfl⟩ := hg; exact fX9_image_ok o x1 _ _ ho h ⟨rfl, rfl⟩)
theorem mcX9_image : Cond.code yX9_image cX9_image 2 (some FieldType.boolean) ∈ xw_T ∧ Cond.initialized yX9_image.cls ∈ xw_T ∧ Cond.instanceMethod yX9_image ∈ xw_T ∧ Cond.selects yX9_image.cls yX9_image yX9_image ∈ xw_T := ⟨(xinT 807 (by decide +kernel) (by decide +kernel)), (xinT 116 (by decide +kernel) (by decide +kernel)), (xinT 805 (by decide +kernel) (by decide +kernel)), (xinT 806 (by decide +kernel) (by decide +kernel))⟩
theorem dX9_again_0 : decode cX9_again 0 = .ok (.iload_n 1, 1) := by decide +kernel
theorem dX9_again_1 : decode cX9_again 1 = .ok (.ifCond .lt 17, 3) := by decide +kernel
theorem dX9_again_4 : decode cX9_again 4 = .ok (.iload_n 1, 1) := by decide +kernel
theorem dX9_again_5 : decode cX9_again 5 = .ok (.iconst 3, 1) := by decide +kernel
theorem dX9_again_6 : decode cX9_again 6 = .ok (.if_icmp .ge 12, 3) := by decide +kernel
theorem dX9_again_9 : decode cX9_again 9 = .ok (.aload_n 0, 1) := by decide +kernel
theorem dX9_again_10 : decode cX9_again 10 = .ok (.getfield 20, 3) := by decide +kernel
theorem dX9_again_13 : decode cX9_again 13 = .ok (.iload_n 1, 1) := by decide +kernel
theorem dX9_again_14 : decode cX9_again 14 = .ok (.baload, 1) := by decide +kernel
theorem dX9_again_15 : decode cX9_again 15 = .ok (.ifCond .ne 5, 3) := by decide +kernel
theorem dX9_again_18 : decode cX9_again 18 = .ok (.iconst 0, 1) := by decide +kernel
theorem dX9_again_19 : decode cX9_again 19 = .ok (.ireturn, 1) := by decide +kernel
theorem dX9_again_20 : decode cX9_again 20 = .ok (.aload_n 0, 1) := by decide +kernel
theorem dX9_again_21 : decode cX9_again 21 = .ok (.getfield 10, 3) := by decide +kernel
theorem dX9_again_24 : decode cX9_again 24 = .ok (.aload_n 0, 1) := by decide +kernel
theorem dX9_again_25 : decode cX9_again 25 = .ok (.getfield 16, 3) := by decide +kernel
theorem dX9_again_28 : decode cX9_again 28 = .ok (.iload_n 1, 1) := by decide +kernel
theorem dX9_again_29 : decode cX9_again 29 = .ok (.aaload, 1) := by decide +kernel
theorem dX9_again_30 : decode cX9_again 30 = .ok (.invokevirtual 164, 3) := by decide +kernel
theorem dX9_again_33 : decode cX9_again 33 = .ok (.iconst 1, 1) := by decide +kernel
theorem dX9_again_34 : decode cX9_again 34 = .ok (.ireturn, 1) := by decide +kernel
def zX9_again (Qr : Option PV → Mem → Prop) : XZ := (RX9, 4, 104, 2, some FieldType.boolean, Qr)
noncomputable def fX9_again (o : Nat) (x1 : Int) (F : Mem) : Option (Int × Mem) :=
  if x1 < 0 then
    some (0, F)
  else
    if 3 ≤ x1 then
      some (0, F)
    else
      if (0 : Int) ≤ x1 ∧ x1 < (alen (o + 33) : Int) then
        if (F (o + 33) x1.toNat) ≠ 0 then
          if (0 : Int) ≤ x1 ∧ x1 < (alen (o + 32) : Int) then
            (fX4_copyFrom (o + 1) (aref (o + 32) x1.toNat) F).bind fun q6 =>
            some (1, q6)
          else none
        else
          some (0, F)
      else none
theorem fX9_again_ok {Qr : Option PV → Mem → Prop} : ∀ (o : Nat) (x1 : Int) (F : Mem) (res : (Int × Mem)) (ho : isK o 9), fX9_again o x1 F = some res → Qr (some (vI res.1)) res.2 → PR cX9_again (zX9_again Qr) 0 [(0, vR o), (1, vI x1)] [] F := by
  intro o x1 F res ho h hq
  refine s_iload_n (j := 1) dX9_again_0 rfl rfl ?_
  refine s_if_lt (tgt := 18) dX9_again_1 rfl (fun hc1 => ?_) (fun hc1 => ?_)
  · have h := ifp hc1 h
    refine s_iconst dX9_again_18 (cin rfl) ?_
    have h := Option.some.inj h
    subst h
    exact s_zreturn dX9_again_19 rfl (Or.inl rfl) hq
  · have h := ifn hc1 h
    refine s_iload_n (j := 1) dX9_again_4 rfl rfl ?_
    refine s_iconst dX9_again_5 (cin rfl) ?_
    refine s_icmp_ge (tgt := 18) dX9_again_6 rfl (fun hc2 => ?_) (fun hc2 => ?_)
    · have h := ifp hc2 h
      refine s_iconst dX9_again_18 (cin rfl) ?_
      have h := Option.some.inj h
      subst h
      exact s_zreturn dX9_again_19 rfl (Or.inl rfl) hq
    · have h := ifn hc2 h
      refine s_aload_n (j := 0) dX9_again_9 rfl rfl ?_
      refine s_getR dX9_again_10 flX9_20 ho ?_
      refine s_iload_n (j := 1) dX9_again_13 rfl rfl ?_
      obtain ⟨hb3, h⟩ := gd h
      refine s_zaload dX9_again_14 (trX9_2 ho) hb3.1 hb3.2 ?_
      refine s_if_ne (tgt := 20) dX9_again_15 rfl (fun hc4 => ?_) (fun hc4 => ?_)
      · have h := ifp hc4 h
        refine s_aload_n (j := 0) dX9_again_20 rfl rfl ?_
        refine s_getR dX9_again_21 flX9_10 ho ?_
        refine s_aload_n (j := 0) dX9_again_24 rfl rfl ?_
        refine s_getR dX9_again_25 flX9_16 ho ?_
        refine s_iload_n (j := 1) dX9_again_28 rfl rfl ?_
        obtain ⟨hb5, h⟩ := gd h
        refine s_aaload dX9_again_29 (trX9_1 ho) hb5.1 hb5.2 ?_
        obtain ⟨q6, hv7, h⟩ := bnd h
        refine s_callV (As := [vR (aref (o + 32) x1.toNat)]) (rest := []) (r := none) (F' := q6) dX9_again_30 (clX9_164 (Nat.le_of_ble_eq_true rfl) (Nat.le_of_ble_eq_true rfl)) (trX9_0 ho) rfl ⟨_, _, _, rfl, (trX9_0 ho), (Or.inr (aref_K (trX9_1 ho) (tolt hb5))), hv7, rfl, rfl⟩ rfl (Nat.le_of_ble_eq_true rfl) ?_
        refine s_iconst dX9_again_33 (cin rfl) ?_
        have h := Option.some.inj h
        subst h
        exact s_zreturn dX9_again_34 rfl (Or.inr rfl) hq
      · have h := ifn hc4 h
        refine s_iconst dX9_again_18 (cin rfl) ?_
        have h := Option.some.inj h
        subst h
        exact s_zreturn dX9_again_19 rfl (Or.inl rfl) hq
def gX9_again : XG := fun As F r F' => ∃ o : Nat, ∃ x1 : Int, ∃ res : (Int × Mem), As = [vR o, vI x1] ∧ isK o 9 ∧ fX9_again o x1 F = some res ∧ r = some (vI res.1) ∧ F' = res.2
theorem ctX9_again : xCT yX9_again cX9_again 2 (some FieldType.boolean) 4 104 gX9_again := xmet (by decide +kernel) (fun As F r F' hg => by obtain ⟨o, x1, res, rfl, ho, h, rfl, rfl⟩ := hg; exact Nat.le_of_ble_eq_true rfl) (fun As F r F' hg => by obtain ⟨o, x1, res, rfl, ho, h, rfl, rfl⟩ := hg; exact fX9_again_ok o x1 _ _ ho h ⟨rfl, rfl⟩)
theorem mcX9_again : Cond.code yX9_again cX9_again 2 (some FieldType.boolean) ∈ xw_T ∧ Cond.initialized yX9_again.cls ∈ xw_T ∧ Cond.instanceMethod yX9_again ∈ xw_T ∧ Cond.selects yX9_again.cls yX9_again yX9_again ∈ xw_T := ⟨(xinT 816 (by decide +kernel) (by decide +kernel)), (xinT 116 (by decide +kernel) (by decide +kernel)), (xinT 814 (by decide +kernel) (by decide +kernel)), (xinT 815 (by decide +kernel) (by decide +kernel))⟩
theorem dX9_isWalked_0 : decode cX9_isWalked 0 = .ok (.aload_n 0, 1) := by decide +kernel
theorem dX9_isWalked_1 : decode cX9_isWalked 1 = .ok (.getfield 10, 3) := by decide +kernel
theorem dX9_isWalked_4 : decode cX9_isWalked 4 = .ok (.iload_n 1, 1) := by decide +kernel
theorem dX9_isWalked_5 : decode cX9_isWalked 5 = .ok (.invokevirtual 105, 3) := by decide +kernel
theorem dX9_isWalked_8 : decode cX9_isWalked 8 = .ok (.astore_n 3, 1) := by decide +kernel
theorem dX9_isWalked_9 : decode cX9_isWalked 9 = .ok (.aload_n 0, 1) := by decide +kernel
theorem dX9_isWalked_10 : decode cX9_isWalked 10 = .ok (.getfield 10, 3) := by decide +kernel
theorem dX9_isWalked_13 : decode cX9_isWalked 13 = .ok (.iconst 1, 1) := by decide +kernel
theorem dX9_isWalked_14 : decode cX9_isWalked 14 = .ok (.iload_n 2, 1) := by decide +kernel
theorem dX9_isWalked_15 : decode cX9_isWalked 15 = .ok (.invokevirtual 152, 3) := by decide +kernel
theorem dX9_isWalked_18 : decode cX9_isWalked 18 = .ok (.astore 4, 2) := by decide +kernel
theorem dX9_isWalked_20 : decode cX9_isWalked 20 = .ok (.aload_n 3, 1) := by decide +kernel
theorem dX9_isWalked_21 : decode cX9_isWalked 21 = .ok (.ifnull 8, 3) := by decide +kernel
theorem dX9_isWalked_24 : decode cX9_isWalked 24 = .ok (.aload 4, 2) := by decide +kernel
theorem dX9_isWalked_26 : decode cX9_isWalked 26 = .ok (.ifnonnull 5, 3) := by decide +kernel
theorem dX9_isWalked_29 : decode cX9_isWalked 29 = .ok (.iconst 0, 1) := by decide +kernel
theorem dX9_isWalked_30 : decode cX9_isWalked 30 = .ok (.ireturn, 1) := by decide +kernel
theorem dX9_isWalked_31 : decode cX9_isWalked 31 = .ok (.aload_n 0, 1) := by decide +kernel
theorem dX9_isWalked_32 : decode cX9_isWalked 32 = .ok (.getfield 44, 3) := by decide +kernel
theorem dX9_isWalked_35 : decode cX9_isWalked 35 = .ok (.aload_n 3, 1) := by decide +kernel
theorem dX9_isWalked_36 : decode cX9_isWalked 36 = .ok (.aload 4, 2) := by decide +kernel
theorem dX9_isWalked_38 : decode cX9_isWalked 38 = .ok (.invokevirtual 379, 3) := by decide +kernel
theorem dX9_isWalked_41 : decode cX9_isWalked 41 = .ok (.iconst 1, 1) := by decide +kernel
theorem dX9_isWalked_42 : decode cX9_isWalked 42 = .ok (.ireturn, 1) := by decide +kernel
def zX9_isWalked (Qr : Option PV → Mem → Prop) : XZ := (RX9, 3, 93, 5, some FieldType.boolean, Qr)
noncomputable def fX9_isWalked (o : Nat) (x1 : Int) (x2 : Int) (F : Mem) : Option (Int × Mem) :=
  (fX4_valleyAt (o + 1) x1 F).bind fun r1 =>
  (fX4_sheetAt (o + 1) 1 x2 F).bind fun r3 =>
  if r1 = 0 then
    some (0, F)
  else
    if r3 = 0 then
      some (0, F)
    else
      (fX8_follow (o + 59) r1 r3 F).bind fun q7 =>
      some (1, q7)
theorem fX9_isWalked_ok {Qr : Option PV → Mem → Prop} : ∀ (o : Nat) (x1 : Int) (x2 : Int) (F : Mem) (res : (Int × Mem)) (ho : isK o 9), fX9_isWalked o x1 x2 F = some res → Qr (some (vI res.1)) res.2 → PR cX9_isWalked (zX9_isWalked Qr) 0 [(0, vR o), (1, vI x1), (2, vI x2)] [] F := by
  intro o x1 x2 F res ho h hq
  refine s_aload_n (j := 0) dX9_isWalked_0 rfl rfl ?_
  refine s_getR dX9_isWalked_1 flX9_10 ho ?_
  refine s_iload_n (j := 1) dX9_isWalked_4 rfl rfl ?_
  obtain ⟨r1, hv2, h⟩ := bnd h
  refine s_callV (As := [vI x1]) (rest := []) (r := (some (vR r1))) (F' := F) dX9_isWalked_5 (clX9_105 (Nat.le_of_ble_eq_true rfl) (Nat.le_of_ble_eq_true rfl)) (trX9_0 ho) rfl ⟨_, _, _, rfl, (trX9_0 ho), hv2, rfl, rfl⟩ rfl (Nat.le_of_ble_eq_true rfl) ?_
  refine s_astore_n (ls' := [(3, vR r1), (0, vR o), (1, vI x1), (2, vI x2)]) dX9_isWalked_8 rfl (Nat.le_of_ble_eq_true rfl) rfl ?_
  refine s_aload_n (j := 1) dX9_isWalked_9 rfl rfl ?_
  refine s_getR dX9_isWalked_10 flX9_10 ho ?_
  refine s_iconst dX9_isWalked_13 (cin rfl) ?_
  refine s_iload_n (j := 3) dX9_isWalked_14 rfl rfl ?_
  obtain ⟨r3, hv4, h⟩ := bnd h
  refine s_callV (As := [vI 1, vI x2]) (rest := []) (r := (some (vR r3))) (F' := F) dX9_isWalked_15 (clX9_152 (Nat.le_of_ble_eq_true rfl) (Nat.le_of_ble_eq_true rfl)) (trX9_0 ho) rfl ⟨_, _, _, _, rfl, (trX9_0 ho), hv4, rfl, rfl⟩ rfl (Nat.le_of_ble_eq_true rfl) ?_
  refine s_astore dX9_isWalked_18 (Nat.le_of_ble_eq_true rfl) rfl ?_
  refine s_aload_n (j := 1) dX9_isWalked_20 rfl rfl ?_
  refine s_ifnull (tgt := 29) dX9_isWalked_21 rfl (fun hc5 => ?_) (fun hc5 => ?_)
  · have h := ifp hc5 h
    refine s_iconst dX9_isWalked_29 (cin rfl) ?_
    have h := Option.some.inj h
    subst h
    exact s_zreturn dX9_isWalked_30 rfl (Or.inl rfl) hq
  · have h := ifn hc5 h
    refine s_aload (j := 0) dX9_isWalked_24 rfl ?_
    refine s_ifnonnull (tgt := 31) dX9_isWalked_26 rfl (fun hc6 => ?_) (fun hc6 => ?_)
    · have h := ifn hc6 h
      refine s_aload_n (j := 2) dX9_isWalked_31 rfl rfl ?_
      refine s_getR dX9_isWalked_32 flX9_44 ho ?_
      refine s_aload_n (j := 1) dX9_isWalked_35 rfl rfl ?_
      refine s_aload (j := 0) dX9_isWalked_36 rfl ?_
      obtain ⟨q7, hv8, h⟩ := bnd h
      refine s_callV (As := [vR r1, vR r3]) (rest := []) (r := none) (F' := q7) dX9_isWalked_38 (clX9_379 (Nat.le_of_ble_eq_true rfl) (Nat.le_of_ble_eq_true rfl)) (trX9_6 ho) rfl ⟨_, _, _, _, rfl, (trX9_6 ho), (Or.inr ((fX4_valleyAt_rt _ _ _ _ (trX9_0 ho) hv2).resolve_left hc5)), (Or.inr ((fX4_sheetAt_rt _ _ _ _ _ (trX9_0 ho) hv4).resolve_left hc6)), hv8, rfl, rfl⟩ rfl (Nat.le_of_ble_eq_true rfl) ?_
      refine s_iconst dX9_isWalked_41 (cin rfl) ?_
      have h := Option.some.inj h
      subst h
      exact s_zreturn dX9_isWalked_42 rfl (Or.inr rfl) hq
    · have h := ifp hc6 h
      refine s_iconst dX9_isWalked_29 (cin rfl) ?_
      have h := Option.some.inj h
      subst h
      exact s_zreturn dX9_isWalked_30 rfl (Or.inl rfl) hq
def gX9_isWalked : XG := fun As F r F' => ∃ o : Nat, ∃ x1 : Int, ∃ x2 : Int, ∃ res : (Int × Mem), As = [vR o, vI x1, vI x2] ∧ isK o 9 ∧ fX9_isWalked o x1 x2 F = some res ∧ r = some (vI res.1) ∧ F' = res.2
theorem ctX9_isWalked : xCT yX9_isWalked cX9_isWalked 5 (some FieldType.boolean) 3 93 gX9_isWalked := xmet (by decide +kernel) (fun As F r F' hg => by obtain ⟨o, x1, x2, res, rfl, ho, h, rfl, rfl⟩ := hg; exact Nat.le_of_ble_eq_true rfl) (fun As F r F' hg => by obtain ⟨o, x1, x2, res, rfl, ho, h, rfl, rfl⟩ := hg; exact fX9_isWalked_ok o x1 x2 _ _ ho h ⟨rfl, rfl⟩)
theorem mcX9_isWalked : Cond.code yX9_isWalked cX9_isWalked 5 (some FieldType.boolean) ∈ xw_T ∧ Cond.initialized yX9_isWalked.cls ∈ xw_T ∧ Cond.instanceMethod yX9_isWalked ∈ xw_T ∧ Cond.selects yX9_isWalked.cls yX9_isWalked yX9_isWalked ∈ xw_T := ⟨(xinT 824 (by decide +kernel) (by decide +kernel)), (xinT 116 (by decide +kernel) (by decide +kernel)), (xinT 823 (by decide +kernel) (by decide +kernel)), (xinT 10 (by decide +kernel) (by decide +kernel))⟩
theorem clX9_168 {fr lo : Nat} (h1 : 3 + 1 ≤ fr) (h2 : 8 + (5 + 11) + 93 ≤ lo) : xCall RX9 fr lo 0 168 9 2 gX9_isWalked := ⟨_, _, _, _, _, _, ctX9_isWalked, h1, h2, mcX9_isWalked.1, (xinT 821 (by decide +kernel) (by decide +kernel)), mcX9_isWalked.2.1, ⟨by decide +kernel, by decide +kernel, by decide +kernel⟩, by rw [if_pos rfl]; exact ⟨mcX9_isWalked.2.2.1, mcX9_isWalked.2.2.2, _, _, rfl⟩⟩
theorem dX9_play_0 : decode cX9_play 0 = .ok (.aload_n 0, 1) := by decide +kernel
theorem dX9_play_1 : decode cX9_play 1 = .ok (.iload_n 1, 1) := by decide +kernel
theorem dX9_play_2 : decode cX9_play 2 = .ok (.iload_n 2, 1) := by decide +kernel
theorem dX9_play_3 : decode cX9_play 3 = .ok (.invokevirtual 168, 3) := by decide +kernel
theorem dX9_play_6 : decode cX9_play 6 = .ok (.ifCond .ne 5, 3) := by decide +kernel
theorem dX9_play_9 : decode cX9_play 9 = .ok (.iconst (-1), 1) := by decide +kernel
theorem dX9_play_10 : decode cX9_play 10 = .ok (.ireturn, 1) := by decide +kernel
theorem dX9_play_11 : decode cX9_play 11 = .ok (.iload_n 3, 1) := by decide +kernel
theorem dX9_play_12 : decode cX9_play 12 = .ok (.tableswitch 90 0 5 #[40, 48, 57, 65, 73, 82], 40) := by decide +kernel
theorem dX9_play_52 : decode cX9_play 52 = .ok (.aload_n 0, 1) := by decide +kernel
theorem dX9_play_53 : decode cX9_play 53 = .ok (.getfield 44, 3) := by decide +kernel
theorem dX9_play_56 : decode cX9_play 56 = .ok (.getfield 172, 3) := by decide +kernel
theorem dX9_play_59 : decode cX9_play 59 = .ok (.ireturn, 1) := by decide +kernel
theorem dX9_play_60 : decode cX9_play 60 = .ok (.aload_n 0, 1) := by decide +kernel
theorem dX9_play_61 : decode cX9_play 61 = .ok (.getfield 44, 3) := by decide +kernel
theorem dX9_play_64 : decode cX9_play 64 = .ok (.iconst 0, 1) := by decide +kernel
theorem dX9_play_65 : decode cX9_play 65 = .ok (.invokevirtual 175, 3) := by decide +kernel
theorem dX9_play_68 : decode cX9_play 68 = .ok (.ireturn, 1) := by decide +kernel
theorem dX9_play_69 : decode cX9_play 69 = .ok (.aload_n 0, 1) := by decide +kernel
theorem dX9_play_70 : decode cX9_play 70 = .ok (.getfield 44, 3) := by decide +kernel
theorem dX9_play_73 : decode cX9_play 73 = .ok (.invokevirtual 179, 3) := by decide +kernel
theorem dX9_play_76 : decode cX9_play 76 = .ok (.ireturn, 1) := by decide +kernel
theorem dX9_play_77 : decode cX9_play 77 = .ok (.aload_n 0, 1) := by decide +kernel
theorem dX9_play_78 : decode cX9_play 78 = .ok (.getfield 44, 3) := by decide +kernel
theorem dX9_play_81 : decode cX9_play 81 = .ok (.getfield 183, 3) := by decide +kernel
theorem dX9_play_84 : decode cX9_play 84 = .ok (.ireturn, 1) := by decide +kernel
theorem dX9_play_85 : decode cX9_play 85 = .ok (.aload_n 0, 1) := by decide +kernel
theorem dX9_play_86 : decode cX9_play 86 = .ok (.getfield 44, 3) := by decide +kernel
theorem dX9_play_89 : decode cX9_play 89 = .ok (.iconst 1, 1) := by decide +kernel
theorem dX9_play_90 : decode cX9_play 90 = .ok (.invokevirtual 175, 3) := by decide +kernel
theorem dX9_play_93 : decode cX9_play 93 = .ok (.ireturn, 1) := by decide +kernel
theorem dX9_play_94 : decode cX9_play 94 = .ok (.aload_n 0, 1) := by decide +kernel
theorem dX9_play_95 : decode cX9_play 95 = .ok (.getfield 44, 3) := by decide +kernel
theorem dX9_play_98 : decode cX9_play 98 = .ok (.invokevirtual 179, 3) := by decide +kernel
theorem dX9_play_101 : decode cX9_play 101 = .ok (.ireturn, 1) := by decide +kernel
theorem dX9_play_102 : decode cX9_play 102 = .ok (.iconst (-1), 1) := by decide +kernel
theorem dX9_play_103 : decode cX9_play 103 = .ok (.ireturn, 1) := by decide +kernel
def zX9_play (Qr : Option PV → Mem → Prop) : XZ := (RX9, 5, 117, 4, some FieldType.int, Qr)
noncomputable def fX9_play (o : Nat) (x1 : Int) (x2 : Int) (x3 : Int) (F : Mem) : Option (Int × Mem) :=
  (fX9_isWalked o x1 x2 F).bind fun q1 =>
  if q1.1 ≠ 0 then
    if x3 = 0 then
      some (q1.2 (o + 59) 1, q1.2)
    else
    if x3 = 1 then
      (fX8_allRight (o + 59) 0 q1.2).bind fun r6 =>
      some (r6, q1.2)
    else
    if x3 = 2 then
      (fX8_allWrong (o + 59) q1.2).bind fun r9 =>
      some (r9, q1.2)
    else
    if x3 = 3 then
      some (q1.2 (o + 59) 2, q1.2)
    else
    if x3 = 4 then
      (fX8_allRight (o + 59) 1 q1.2).bind fun r13 =>
      some (r13, q1.2)
    else
    if x3 = 5 then
      (fX8_allWrong (o + 59) q1.2).bind fun r16 =>
      some (r16, q1.2)
    else
    some ((-1), q1.2)
  else
    some ((-1), q1.2)
theorem fX9_play_ok {Qr : Option PV → Mem → Prop} : ∀ (o : Nat) (x1 : Int) (x2 : Int) (x3 : Int) (F : Mem) (res : (Int × Mem)) (ho : isK o 9), fX9_play o x1 x2 x3 F = some res → Qr (some (vI res.1)) res.2 → PR cX9_play (zX9_play Qr) 0 [(0, vR o), (1, vI x1), (2, vI x2), (3, vI x3)] [] F := by
  intro o x1 x2 x3 F res ho h hq
  refine s_aload_n (j := 0) dX9_play_0 rfl rfl ?_
  refine s_iload_n (j := 1) dX9_play_1 rfl rfl ?_
  refine s_iload_n (j := 2) dX9_play_2 rfl rfl ?_
  obtain ⟨q1, hv2, h⟩ := bnd h
  refine s_callV (As := [vI x1, vI x2]) (rest := []) (r := (some (vI q1.1))) (F' := q1.2) dX9_play_3 (clX9_168 (Nat.le_of_ble_eq_true rfl) (Nat.le_of_ble_eq_true rfl)) ho rfl ⟨_, _, _, _, rfl, ho, hv2, rfl, rfl⟩ rfl (Nat.le_of_ble_eq_true rfl) ?_
  refine s_if_ne (tgt := 11) dX9_play_6 rfl (fun hc3 => ?_) (fun hc3 => ?_)
  · have h := ifp hc3 h
    refine s_iload_n (j := 3) dX9_play_11 rfl rfl ?_
    by_cases hc4 : x3 = 0
    · have h := ifp hc4 h
      refine s_tabIn (tgt := 52) (off := 40) dX9_play_12 (by omega) (by omega) (by rw [hc4]; rfl) rfl ?_
      refine s_aload_n (j := 0) dX9_play_52 rfl rfl ?_
      refine s_getR dX9_play_53 flX9_44 ho ?_
      refine s_getI dX9_play_56 flX9_172 (trX9_6 ho) ?_
      have h := Option.some.inj h
      subst h
      exact s_ireturn dX9_play_59 rfl hq
    have h := ifn hc4 h
    by_cases hc5 : x3 = 1
    · have h := ifp hc5 h
      refine s_tabIn (tgt := 60) (off := 48) dX9_play_12 (by omega) (by omega) (by rw [hc5]; rfl) rfl ?_
      refine s_aload_n (j := 0) dX9_play_60 rfl rfl ?_
      refine s_getR dX9_play_61 flX9_44 ho ?_
      refine s_iconst dX9_play_64 (cin rfl) ?_
      obtain ⟨r6, hv7, h⟩ := bnd h
      refine s_callV (As := [vI 0]) (rest := []) (r := (some (vI r6))) (F' := q1.2) dX9_play_65 (clX9_175 (Nat.le_of_ble_eq_true rfl) (Nat.le_of_ble_eq_true rfl)) (trX9_6 ho) rfl ⟨_, _, _, rfl, (trX9_6 ho), hv7, rfl, rfl⟩ rfl (Nat.le_of_ble_eq_true rfl) ?_
      have h := Option.some.inj h
      subst h
      exact s_ireturn dX9_play_68 rfl hq
    have h := ifn hc5 h
    by_cases hc8 : x3 = 2
    · have h := ifp hc8 h
      refine s_tabIn (tgt := 69) (off := 57) dX9_play_12 (by omega) (by omega) (by rw [hc8]; rfl) rfl ?_
      refine s_aload_n (j := 0) dX9_play_69 rfl rfl ?_
      refine s_getR dX9_play_70 flX9_44 ho ?_
      obtain ⟨r9, hv10, h⟩ := bnd h
      refine s_callV (As := []) (rest := []) (r := (some (vI r9))) (F' := q1.2) dX9_play_73 (clX9_179 (Nat.le_of_ble_eq_true rfl) (Nat.le_of_ble_eq_true rfl)) (trX9_6 ho) rfl ⟨_, _, rfl, (trX9_6 ho), hv10, rfl, rfl⟩ rfl (Nat.le_of_ble_eq_true rfl) ?_
      have h := Option.some.inj h
      subst h
      exact s_ireturn dX9_play_76 rfl hq
    have h := ifn hc8 h
    by_cases hc11 : x3 = 3
    · have h := ifp hc11 h
      refine s_tabIn (tgt := 77) (off := 65) dX9_play_12 (by omega) (by omega) (by rw [hc11]; rfl) rfl ?_
      refine s_aload_n (j := 0) dX9_play_77 rfl rfl ?_
      refine s_getR dX9_play_78 flX9_44 ho ?_
      refine s_getI dX9_play_81 flX9_183 (trX9_6 ho) ?_
      have h := Option.some.inj h
      subst h
      exact s_ireturn dX9_play_84 rfl hq
    have h := ifn hc11 h
    by_cases hc12 : x3 = 4
    · have h := ifp hc12 h
      refine s_tabIn (tgt := 85) (off := 73) dX9_play_12 (by omega) (by omega) (by rw [hc12]; rfl) rfl ?_
      refine s_aload_n (j := 0) dX9_play_85 rfl rfl ?_
      refine s_getR dX9_play_86 flX9_44 ho ?_
      refine s_iconst dX9_play_89 (cin rfl) ?_
      obtain ⟨r13, hv14, h⟩ := bnd h
      refine s_callV (As := [vI 1]) (rest := []) (r := (some (vI r13))) (F' := q1.2) dX9_play_90 (clX9_175 (Nat.le_of_ble_eq_true rfl) (Nat.le_of_ble_eq_true rfl)) (trX9_6 ho) rfl ⟨_, _, _, rfl, (trX9_6 ho), hv14, rfl, rfl⟩ rfl (Nat.le_of_ble_eq_true rfl) ?_
      have h := Option.some.inj h
      subst h
      exact s_ireturn dX9_play_93 rfl hq
    have h := ifn hc12 h
    by_cases hc15 : x3 = 5
    · have h := ifp hc15 h
      refine s_tabIn (tgt := 94) (off := 82) dX9_play_12 (by omega) (by omega) (by rw [hc15]; rfl) rfl ?_
      refine s_aload_n (j := 0) dX9_play_94 rfl rfl ?_
      refine s_getR dX9_play_95 flX9_44 ho ?_
      obtain ⟨r16, hv17, h⟩ := bnd h
      refine s_callV (As := []) (rest := []) (r := (some (vI r16))) (F' := q1.2) dX9_play_98 (clX9_179 (Nat.le_of_ble_eq_true rfl) (Nat.le_of_ble_eq_true rfl)) (trX9_6 ho) rfl ⟨_, _, rfl, (trX9_6 ho), hv17, rfl, rfl⟩ rfl (Nat.le_of_ble_eq_true rfl) ?_
      have h := Option.some.inj h
      subst h
      exact s_ireturn dX9_play_101 rfl hq
    have h := ifn hc15 h
    refine s_tabOut (tgt := 102) dX9_play_12 (by omega) rfl ?_
    refine s_iconst dX9_play_102 (cin rfl) ?_
    have h := Option.some.inj h
    subst h
    exact s_ireturn dX9_play_103 rfl hq
  · have h := ifn hc3 h
    refine s_iconst dX9_play_9 (cin rfl) ?_
    have h := Option.some.inj h
    subst h
    exact s_ireturn dX9_play_10 rfl hq
def gX9_play : XG := fun As F r F' => ∃ o : Nat, ∃ x1 : Int, ∃ x2 : Int, ∃ x3 : Int, ∃ res : (Int × Mem), As = [vR o, vI x1, vI x2, vI x3] ∧ isK o 9 ∧ fX9_play o x1 x2 x3 F = some res ∧ r = some (vI res.1) ∧ F' = res.2
theorem ctX9_play : xCT yX9_play cX9_play 4 (some FieldType.int) 5 117 gX9_play := xmet (by decide +kernel) (fun As F r F' hg => by obtain ⟨o, x1, x2, x3, res, rfl, ho, h, rfl, rfl⟩ := hg; exact Nat.le_of_ble_eq_true rfl) (fun As F r F' hg => by obtain ⟨o, x1, x2, x3, res, rfl, ho, h, rfl, rfl⟩ := hg; exact fX9_play_ok o x1 x2 x3 _ _ ho h ⟨rfl, rfl⟩)
theorem mcX9_play : Cond.code yX9_play cX9_play 4 (some FieldType.int) ∈ xw_T ∧ Cond.initialized yX9_play.cls ∈ xw_T ∧ Cond.instanceMethod yX9_play ∈ xw_T ∧ Cond.selects yX9_play.cls yX9_play yX9_play ∈ xw_T := ⟨(xinT 820 (by decide +kernel) (by decide +kernel)), (xinT 116 (by decide +kernel) (by decide +kernel)), (xinT 818 (by decide +kernel) (by decide +kernel)), (xinT 819 (by decide +kernel) (by decide +kernel))⟩
theorem dX9_where_0 : decode cX9_where 0 = .ok (.aload_n 0, 1) := by decide +kernel
theorem dX9_where_1 : decode cX9_where 1 = .ok (.iload_n 1, 1) := by decide +kernel
theorem dX9_where_2 : decode cX9_where 2 = .ok (.iload_n 2, 1) := by decide +kernel
theorem dX9_where_3 : decode cX9_where 3 = .ok (.invokevirtual 168, 3) := by decide +kernel
theorem dX9_where_6 : decode cX9_where 6 = .ok (.ifCond .eq 21, 3) := by decide +kernel
theorem dX9_where_9 : decode cX9_where 9 = .ok (.iload_n 3, 1) := by decide +kernel
theorem dX9_where_10 : decode cX9_where 10 = .ok (.ifCond .lt 17, 3) := by decide +kernel
theorem dX9_where_13 : decode cX9_where 13 = .ok (.iload_n 3, 1) := by decide +kernel
theorem dX9_where_14 : decode cX9_where 14 = .ok (.aload_n 0, 1) := by decide +kernel
theorem dX9_where_15 : decode cX9_where 15 = .ok (.getfield 44, 3) := by decide +kernel
theorem dX9_where_18 : decode cX9_where 18 = .ok (.getfield 186, 3) := by decide +kernel
theorem dX9_where_21 : decode cX9_where 21 = .ok (.getfield 109, 3) := by decide +kernel
theorem dX9_where_24 : decode cX9_where 24 = .ok (.if_icmp .lt 6, 3) := by decide +kernel
theorem dX9_where_27 : decode cX9_where 27 = .ok (.bipush (-2), 2) := by decide +kernel
theorem dX9_where_29 : decode cX9_where 29 = .ok (.ireturn, 1) := by decide +kernel
theorem dX9_where_30 : decode cX9_where 30 = .ok (.aload_n 0, 1) := by decide +kernel
theorem dX9_where_31 : decode cX9_where 31 = .ok (.getfield 44, 3) := by decide +kernel
theorem dX9_where_34 : decode cX9_where 34 = .ok (.getfield 190, 3) := by decide +kernel
theorem dX9_where_37 : decode cX9_where 37 = .ok (.iload_n 3, 1) := by decide +kernel
theorem dX9_where_38 : decode cX9_where 38 = .ok (.iaload, 1) := by decide +kernel
theorem dX9_where_39 : decode cX9_where 39 = .ok (.ireturn, 1) := by decide +kernel
def zX9_where (Qr : Option PV → Mem → Prop) : XZ := (RX9, 4, 117, 4, some FieldType.int, Qr)
noncomputable def fX9_where (o : Nat) (x1 : Int) (x2 : Int) (x3 : Int) (F : Mem) : Option (Int × Mem) :=
  (fX9_isWalked o x1 x2 F).bind fun q1 =>
  if q1.1 = 0 then
    some ((-2), q1.2)
  else
    if x3 < 0 then
      some ((-2), q1.2)
    else
      if (q1.2 (o + 59) 0).toNat = 0 then none else
      if x3 < (q1.2 ((q1.2 (o + 59) 0).toNat) 0) then
        if (0 : Int) ≤ x3 ∧ x3 < (alen ((o + 59) + 1) : Int) then
          some (q1.2 ((o + 59) + 1) x3.toNat, q1.2)
        else none
      else
        some ((-2), q1.2)
theorem fX9_where_ok {Qr : Option PV → Mem → Prop} : ∀ (o : Nat) (x1 : Int) (x2 : Int) (x3 : Int) (F : Mem) (res : (Int × Mem)) (ho : isK o 9), fX9_where o x1 x2 x3 F = some res → Qr (some (vI res.1)) res.2 → PR cX9_where (zX9_where Qr) 0 [(0, vR o), (1, vI x1), (2, vI x2), (3, vI x3)] [] F := by
  intro o x1 x2 x3 F res ho h hq
  refine s_aload_n (j := 0) dX9_where_0 rfl rfl ?_
  refine s_iload_n (j := 1) dX9_where_1 rfl rfl ?_
  refine s_iload_n (j := 2) dX9_where_2 rfl rfl ?_
  obtain ⟨q1, hv2, h⟩ := bnd h
  refine s_callV (As := [vI x1, vI x2]) (rest := []) (r := (some (vI q1.1))) (F' := q1.2) dX9_where_3 (clX9_168 (Nat.le_of_ble_eq_true rfl) (Nat.le_of_ble_eq_true rfl)) ho rfl ⟨_, _, _, _, rfl, ho, hv2, rfl, rfl⟩ rfl (Nat.le_of_ble_eq_true rfl) ?_
  refine s_if_eq (tgt := 27) dX9_where_6 rfl (fun hc3 => ?_) (fun hc3 => ?_)
  · have h := ifp hc3 h
    refine s_bipush dX9_where_27 rfl (cin rfl) ?_
    have h := Option.some.inj h
    subst h
    exact s_ireturn dX9_where_29 rfl hq
  · have h := ifn hc3 h
    refine s_iload_n (j := 3) dX9_where_9 rfl rfl ?_
    refine s_if_lt (tgt := 27) dX9_where_10 rfl (fun hc4 => ?_) (fun hc4 => ?_)
    · have h := ifp hc4 h
      refine s_bipush dX9_where_27 rfl (cin rfl) ?_
      have h := Option.some.inj h
      subst h
      exact s_ireturn dX9_where_29 rfl hq
    · have h := ifn hc4 h
      refine s_iload_n (j := 3) dX9_where_13 rfl rfl ?_
      refine s_aload_n (j := 0) dX9_where_14 rfl rfl ?_
      refine s_getR dX9_where_15 flX9_44 ho ?_
      refine s_getM dX9_where_18 flX9_186 (trX9_6 ho) (fun hm5 => ?_)
      have hm5 : _ = 0 ∨ isK ((q1.2 (o + 59) 0).toNat) 7 := hm5
      obtain ⟨hn6, h⟩ := gdn h
      refine s_getI dX9_where_21 flX9_109 (hm5.resolve_left hn6) ?_
      refine s_icmp_lt (tgt := 30) dX9_where_24 rfl (fun hc7 => ?_) (fun hc7 => ?_)
      · have h := ifp hc7 h
        refine s_aload_n (j := 0) dX9_where_30 rfl rfl ?_
        refine s_getR dX9_where_31 flX9_44 ho ?_
        refine s_getR dX9_where_34 flX9_190 (trX9_6 ho) ?_
        refine s_iload_n (j := 3) dX9_where_37 rfl rfl ?_
        obtain ⟨hb8, h⟩ := gd h
        refine s_iaload dX9_where_38 (trX8_3 (trX9_6 ho)) hb8.1 hb8.2 ?_
        have h := Option.some.inj h
        subst h
        exact s_ireturn dX9_where_39 rfl hq
      · have h := ifn hc7 h
        refine s_bipush dX9_where_27 rfl (cin rfl) ?_
        have h := Option.some.inj h
        subst h
        exact s_ireturn dX9_where_29 rfl hq
def gX9_where : XG := fun As F r F' => ∃ o : Nat, ∃ x1 : Int, ∃ x2 : Int, ∃ x3 : Int, ∃ res : (Int × Mem), As = [vR o, vI x1, vI x2, vI x3] ∧ isK o 9 ∧ fX9_where o x1 x2 x3 F = some res ∧ r = some (vI res.1) ∧ F' = res.2
theorem ctX9_where : xCT yX9_where cX9_where 4 (some FieldType.int) 4 117 gX9_where := xmet (by decide +kernel) (fun As F r F' hg => by obtain ⟨o, x1, x2, x3, res, rfl, ho, h, rfl, rfl⟩ := hg; exact Nat.le_of_ble_eq_true rfl) (fun As F r F' hg => by obtain ⟨o, x1, x2, x3, res, rfl, ho, h, rfl, rfl⟩ := hg; exact fX9_where_ok o x1 x2 x3 _ _ ho h ⟨rfl, rfl⟩)
theorem mcX9_where : Cond.code yX9_where cX9_where 4 (some FieldType.int) ∈ xw_T ∧ Cond.initialized yX9_where.cls ∈ xw_T ∧ Cond.instanceMethod yX9_where ∈ xw_T ∧ Cond.selects yX9_where.cls yX9_where yX9_where ∈ xw_T := ⟨(xinT 869 (by decide +kernel) (by decide +kernel)), (xinT 116 (by decide +kernel) (by decide +kernel)), (xinT 867 (by decide +kernel) (by decide +kernel)), (xinT 868 (by decide +kernel) (by decide +kernel))⟩
theorem dX9_row_0 : decode cX9_row 0 = .ok (.aload_n 0, 1) := by decide +kernel
theorem dX9_row_1 : decode cX9_row 1 = .ok (.iload_n 1, 1) := by decide +kernel
theorem dX9_row_2 : decode cX9_row 2 = .ok (.iload_n 2, 1) := by decide +kernel
theorem dX9_row_3 : decode cX9_row 3 = .ok (.invokevirtual 168, 3) := by decide +kernel
theorem dX9_row_6 : decode cX9_row 6 = .ok (.ifCond .eq 14, 3) := by decide +kernel
theorem dX9_row_9 : decode cX9_row 9 = .ok (.iload 5, 2) := by decide +kernel
theorem dX9_row_11 : decode cX9_row 11 = .ok (.ifCond .lt 9, 3) := by decide +kernel
theorem dX9_row_14 : decode cX9_row 14 = .ok (.iload 5, 2) := by decide +kernel
theorem dX9_row_16 : decode cX9_row 16 = .ok (.iconst 2, 1) := by decide +kernel
theorem dX9_row_17 : decode cX9_row 17 = .ok (.if_icmp .le 6, 3) := by decide +kernel
theorem dX9_row_20 : decode cX9_row 20 = .ok (.bipush (-2), 2) := by decide +kernel
theorem dX9_row_22 : decode cX9_row 22 = .ok (.ireturn, 1) := by decide +kernel
theorem dX9_row_23 : decode cX9_row 23 = .ok (.aload_n 0, 1) := by decide +kernel
theorem dX9_row_24 : decode cX9_row 24 = .ok (.getfield 44, 3) := by decide +kernel
theorem dX9_row_27 : decode cX9_row 27 = .ok (.iload_n 3, 1) := by decide +kernel
theorem dX9_row_28 : decode cX9_row 28 = .ok (.iload 4, 2) := by decide +kernel
theorem dX9_row_30 : decode cX9_row 30 = .ok (.invokevirtual 193, 3) := by decide +kernel
theorem dX9_row_33 : decode cX9_row 33 = .ok (.istore 6, 2) := by decide +kernel
theorem dX9_row_35 : decode cX9_row 35 = .ok (.iload 6, 2) := by decide +kernel
theorem dX9_row_37 : decode cX9_row 37 = .ok (.iconst (-1), 1) := by decide +kernel
theorem dX9_row_38 : decode cX9_row 38 = .ok (.if_icmp .ne 6, 3) := by decide +kernel
theorem dX9_row_41 : decode cX9_row 41 = .ok (.bipush (-2), 2) := by decide +kernel
theorem dX9_row_43 : decode cX9_row 43 = .ok (.ireturn, 1) := by decide +kernel
theorem dX9_row_44 : decode cX9_row 44 = .ok (.iload 5, 2) := by decide +kernel
theorem dX9_row_46 : decode cX9_row 46 = .ok (.ifCond .ne 6, 3) := by decide +kernel
theorem dX9_row_49 : decode cX9_row 49 = .ok (.iload 6, 2) := by decide +kernel
theorem dX9_row_51 : decode cX9_row 51 = .ok (.ireturn, 1) := by decide +kernel
theorem dX9_row_52 : decode cX9_row 52 = .ok (.iload 5, 2) := by decide +kernel
theorem dX9_row_54 : decode cX9_row 54 = .ok (.iconst 1, 1) := by decide +kernel
theorem dX9_row_55 : decode cX9_row 55 = .ok (.if_icmp .ne 22, 3) := by decide +kernel
theorem dX9_row_58 : decode cX9_row 58 = .ok (.aload_n 0, 1) := by decide +kernel
theorem dX9_row_59 : decode cX9_row 59 = .ok (.getfield 44, 3) := by decide +kernel
theorem dX9_row_62 : decode cX9_row 62 = .ok (.iload_n 3, 1) := by decide +kernel
theorem dX9_row_63 : decode cX9_row 63 = .ok (.iload 6, 2) := by decide +kernel
theorem dX9_row_65 : decode cX9_row 65 = .ok (.invokevirtual 196, 3) := by decide +kernel
theorem dX9_row_68 : decode cX9_row 68 = .ok (.ifCond .eq 7, 3) := by decide +kernel
theorem dX9_row_71 : decode cX9_row 71 = .ok (.iconst 0, 1) := by decide +kernel
theorem dX9_row_72 : decode cX9_row 72 = .ok (.goto 4, 3) := by decide +kernel
theorem dX9_row_75 : decode cX9_row 75 = .ok (.iconst 1, 1) := by decide +kernel
theorem dX9_row_76 : decode cX9_row 76 = .ok (.ireturn, 1) := by decide +kernel
theorem dX9_row_77 : decode cX9_row 77 = .ok (.aload_n 0, 1) := by decide +kernel
theorem dX9_row_78 : decode cX9_row 78 = .ok (.getfield 44, 3) := by decide +kernel
theorem dX9_row_81 : decode cX9_row 81 = .ok (.getfield 190, 3) := by decide +kernel
theorem dX9_row_84 : decode cX9_row 84 = .ok (.iload 6, 2) := by decide +kernel
theorem dX9_row_86 : decode cX9_row 86 = .ok (.iaload, 1) := by decide +kernel
theorem dX9_row_87 : decode cX9_row 87 = .ok (.ireturn, 1) := by decide +kernel
def zX9_row (Qr : Option PV → Mem → Prop) : XZ := (RX9, 4, 117, 7, some FieldType.int, Qr)
noncomputable def fX9_row (o : Nat) (x1 : Int) (x2 : Int) (x3 : Int) (x4 : Int) (x5 : Int) (F : Mem) : Option (Int × Mem) :=
  (fX9_isWalked o x1 x2 F).bind fun q1 =>
  if q1.1 = 0 then
    some ((-2), q1.2)
  else
    if x5 < 0 then
      some ((-2), q1.2)
    else
      if x5 ≤ 2 then
        (fX8_slotOfRow (o + 59) x3 x4 q1.2).bind fun r6 =>
        if r6 ≠ (-1) then
          if x5 ≠ 0 then
            if x5 ≠ 1 then
              if (0 : Int) ≤ r6 ∧ r6 < (alen ((o + 59) + 1) : Int) then
                some (q1.2 ((o + 59) + 1) r6.toNat, q1.2)
              else none
            else
              (fX8_isRight (o + 59) x3 r6 q1.2).bind fun r12 =>
              if r12 = 0 then
                some (1, q1.2)
              else
                some (0, q1.2)
          else
            some (r6, q1.2)
        else
          some ((-2), q1.2)
      else
        some ((-2), q1.2)
theorem fX9_row_ok {Qr : Option PV → Mem → Prop} : ∀ (o : Nat) (x1 : Int) (x2 : Int) (x3 : Int) (x4 : Int) (x5 : Int) (F : Mem) (res : (Int × Mem)) (ho : isK o 9), fX9_row o x1 x2 x3 x4 x5 F = some res → Qr (some (vI res.1)) res.2 → PR cX9_row (zX9_row Qr) 0 [(0, vR o), (1, vI x1), (2, vI x2), (3, vI x3), (4, vI x4), (5, vI x5)] [] F := by
  intro o x1 x2 x3 x4 x5 F res ho h hq
  refine s_aload_n (j := 0) dX9_row_0 rfl rfl ?_
  refine s_iload_n (j := 1) dX9_row_1 rfl rfl ?_
  refine s_iload_n (j := 2) dX9_row_2 rfl rfl ?_
  obtain ⟨q1, hv2, h⟩ := bnd h
  refine s_callV (As := [vI x1, vI x2]) (rest := []) (r := (some (vI q1.1))) (F' := q1.2) dX9_row_3 (clX9_168 (Nat.le_of_ble_eq_true rfl) (Nat.le_of_ble_eq_true rfl)) ho rfl ⟨_, _, _, _, rfl, ho, hv2, rfl, rfl⟩ rfl (Nat.le_of_ble_eq_true rfl) ?_
  refine s_if_eq (tgt := 20) dX9_row_6 rfl (fun hc3 => ?_) (fun hc3 => ?_)
  · have h := ifp hc3 h
    refine s_bipush dX9_row_20 rfl (cin rfl) ?_
    have h := Option.some.inj h
    subst h
    exact s_ireturn dX9_row_22 rfl hq
  · have h := ifn hc3 h
    refine s_iload (j := 5) dX9_row_9 rfl ?_
    refine s_if_lt (tgt := 20) dX9_row_11 rfl (fun hc4 => ?_) (fun hc4 => ?_)
    · have h := ifp hc4 h
      refine s_bipush dX9_row_20 rfl (cin rfl) ?_
      have h := Option.some.inj h
      subst h
      exact s_ireturn dX9_row_22 rfl hq
    · have h := ifn hc4 h
      refine s_iload (j := 5) dX9_row_14 rfl ?_
      refine s_iconst dX9_row_16 (cin rfl) ?_
      refine s_icmp_le (tgt := 23) dX9_row_17 rfl (fun hc5 => ?_) (fun hc5 => ?_)
      · have h := ifp hc5 h
        refine s_aload_n (j := 0) dX9_row_23 rfl rfl ?_
        refine s_getR dX9_row_24 flX9_44 ho ?_
        refine s_iload_n (j := 3) dX9_row_27 rfl rfl ?_
        refine s_iload (j := 4) dX9_row_28 rfl ?_
        obtain ⟨r6, hv7, h⟩ := bnd h
        refine s_callV (As := [vI x3, vI x4]) (rest := []) (r := (some (vI r6))) (F' := q1.2) dX9_row_30 (clX9_193 (Nat.le_of_ble_eq_true rfl) (Nat.le_of_ble_eq_true rfl)) (trX9_6 ho) rfl ⟨_, _, _, _, rfl, (trX9_6 ho), hv7, rfl, rfl⟩ rfl (Nat.le_of_ble_eq_true rfl) ?_
        refine s_istore (ls' := [(6, vI r6), (0, vR o), (1, vI x1), (2, vI x2), (3, vI x3), (4, vI x4), (5, vI x5)]) dX9_row_33 (Nat.le_of_ble_eq_true rfl) rfl ?_
        refine s_iload (j := 0) dX9_row_35 rfl ?_
        refine s_iconst dX9_row_37 (cin rfl) ?_
        refine s_icmp_ne (tgt := 44) dX9_row_38 rfl (fun hc8 => ?_) (fun hc8 => ?_)
        · have h := ifp hc8 h
          refine s_iload (j := 6) dX9_row_44 rfl ?_
          refine s_if_ne (tgt := 52) dX9_row_46 rfl (fun hc9 => ?_) (fun hc9 => ?_)
          · have h := ifp hc9 h
            refine s_iload (j := 6) dX9_row_52 rfl ?_
            refine s_iconst dX9_row_54 (cin rfl) ?_
            refine s_icmp_ne (tgt := 77) dX9_row_55 rfl (fun hc10 => ?_) (fun hc10 => ?_)
            · have h := ifp hc10 h
              refine s_aload_n (j := 1) dX9_row_77 rfl rfl ?_
              refine s_getR dX9_row_78 flX9_44 ho ?_
              refine s_getR dX9_row_81 flX9_190 (trX9_6 ho) ?_
              refine s_iload (j := 0) dX9_row_84 rfl ?_
              obtain ⟨hb11, h⟩ := gd h
              refine s_iaload dX9_row_86 (trX8_3 (trX9_6 ho)) hb11.1 hb11.2 ?_
              have h := Option.some.inj h
              subst h
              exact s_ireturn dX9_row_87 rfl hq
            · have h := ifn hc10 h
              refine s_aload_n (j := 1) dX9_row_58 rfl rfl ?_
              refine s_getR dX9_row_59 flX9_44 ho ?_
              refine s_iload_n (j := 4) dX9_row_62 rfl rfl ?_
              refine s_iload (j := 0) dX9_row_63 rfl ?_
              obtain ⟨r12, hv13, h⟩ := bnd h
              refine s_callV (As := [vI x3, vI r6]) (rest := []) (r := (some (vI r12))) (F' := q1.2) dX9_row_65 (clX9_196 (Nat.le_of_ble_eq_true rfl) (Nat.le_of_ble_eq_true rfl)) (trX9_6 ho) rfl ⟨_, _, _, _, rfl, (trX9_6 ho), hv13, rfl, rfl⟩ rfl (Nat.le_of_ble_eq_true rfl) ?_
              refine s_if_eq (tgt := 75) dX9_row_68 rfl (fun hc14 => ?_) (fun hc14 => ?_)
              · have h := ifp hc14 h
                refine s_iconst dX9_row_75 (cin rfl) ?_
                have h := Option.some.inj h
                subst h
                exact s_ireturn dX9_row_76 rfl hq
              · have h := ifn hc14 h
                refine s_iconst dX9_row_71 (cin rfl) ?_
                refine s_goto (tgt := 76) dX9_row_72 rfl ?_
                have h := Option.some.inj h
                subst h
                exact s_ireturn dX9_row_76 rfl hq
          · have h := ifn hc9 h
            refine s_iload (j := 0) dX9_row_49 rfl ?_
            have h := Option.some.inj h
            subst h
            exact s_ireturn dX9_row_51 rfl hq
        · have h := ifn hc8 h
          refine s_bipush dX9_row_41 rfl (cin rfl) ?_
          have h := Option.some.inj h
          subst h
          exact s_ireturn dX9_row_43 rfl hq
      · have h := ifn hc5 h
        refine s_bipush dX9_row_20 rfl (cin rfl) ?_
        have h := Option.some.inj h
        subst h
        exact s_ireturn dX9_row_22 rfl hq
def gX9_row : XG := fun As F r F' => ∃ o : Nat, ∃ x1 : Int, ∃ x2 : Int, ∃ x3 : Int, ∃ x4 : Int, ∃ x5 : Int, ∃ res : (Int × Mem), As = [vR o, vI x1, vI x2, vI x3, vI x4, vI x5] ∧ isK o 9 ∧ fX9_row o x1 x2 x3 x4 x5 F = some res ∧ r = some (vI res.1) ∧ F' = res.2
theorem ctX9_row : xCT yX9_row cX9_row 7 (some FieldType.int) 4 117 gX9_row := xmet (by decide +kernel) (fun As F r F' hg => by obtain ⟨o, x1, x2, x3, x4, x5, res, rfl, ho, h, rfl, rfl⟩ := hg; exact Nat.le_of_ble_eq_true rfl) (fun As F r F' hg => by obtain ⟨o, x1, x2, x3, x4, x5, res, rfl, ho, h, rfl, rfl⟩ := hg; exact fX9_row_ok o x1 x2 x3 x4 x5 _ _ ho h ⟨rfl, rfl⟩)
theorem mcX9_row : Cond.code yX9_row cX9_row 7 (some FieldType.int) ∈ xw_T ∧ Cond.initialized yX9_row.cls ∈ xw_T ∧ Cond.instanceMethod yX9_row ∈ xw_T ∧ Cond.selects yX9_row.cls yX9_row yX9_row ∈ xw_T := ⟨(xinT 873 (by decide +kernel) (by decide +kernel)), (xinT 116 (by decide +kernel) (by decide +kernel)), (xinT 871 (by decide +kernel) (by decide +kernel)), (xinT 872 (by decide +kernel) (by decide +kernel))⟩
theorem dX9_rows_0 : decode cX9_rows 0 = .ok (.aload_n 0, 1) := by decide +kernel
theorem dX9_rows_1 : decode cX9_rows 1 = .ok (.iload_n 1, 1) := by decide +kernel
theorem dX9_rows_2 : decode cX9_rows 2 = .ok (.iload_n 2, 1) := by decide +kernel
theorem dX9_rows_3 : decode cX9_rows 3 = .ok (.invokevirtual 168, 3) := by decide +kernel
theorem dX9_rows_6 : decode cX9_rows 6 = .ok (.ifCond .eq 17, 3) := by decide +kernel
theorem dX9_rows_9 : decode cX9_rows 9 = .ok (.aload_n 0, 1) := by decide +kernel
theorem dX9_rows_10 : decode cX9_rows 10 = .ok (.getfield 44, 3) := by decide +kernel
theorem dX9_rows_13 : decode cX9_rows 13 = .ok (.getfield 186, 3) := by decide +kernel
theorem dX9_rows_16 : decode cX9_rows 16 = .ok (.iload_n 3, 1) := by decide +kernel
theorem dX9_rows_17 : decode cX9_rows 17 = .ok (.invokevirtual 141, 3) := by decide +kernel
theorem dX9_rows_20 : decode cX9_rows 20 = .ok (.ifCond .ne 6, 3) := by decide +kernel
theorem dX9_rows_23 : decode cX9_rows 23 = .ok (.bipush (-2), 2) := by decide +kernel
theorem dX9_rows_25 : decode cX9_rows 25 = .ok (.ireturn, 1) := by decide +kernel
theorem dX9_rows_26 : decode cX9_rows 26 = .ok (.iload 4, 2) := by decide +kernel
theorem dX9_rows_28 : decode cX9_rows 28 = .ok (.tableswitch 78 0 3 #[32, 51, 60, 69], 32) := by decide +kernel
theorem dX9_rows_60 : decode cX9_rows 60 = .ok (.aload_n 0, 1) := by decide +kernel
theorem dX9_rows_61 : decode cX9_rows 61 = .ok (.getfield 44, 3) := by decide +kernel
theorem dX9_rows_64 : decode cX9_rows 64 = .ok (.iload_n 3, 1) := by decide +kernel
theorem dX9_rows_65 : decode cX9_rows 65 = .ok (.aload_n 0, 1) := by decide +kernel
theorem dX9_rows_66 : decode cX9_rows 66 = .ok (.getfield 44, 3) := by decide +kernel
theorem dX9_rows_69 : decode cX9_rows 69 = .ok (.getfield 186, 3) := by decide +kernel
theorem dX9_rows_72 : decode cX9_rows 72 = .ok (.getfield 109, 3) := by decide +kernel
theorem dX9_rows_75 : decode cX9_rows 75 = .ok (.invokevirtual 199, 3) := by decide +kernel
theorem dX9_rows_78 : decode cX9_rows 78 = .ok (.ireturn, 1) := by decide +kernel
theorem dX9_rows_79 : decode cX9_rows 79 = .ok (.aload_n 0, 1) := by decide +kernel
theorem dX9_rows_80 : decode cX9_rows 80 = .ok (.getfield 44, 3) := by decide +kernel
theorem dX9_rows_83 : decode cX9_rows 83 = .ok (.iload_n 3, 1) := by decide +kernel
theorem dX9_rows_84 : decode cX9_rows 84 = .ok (.invokevirtual 202, 3) := by decide +kernel
theorem dX9_rows_87 : decode cX9_rows 87 = .ok (.ireturn, 1) := by decide +kernel
theorem dX9_rows_88 : decode cX9_rows 88 = .ok (.aload_n 0, 1) := by decide +kernel
theorem dX9_rows_89 : decode cX9_rows 89 = .ok (.getfield 44, 3) := by decide +kernel
theorem dX9_rows_92 : decode cX9_rows 92 = .ok (.iload_n 3, 1) := by decide +kernel
theorem dX9_rows_93 : decode cX9_rows 93 = .ok (.invokevirtual 206, 3) := by decide +kernel
theorem dX9_rows_96 : decode cX9_rows 96 = .ok (.ireturn, 1) := by decide +kernel
theorem dX9_rows_97 : decode cX9_rows 97 = .ok (.aload_n 0, 1) := by decide +kernel
theorem dX9_rows_98 : decode cX9_rows 98 = .ok (.getfield 44, 3) := by decide +kernel
theorem dX9_rows_101 : decode cX9_rows 101 = .ok (.iload_n 3, 1) := by decide +kernel
theorem dX9_rows_102 : decode cX9_rows 102 = .ok (.invokevirtual 209, 3) := by decide +kernel
theorem dX9_rows_105 : decode cX9_rows 105 = .ok (.ireturn, 1) := by decide +kernel
theorem dX9_rows_106 : decode cX9_rows 106 = .ok (.bipush (-2), 2) := by decide +kernel
theorem dX9_rows_108 : decode cX9_rows 108 = .ok (.ireturn, 1) := by decide +kernel
def zX9_rows (Qr : Option PV → Mem → Prop) : XZ := (RX9, 5, 117, 5, some FieldType.int, Qr)
noncomputable def fX9_rows (o : Nat) (x1 : Int) (x2 : Int) (x3 : Int) (x4 : Int) (F : Mem) : Option (Int × Mem) :=
  (fX9_isWalked o x1 x2 F).bind fun q1 =>
  if q1.1 = 0 then
    some ((-2), q1.2)
  else
    if (q1.2 (o + 59) 0).toNat = 0 then none else
    if (fX7_hasHouse ((q1.2 (o + 59) 0).toNat) x3 q1.2) ≠ 0 then
      if x4 = 0 then
        if (q1.2 (o + 59) 0).toNat = 0 then none else
        (fX8_rowsBefore (o + 59) x3 (q1.2 ((q1.2 (o + 59) 0).toNat) 0) q1.2).bind fun r10 =>
        some (r10, q1.2)
      else
      if x4 = 1 then
        (fX8_wrongRows (o + 59) x3 q1.2).bind fun r13 =>
        some (r13, q1.2)
      else
      if x4 = 2 then
        (fX8_firstWrong (o + 59) x3 q1.2).bind fun r16 =>
        some (r16, q1.2)
      else
      if x4 = 3 then
        (fX8_wrongSlots (o + 59) x3 q1.2).bind fun r19 =>
        some (r19, q1.2)
      else
      some ((-2), q1.2)
    else
      some ((-2), q1.2)
theorem fX9_rows_ok {Qr : Option PV → Mem → Prop} : ∀ (o : Nat) (x1 : Int) (x2 : Int) (x3 : Int) (x4 : Int) (F : Mem) (res : (Int × Mem)) (ho : isK o 9), fX9_rows o x1 x2 x3 x4 F = some res → Qr (some (vI res.1)) res.2 → PR cX9_rows (zX9_rows Qr) 0 [(0, vR o), (1, vI x1), (2, vI x2), (3, vI x3), (4, vI x4)] [] F := by
  intro o x1 x2 x3 x4 F res ho h hq
  refine s_aload_n (j := 0) dX9_rows_0 rfl rfl ?_
  refine s_iload_n (j := 1) dX9_rows_1 rfl rfl ?_
  refine s_iload_n (j := 2) dX9_rows_2 rfl rfl ?_
  obtain ⟨q1, hv2, h⟩ := bnd h
  refine s_callV (As := [vI x1, vI x2]) (rest := []) (r := (some (vI q1.1))) (F' := q1.2) dX9_rows_3 (clX9_168 (Nat.le_of_ble_eq_true rfl) (Nat.le_of_ble_eq_true rfl)) ho rfl ⟨_, _, _, _, rfl, ho, hv2, rfl, rfl⟩ rfl (Nat.le_of_ble_eq_true rfl) ?_
  refine s_if_eq (tgt := 23) dX9_rows_6 rfl (fun hc3 => ?_) (fun hc3 => ?_)
  · have h := ifp hc3 h
    refine s_bipush dX9_rows_23 rfl (cin rfl) ?_
    have h := Option.some.inj h
    subst h
    exact s_ireturn dX9_rows_25 rfl hq
  · have h := ifn hc3 h
    refine s_aload_n (j := 0) dX9_rows_9 rfl rfl ?_
    refine s_getR dX9_rows_10 flX9_44 ho ?_
    refine s_getM dX9_rows_13 flX9_186 (trX9_6 ho) (fun hm4 => ?_)
    have hm4 : _ = 0 ∨ isK ((q1.2 (o + 59) 0).toNat) 7 := hm4
    refine s_iload_n (j := 3) dX9_rows_16 rfl rfl ?_
    obtain ⟨hn5, h⟩ := gdn h
    refine s_callV (As := [vI x3]) (rest := []) (r := (some (vI (fX7_hasHouse ((q1.2 (o + 59) 0).toNat) x3 q1.2)))) (F' := q1.2) dX9_rows_17 (clX9_141 (Nat.le_of_ble_eq_true rfl) (Nat.le_of_ble_eq_true rfl)) (hm4.resolve_left hn5) rfl ⟨_, _, _, rfl, (hm4.resolve_left hn5), rfl, rfl, rfl⟩ rfl (Nat.le_of_ble_eq_true rfl) ?_
    refine s_if_ne (tgt := 26) dX9_rows_20 rfl (fun hc6 => ?_) (fun hc6 => ?_)
    · have h := ifp hc6 h
      refine s_iload (j := 4) dX9_rows_26 rfl ?_
      by_cases hc7 : x4 = 0
      · have h := ifp hc7 h
        refine s_tabIn (tgt := 60) (off := 32) dX9_rows_28 (by omega) (by omega) (by rw [hc7]; rfl) rfl ?_
        refine s_aload_n (j := 0) dX9_rows_60 rfl rfl ?_
        refine s_getR dX9_rows_61 flX9_44 ho ?_
        refine s_iload_n (j := 3) dX9_rows_64 rfl rfl ?_
        refine s_aload_n (j := 0) dX9_rows_65 rfl rfl ?_
        refine s_getR dX9_rows_66 flX9_44 ho ?_
        refine s_getM dX9_rows_69 flX9_186 (trX9_6 ho) (fun hm8 => ?_)
        have hm8 : _ = 0 ∨ isK ((q1.2 (o + 59) 0).toNat) 7 := hm8
        obtain ⟨hn9, h⟩ := gdn h
        refine s_getI dX9_rows_72 flX9_109 (hm8.resolve_left hn9) ?_
        obtain ⟨r10, hv11, h⟩ := bnd h
        refine s_callV (As := [vI x3, vI (q1.2 ((q1.2 (o + 59) 0).toNat) 0)]) (rest := []) (r := (some (vI r10))) (F' := q1.2) dX9_rows_75 (clX9_199 (Nat.le_of_ble_eq_true rfl) (Nat.le_of_ble_eq_true rfl)) (trX9_6 ho) rfl ⟨_, _, _, _, rfl, (trX9_6 ho), hv11, rfl, rfl⟩ rfl (Nat.le_of_ble_eq_true rfl) ?_
        have h := Option.some.inj h
        subst h
        exact s_ireturn dX9_rows_78 rfl hq
      have h := ifn hc7 h
      by_cases hc12 : x4 = 1
      · have h := ifp hc12 h
        refine s_tabIn (tgt := 79) (off := 51) dX9_rows_28 (by omega) (by omega) (by rw [hc12]; rfl) rfl ?_
        refine s_aload_n (j := 0) dX9_rows_79 rfl rfl ?_
        refine s_getR dX9_rows_80 flX9_44 ho ?_
        refine s_iload_n (j := 3) dX9_rows_83 rfl rfl ?_
        obtain ⟨r13, hv14, h⟩ := bnd h
        refine s_callV (As := [vI x3]) (rest := []) (r := (some (vI r13))) (F' := q1.2) dX9_rows_84 (clX9_202 (Nat.le_of_ble_eq_true rfl) (Nat.le_of_ble_eq_true rfl)) (trX9_6 ho) rfl ⟨_, _, _, rfl, (trX9_6 ho), hv14, rfl, rfl⟩ rfl (Nat.le_of_ble_eq_true rfl) ?_
        have h := Option.some.inj h
        subst h
        exact s_ireturn dX9_rows_87 rfl hq
      have h := ifn hc12 h
      by_cases hc15 : x4 = 2
      · have h := ifp hc15 h
        refine s_tabIn (tgt := 88) (off := 60) dX9_rows_28 (by omega) (by omega) (by rw [hc15]; rfl) rfl ?_
        refine s_aload_n (j := 0) dX9_rows_88 rfl rfl ?_
        refine s_getR dX9_rows_89 flX9_44 ho ?_
        refine s_iload_n (j := 3) dX9_rows_92 rfl rfl ?_
        obtain ⟨r16, hv17, h⟩ := bnd h
        refine s_callV (As := [vI x3]) (rest := []) (r := (some (vI r16))) (F' := q1.2) dX9_rows_93 (clX9_206 (Nat.le_of_ble_eq_true rfl) (Nat.le_of_ble_eq_true rfl)) (trX9_6 ho) rfl ⟨_, _, _, rfl, (trX9_6 ho), hv17, rfl, rfl⟩ rfl (Nat.le_of_ble_eq_true rfl) ?_
        have h := Option.some.inj h
        subst h
        exact s_ireturn dX9_rows_96 rfl hq
      have h := ifn hc15 h
      by_cases hc18 : x4 = 3
      · have h := ifp hc18 h
        refine s_tabIn (tgt := 97) (off := 69) dX9_rows_28 (by omega) (by omega) (by rw [hc18]; rfl) rfl ?_
        refine s_aload_n (j := 0) dX9_rows_97 rfl rfl ?_
        refine s_getR dX9_rows_98 flX9_44 ho ?_
        refine s_iload_n (j := 3) dX9_rows_101 rfl rfl ?_
        obtain ⟨r19, hv20, h⟩ := bnd h
        refine s_callV (As := [vI x3]) (rest := []) (r := (some (vI r19))) (F' := q1.2) dX9_rows_102 (clX9_209 (Nat.le_of_ble_eq_true rfl) (Nat.le_of_ble_eq_true rfl)) (trX9_6 ho) rfl ⟨_, _, _, rfl, (trX9_6 ho), hv20, rfl, rfl⟩ rfl (Nat.le_of_ble_eq_true rfl) ?_
        have h := Option.some.inj h
        subst h
        exact s_ireturn dX9_rows_105 rfl hq
      have h := ifn hc18 h
      refine s_tabOut (tgt := 106) dX9_rows_28 (by omega) rfl ?_
      refine s_bipush dX9_rows_106 rfl (cin rfl) ?_
      have h := Option.some.inj h
      subst h
      exact s_ireturn dX9_rows_108 rfl hq
    · have h := ifn hc6 h
      refine s_bipush dX9_rows_23 rfl (cin rfl) ?_
      have h := Option.some.inj h
      subst h
      exact s_ireturn dX9_rows_25 rfl hq
def gX9_rows : XG := fun As F r F' => ∃ o : Nat, ∃ x1 : Int, ∃ x2 : Int, ∃ x3 : Int, ∃ x4 : Int, ∃ res : (Int × Mem), As = [vR o, vI x1, vI x2, vI x3, vI x4] ∧ isK o 9 ∧ fX9_rows o x1 x2 x3 x4 F = some res ∧ r = some (vI res.1) ∧ F' = res.2
theorem ctX9_rows : xCT yX9_rows cX9_rows 5 (some FieldType.int) 5 117 gX9_rows := xmet (by decide +kernel) (fun As F r F' hg => by obtain ⟨o, x1, x2, x3, x4, res, rfl, ho, h, rfl, rfl⟩ := hg; exact Nat.le_of_ble_eq_true rfl) (fun As F r F' hg => by obtain ⟨o, x1, x2, x3, x4, res, rfl, ho, h, rfl, rfl⟩ := hg; exact fX9_rows_ok o x1 x2 x3 x4 _ _ ho h ⟨rfl, rfl⟩)
theorem mcX9_rows : Cond.code yX9_rows cX9_rows 5 (some FieldType.int) ∈ xw_T ∧ Cond.initialized yX9_rows.cls ∈ xw_T ∧ Cond.instanceMethod yX9_rows ∈ xw_T ∧ Cond.selects yX9_rows.cls yX9_rows yX9_rows ∈ xw_T := ⟨(xinT 882 (by decide +kernel) (by decide +kernel)), (xinT 116 (by decide +kernel) (by decide +kernel)), (xinT 880 (by decide +kernel) (by decide +kernel)), (xinT 881 (by decide +kernel) (by decide +kernel))⟩
theorem dX9_stop_0 : decode cX9_stop 0 = .ok (.aload_n 0, 1) := by decide +kernel
theorem dX9_stop_1 : decode cX9_stop 1 = .ok (.getfield 10, 3) := by decide +kernel
theorem dX9_stop_4 : decode cX9_stop 4 = .ok (.iconst 2, 1) := by decide +kernel
theorem dX9_stop_5 : decode cX9_stop 5 = .ok (.iload_n 1, 1) := by decide +kernel
theorem dX9_stop_6 : decode cX9_stop 6 = .ok (.invokevirtual 152, 3) := by decide +kernel
theorem dX9_stop_9 : decode cX9_stop 9 = .ok (.astore_n 2, 1) := by decide +kernel
theorem dX9_stop_10 : decode cX9_stop 10 = .ok (.aload_n 2, 1) := by decide +kernel
theorem dX9_stop_11 : decode cX9_stop 11 = .ok (.ifnonnull 7, 3) := by decide +kernel
theorem dX9_stop_14 : decode cX9_stop 14 = .ok (.iconst (-1), 1) := by decide +kernel
theorem dX9_stop_15 : decode cX9_stop 15 = .ok (.goto 15, 3) := by decide +kernel
theorem dX9_stop_18 : decode cX9_stop 18 = .ok (.aload_n 0, 1) := by decide +kernel
theorem dX9_stop_19 : decode cX9_stop 19 = .ok (.getfield 34, 3) := by decide +kernel
theorem dX9_stop_22 : decode cX9_stop 22 = .ok (.aload_n 2, 1) := by decide +kernel
theorem dX9_stop_23 : decode cX9_stop 23 = .ok (.aload_n 2, 1) := by decide +kernel
theorem dX9_stop_24 : decode cX9_stop 24 = .ok (.getfield 130, 3) := by decide +kernel
theorem dX9_stop_27 : decode cX9_stop 27 = .ok (.invokevirtual 212, 3) := by decide +kernel
theorem dX9_stop_30 : decode cX9_stop 30 = .ok (.ireturn, 1) := by decide +kernel
def zX9_stop (Qr : Option PV → Mem → Prop) : XZ := (RX9, 4, 93, 3, some FieldType.int, Qr)
noncomputable def fX9_stop (o : Nat) (x1 : Int) (F : Mem) : Option (Int × Mem) :=
  (fX4_sheetAt (o + 1) 2 x1 F).bind fun r1 =>
  if r1 = 0 then
    some ((-1), F)
  else
    (fX0_replay (o + 47) r1 (F r1 3) F).bind fun q4 =>
    some (q4.1, q4.2)
theorem fX9_stop_ok {Qr : Option PV → Mem → Prop} : ∀ (o : Nat) (x1 : Int) (F : Mem) (res : (Int × Mem)) (ho : isK o 9), fX9_stop o x1 F = some res → Qr (some (vI res.1)) res.2 → PR cX9_stop (zX9_stop Qr) 0 [(0, vR o), (1, vI x1)] [] F := by
  intro o x1 F res ho h hq
  refine s_aload_n (j := 0) dX9_stop_0 rfl rfl ?_
  refine s_getR dX9_stop_1 flX9_10 ho ?_
  refine s_iconst dX9_stop_4 (cin rfl) ?_
  refine s_iload_n (j := 1) dX9_stop_5 rfl rfl ?_
  obtain ⟨r1, hv2, h⟩ := bnd h
  refine s_callV (As := [vI 2, vI x1]) (rest := []) (r := (some (vR r1))) (F' := F) dX9_stop_6 (clX9_152 (Nat.le_of_ble_eq_true rfl) (Nat.le_of_ble_eq_true rfl)) (trX9_0 ho) rfl ⟨_, _, _, _, rfl, (trX9_0 ho), hv2, rfl, rfl⟩ rfl (Nat.le_of_ble_eq_true rfl) ?_
  refine s_astore_n (ls' := [(2, vR r1), (0, vR o), (1, vI x1)]) dX9_stop_9 rfl (Nat.le_of_ble_eq_true rfl) rfl ?_
  refine s_aload_n (j := 0) dX9_stop_10 rfl rfl ?_
  refine s_ifnonnull (tgt := 18) dX9_stop_11 rfl (fun hc3 => ?_) (fun hc3 => ?_)
  · have h := ifn hc3 h
    refine s_aload_n (j := 1) dX9_stop_18 rfl rfl ?_
    refine s_getR dX9_stop_19 flX9_34 ho ?_
    refine s_aload_n (j := 0) dX9_stop_22 rfl rfl ?_
    refine s_aload_n (j := 0) dX9_stop_23 rfl rfl ?_
    refine s_getI dX9_stop_24 flX9_130 ((fX4_sheetAt_rt _ _ _ _ _ (trX9_0 ho) hv2).resolve_left hc3) ?_
    obtain ⟨q4, hv5, h⟩ := bnd h
    refine s_callV (As := [vR r1, vI (F r1 3)]) (rest := []) (r := (some (vI q4.1))) (F' := q4.2) dX9_stop_27 (clX9_212 (Nat.le_of_ble_eq_true rfl) (Nat.le_of_ble_eq_true rfl)) (trX9_4 ho) rfl ⟨_, _, _, _, rfl, (trX9_4 ho), (Or.inr ((fX4_sheetAt_rt _ _ _ _ _ (trX9_0 ho) hv2).resolve_left hc3)), hv5, rfl, rfl⟩ rfl (Nat.le_of_ble_eq_true rfl) ?_
    have h := Option.some.inj h
    subst h
    exact s_ireturn dX9_stop_30 rfl hq
  · have h := ifp hc3 h
    refine s_iconst dX9_stop_14 (cin rfl) ?_
    refine s_goto (tgt := 30) dX9_stop_15 rfl ?_
    have h := Option.some.inj h
    subst h
    exact s_ireturn dX9_stop_30 rfl hq
def gX9_stop : XG := fun As F r F' => ∃ o : Nat, ∃ x1 : Int, ∃ res : (Int × Mem), As = [vR o, vI x1] ∧ isK o 9 ∧ fX9_stop o x1 F = some res ∧ r = some (vI res.1) ∧ F' = res.2
theorem ctX9_stop : xCT yX9_stop cX9_stop 3 (some FieldType.int) 4 93 gX9_stop := xmet (by decide +kernel) (fun As F r F' hg => by obtain ⟨o, x1, res, rfl, ho, h, rfl, rfl⟩ := hg; exact Nat.le_of_ble_eq_true rfl) (fun As F r F' hg => by obtain ⟨o, x1, res, rfl, ho, h, rfl, rfl⟩ := hg; exact fX9_stop_ok o x1 _ _ ho h ⟨rfl, rfl⟩)
theorem mcX9_stop : Cond.code yX9_stop cX9_stop 3 (some FieldType.int) ∈ xw_T ∧ Cond.initialized yX9_stop.cls ∈ xw_T ∧ Cond.instanceMethod yX9_stop ∈ xw_T ∧ Cond.selects yX9_stop.cls yX9_stop yX9_stop ∈ xw_T := ⟨(xinT 904 (by decide +kernel) (by decide +kernel)), (xinT 116 (by decide +kernel) (by decide +kernel)), (xinT 902 (by decide +kernel) (by decide +kernel)), (xinT 903 (by decide +kernel) (by decide +kernel))⟩
theorem dX9_isDay_0 : decode cX9_isDay 0 = .ok (.iload_n 0, 1) := by decide +kernel
theorem dX9_isDay_1 : decode cX9_isDay 1 = .ok (.ifCond .lt 13, 3) := by decide +kernel
theorem dX9_isDay_4 : decode cX9_isDay 4 = .ok (.iload_n 0, 1) := by decide +kernel
theorem dX9_isDay_5 : decode cX9_isDay 5 = .ok (.bipush 7, 2) := by decide +kernel
theorem dX9_isDay_7 : decode cX9_isDay 7 = .ok (.if_icmp .ge 7, 3) := by decide +kernel
theorem dX9_isDay_10 : decode cX9_isDay 10 = .ok (.iconst 1, 1) := by decide +kernel
theorem dX9_isDay_11 : decode cX9_isDay 11 = .ok (.goto 4, 3) := by decide +kernel
theorem dX9_isDay_14 : decode cX9_isDay 14 = .ok (.iconst 0, 1) := by decide +kernel
theorem dX9_isDay_15 : decode cX9_isDay 15 = .ok (.ireturn, 1) := by decide +kernel
def zX9_isDay (Qr : Option PV → Mem → Prop) : XZ := (RX9, 0, 0, 1, some FieldType.boolean, Qr)
noncomputable def fX9_isDay (x0 : Int) : Int :=
  if x0 < 0 then
    0
  else
    if 7 ≤ x0 then
      0
    else
      1
theorem fX9_isDay_ok {Qr : Option PV → Mem → Prop} : ∀ (x0 : Int) (F : Mem) (res : Int), fX9_isDay x0 = res → Qr (some (vI res)) F → PR cX9_isDay (zX9_isDay Qr) 0 [(0, vI x0)] [] F := by
  intro x0 F res  h hq
  refine s_iload_n (j := 0) dX9_isDay_0 rfl rfl ?_
  refine s_if_lt (tgt := 14) dX9_isDay_1 rfl (fun hc1 => ?_) (fun hc1 => ?_)
  · have h := ifp hc1 h
    refine s_iconst dX9_isDay_14 (cin rfl) ?_
    subst h
    exact s_zreturn dX9_isDay_15 rfl (Or.inl rfl) hq
  · have h := ifn hc1 h
    refine s_iload_n (j := 0) dX9_isDay_4 rfl rfl ?_
    refine s_bipush dX9_isDay_5 rfl (cin rfl) ?_
    refine s_icmp_ge (tgt := 14) dX9_isDay_7 rfl (fun hc2 => ?_) (fun hc2 => ?_)
    · have h := ifp hc2 h
      refine s_iconst dX9_isDay_14 (cin rfl) ?_
      subst h
      exact s_zreturn dX9_isDay_15 rfl (Or.inl rfl) hq
    · have h := ifn hc2 h
      refine s_iconst dX9_isDay_10 (cin rfl) ?_
      refine s_goto (tgt := 15) dX9_isDay_11 rfl ?_
      subst h
      exact s_zreturn dX9_isDay_15 rfl (Or.inr rfl) hq
def gX9_isDay : XG := fun As F r F' => ∃ x0 : Int, ∃ res : Int, As = [vI x0] ∧ fX9_isDay x0 = res ∧ r = some (vI res) ∧ F' = F
theorem ctX9_isDay : xCT yX9_isDay cX9_isDay 1 (some FieldType.boolean) 0 0 gX9_isDay := xmet (by decide +kernel) (fun As F r F' hg => by obtain ⟨x0, res, rfl, h, rfl, rfl⟩ := hg; exact Nat.le_of_ble_eq_true rfl) (fun As F r F' hg => by obtain ⟨x0, res, rfl, h, rfl, rfl⟩ := hg; exact fX9_isDay_ok x0 _ _  h ⟨rfl, rfl⟩)
theorem mcX9_isDay : Cond.code yX9_isDay cX9_isDay 1 (some FieldType.boolean) ∈ xw_T ∧ Cond.initialized yX9_isDay.cls ∈ xw_T ∧ Cond.static yX9_isDay ∈ xw_T := ⟨(xinT 967 (by decide +kernel) (by decide +kernel)), (xinT 116 (by decide +kernel) (by decide +kernel)), (xinT 966 (by decide +kernel) (by decide +kernel))⟩
theorem clX9_219 {fr lo : Nat} (h1 : 0 + 1 ≤ fr) (h2 : 8 + (1 + 11) + 0 ≤ lo) : xCall RX9 fr lo 1 219 0 1 gX9_isDay := ⟨_, _, _, _, _, _, ctX9_isDay, h1, h2, mcX9_isDay.1, (xinT 965 (by decide +kernel) (by decide +kernel)), mcX9_isDay.2.1, ⟨by decide +kernel, by decide +kernel, by decide +kernel⟩, by rw [if_neg (by decide)]; exact mcX9_isDay.2.2⟩
theorem dX9_isState_0 : decode cX9_isState 0 = .ok (.iload_n 1, 1) := by decide +kernel
theorem dX9_isState_1 : decode cX9_isState 1 = .ok (.iconst (-1), 1) := by decide +kernel
theorem dX9_isState_2 : decode cX9_isState 2 = .ok (.if_icmp .ne 20, 3) := by decide +kernel
theorem dX9_isState_5 : decode cX9_isState 5 = .ok (.aload_n 0, 1) := by decide +kernel
theorem dX9_isState_6 : decode cX9_isState 6 = .ok (.getfield 34, 3) := by decide +kernel
theorem dX9_isState_9 : decode cX9_isState 9 = .ok (.invokevirtual 382, 3) := by decide +kernel
theorem dX9_isState_12 : decode cX9_isState 12 = .ok (.iload_n 2, 1) := by decide +kernel
theorem dX9_isState_13 : decode cX9_isState 13 = .ok (.ifCond .ne 7, 3) := by decide +kernel
theorem dX9_isState_16 : decode cX9_isState 16 = .ok (.iconst 1, 1) := by decide +kernel
theorem dX9_isState_17 : decode cX9_isState 17 = .ok (.goto 4, 3) := by decide +kernel
theorem dX9_isState_20 : decode cX9_isState 20 = .ok (.iconst 0, 1) := by decide +kernel
theorem dX9_isState_21 : decode cX9_isState 21 = .ok (.ireturn, 1) := by decide +kernel
theorem dX9_isState_22 : decode cX9_isState 22 = .ok (.aload_n 0, 1) := by decide +kernel
theorem dX9_isState_23 : decode cX9_isState 23 = .ok (.getfield 10, 3) := by decide +kernel
theorem dX9_isState_26 : decode cX9_isState 26 = .ok (.iconst 2, 1) := by decide +kernel
theorem dX9_isState_27 : decode cX9_isState 27 = .ok (.iload_n 1, 1) := by decide +kernel
theorem dX9_isState_28 : decode cX9_isState 28 = .ok (.invokevirtual 152, 3) := by decide +kernel
theorem dX9_isState_31 : decode cX9_isState 31 = .ok (.astore_n 3, 1) := by decide +kernel
theorem dX9_isState_32 : decode cX9_isState 32 = .ok (.aload_n 3, 1) := by decide +kernel
theorem dX9_isState_33 : decode cX9_isState 33 = .ok (.ifnull 24, 3) := by decide +kernel
theorem dX9_isState_36 : decode cX9_isState 36 = .ok (.iload_n 2, 1) := by decide +kernel
theorem dX9_isState_37 : decode cX9_isState 37 = .ok (.ifCond .lt 20, 3) := by decide +kernel
theorem dX9_isState_40 : decode cX9_isState 40 = .ok (.aload_n 0, 1) := by decide +kernel
theorem dX9_isState_41 : decode cX9_isState 41 = .ok (.getfield 34, 3) := by decide +kernel
theorem dX9_isState_44 : decode cX9_isState 44 = .ok (.aload_n 3, 1) := by decide +kernel
theorem dX9_isState_45 : decode cX9_isState 45 = .ok (.iload_n 2, 1) := by decide +kernel
theorem dX9_isState_46 : decode cX9_isState 46 = .ok (.invokevirtual 212, 3) := by decide +kernel
theorem dX9_isState_49 : decode cX9_isState 49 = .ok (.iload_n 2, 1) := by decide +kernel
theorem dX9_isState_50 : decode cX9_isState 50 = .ok (.if_icmp .ne 7, 3) := by decide +kernel
theorem dX9_isState_53 : decode cX9_isState 53 = .ok (.iconst 1, 1) := by decide +kernel
theorem dX9_isState_54 : decode cX9_isState 54 = .ok (.goto 4, 3) := by decide +kernel
theorem dX9_isState_57 : decode cX9_isState 57 = .ok (.iconst 0, 1) := by decide +kernel
theorem dX9_isState_58 : decode cX9_isState 58 = .ok (.ireturn, 1) := by decide +kernel
def zX9_isState (Qr : Option PV → Mem → Prop) : XZ := (RX9, 4, 93, 4, some FieldType.boolean, Qr)
noncomputable def fX9_isState (o : Nat) (x1 : Int) (x2 : Int) (F : Mem) : Option (Int × Mem) :=
  if x1 ≠ (-1) then
    (fX4_sheetAt (o + 1) 2 x1 F).bind fun r2 =>
    if r2 = 0 then
      some (0, F)
    else
      if x2 < 0 then
        some (0, F)
      else
        (fX0_replay (o + 47) r2 x2 F).bind fun q6 =>
        if q6.1 ≠ x2 then
          some (0, q6.2)
        else
          some (1, q6.2)
  else
    (fX0_clear (o + 47) F).bind fun q9 =>
    if x2 ≠ 0 then
      some (0, q9)
    else
      some (1, q9)
theorem fX9_isState_ok {Qr : Option PV → Mem → Prop} : ∀ (o : Nat) (x1 : Int) (x2 : Int) (F : Mem) (res : (Int × Mem)) (ho : isK o 9), fX9_isState o x1 x2 F = some res → Qr (some (vI res.1)) res.2 → PR cX9_isState (zX9_isState Qr) 0 [(0, vR o), (1, vI x1), (2, vI x2)] [] F := by
  intro o x1 x2 F res ho h hq
  refine s_iload_n (j := 1) dX9_isState_0 rfl rfl ?_
  refine s_iconst dX9_isState_1 (cin rfl) ?_
  refine s_icmp_ne (tgt := 22) dX9_isState_2 rfl (fun hc1 => ?_) (fun hc1 => ?_)
  · have h := ifp hc1 h
    refine s_aload_n (j := 0) dX9_isState_22 rfl rfl ?_
    refine s_getR dX9_isState_23 flX9_10 ho ?_
    refine s_iconst dX9_isState_26 (cin rfl) ?_
    refine s_iload_n (j := 1) dX9_isState_27 rfl rfl ?_
    obtain ⟨r2, hv3, h⟩ := bnd h
    refine s_callV (As := [vI 2, vI x1]) (rest := []) (r := (some (vR r2))) (F' := F) dX9_isState_28 (clX9_152 (Nat.le_of_ble_eq_true rfl) (Nat.le_of_ble_eq_true rfl)) (trX9_0 ho) rfl ⟨_, _, _, _, rfl, (trX9_0 ho), hv3, rfl, rfl⟩ rfl (Nat.le_of_ble_eq_true rfl) ?_
    refine s_astore_n (ls' := [(3, vR r2), (0, vR o), (1, vI x1), (2, vI x2)]) dX9_isState_31 rfl (Nat.le_of_ble_eq_true rfl) rfl ?_
    refine s_aload_n (j := 0) dX9_isState_32 rfl rfl ?_
    refine s_ifnull (tgt := 57) dX9_isState_33 rfl (fun hc4 => ?_) (fun hc4 => ?_)
    · have h := ifp hc4 h
      refine s_iconst dX9_isState_57 (cin rfl) ?_
      have h := Option.some.inj h
      subst h
      exact s_zreturn dX9_isState_58 rfl (Or.inl rfl) hq
    · have h := ifn hc4 h
      refine s_iload_n (j := 3) dX9_isState_36 rfl rfl ?_
      refine s_if_lt (tgt := 57) dX9_isState_37 rfl (fun hc5 => ?_) (fun hc5 => ?_)
      · have h := ifp hc5 h
        refine s_iconst dX9_isState_57 (cin rfl) ?_
        have h := Option.some.inj h
        subst h
        exact s_zreturn dX9_isState_58 rfl (Or.inl rfl) hq
      · have h := ifn hc5 h
        refine s_aload_n (j := 1) dX9_isState_40 rfl rfl ?_
        refine s_getR dX9_isState_41 flX9_34 ho ?_
        refine s_aload_n (j := 0) dX9_isState_44 rfl rfl ?_
        refine s_iload_n (j := 3) dX9_isState_45 rfl rfl ?_
        obtain ⟨q6, hv7, h⟩ := bnd h
        refine s_callV (As := [vR r2, vI x2]) (rest := []) (r := (some (vI q6.1))) (F' := q6.2) dX9_isState_46 (clX9_212 (Nat.le_of_ble_eq_true rfl) (Nat.le_of_ble_eq_true rfl)) (trX9_4 ho) rfl ⟨_, _, _, _, rfl, (trX9_4 ho), (Or.inr ((fX4_sheetAt_rt _ _ _ _ _ (trX9_0 ho) hv3).resolve_left hc4)), hv7, rfl, rfl⟩ rfl (Nat.le_of_ble_eq_true rfl) ?_
        refine s_iload_n (j := 3) dX9_isState_49 rfl rfl ?_
        refine s_icmp_ne (tgt := 57) dX9_isState_50 rfl (fun hc8 => ?_) (fun hc8 => ?_)
        · have h := ifp hc8 h
          refine s_iconst dX9_isState_57 (cin rfl) ?_
          have h := Option.some.inj h
          subst h
          exact s_zreturn dX9_isState_58 rfl (Or.inl rfl) hq
        · have h := ifn hc8 h
          refine s_iconst dX9_isState_53 (cin rfl) ?_
          refine s_goto (tgt := 58) dX9_isState_54 rfl ?_
          have h := Option.some.inj h
          subst h
          exact s_zreturn dX9_isState_58 rfl (Or.inr rfl) hq
  · have h := ifn hc1 h
    refine s_aload_n (j := 0) dX9_isState_5 rfl rfl ?_
    refine s_getR dX9_isState_6 flX9_34 ho ?_
    obtain ⟨q9, hv10, h⟩ := bnd h
    refine s_callV (As := []) (rest := []) (r := none) (F' := q9) dX9_isState_9 (clX9_382 (Nat.le_of_ble_eq_true rfl) (Nat.le_of_ble_eq_true rfl)) (trX9_4 ho) rfl ⟨_, _, rfl, (trX9_4 ho), hv10, rfl, rfl⟩ rfl (Nat.le_of_ble_eq_true rfl) ?_
    refine s_iload_n (j := 2) dX9_isState_12 rfl rfl ?_
    refine s_if_ne (tgt := 20) dX9_isState_13 rfl (fun hc11 => ?_) (fun hc11 => ?_)
    · have h := ifp hc11 h
      refine s_iconst dX9_isState_20 (cin rfl) ?_
      have h := Option.some.inj h
      subst h
      exact s_zreturn dX9_isState_21 rfl (Or.inl rfl) hq
    · have h := ifn hc11 h
      refine s_iconst dX9_isState_16 (cin rfl) ?_
      refine s_goto (tgt := 21) dX9_isState_17 rfl ?_
      have h := Option.some.inj h
      subst h
      exact s_zreturn dX9_isState_21 rfl (Or.inr rfl) hq
def gX9_isState : XG := fun As F r F' => ∃ o : Nat, ∃ x1 : Int, ∃ x2 : Int, ∃ res : (Int × Mem), As = [vR o, vI x1, vI x2] ∧ isK o 9 ∧ fX9_isState o x1 x2 F = some res ∧ r = some (vI res.1) ∧ F' = res.2
theorem ctX9_isState : xCT yX9_isState cX9_isState 4 (some FieldType.boolean) 4 93 gX9_isState := xmet (by decide +kernel) (fun As F r F' hg => by obtain ⟨o, x1, x2, res, rfl, ho, h, rfl, rfl⟩ := hg; exact Nat.le_of_ble_eq_true rfl) (fun As F r F' hg => by obtain ⟨o, x1, x2, res, rfl, ho, h, rfl, rfl⟩ := hg; exact fX9_isState_ok o x1 x2 _ _ ho h ⟨rfl, rfl⟩)
theorem mcX9_isState : Cond.code yX9_isState cX9_isState 4 (some FieldType.boolean) ∈ xw_T ∧ Cond.initialized yX9_isState.cls ∈ xw_T ∧ Cond.instanceMethod yX9_isState ∈ xw_T ∧ Cond.selects yX9_isState.cls yX9_isState yX9_isState ∈ xw_T := ⟨(xinT 963 (by decide +kernel) (by decide +kernel)), (xinT 116 (by decide +kernel) (by decide +kernel)), (xinT 962 (by decide +kernel) (by decide +kernel)), (xinT 24 (by decide +kernel) (by decide +kernel))⟩
theorem clX9_216 {fr lo : Nat} (h1 : 4 + 1 ≤ fr) (h2 : 8 + (4 + 11) + 93 ≤ lo) : xCall RX9 fr lo 0 216 9 2 gX9_isState := ⟨_, _, _, _, _, _, ctX9_isState, h1, h2, mcX9_isState.1, (xinT 960 (by decide +kernel) (by decide +kernel)), mcX9_isState.2.1, ⟨by decide +kernel, by decide +kernel, by decide +kernel⟩, by rw [if_pos rfl]; exact ⟨mcX9_isState.2.2.1, mcX9_isState.2.2.2, _, _, rfl⟩⟩
theorem dX9_owner_0 : decode cX9_owner 0 = .ok (.aload_n 0, 1) := by decide +kernel
theorem dX9_owner_1 : decode cX9_owner 1 = .ok (.iload_n 1, 1) := by decide +kernel
theorem dX9_owner_2 : decode cX9_owner 2 = .ok (.iload_n 2, 1) := by decide +kernel
theorem dX9_owner_3 : decode cX9_owner 3 = .ok (.invokevirtual 216, 3) := by decide +kernel
theorem dX9_owner_6 : decode cX9_owner 6 = .ok (.ifCond .eq 22, 3) := by decide +kernel
theorem dX9_owner_9 : decode cX9_owner 9 = .ok (.iload_n 3, 1) := by decide +kernel
theorem dX9_owner_10 : decode cX9_owner 10 = .ok (.invokestatic 219, 3) := by decide +kernel
theorem dX9_owner_13 : decode cX9_owner 13 = .ok (.ifCond .eq 15, 3) := by decide +kernel
theorem dX9_owner_16 : decode cX9_owner 16 = .ok (.iload 4, 2) := by decide +kernel
theorem dX9_owner_18 : decode cX9_owner 18 = .ok (.ifCond .lt 10, 3) := by decide +kernel
theorem dX9_owner_21 : decode cX9_owner 21 = .ok (.iload 4, 2) := by decide +kernel
theorem dX9_owner_23 : decode cX9_owner 23 = .ok (.bipush 48, 2) := by decide +kernel
theorem dX9_owner_25 : decode cX9_owner 25 = .ok (.if_icmp .lt 6, 3) := by decide +kernel
theorem dX9_owner_28 : decode cX9_owner 28 = .ok (.bipush (-2), 2) := by decide +kernel
theorem dX9_owner_30 : decode cX9_owner 30 = .ok (.ireturn, 1) := by decide +kernel
theorem dX9_owner_31 : decode cX9_owner 31 = .ok (.iload 5, 2) := by decide +kernel
theorem dX9_owner_33 : decode cX9_owner 33 = .ok (.ifCond .eq 21, 3) := by decide +kernel
theorem dX9_owner_36 : decode cX9_owner 36 = .ok (.aload_n 0, 1) := by decide +kernel
theorem dX9_owner_37 : decode cX9_owner 37 = .ok (.getfield 34, 3) := by decide +kernel
theorem dX9_owner_40 : decode cX9_owner 40 = .ok (.getfield 222, 3) := by decide +kernel
theorem dX9_owner_43 : decode cX9_owner 43 = .ok (.iload_n 3, 1) := by decide +kernel
theorem dX9_owner_44 : decode cX9_owner 44 = .ok (.bipush 48, 2) := by decide +kernel
theorem dX9_owner_46 : decode cX9_owner 46 = .ok (.imul, 1) := by decide +kernel
theorem dX9_owner_47 : decode cX9_owner 47 = .ok (.iload 4, 2) := by decide +kernel
theorem dX9_owner_49 : decode cX9_owner 49 = .ok (.iadd, 1) := by decide +kernel
theorem dX9_owner_50 : decode cX9_owner 50 = .ok (.iaload, 1) := by decide +kernel
theorem dX9_owner_51 : decode cX9_owner 51 = .ok (.goto 18, 3) := by decide +kernel
theorem dX9_owner_54 : decode cX9_owner 54 = .ok (.aload_n 0, 1) := by decide +kernel
theorem dX9_owner_55 : decode cX9_owner 55 = .ok (.getfield 34, 3) := by decide +kernel
theorem dX9_owner_58 : decode cX9_owner 58 = .ok (.getfield 225, 3) := by decide +kernel
theorem dX9_owner_61 : decode cX9_owner 61 = .ok (.iload_n 3, 1) := by decide +kernel
theorem dX9_owner_62 : decode cX9_owner 62 = .ok (.bipush 48, 2) := by decide +kernel
theorem dX9_owner_64 : decode cX9_owner 64 = .ok (.imul, 1) := by decide +kernel
theorem dX9_owner_65 : decode cX9_owner 65 = .ok (.iload 4, 2) := by decide +kernel
theorem dX9_owner_67 : decode cX9_owner 67 = .ok (.iadd, 1) := by decide +kernel
theorem dX9_owner_68 : decode cX9_owner 68 = .ok (.iaload, 1) := by decide +kernel
theorem dX9_owner_69 : decode cX9_owner 69 = .ok (.ireturn, 1) := by decide +kernel
def zX9_owner (Qr : Option PV → Mem → Prop) : XZ := (RX9, 5, 116, 6, some FieldType.int, Qr)
noncomputable def fX9_owner (o : Nat) (x1 : Int) (x2 : Int) (x3 : Int) (x4 : Int) (x5 : Int) (F : Mem) : Option (Int × Mem) :=
  (fX9_isState o x1 x2 F).bind fun q1 =>
  if q1.1 = 0 then
    some ((-2), q1.2)
  else
    if (fX9_isDay x3) = 0 then
      some ((-2), q1.2)
    else
      if x4 < 0 then
        some ((-2), q1.2)
      else
        if x4 < 48 then
          if x5 = 0 then
            if (0 : Int) ≤ (xw ((xw (x3 * 48)) + x4)) ∧ (xw ((xw (x3 * 48)) + x4)) < (alen ((o + 47) + 1) : Int) then
              some (q1.2 ((o + 47) + 1) (xw ((xw (x3 * 48)) + x4)).toNat, q1.2)
            else none
          else
            if (0 : Int) ≤ (xw ((xw (x3 * 48)) + x4)) ∧ (xw ((xw (x3 * 48)) + x4)) < (alen ((o + 47) + 2) : Int) then
              some (q1.2 ((o + 47) + 2) (xw ((xw (x3 * 48)) + x4)).toNat, q1.2)
            else none
        else
          some ((-2), q1.2)
theorem fX9_owner_ok {Qr : Option PV → Mem → Prop} : ∀ (o : Nat) (x1 : Int) (x2 : Int) (x3 : Int) (x4 : Int) (x5 : Int) (F : Mem) (res : (Int × Mem)) (ho : isK o 9), fX9_owner o x1 x2 x3 x4 x5 F = some res → Qr (some (vI res.1)) res.2 → PR cX9_owner (zX9_owner Qr) 0 [(0, vR o), (1, vI x1), (2, vI x2), (3, vI x3), (4, vI x4), (5, vI x5)] [] F := by
  intro o x1 x2 x3 x4 x5 F res ho h hq
  refine s_aload_n (j := 0) dX9_owner_0 rfl rfl ?_
  refine s_iload_n (j := 1) dX9_owner_1 rfl rfl ?_
  refine s_iload_n (j := 2) dX9_owner_2 rfl rfl ?_
  obtain ⟨q1, hv2, h⟩ := bnd h
  refine s_callV (As := [vI x1, vI x2]) (rest := []) (r := (some (vI q1.1))) (F' := q1.2) dX9_owner_3 (clX9_216 (Nat.le_of_ble_eq_true rfl) (Nat.le_of_ble_eq_true rfl)) ho rfl ⟨_, _, _, _, rfl, ho, hv2, rfl, rfl⟩ rfl (Nat.le_of_ble_eq_true rfl) ?_
  refine s_if_eq (tgt := 28) dX9_owner_6 rfl (fun hc3 => ?_) (fun hc3 => ?_)
  · have h := ifp hc3 h
    refine s_bipush dX9_owner_28 rfl (cin rfl) ?_
    have h := Option.some.inj h
    subst h
    exact s_ireturn dX9_owner_30 rfl hq
  · have h := ifn hc3 h
    refine s_iload_n (j := 3) dX9_owner_9 rfl rfl ?_
    refine s_callS (As := [vI x3]) (rest := []) (r := (some (vI (fX9_isDay x3)))) (F' := q1.2) dX9_owner_10 (clX9_219 (Nat.le_of_ble_eq_true rfl) (Nat.le_of_ble_eq_true rfl)) rfl ⟨_, _, rfl, rfl, rfl, rfl⟩ rfl (Nat.le_of_ble_eq_true rfl) ?_
    refine s_if_eq (tgt := 28) dX9_owner_13 rfl (fun hc4 => ?_) (fun hc4 => ?_)
    · have h := ifp hc4 h
      refine s_bipush dX9_owner_28 rfl (cin rfl) ?_
      have h := Option.some.inj h
      subst h
      exact s_ireturn dX9_owner_30 rfl hq
    · have h := ifn hc4 h
      refine s_iload (j := 4) dX9_owner_16 rfl ?_
      refine s_if_lt (tgt := 28) dX9_owner_18 rfl (fun hc5 => ?_) (fun hc5 => ?_)
      · have h := ifp hc5 h
        refine s_bipush dX9_owner_28 rfl (cin rfl) ?_
        have h := Option.some.inj h
        subst h
        exact s_ireturn dX9_owner_30 rfl hq
      · have h := ifn hc5 h
        refine s_iload (j := 4) dX9_owner_21 rfl ?_
        refine s_bipush dX9_owner_23 rfl (cin rfl) ?_
        refine s_icmp_lt (tgt := 31) dX9_owner_25 rfl (fun hc6 => ?_) (fun hc6 => ?_)
        · have h := ifp hc6 h
          refine s_iload (j := 5) dX9_owner_31 rfl ?_
          refine s_if_eq (tgt := 54) dX9_owner_33 rfl (fun hc7 => ?_) (fun hc7 => ?_)
          · have h := ifp hc7 h
            refine s_aload_n (j := 0) dX9_owner_54 rfl rfl ?_
            refine s_getR dX9_owner_55 flX9_34 ho ?_
            refine s_getR dX9_owner_58 flX9_225 (trX9_4 ho) ?_
            refine s_iload_n (j := 3) dX9_owner_61 rfl rfl ?_
            refine s_bipush dX9_owner_62 rfl (cin rfl) ?_
            refine s_imul dX9_owner_64 ?_
            refine s_iload (j := 4) dX9_owner_65 rfl ?_
            refine s_iadd dX9_owner_67 ?_
            obtain ⟨hb8, h⟩ := gd h
            refine s_iaload dX9_owner_68 (trX0_0 (trX9_4 ho)) hb8.1 hb8.2 ?_
            have h := Option.some.inj h
            subst h
            exact s_ireturn dX9_owner_69 rfl hq
          · have h := ifn hc7 h
            refine s_aload_n (j := 0) dX9_owner_36 rfl rfl ?_
            refine s_getR dX9_owner_37 flX9_34 ho ?_
            refine s_getR dX9_owner_40 flX9_222 (trX9_4 ho) ?_
            refine s_iload_n (j := 3) dX9_owner_43 rfl rfl ?_
            refine s_bipush dX9_owner_44 rfl (cin rfl) ?_
            refine s_imul dX9_owner_46 ?_
            refine s_iload (j := 4) dX9_owner_47 rfl ?_
            refine s_iadd dX9_owner_49 ?_
            obtain ⟨hb9, h⟩ := gd h
            refine s_iaload dX9_owner_50 (trX0_1 (trX9_4 ho)) hb9.1 hb9.2 ?_
            refine s_goto (tgt := 69) dX9_owner_51 rfl ?_
            have h := Option.some.inj h
            subst h
            exact s_ireturn dX9_owner_69 rfl hq
        · have h := ifn hc6 h
          refine s_bipush dX9_owner_28 rfl (cin rfl) ?_
          have h := Option.some.inj h
          subst h
          exact s_ireturn dX9_owner_30 rfl hq
def gX9_owner : XG := fun As F r F' => ∃ o : Nat, ∃ x1 : Int, ∃ x2 : Int, ∃ x3 : Int, ∃ x4 : Int, ∃ x5 : Int, ∃ res : (Int × Mem), As = [vR o, vI x1, vI x2, vI x3, vI x4, vI x5] ∧ isK o 9 ∧ fX9_owner o x1 x2 x3 x4 x5 F = some res ∧ r = some (vI res.1) ∧ F' = res.2
theorem ctX9_owner : xCT yX9_owner cX9_owner 6 (some FieldType.int) 5 116 gX9_owner := xmet (by decide +kernel) (fun As F r F' hg => by obtain ⟨o, x1, x2, x3, x4, x5, res, rfl, ho, h, rfl, rfl⟩ := hg; exact Nat.le_of_ble_eq_true rfl) (fun As F r F' hg => by obtain ⟨o, x1, x2, x3, x4, x5, res, rfl, ho, h, rfl, rfl⟩ := hg; exact fX9_owner_ok o x1 x2 x3 x4 x5 _ _ ho h ⟨rfl, rfl⟩)
theorem mcX9_owner : Cond.code yX9_owner cX9_owner 6 (some FieldType.int) ∈ xw_T ∧ Cond.initialized yX9_owner.cls ∈ xw_T ∧ Cond.instanceMethod yX9_owner ∈ xw_T ∧ Cond.selects yX9_owner.cls yX9_owner yX9_owner ∈ xw_T := ⟨(xinT 959 (by decide +kernel) (by decide +kernel)), (xinT 116 (by decide +kernel) (by decide +kernel)), (xinT 957 (by decide +kernel) (by decide +kernel)), (xinT 958 (by decide +kernel) (by decide +kernel))⟩
theorem dX9_has_0 : decode cX9_has 0 = .ok (.aload_n 0, 1) := by decide +kernel
theorem dX9_has_1 : decode cX9_has 1 = .ok (.iload_n 1, 1) := by decide +kernel
theorem dX9_has_2 : decode cX9_has 2 = .ok (.iload_n 2, 1) := by decide +kernel
theorem dX9_has_3 : decode cX9_has 3 = .ok (.invokevirtual 216, 3) := by decide +kernel
theorem dX9_has_6 : decode cX9_has 6 = .ok (.ifCond .eq 13, 3) := by decide +kernel
theorem dX9_has_9 : decode cX9_has 9 = .ok (.iload_n 3, 1) := by decide +kernel
theorem dX9_has_10 : decode cX9_has 10 = .ok (.ifCond .lt 9, 3) := by decide +kernel
theorem dX9_has_13 : decode cX9_has 13 = .ok (.iload_n 3, 1) := by decide +kernel
theorem dX9_has_14 : decode cX9_has 14 = .ok (.bipush 8, 2) := by decide +kernel
theorem dX9_has_16 : decode cX9_has 16 = .ok (.if_icmp .lt 6, 3) := by decide +kernel
theorem dX9_has_19 : decode cX9_has 19 = .ok (.bipush (-2), 2) := by decide +kernel
theorem dX9_has_21 : decode cX9_has 21 = .ok (.ireturn, 1) := by decide +kernel
theorem dX9_has_22 : decode cX9_has 22 = .ok (.iload 4, 2) := by decide +kernel
theorem dX9_has_24 : decode cX9_has 24 = .ok (.tableswitch 92 0 3 #[32, 48, 64, 74], 32) := by decide +kernel
theorem dX9_has_56 : decode cX9_has 56 = .ok (.aload_n 0, 1) := by decide +kernel
theorem dX9_has_57 : decode cX9_has 57 = .ok (.getfield 34, 3) := by decide +kernel
theorem dX9_has_60 : decode cX9_has 60 = .ok (.aload_n 0, 1) := by decide +kernel
theorem dX9_has_61 : decode cX9_has 61 = .ok (.getfield 34, 3) := by decide +kernel
theorem dX9_has_64 : decode cX9_has 64 = .ok (.getfield 225, 3) := by decide +kernel
theorem dX9_has_67 : decode cX9_has 67 = .ok (.iload_n 3, 1) := by decide +kernel
theorem dX9_has_68 : decode cX9_has 68 = .ok (.invokevirtual 228, 3) := by decide +kernel
theorem dX9_has_71 : decode cX9_has 71 = .ok (.ireturn, 1) := by decide +kernel
theorem dX9_has_72 : decode cX9_has 72 = .ok (.aload_n 0, 1) := by decide +kernel
theorem dX9_has_73 : decode cX9_has 73 = .ok (.getfield 34, 3) := by decide +kernel
theorem dX9_has_76 : decode cX9_has 76 = .ok (.aload_n 0, 1) := by decide +kernel
theorem dX9_has_77 : decode cX9_has 77 = .ok (.getfield 34, 3) := by decide +kernel
theorem dX9_has_80 : decode cX9_has 80 = .ok (.getfield 222, 3) := by decide +kernel
theorem dX9_has_83 : decode cX9_has 83 = .ok (.iload_n 3, 1) := by decide +kernel
theorem dX9_has_84 : decode cX9_has 84 = .ok (.invokevirtual 228, 3) := by decide +kernel
theorem dX9_has_87 : decode cX9_has 87 = .ok (.ireturn, 1) := by decide +kernel
theorem dX9_has_88 : decode cX9_has 88 = .ok (.aload_n 0, 1) := by decide +kernel
theorem dX9_has_89 : decode cX9_has 89 = .ok (.getfield 34, 3) := by decide +kernel
theorem dX9_has_92 : decode cX9_has 92 = .ok (.getfield 232, 3) := by decide +kernel
theorem dX9_has_95 : decode cX9_has 95 = .ok (.iload_n 3, 1) := by decide +kernel
theorem dX9_has_96 : decode cX9_has 96 = .ok (.iaload, 1) := by decide +kernel
theorem dX9_has_97 : decode cX9_has 97 = .ok (.ireturn, 1) := by decide +kernel
theorem dX9_has_98 : decode cX9_has 98 = .ok (.aload_n 0, 1) := by decide +kernel
theorem dX9_has_99 : decode cX9_has 99 = .ok (.getfield 34, 3) := by decide +kernel
theorem dX9_has_102 : decode cX9_has 102 = .ok (.getfield 235, 3) := by decide +kernel
theorem dX9_has_105 : decode cX9_has 105 = .ok (.iload_n 3, 1) := by decide +kernel
theorem dX9_has_106 : decode cX9_has 106 = .ok (.baload, 1) := by decide +kernel
theorem dX9_has_107 : decode cX9_has 107 = .ok (.ifCond .eq 7, 3) := by decide +kernel
theorem dX9_has_110 : decode cX9_has 110 = .ok (.iconst 1, 1) := by decide +kernel
theorem dX9_has_111 : decode cX9_has 111 = .ok (.goto 4, 3) := by decide +kernel
theorem dX9_has_114 : decode cX9_has 114 = .ok (.iconst 0, 1) := by decide +kernel
theorem dX9_has_115 : decode cX9_has 115 = .ok (.ireturn, 1) := by decide +kernel
theorem dX9_has_116 : decode cX9_has 116 = .ok (.bipush (-2), 2) := by decide +kernel
theorem dX9_has_118 : decode cX9_has 118 = .ok (.ireturn, 1) := by decide +kernel
def zX9_has (Qr : Option PV → Mem → Prop) : XZ := (RX9, 5, 116, 5, some FieldType.int, Qr)
noncomputable def fX9_has (o : Nat) (x1 : Int) (x2 : Int) (x3 : Int) (x4 : Int) (F : Mem) : Option (Int × Mem) :=
  (fX9_isState o x1 x2 F).bind fun q1 =>
  if q1.1 = 0 then
    some ((-2), q1.2)
  else
    if x3 < 0 then
      some ((-2), q1.2)
    else
      if x3 < 8 then
        if x4 = 0 then
          (fX0_slotsOf (o + 47) ((o + 47) + 1) x3 q1.2).bind fun r7 =>
          some (r7, q1.2)
        else
        if x4 = 1 then
          (fX0_slotsOf (o + 47) ((o + 47) + 2) x3 q1.2).bind fun r10 =>
          some (r10, q1.2)
        else
        if x4 = 2 then
          if (0 : Int) ≤ x3 ∧ x3 < (alen ((o + 47) + 3) : Int) then
            some (q1.2 ((o + 47) + 3) x3.toNat, q1.2)
          else none
        else
        if x4 = 3 then
          if (0 : Int) ≤ x3 ∧ x3 < (alen ((o + 47) + 4) : Int) then
            if (q1.2 ((o + 47) + 4) x3.toNat) = 0 then
              some (0, q1.2)
            else
              some (1, q1.2)
          else none
        else
        some ((-2), q1.2)
      else
        some ((-2), q1.2)
theorem fX9_has_ok {Qr : Option PV → Mem → Prop} : ∀ (o : Nat) (x1 : Int) (x2 : Int) (x3 : Int) (x4 : Int) (F : Mem) (res : (Int × Mem)) (ho : isK o 9), fX9_has o x1 x2 x3 x4 F = some res → Qr (some (vI res.1)) res.2 → PR cX9_has (zX9_has Qr) 0 [(0, vR o), (1, vI x1), (2, vI x2), (3, vI x3), (4, vI x4)] [] F := by
  intro o x1 x2 x3 x4 F res ho h hq
  refine s_aload_n (j := 0) dX9_has_0 rfl rfl ?_
  refine s_iload_n (j := 1) dX9_has_1 rfl rfl ?_
  refine s_iload_n (j := 2) dX9_has_2 rfl rfl ?_
  obtain ⟨q1, hv2, h⟩ := bnd h
  refine s_callV (As := [vI x1, vI x2]) (rest := []) (r := (some (vI q1.1))) (F' := q1.2) dX9_has_3 (clX9_216 (Nat.le_of_ble_eq_true rfl) (Nat.le_of_ble_eq_true rfl)) ho rfl ⟨_, _, _, _, rfl, ho, hv2, rfl, rfl⟩ rfl (Nat.le_of_ble_eq_true rfl) ?_
  refine s_if_eq (tgt := 19) dX9_has_6 rfl (fun hc3 => ?_) (fun hc3 => ?_)
  · have h := ifp hc3 h
    refine s_bipush dX9_has_19 rfl (cin rfl) ?_
    have h := Option.some.inj h
    subst h
    exact s_ireturn dX9_has_21 rfl hq
  · have h := ifn hc3 h
    refine s_iload_n (j := 3) dX9_has_9 rfl rfl ?_
    refine s_if_lt (tgt := 19) dX9_has_10 rfl (fun hc4 => ?_) (fun hc4 => ?_)
    · have h := ifp hc4 h
      refine s_bipush dX9_has_19 rfl (cin rfl) ?_
      have h := Option.some.inj h
      subst h
      exact s_ireturn dX9_has_21 rfl hq
    · have h := ifn hc4 h
      refine s_iload_n (j := 3) dX9_has_13 rfl rfl ?_
      refine s_bipush dX9_has_14 rfl (cin rfl) ?_
      refine s_icmp_lt (tgt := 22) dX9_has_16 rfl (fun hc5 => ?_) (fun hc5 => ?_)
      · have h := ifp hc5 h
        refine s_iload (j := 4) dX9_has_22 rfl ?_
        by_cases hc6 : x4 = 0
        · have h := ifp hc6 h
          refine s_tabIn (tgt := 56) (off := 32) dX9_has_24 (by omega) (by omega) (by rw [hc6]; rfl) rfl ?_
          refine s_aload_n (j := 0) dX9_has_56 rfl rfl ?_
          refine s_getR dX9_has_57 flX9_34 ho ?_
          refine s_aload_n (j := 0) dX9_has_60 rfl rfl ?_
          refine s_getR dX9_has_61 flX9_34 ho ?_
          refine s_getR dX9_has_64 flX9_225 (trX9_4 ho) ?_
          refine s_iload_n (j := 3) dX9_has_67 rfl rfl ?_
          obtain ⟨r7, hv8, h⟩ := bnd h
          refine s_callV (As := [vR ((o + 47) + 1), vI x3]) (rest := []) (r := (some (vI r7))) (F' := q1.2) dX9_has_68 (clX9_228 (Nat.le_of_ble_eq_true rfl) (Nat.le_of_ble_eq_true rfl)) (trX9_4 ho) rfl ⟨_, _, _, _, rfl, (trX9_4 ho), (Or.inr (trX0_0 (trX9_4 ho))), hv8, rfl, rfl⟩ rfl (Nat.le_of_ble_eq_true rfl) ?_
          have h := Option.some.inj h
          subst h
          exact s_ireturn dX9_has_71 rfl hq
        have h := ifn hc6 h
        by_cases hc9 : x4 = 1
        · have h := ifp hc9 h
          refine s_tabIn (tgt := 72) (off := 48) dX9_has_24 (by omega) (by omega) (by rw [hc9]; rfl) rfl ?_
          refine s_aload_n (j := 0) dX9_has_72 rfl rfl ?_
          refine s_getR dX9_has_73 flX9_34 ho ?_
          refine s_aload_n (j := 0) dX9_has_76 rfl rfl ?_
          refine s_getR dX9_has_77 flX9_34 ho ?_
          refine s_getR dX9_has_80 flX9_222 (trX9_4 ho) ?_
          refine s_iload_n (j := 3) dX9_has_83 rfl rfl ?_
          obtain ⟨r10, hv11, h⟩ := bnd h
          refine s_callV (As := [vR ((o + 47) + 2), vI x3]) (rest := []) (r := (some (vI r10))) (F' := q1.2) dX9_has_84 (clX9_228 (Nat.le_of_ble_eq_true rfl) (Nat.le_of_ble_eq_true rfl)) (trX9_4 ho) rfl ⟨_, _, _, _, rfl, (trX9_4 ho), (Or.inr (trX0_1 (trX9_4 ho))), hv11, rfl, rfl⟩ rfl (Nat.le_of_ble_eq_true rfl) ?_
          have h := Option.some.inj h
          subst h
          exact s_ireturn dX9_has_87 rfl hq
        have h := ifn hc9 h
        by_cases hc12 : x4 = 2
        · have h := ifp hc12 h
          refine s_tabIn (tgt := 88) (off := 64) dX9_has_24 (by omega) (by omega) (by rw [hc12]; rfl) rfl ?_
          refine s_aload_n (j := 0) dX9_has_88 rfl rfl ?_
          refine s_getR dX9_has_89 flX9_34 ho ?_
          refine s_getR dX9_has_92 flX9_232 (trX9_4 ho) ?_
          refine s_iload_n (j := 3) dX9_has_95 rfl rfl ?_
          obtain ⟨hb13, h⟩ := gd h
          refine s_iaload dX9_has_96 (trX0_2 (trX9_4 ho)) hb13.1 hb13.2 ?_
          have h := Option.some.inj h
          subst h
          exact s_ireturn dX9_has_97 rfl hq
        have h := ifn hc12 h
        by_cases hc14 : x4 = 3
        · have h := ifp hc14 h
          refine s_tabIn (tgt := 98) (off := 74) dX9_has_24 (by omega) (by omega) (by rw [hc14]; rfl) rfl ?_
          refine s_aload_n (j := 0) dX9_has_98 rfl rfl ?_
          refine s_getR dX9_has_99 flX9_34 ho ?_
          refine s_getR dX9_has_102 flX9_235 (trX9_4 ho) ?_
          refine s_iload_n (j := 3) dX9_has_105 rfl rfl ?_
          obtain ⟨hb15, h⟩ := gd h
          refine s_zaload dX9_has_106 (trX0_3 (trX9_4 ho)) hb15.1 hb15.2 ?_
          refine s_if_eq (tgt := 114) dX9_has_107 rfl (fun hc16 => ?_) (fun hc16 => ?_)
          · have h := ifp hc16 h
            refine s_iconst dX9_has_114 (cin rfl) ?_
            have h := Option.some.inj h
            subst h
            exact s_ireturn dX9_has_115 rfl hq
          · have h := ifn hc16 h
            refine s_iconst dX9_has_110 (cin rfl) ?_
            refine s_goto (tgt := 115) dX9_has_111 rfl ?_
            have h := Option.some.inj h
            subst h
            exact s_ireturn dX9_has_115 rfl hq
        have h := ifn hc14 h
        refine s_tabOut (tgt := 116) dX9_has_24 (by omega) rfl ?_
        refine s_bipush dX9_has_116 rfl (cin rfl) ?_
        have h := Option.some.inj h
        subst h
        exact s_ireturn dX9_has_118 rfl hq
      · have h := ifn hc5 h
        refine s_bipush dX9_has_19 rfl (cin rfl) ?_
        have h := Option.some.inj h
        subst h
        exact s_ireturn dX9_has_21 rfl hq
def gX9_has : XG := fun As F r F' => ∃ o : Nat, ∃ x1 : Int, ∃ x2 : Int, ∃ x3 : Int, ∃ x4 : Int, ∃ res : (Int × Mem), As = [vR o, vI x1, vI x2, vI x3, vI x4] ∧ isK o 9 ∧ fX9_has o x1 x2 x3 x4 F = some res ∧ r = some (vI res.1) ∧ F' = res.2
theorem ctX9_has : xCT yX9_has cX9_has 5 (some FieldType.int) 5 116 gX9_has := xmet (by decide +kernel) (fun As F r F' hg => by obtain ⟨o, x1, x2, x3, x4, res, rfl, ho, h, rfl, rfl⟩ := hg; exact Nat.le_of_ble_eq_true rfl) (fun As F r F' hg => by obtain ⟨o, x1, x2, x3, x4, res, rfl, ho, h, rfl, rfl⟩ := hg; exact fX9_has_ok o x1 x2 x3 x4 _ _ ho h ⟨rfl, rfl⟩)
theorem mcX9_has : Cond.code yX9_has cX9_has 5 (some FieldType.int) ∈ xw_T ∧ Cond.initialized yX9_has.cls ∈ xw_T ∧ Cond.instanceMethod yX9_has ∈ xw_T ∧ Cond.selects yX9_has.cls yX9_has yX9_has ∈ xw_T := ⟨(xinT 971 (by decide +kernel) (by decide +kernel)), (xinT 116 (by decide +kernel) (by decide +kernel)), (xinT 969 (by decide +kernel) (by decide +kernel)), (xinT 970 (by decide +kernel) (by decide +kernel))⟩
theorem dX9_mayWorkLeg_0 : decode cX9_mayWorkLeg 0 = .ok (.aload_n 1, 1) := by decide +kernel
theorem dX9_mayWorkLeg_1 : decode cX9_mayWorkLeg 1 = .ok (.iload_n 2, 1) := by decide +kernel
theorem dX9_mayWorkLeg_2 : decode cX9_mayWorkLeg 2 = .ok (.iconst 2, 1) := by decide +kernel
theorem dX9_mayWorkLeg_3 : decode cX9_mayWorkLeg 3 = .ok (.invokevirtual 138, 3) := by decide +kernel
theorem dX9_mayWorkLeg_6 : decode cX9_mayWorkLeg 6 = .ok (.bipush 48, 2) := by decide +kernel
theorem dX9_mayWorkLeg_8 : decode cX9_mayWorkLeg 8 = .ok (.invokestatic 312, 3) := by decide +kernel
theorem dX9_mayWorkLeg_11 : decode cX9_mayWorkLeg 11 = .ok (.istore 4, 2) := by decide +kernel
theorem dX9_mayWorkLeg_13 : decode cX9_mayWorkLeg 13 = .ok (.aload_n 1, 1) := by decide +kernel
theorem dX9_mayWorkLeg_14 : decode cX9_mayWorkLeg 14 = .ok (.iload_n 2, 1) := by decide +kernel
theorem dX9_mayWorkLeg_15 : decode cX9_mayWorkLeg 15 = .ok (.iconst 1, 1) := by decide +kernel
theorem dX9_mayWorkLeg_16 : decode cX9_mayWorkLeg 16 = .ok (.invokevirtual 138, 3) := by decide +kernel
theorem dX9_mayWorkLeg_19 : decode cX9_mayWorkLeg 19 = .ok (.iconst 0, 1) := by decide +kernel
theorem dX9_mayWorkLeg_20 : decode cX9_mayWorkLeg 20 = .ok (.invokestatic 317, 3) := by decide +kernel
theorem dX9_mayWorkLeg_23 : decode cX9_mayWorkLeg 23 = .ok (.istore 5, 2) := by decide +kernel
theorem dX9_mayWorkLeg_25 : decode cX9_mayWorkLeg 25 = .ok (.iload 5, 2) := by decide +kernel
theorem dX9_mayWorkLeg_27 : decode cX9_mayWorkLeg 27 = .ok (.iload 4, 2) := by decide +kernel
theorem dX9_mayWorkLeg_29 : decode cX9_mayWorkLeg 29 = .ok (.if_icmp .ge 30, 3) := by decide +kernel
theorem dX9_mayWorkLeg_32 : decode cX9_mayWorkLeg 32 = .ok (.aload_n 0, 1) := by decide +kernel
theorem dX9_mayWorkLeg_33 : decode cX9_mayWorkLeg 33 = .ok (.getfield 34, 3) := by decide +kernel
theorem dX9_mayWorkLeg_36 : decode cX9_mayWorkLeg 36 = .ok (.iload_n 3, 1) := by decide +kernel
theorem dX9_mayWorkLeg_37 : decode cX9_mayWorkLeg 37 = .ok (.iload 5, 2) := by decide +kernel
theorem dX9_mayWorkLeg_39 : decode cX9_mayWorkLeg 39 = .ok (.aload_n 1, 1) := by decide +kernel
theorem dX9_mayWorkLeg_40 : decode cX9_mayWorkLeg 40 = .ok (.iload_n 2, 1) := by decide +kernel
theorem dX9_mayWorkLeg_41 : decode cX9_mayWorkLeg 41 = .ok (.iconst 0, 1) := by decide +kernel
theorem dX9_mayWorkLeg_42 : decode cX9_mayWorkLeg 42 = .ok (.invokevirtual 138, 3) := by decide +kernel
theorem dX9_mayWorkLeg_45 : decode cX9_mayWorkLeg 45 = .ok (.invokevirtual 385, 3) := by decide +kernel
theorem dX9_mayWorkLeg_48 : decode cX9_mayWorkLeg 48 = .ok (.ifCond .ne 5, 3) := by decide +kernel
theorem dX9_mayWorkLeg_51 : decode cX9_mayWorkLeg 51 = .ok (.iconst 0, 1) := by decide +kernel
theorem dX9_mayWorkLeg_52 : decode cX9_mayWorkLeg 52 = .ok (.ireturn, 1) := by decide +kernel
theorem dX9_mayWorkLeg_53 : decode cX9_mayWorkLeg 53 = .ok (.iinc 5 1, 3) := by decide +kernel
theorem dX9_mayWorkLeg_56 : decode cX9_mayWorkLeg 56 = .ok (.goto (-31), 3) := by decide +kernel
theorem dX9_mayWorkLeg_59 : decode cX9_mayWorkLeg 59 = .ok (.iconst 1, 1) := by decide +kernel
theorem dX9_mayWorkLeg_60 : decode cX9_mayWorkLeg 60 = .ok (.ireturn, 1) := by decide +kernel
def zX9_mayWorkLeg (Qr : Option PV → Mem → Prop) : XZ := (RX9, 1, 40, 6, some FieldType.boolean, Qr)
noncomputable def fX9_mayWorkLeg_b25 (F : Mem) : Nat → Nat → Nat → Int → Int → Int → Int → Option Int
  | 0, _, _, _, _, _, _ => none
  | n + 1, o, x1, x2, x3, x4, x5 =>
    if x4 ≤ x5 then
      some 1
    else
      if x1 = 0 then none else
      (fX3_cell x1 x2 0 F).bind fun r3 =>
      (fX0_mayWork (o + 47) x3 x5 r3 F).bind fun r5 =>
      if r5 ≠ 0 then
        fX9_mayWorkLeg_b25 F n o x1 x2 x3 x4 (xw (x5 + 1))
      else
        some 0
noncomputable def fX9_mayWorkLeg (o : Nat) (x1 : Nat) (x2 : Int) (x3 : Int) (F : Mem) : Option Int :=
  if x1 = 0 then none else
  (fX3_cell x1 x2 2 F).bind fun r2 =>
  if x1 = 0 then none else
  (fX3_cell x1 x2 1 F).bind fun r5 =>
  fX9_mayWorkLeg_b25 F FU o x1 x2 x3 (xmin r2 48) (xmax r5 0)
theorem fX9_mayWorkLeg_b25_ok {Qr : Option PV → Mem → Prop}  (F : Mem) : ∀ (n : Nat) (o : Nat) (x1 : Nat) (x2 : Int) (x3 : Int) (x4 : Int) (x5 : Int) (res : Int) (ho : isK o 9) (hx1 : x1 = 0 ∨ isK x1 3), fX9_mayWorkLeg_b25 F n o x1 x2 x3 x4 x5 = some res → Qr (some (vI res)) F → PR cX9_mayWorkLeg (zX9_mayWorkLeg Qr) 25 [(0, vR o), (1, vR x1), (2, vI x2), (3, vI x3), (4, vI x4), (5, vI x5)] [] F := by
  intro n
  induction n with
  | zero => intro o x1 x2 x3 x4 x5 res ho hx1 h hq; exact nomatch (show (none : Option _) = some _ from h)
  | succ n ih =>
    intro o x1 x2 x3 x4 x5 res ho hx1 h hq
    refine s_iload (j := 5) dX9_mayWorkLeg_25 rfl ?_
    refine s_iload (j := 4) dX9_mayWorkLeg_27 rfl ?_
    refine s_icmp_ge (tgt := 59) dX9_mayWorkLeg_29 rfl (fun hc1 => ?_) (fun hc1 => ?_)
    · have h := ifp hc1 h
      refine s_iconst dX9_mayWorkLeg_59 (cin rfl) ?_
      have h := Option.some.inj h
      subst h
      exact s_zreturn dX9_mayWorkLeg_60 rfl (Or.inr rfl) hq
    · have h := ifn hc1 h
      refine s_aload_n (j := 0) dX9_mayWorkLeg_32 rfl rfl ?_
      refine s_getR dX9_mayWorkLeg_33 flX9_34 ho ?_
      refine s_iload_n (j := 3) dX9_mayWorkLeg_36 rfl rfl ?_
      refine s_iload (j := 5) dX9_mayWorkLeg_37 rfl ?_
      refine s_aload_n (j := 1) dX9_mayWorkLeg_39 rfl rfl ?_
      refine s_iload_n (j := 2) dX9_mayWorkLeg_40 rfl rfl ?_
      refine s_iconst dX9_mayWorkLeg_41 (cin rfl) ?_
      obtain ⟨hn2, h⟩ := gdn h
      obtain ⟨r3, hv4, h⟩ := bnd h
      refine s_callV (As := [vI x2, vI 0]) (rest := [vI x5, vI x3, vR (o + 47)]) (r := (some (vI r3))) (F' := F) dX9_mayWorkLeg_42 (clX9_138 (Nat.le_of_ble_eq_true rfl) (Nat.le_of_ble_eq_true rfl)) (hx1.resolve_left hn2) rfl ⟨_, _, _, _, rfl, (hx1.resolve_left hn2), hv4, rfl, rfl⟩ rfl (Nat.le_of_ble_eq_true rfl) ?_
      obtain ⟨r5, hv6, h⟩ := bnd h
      refine s_callV (As := [vI x3, vI x5, vI r3]) (rest := []) (r := (some (vI r5))) (F' := F) dX9_mayWorkLeg_45 (clX9_385 (Nat.le_of_ble_eq_true rfl) (Nat.le_of_ble_eq_true rfl)) (trX9_4 ho) rfl ⟨_, _, _, _, _, rfl, (trX9_4 ho), hv6, rfl, rfl⟩ rfl (Nat.le_of_ble_eq_true rfl) ?_
      refine s_if_ne (tgt := 53) dX9_mayWorkLeg_48 rfl (fun hc7 => ?_) (fun hc7 => ?_)
      · have h := ifp hc7 h
        refine s_iinc (ls' := [(5, vI (xw (x5 + 1))), (0, vR o), (1, vR x1), (2, vI x2), (3, vI x3), (4, vI x4)]) (j := 5) dX9_mayWorkLeg_53 rfl (Nat.le_of_ble_eq_true rfl) rfl ?_
        refine s_goto (tgt := 25) dX9_mayWorkLeg_56 rfl ?_
        exact s_sub (ks := [1, 2, 3, 4, 5, 0]) rfl (ih o x1 x2 x3 x4 (xw (x5 + 1)) _ ho hx1 h hq)
      · have h := ifn hc7 h
        refine s_iconst dX9_mayWorkLeg_51 (cin rfl) ?_
        have h := Option.some.inj h
        subst h
        exact s_zreturn dX9_mayWorkLeg_52 rfl (Or.inl rfl) hq
theorem fX9_mayWorkLeg_ok {Qr : Option PV → Mem → Prop} : ∀ (o : Nat) (x1 : Nat) (x2 : Int) (x3 : Int) (F : Mem) (res : Int) (ho : isK o 9) (hx1 : x1 = 0 ∨ isK x1 3), fX9_mayWorkLeg o x1 x2 x3 F = some res → Qr (some (vI res)) F → PR cX9_mayWorkLeg (zX9_mayWorkLeg Qr) 0 [(0, vR o), (1, vR x1), (2, vI x2), (3, vI x3)] [] F := by
  intro o x1 x2 x3 F res ho hx1 h hq
  refine s_aload_n (j := 1) dX9_mayWorkLeg_0 rfl rfl ?_
  refine s_iload_n (j := 2) dX9_mayWorkLeg_1 rfl rfl ?_
  refine s_iconst dX9_mayWorkLeg_2 (cin rfl) ?_
  obtain ⟨hn1, h⟩ := gdn h
  obtain ⟨r2, hv3, h⟩ := bnd h
  refine s_callV (As := [vI x2, vI 2]) (rest := []) (r := (some (vI r2))) (F' := F) dX9_mayWorkLeg_3 (clX9_138 (Nat.le_of_ble_eq_true rfl) (Nat.le_of_ble_eq_true rfl)) (hx1.resolve_left hn1) rfl ⟨_, _, _, _, rfl, (hx1.resolve_left hn1), hv3, rfl, rfl⟩ rfl (Nat.le_of_ble_eq_true rfl) ?_
  refine s_bipush dX9_mayWorkLeg_6 rfl (cin rfl) ?_
  refine s_mmin dX9_mayWorkLeg_8 mtX9_312 (Nat.le_of_ble_eq_true rfl) ?_
  refine s_istore (ls' := [(4, vI (xmin r2 48)), (0, vR o), (1, vR x1), (2, vI x2), (3, vI x3)]) dX9_mayWorkLeg_11 (Nat.le_of_ble_eq_true rfl) rfl ?_
  refine s_aload_n (j := 2) dX9_mayWorkLeg_13 rfl rfl ?_
  refine s_iload_n (j := 3) dX9_mayWorkLeg_14 rfl rfl ?_
  refine s_iconst dX9_mayWorkLeg_15 (cin rfl) ?_
  obtain ⟨hn4, h⟩ := gdn h
  obtain ⟨r5, hv6, h⟩ := bnd h
  refine s_callV (As := [vI x2, vI 1]) (rest := []) (r := (some (vI r5))) (F' := F) dX9_mayWorkLeg_16 (clX9_138 (Nat.le_of_ble_eq_true rfl) (Nat.le_of_ble_eq_true rfl)) (hx1.resolve_left hn4) rfl ⟨_, _, _, _, rfl, (hx1.resolve_left hn4), hv6, rfl, rfl⟩ rfl (Nat.le_of_ble_eq_true rfl) ?_
  refine s_iconst dX9_mayWorkLeg_19 (cin rfl) ?_
  refine s_mmax dX9_mayWorkLeg_20 mtX9_317 (Nat.le_of_ble_eq_true rfl) ?_
  refine s_istore dX9_mayWorkLeg_23 (Nat.le_of_ble_eq_true rfl) rfl ?_
  exact s_sub (ks := [2, 3, 4, 5, 1, 0]) rfl (fX9_mayWorkLeg_b25_ok F FU o x1 x2 x3 (xmin r2 48) (xmax r5 0) _ ho hx1 h hq)
def gX9_mayWorkLeg : XG := fun As F r F' => ∃ o : Nat, ∃ x1 : Nat, ∃ x2 : Int, ∃ x3 : Int, ∃ res : Int, As = [vR o, vR x1, vI x2, vI x3] ∧ isK o 9 ∧ (x1 = 0 ∨ isK x1 3) ∧ fX9_mayWorkLeg o x1 x2 x3 F = some res ∧ r = some (vI res) ∧ F' = F
theorem ctX9_mayWorkLeg : xCT yX9_mayWorkLeg cX9_mayWorkLeg 6 (some FieldType.boolean) 1 40 gX9_mayWorkLeg := xmet (by decide +kernel) (fun As F r F' hg => by obtain ⟨o, x1, x2, x3, res, rfl, ho, hx1, h, rfl, rfl⟩ := hg; exact Nat.le_of_ble_eq_true rfl) (fun As F r F' hg => by obtain ⟨o, x1, x2, x3, res, rfl, ho, hx1, h, rfl, rfl⟩ := hg; exact fX9_mayWorkLeg_ok o x1 x2 x3 _ _ ho hx1 h ⟨rfl, rfl⟩)
theorem mcX9_mayWorkLeg : Cond.code yX9_mayWorkLeg cX9_mayWorkLeg 6 (some FieldType.boolean) ∈ xw_T ∧ Cond.initialized yX9_mayWorkLeg.cls ∈ xw_T ∧ Cond.instanceMethod yX9_mayWorkLeg ∈ xw_T ∧ Cond.selects yX9_mayWorkLeg.cls yX9_mayWorkLeg yX9_mayWorkLeg ∈ xw_T := ⟨(xinT 983 (by decide +kernel) (by decide +kernel)), (xinT 116 (by decide +kernel) (by decide +kernel)), (xinT 982 (by decide +kernel) (by decide +kernel)), (xinT 25 (by decide +kernel) (by decide +kernel))⟩
theorem clX9_238 {fr lo : Nat} (h1 : 1 + 1 ≤ fr) (h2 : 8 + (6 + 11) + 40 ≤ lo) : xCall RX9 fr lo 0 238 9 3 gX9_mayWorkLeg := ⟨_, _, _, _, _, _, ctX9_mayWorkLeg, h1, h2, mcX9_mayWorkLeg.1, (xinT 980 (by decide +kernel) (by decide +kernel)), mcX9_mayWorkLeg.2.1, ⟨by decide +kernel, by decide +kernel, by decide +kernel⟩, by rw [if_pos rfl]; exact ⟨mcX9_mayWorkLeg.2.2.1, mcX9_mayWorkLeg.2.2.2, _, _, rfl⟩⟩
theorem dX9_lawful_0 : decode cX9_lawful 0 = .ok (.aload_n 0, 1) := by decide +kernel
theorem dX9_lawful_1 : decode cX9_lawful 1 = .ok (.iload_n 3, 1) := by decide +kernel
theorem dX9_lawful_2 : decode cX9_lawful 2 = .ok (.iload 4, 2) := by decide +kernel
theorem dX9_lawful_4 : decode cX9_lawful 4 = .ok (.invokevirtual 216, 3) := by decide +kernel
theorem dX9_lawful_7 : decode cX9_lawful 7 = .ok (.ifCond .eq 20, 3) := by decide +kernel
theorem dX9_lawful_10 : decode cX9_lawful 10 = .ok (.iload 5, 2) := by decide +kernel
theorem dX9_lawful_12 : decode cX9_lawful 12 = .ok (.invokestatic 219, 3) := by decide +kernel
theorem dX9_lawful_15 : decode cX9_lawful 15 = .ok (.ifCond .eq 12, 3) := by decide +kernel
theorem dX9_lawful_18 : decode cX9_lawful 18 = .ok (.aload_n 0, 1) := by decide +kernel
theorem dX9_lawful_19 : decode cX9_lawful 19 = .ok (.iload_n 1, 1) := by decide +kernel
theorem dX9_lawful_20 : decode cX9_lawful 20 = .ok (.iload_n 2, 1) := by decide +kernel
theorem dX9_lawful_21 : decode cX9_lawful 21 = .ok (.invokevirtual 168, 3) := by decide +kernel
theorem dX9_lawful_24 : decode cX9_lawful 24 = .ok (.ifCond .ne 6, 3) := by decide +kernel
theorem dX9_lawful_27 : decode cX9_lawful 27 = .ok (.bipush (-2), 2) := by decide +kernel
theorem dX9_lawful_29 : decode cX9_lawful 29 = .ok (.ireturn, 1) := by decide +kernel
theorem dX9_lawful_30 : decode cX9_lawful 30 = .ok (.aload_n 0, 1) := by decide +kernel
theorem dX9_lawful_31 : decode cX9_lawful 31 = .ok (.getfield 10, 3) := by decide +kernel
theorem dX9_lawful_34 : decode cX9_lawful 34 = .ok (.iconst 1, 1) := by decide +kernel
theorem dX9_lawful_35 : decode cX9_lawful 35 = .ok (.iload_n 2, 1) := by decide +kernel
theorem dX9_lawful_36 : decode cX9_lawful 36 = .ok (.invokevirtual 152, 3) := by decide +kernel
theorem dX9_lawful_39 : decode cX9_lawful 39 = .ok (.astore 6, 2) := by decide +kernel
theorem dX9_lawful_41 : decode cX9_lawful 41 = .ok (.iconst 0, 1) := by decide +kernel
theorem dX9_lawful_42 : decode cX9_lawful 42 = .ok (.istore 7, 2) := by decide +kernel
theorem dX9_lawful_44 : decode cX9_lawful 44 = .ok (.aload 6, 2) := by decide +kernel
theorem dX9_lawful_46 : decode cX9_lawful 46 = .ok (.ifnull 37, 3) := by decide +kernel
theorem dX9_lawful_49 : decode cX9_lawful 49 = .ok (.iload 7, 2) := by decide +kernel
theorem dX9_lawful_51 : decode cX9_lawful 51 = .ok (.aload_n 0, 1) := by decide +kernel
theorem dX9_lawful_52 : decode cX9_lawful 52 = .ok (.getfield 44, 3) := by decide +kernel
theorem dX9_lawful_55 : decode cX9_lawful 55 = .ok (.getfield 172, 3) := by decide +kernel
theorem dX9_lawful_58 : decode cX9_lawful 58 = .ok (.if_icmp .ge 25, 3) := by decide +kernel
theorem dX9_lawful_61 : decode cX9_lawful 61 = .ok (.aload_n 0, 1) := by decide +kernel
theorem dX9_lawful_62 : decode cX9_lawful 62 = .ok (.aload 6, 2) := by decide +kernel
theorem dX9_lawful_64 : decode cX9_lawful 64 = .ok (.iload 7, 2) := by decide +kernel
theorem dX9_lawful_66 : decode cX9_lawful 66 = .ok (.iload 5, 2) := by decide +kernel
theorem dX9_lawful_68 : decode cX9_lawful 68 = .ok (.invokevirtual 238, 3) := by decide +kernel
theorem dX9_lawful_71 : decode cX9_lawful 71 = .ok (.ifCond .ne 6, 3) := by decide +kernel
theorem dX9_lawful_74 : decode cX9_lawful 74 = .ok (.iload 7, 2) := by decide +kernel
theorem dX9_lawful_76 : decode cX9_lawful 76 = .ok (.ireturn, 1) := by decide +kernel
theorem dX9_lawful_77 : decode cX9_lawful 77 = .ok (.iinc 7 1, 3) := by decide +kernel
theorem dX9_lawful_80 : decode cX9_lawful 80 = .ok (.goto (-36), 3) := by decide +kernel
theorem dX9_lawful_83 : decode cX9_lawful 83 = .ok (.iconst (-1), 1) := by decide +kernel
theorem dX9_lawful_84 : decode cX9_lawful 84 = .ok (.ireturn, 1) := by decide +kernel
def zX9_lawful (Qr : Option PV → Mem → Prop) : XZ := (RX9, 5, 117, 8, some FieldType.int, Qr)
noncomputable def fX9_lawful_b44 : Nat → Nat → Int → Nat → Int → Mem → Option (Int × Mem)
  | 0, _, _, _, _, _ => none
  | n + 1, o, x5, x6, x7, F =>
    if x6 = 0 then
      some ((-1), F)
    else
      if (F (o + 59) 1) ≤ x7 then
        some ((-1), F)
      else
        (fX9_mayWorkLeg o x6 x7 x5 F).bind fun r3 =>
        if r3 ≠ 0 then
          fX9_lawful_b44 n o x5 x6 (xw (x7 + 1)) F
        else
          some (x7, F)
noncomputable def fX9_lawful (o : Nat) (x1 : Int) (x2 : Int) (x3 : Int) (x4 : Int) (x5 : Int) (F : Mem) : Option (Int × Mem) :=
  (fX9_isState o x3 x4 F).bind fun q1 =>
  if q1.1 = 0 then
    some ((-2), q1.2)
  else
    if (fX9_isDay x5) = 0 then
      some ((-2), q1.2)
    else
      (fX9_isWalked o x1 x2 q1.2).bind fun q5 =>
      if q5.1 ≠ 0 then
        (fX4_sheetAt (o + 1) 1 x2 q5.2).bind fun r8 =>
        fX9_lawful_b44 FU o x5 r8 0 q5.2
      else
        some ((-2), q5.2)
theorem fX9_lawful_b44_ok {Qr : Option PV → Mem → Prop}  : ∀ (n : Nat) (o : Nat) (x5 : Int) (x6 : Nat) (x7 : Int) (F : Mem) (res : (Int × Mem)) (ho : isK o 9) (hx6 : x6 = 0 ∨ isK x6 3), fX9_lawful_b44 n o x5 x6 x7 F = some res → Qr (some (vI res.1)) res.2 → PR cX9_lawful (zX9_lawful Qr) 44 [(0, vR o), (5, vI x5), (6, vR x6), (7, vI x7)] [] F := by
  intro n
  induction n with
  | zero => intro o x5 x6 x7 F res ho hx6 h hq; exact nomatch (show (none : Option _) = some _ from h)
  | succ n ih =>
    intro o x5 x6 x7 F res ho hx6 h hq
    refine s_aload (j := 2) dX9_lawful_44 rfl ?_
    refine s_ifnull (tgt := 83) dX9_lawful_46 rfl (fun hc1 => ?_) (fun hc1 => ?_)
    · have h := ifp hc1 h
      refine s_iconst dX9_lawful_83 (cin rfl) ?_
      have h := Option.some.inj h
      subst h
      exact s_ireturn dX9_lawful_84 rfl hq
    · have h := ifn hc1 h
      refine s_iload (j := 3) dX9_lawful_49 rfl ?_
      refine s_aload_n (j := 0) dX9_lawful_51 rfl rfl ?_
      refine s_getR dX9_lawful_52 flX9_44 ho ?_
      refine s_getI dX9_lawful_55 flX9_172 (trX9_6 ho) ?_
      refine s_icmp_ge (tgt := 83) dX9_lawful_58 rfl (fun hc2 => ?_) (fun hc2 => ?_)
      · have h := ifp hc2 h
        refine s_iconst dX9_lawful_83 (cin rfl) ?_
        have h := Option.some.inj h
        subst h
        exact s_ireturn dX9_lawful_84 rfl hq
      · have h := ifn hc2 h
        refine s_aload_n (j := 0) dX9_lawful_61 rfl rfl ?_
        refine s_aload (j := 2) dX9_lawful_62 rfl ?_
        refine s_iload (j := 3) dX9_lawful_64 rfl ?_
        refine s_iload (j := 1) dX9_lawful_66 rfl ?_
        obtain ⟨r3, hv4, h⟩ := bnd h
        refine s_callV (As := [vR x6, vI x7, vI x5]) (rest := []) (r := (some (vI r3))) (F' := F) dX9_lawful_68 (clX9_238 (Nat.le_of_ble_eq_true rfl) (Nat.le_of_ble_eq_true rfl)) ho rfl ⟨_, _, _, _, _, rfl, ho, (Or.inr (hx6.resolve_left hc1)), hv4, rfl, rfl⟩ rfl (Nat.le_of_ble_eq_true rfl) ?_
        refine s_if_ne (tgt := 77) dX9_lawful_71 rfl (fun hc5 => ?_) (fun hc5 => ?_)
        · have h := ifp hc5 h
          refine s_iinc (ls' := [(7, vI (xw (x7 + 1))), (0, vR o), (5, vI x5), (6, vR x6)]) (j := 3) dX9_lawful_77 rfl (Nat.le_of_ble_eq_true rfl) rfl ?_
          refine s_goto (tgt := 44) dX9_lawful_80 rfl ?_
          exact s_sub (ks := [1, 2, 3, 0]) rfl (ih o x5 x6 (xw (x7 + 1)) F _ ho (Or.inr (hx6.resolve_left hc1)) h hq)
        · have h := ifn hc5 h
          refine s_iload (j := 3) dX9_lawful_74 rfl ?_
          have h := Option.some.inj h
          subst h
          exact s_ireturn dX9_lawful_76 rfl hq
theorem fX9_lawful_ok {Qr : Option PV → Mem → Prop} : ∀ (o : Nat) (x1 : Int) (x2 : Int) (x3 : Int) (x4 : Int) (x5 : Int) (F : Mem) (res : (Int × Mem)) (ho : isK o 9), fX9_lawful o x1 x2 x3 x4 x5 F = some res → Qr (some (vI res.1)) res.2 → PR cX9_lawful (zX9_lawful Qr) 0 [(0, vR o), (1, vI x1), (2, vI x2), (3, vI x3), (4, vI x4), (5, vI x5)] [] F := by
  intro o x1 x2 x3 x4 x5 F res ho h hq
  refine s_aload_n (j := 0) dX9_lawful_0 rfl rfl ?_
  refine s_iload_n (j := 3) dX9_lawful_1 rfl rfl ?_
  refine s_iload (j := 4) dX9_lawful_2 rfl ?_
  obtain ⟨q1, hv2, h⟩ := bnd h
  refine s_callV (As := [vI x3, vI x4]) (rest := []) (r := (some (vI q1.1))) (F' := q1.2) dX9_lawful_4 (clX9_216 (Nat.le_of_ble_eq_true rfl) (Nat.le_of_ble_eq_true rfl)) ho rfl ⟨_, _, _, _, rfl, ho, hv2, rfl, rfl⟩ rfl (Nat.le_of_ble_eq_true rfl) ?_
  refine s_if_eq (tgt := 27) dX9_lawful_7 rfl (fun hc3 => ?_) (fun hc3 => ?_)
  · have h := ifp hc3 h
    refine s_bipush dX9_lawful_27 rfl (cin rfl) ?_
    have h := Option.some.inj h
    subst h
    exact s_ireturn dX9_lawful_29 rfl hq
  · have h := ifn hc3 h
    refine s_iload (j := 5) dX9_lawful_10 rfl ?_
    refine s_callS (As := [vI x5]) (rest := []) (r := (some (vI (fX9_isDay x5)))) (F' := q1.2) dX9_lawful_12 (clX9_219 (Nat.le_of_ble_eq_true rfl) (Nat.le_of_ble_eq_true rfl)) rfl ⟨_, _, rfl, rfl, rfl, rfl⟩ rfl (Nat.le_of_ble_eq_true rfl) ?_
    refine s_if_eq (tgt := 27) dX9_lawful_15 rfl (fun hc4 => ?_) (fun hc4 => ?_)
    · have h := ifp hc4 h
      refine s_bipush dX9_lawful_27 rfl (cin rfl) ?_
      have h := Option.some.inj h
      subst h
      exact s_ireturn dX9_lawful_29 rfl hq
    · have h := ifn hc4 h
      refine s_aload_n (j := 0) dX9_lawful_18 rfl rfl ?_
      refine s_iload_n (j := 1) dX9_lawful_19 rfl rfl ?_
      refine s_iload_n (j := 2) dX9_lawful_20 rfl rfl ?_
      obtain ⟨q5, hv6, h⟩ := bnd h
      refine s_callV (As := [vI x1, vI x2]) (rest := []) (r := (some (vI q5.1))) (F' := q5.2) dX9_lawful_21 (clX9_168 (Nat.le_of_ble_eq_true rfl) (Nat.le_of_ble_eq_true rfl)) ho rfl ⟨_, _, _, _, rfl, ho, hv6, rfl, rfl⟩ rfl (Nat.le_of_ble_eq_true rfl) ?_
      refine s_if_ne (tgt := 30) dX9_lawful_24 rfl (fun hc7 => ?_) (fun hc7 => ?_)
      · have h := ifp hc7 h
        refine s_aload_n (j := 0) dX9_lawful_30 rfl rfl ?_
        refine s_getR dX9_lawful_31 flX9_10 ho ?_
        refine s_iconst dX9_lawful_34 (cin rfl) ?_
        refine s_iload_n (j := 2) dX9_lawful_35 rfl rfl ?_
        obtain ⟨r8, hv9, h⟩ := bnd h
        refine s_callV (As := [vI 1, vI x2]) (rest := []) (r := (some (vR r8))) (F' := q5.2) dX9_lawful_36 (clX9_152 (Nat.le_of_ble_eq_true rfl) (Nat.le_of_ble_eq_true rfl)) (trX9_0 ho) rfl ⟨_, _, _, _, rfl, (trX9_0 ho), hv9, rfl, rfl⟩ rfl (Nat.le_of_ble_eq_true rfl) ?_
        refine s_astore (ls' := [(6, vR r8), (0, vR o), (1, vI x1), (2, vI x2), (3, vI x3), (4, vI x4), (5, vI x5)]) dX9_lawful_39 (Nat.le_of_ble_eq_true rfl) rfl ?_
        refine s_iconst dX9_lawful_41 (cin rfl) ?_
        refine s_istore dX9_lawful_42 (Nat.le_of_ble_eq_true rfl) rfl ?_
        exact s_sub (ks := [2, 7, 1, 0]) rfl (fX9_lawful_b44_ok FU o x5 r8 0 q5.2 _ ho (fX4_sheetAt_rt _ _ _ _ _ (trX9_0 ho) hv9) h hq)
      · have h := ifn hc7 h
        refine s_bipush dX9_lawful_27 rfl (cin rfl) ?_
        have h := Option.some.inj h
        subst h
        exact s_ireturn dX9_lawful_29 rfl hq
def gX9_lawful : XG := fun As F r F' => ∃ o : Nat, ∃ x1 : Int, ∃ x2 : Int, ∃ x3 : Int, ∃ x4 : Int, ∃ x5 : Int, ∃ res : (Int × Mem), As = [vR o, vI x1, vI x2, vI x3, vI x4, vI x5] ∧ isK o 9 ∧ fX9_lawful o x1 x2 x3 x4 x5 F = some res ∧ r = some (vI res.1) ∧ F' = res.2
theorem ctX9_lawful : xCT yX9_lawful cX9_lawful 8 (some FieldType.int) 5 117 gX9_lawful := xmet (by decide +kernel) (fun As F r F' hg => by obtain ⟨o, x1, x2, x3, x4, x5, res, rfl, ho, h, rfl, rfl⟩ := hg; exact Nat.le_of_ble_eq_true rfl) (fun As F r F' hg => by obtain ⟨o, x1, x2, x3, x4, x5, res, rfl, ho, h, rfl, rfl⟩ := hg; exact fX9_lawful_ok o x1 x2 x3 x4 x5 _ _ ho h ⟨rfl, rfl⟩)
theorem mcX9_lawful : Cond.code yX9_lawful cX9_lawful 8 (some FieldType.int) ∈ xw_T ∧ Cond.initialized yX9_lawful.cls ∈ xw_T ∧ Cond.instanceMethod yX9_lawful ∈ xw_T ∧ Cond.selects yX9_lawful.cls yX9_lawful yX9_lawful ∈ xw_T := ⟨(xinT 979 (by decide +kernel) (by decide +kernel)), (xinT 116 (by decide +kernel) (by decide +kernel)), (xinT 977 (by decide +kernel) (by decide +kernel)), (xinT 978 (by decide +kernel) (by decide +kernel))⟩
theorem dX9_cross_0 : decode cX9_cross 0 = .ok (.aload_n 0, 1) := by decide +kernel
theorem dX9_cross_1 : decode cX9_cross 1 = .ok (.getfield 10, 3) := by decide +kernel
theorem dX9_cross_4 : decode cX9_cross 4 = .ok (.iconst 2, 1) := by decide +kernel
theorem dX9_cross_5 : decode cX9_cross 5 = .ok (.iload_n 1, 1) := by decide +kernel
theorem dX9_cross_6 : decode cX9_cross 6 = .ok (.invokevirtual 152, 3) := by decide +kernel
theorem dX9_cross_9 : decode cX9_cross 9 = .ok (.astore_n 3, 1) := by decide +kernel
theorem dX9_cross_10 : decode cX9_cross 10 = .ok (.aload_n 0, 1) := by decide +kernel
theorem dX9_cross_11 : decode cX9_cross 11 = .ok (.getfield 10, 3) := by decide +kernel
theorem dX9_cross_14 : decode cX9_cross 14 = .ok (.iconst 2, 1) := by decide +kernel
theorem dX9_cross_15 : decode cX9_cross 15 = .ok (.iload_n 2, 1) := by decide +kernel
theorem dX9_cross_16 : decode cX9_cross 16 = .ok (.invokevirtual 152, 3) := by decide +kernel
theorem dX9_cross_19 : decode cX9_cross 19 = .ok (.astore 4, 2) := by decide +kernel
theorem dX9_cross_21 : decode cX9_cross 21 = .ok (.aload_n 3, 1) := by decide +kernel
theorem dX9_cross_22 : decode cX9_cross 22 = .ok (.ifnull 8, 3) := by decide +kernel
theorem dX9_cross_25 : decode cX9_cross 25 = .ok (.aload 4, 2) := by decide +kernel
theorem dX9_cross_27 : decode cX9_cross 27 = .ok (.ifnonnull 5, 3) := by decide +kernel
theorem dX9_cross_30 : decode cX9_cross 30 = .ok (.iconst (-1), 1) := by decide +kernel
theorem dX9_cross_31 : decode cX9_cross 31 = .ok (.ireturn, 1) := by decide +kernel
theorem dX9_cross_32 : decode cX9_cross 32 = .ok (.aload_n 0, 1) := by decide +kernel
theorem dX9_cross_33 : decode cX9_cross 33 = .ok (.getfield 34, 3) := by decide +kernel
theorem dX9_cross_36 : decode cX9_cross 36 = .ok (.aload_n 3, 1) := by decide +kernel
theorem dX9_cross_37 : decode cX9_cross 37 = .ok (.aload_n 3, 1) := by decide +kernel
theorem dX9_cross_38 : decode cX9_cross 38 = .ok (.getfield 130, 3) := by decide +kernel
theorem dX9_cross_41 : decode cX9_cross 41 = .ok (.invokevirtual 212, 3) := by decide +kernel
theorem dX9_cross_44 : decode cX9_cross 44 = .ok (.pop, 1) := by decide +kernel
theorem dX9_cross_45 : decode cX9_cross 45 = .ok (.aload_n 0, 1) := by decide +kernel
theorem dX9_cross_46 : decode cX9_cross 46 = .ok (.getfield 38, 3) := by decide +kernel
theorem dX9_cross_49 : decode cX9_cross 49 = .ok (.aload 4, 2) := by decide +kernel
theorem dX9_cross_51 : decode cX9_cross 51 = .ok (.aload 4, 2) := by decide +kernel
theorem dX9_cross_53 : decode cX9_cross 53 = .ok (.getfield 130, 3) := by decide +kernel
theorem dX9_cross_56 : decode cX9_cross 56 = .ok (.invokevirtual 212, 3) := by decide +kernel
theorem dX9_cross_59 : decode cX9_cross 59 = .ok (.pop, 1) := by decide +kernel
theorem dX9_cross_60 : decode cX9_cross 60 = .ok (.aload_n 0, 1) := by decide +kernel
theorem dX9_cross_61 : decode cX9_cross 61 = .ok (.getfield 34, 3) := by decide +kernel
theorem dX9_cross_64 : decode cX9_cross 64 = .ok (.aload_n 0, 1) := by decide +kernel
theorem dX9_cross_65 : decode cX9_cross 65 = .ok (.getfield 38, 3) := by decide +kernel
theorem dX9_cross_68 : decode cX9_cross 68 = .ok (.invokevirtual 242, 3) := by decide +kernel
theorem dX9_cross_71 : decode cX9_cross 71 = .ok (.ireturn, 1) := by decide +kernel
def zX9_cross (Qr : Option PV → Mem → Prop) : XZ := (RX9, 4, 93, 5, some FieldType.int, Qr)
noncomputable def fX9_cross (o : Nat) (x1 : Int) (x2 : Int) (F : Mem) : Option (Int × Mem) :=
  (fX4_sheetAt (o + 1) 2 x1 F).bind fun r1 =>
  (fX4_sheetAt (o + 1) 2 x2 F).bind fun r3 =>
  if r1 = 0 then
    some ((-1), F)
  else
    if r3 = 0 then
      some ((-1), F)
    else
      (fX0_replay (o + 47) r1 (F r1 3) F).bind fun q7 =>
      (fX0_replay (o + 53) r3 (q7.2 r3 3) q7.2).bind fun q9 =>
      (fX0_slotsHeldUnlike (o + 47) (o + 53) q9.2).bind fun r11 =>
      some (r11, q9.2)
theorem fX9_cross_ok {Qr : Option PV → Mem → Prop} : ∀ (o : Nat) (x1 : Int) (x2 : Int) (F : Mem) (res : (Int × Mem)) (ho : isK o 9), fX9_cross o x1 x2 F = some res → Qr (some (vI res.1)) res.2 → PR cX9_cross (zX9_cross Qr) 0 [(0, vR o), (1, vI x1), (2, vI x2)] [] F := by
  intro o x1 x2 F res ho h hq
  refine s_aload_n (j := 0) dX9_cross_0 rfl rfl ?_
  refine s_getR dX9_cross_1 flX9_10 ho ?_
  refine s_iconst dX9_cross_4 (cin rfl) ?_
  refine s_iload_n (j := 1) dX9_cross_5 rfl rfl ?_
  obtain ⟨r1, hv2, h⟩ := bnd h
  refine s_callV (As := [vI 2, vI x1]) (rest := []) (r := (some (vR r1))) (F' := F) dX9_cross_6 (clX9_152 (Nat.le_of_ble_eq_true rfl) (Nat.le_of_ble_eq_true rfl)) (trX9_0 ho) rfl ⟨_, _, _, _, rfl, (trX9_0 ho), hv2, rfl, rfl⟩ rfl (Nat.le_of_ble_eq_true rfl) ?_
  refine s_astore_n (ls' := [(3, vR r1), (0, vR o), (1, vI x1), (2, vI x2)]) dX9_cross_9 rfl (Nat.le_of_ble_eq_true rfl) rfl ?_
  refine s_aload_n (j := 1) dX9_cross_10 rfl rfl ?_
  refine s_getR dX9_cross_11 flX9_10 ho ?_
  refine s_iconst dX9_cross_14 (cin rfl) ?_
  refine s_iload_n (j := 3) dX9_cross_15 rfl rfl ?_
  obtain ⟨r3, hv4, h⟩ := bnd h
  refine s_callV (As := [vI 2, vI x2]) (rest := []) (r := (some (vR r3))) (F' := F) dX9_cross_16 (clX9_152 (Nat.le_of_ble_eq_true rfl) (Nat.le_of_ble_eq_true rfl)) (trX9_0 ho) rfl ⟨_, _, _, _, rfl, (trX9_0 ho), hv4, rfl, rfl⟩ rfl (Nat.le_of_ble_eq_true rfl) ?_
  refine s_astore dX9_cross_19 (Nat.le_of_ble_eq_true rfl) rfl ?_
  refine s_aload_n (j := 1) dX9_cross_21 rfl rfl ?_
  refine s_ifnull (tgt := 30) dX9_cross_22 rfl (fun hc5 => ?_) (fun hc5 => ?_)
  · have h := ifp hc5 h
    refine s_iconst dX9_cross_30 (cin rfl) ?_
    have h := Option.some.inj h
    subst h
    exact s_ireturn dX9_cross_31 rfl hq
  · have h := ifn hc5 h
    refine s_aload (j := 0) dX9_cross_25 rfl ?_
    refine s_ifnonnull (tgt := 32) dX9_cross_27 rfl (fun hc6 => ?_) (fun hc6 => ?_)
    · have h := ifn hc6 h
      refine s_aload_n (j := 2) dX9_cross_32 rfl rfl ?_
      refine s_getR dX9_cross_33 flX9_34 ho ?_
      refine s_aload_n (j := 1) dX9_cross_36 rfl rfl ?_
      refine s_aload_n (j := 1) dX9_cross_37 rfl rfl ?_
      refine s_getI dX9_cross_38 flX9_130 ((fX4_sheetAt_rt _ _ _ _ _ (trX9_0 ho) hv2).resolve_left hc5) ?_
      obtain ⟨q7, hv8, h⟩ := bnd h
      refine s_callV (As := [vR r1, vI (F r1 3)]) (rest := []) (r := (some (vI q7.1))) (F' := q7.2) dX9_cross_41 (clX9_212 (Nat.le_of_ble_eq_true rfl) (Nat.le_of_ble_eq_true rfl)) (trX9_4 ho) rfl ⟨_, _, _, _, rfl, (trX9_4 ho), (Or.inr ((fX4_sheetAt_rt _ _ _ _ _ (trX9_0 ho) hv2).resolve_left hc5)), hv8, rfl, rfl⟩ rfl (Nat.le_of_ble_eq_true rfl) ?_
      refine s_pop dX9_cross_44 rfl ?_
      refine s_aload_n (j := 2) dX9_cross_45 rfl rfl ?_
      refine s_getR dX9_cross_46 flX9_38 ho ?_
      refine s_aload (j := 0) dX9_cross_49 rfl ?_
      refine s_aload (j := 0) dX9_cross_51 rfl ?_
      refine s_getI dX9_cross_53 flX9_130 ((fX4_sheetAt_rt _ _ _ _ _ (trX9_0 ho) hv4).resolve_left hc6) ?_
      obtain ⟨q9, hv10, h⟩ := bnd h
      refine s_callV (As := [vR r3, vI (q7.2 r3 3)]) (rest := []) (r := (some (vI q9.1))) (F' := q9.2) dX9_cross_56 (clX9_212 (Nat.le_of_ble_eq_true rfl) (Nat.le_of_ble_eq_true rfl)) (trX9_5 ho) rfl ⟨_, _, _, _, rfl, (trX9_5 ho), (Or.inr ((fX4_sheetAt_rt _ _ _ _ _ (trX9_0 ho) hv4).resolve_left hc6)), hv10, rfl, rfl⟩ rfl (Nat.le_of_ble_eq_true rfl) ?_
      refine s_pop dX9_cross_59 rfl ?_
      refine s_aload_n (j := 2) dX9_cross_60 rfl rfl ?_
      refine s_getR dX9_cross_61 flX9_34 ho ?_
      refine s_aload_n (j := 2) dX9_cross_64 rfl rfl ?_
      refine s_getR dX9_cross_65 flX9_38 ho ?_
      obtain ⟨r11, hv12, h⟩ := bnd h
      refine s_callV (As := [vR (o + 53)]) (rest := []) (r := (some (vI r11))) (F' := q9.2) dX9_cross_68 (clX9_242 (Nat.le_of_ble_eq_true rfl) (Nat.le_of_ble_eq_true rfl)) (trX9_4 ho) rfl ⟨_, _, _, rfl, (trX9_4 ho), (Or.inr (trX9_5 ho)), hv12, rfl, rfl⟩ rfl (Nat.le_of_ble_eq_true rfl) ?_
      have h := Option.some.inj h
      subst h
      exact s_ireturn dX9_cross_71 rfl hq
    · have h := ifp hc6 h
      refine s_iconst dX9_cross_30 (cin rfl) ?_
      have h := Option.some.inj h
      subst h
      exact s_ireturn dX9_cross_31 rfl hq
def gX9_cross : XG := fun As F r F' => ∃ o : Nat, ∃ x1 : Int, ∃ x2 : Int, ∃ res : (Int × Mem), As = [vR o, vI x1, vI x2] ∧ isK o 9 ∧ fX9_cross o x1 x2 F = some res ∧ r = some (vI res.1) ∧ F' = res.2
theorem ctX9_cross : xCT yX9_cross cX9_cross 5 (some FieldType.int) 4 93 gX9_cross := xmet (by decide +kernel) (fun As F r F' hg => by obtain ⟨o, x1, x2, res, rfl, ho, h, rfl, rfl⟩ := hg; exact Nat.le_of_ble_eq_true rfl) (fun As F r F' hg => by obtain ⟨o, x1, x2, res, rfl, ho, h, rfl, rfl⟩ := hg; exact fX9_cross_ok o x1 x2 _ _ ho h ⟨rfl, rfl⟩)
theorem mcX9_cross : Cond.code yX9_cross cX9_cross 5 (some FieldType.int) ∈ xw_T ∧ Cond.initialized yX9_cross.cls ∈ xw_T ∧ Cond.instanceMethod yX9_cross ∈ xw_T ∧ Cond.selects yX9_cross.cls yX9_cross yX9_cross ∈ xw_T := ⟨(xinT 993 (by decide +kernel) (by decide +kernel)), (xinT 116 (by decide +kernel) (by decide +kernel)), (xinT 991 (by decide +kernel) (by decide +kernel)), (xinT 992 (by decide +kernel) (by decide +kernel))⟩
theorem dX9_isLaidOut_0 : decode cX9_isLaidOut 0 = .ok (.aload_n 0, 1) := by decide +kernel
theorem dX9_isLaidOut_1 : decode cX9_isLaidOut 1 = .ok (.getfield 10, 3) := by decide +kernel
theorem dX9_isLaidOut_4 : decode cX9_isLaidOut 4 = .ok (.iload_n 1, 1) := by decide +kernel
theorem dX9_isLaidOut_5 : decode cX9_isLaidOut 5 = .ok (.invokevirtual 105, 3) := by decide +kernel
theorem dX9_isLaidOut_8 : decode cX9_isLaidOut 8 = .ok (.astore 6, 2) := by decide +kernel
theorem dX9_isLaidOut_10 : decode cX9_isLaidOut 10 = .ok (.aload 6, 2) := by decide +kernel
theorem dX9_isLaidOut_12 : decode cX9_isLaidOut 12 = .ok (.ifnull 33, 3) := by decide +kernel
theorem dX9_isLaidOut_15 : decode cX9_isLaidOut 15 = .ok (.iload 4, 2) := by decide +kernel
theorem dX9_isLaidOut_17 : decode cX9_isLaidOut 17 = .ok (.invokestatic 219, 3) := by decide +kernel
theorem dX9_isLaidOut_20 : decode cX9_isLaidOut 20 = .ok (.ifCond .eq 25, 3) := by decide +kernel
theorem dX9_isLaidOut_23 : decode cX9_isLaidOut 23 = .ok (.iload 5, 2) := by decide +kernel
theorem dX9_isLaidOut_25 : decode cX9_isLaidOut 25 = .ok (.iconst 1, 1) := by decide +kernel
theorem dX9_isLaidOut_26 : decode cX9_isLaidOut 26 = .ok (.if_icmp .lt 19, 3) := by decide +kernel
theorem dX9_isLaidOut_29 : decode cX9_isLaidOut 29 = .ok (.iload 5, 2) := by decide +kernel
theorem dX9_isLaidOut_31 : decode cX9_isLaidOut 31 = .ok (.bipush 7, 2) := by decide +kernel
theorem dX9_isLaidOut_33 : decode cX9_isLaidOut 33 = .ok (.if_icmp .gt 12, 3) := by decide +kernel
theorem dX9_isLaidOut_36 : decode cX9_isLaidOut 36 = .ok (.aload_n 0, 1) := by decide +kernel
theorem dX9_isLaidOut_37 : decode cX9_isLaidOut 37 = .ok (.iload_n 2, 1) := by decide +kernel
theorem dX9_isLaidOut_38 : decode cX9_isLaidOut 38 = .ok (.iload_n 3, 1) := by decide +kernel
theorem dX9_isLaidOut_39 : decode cX9_isLaidOut 39 = .ok (.invokevirtual 216, 3) := by decide +kernel
theorem dX9_isLaidOut_42 : decode cX9_isLaidOut 42 = .ok (.ifCond .ne 5, 3) := by decide +kernel
theorem dX9_isLaidOut_45 : decode cX9_isLaidOut 45 = .ok (.iconst 0, 1) := by decide +kernel
theorem dX9_isLaidOut_46 : decode cX9_isLaidOut 46 = .ok (.ireturn, 1) := by decide +kernel
theorem dX9_isLaidOut_47 : decode cX9_isLaidOut 47 = .ok (.aload_n 0, 1) := by decide +kernel
theorem dX9_isLaidOut_48 : decode cX9_isLaidOut 48 = .ok (.getfield 51, 3) := by decide +kernel
theorem dX9_isLaidOut_51 : decode cX9_isLaidOut 51 = .ok (.aload 6, 2) := by decide +kernel
theorem dX9_isLaidOut_53 : decode cX9_isLaidOut 53 = .ok (.aload_n 0, 1) := by decide +kernel
theorem dX9_isLaidOut_54 : decode cX9_isLaidOut 54 = .ok (.getfield 34, 3) := by decide +kernel
theorem dX9_isLaidOut_57 : decode cX9_isLaidOut 57 = .ok (.iload 4, 2) := by decide +kernel
theorem dX9_isLaidOut_59 : decode cX9_isLaidOut 59 = .ok (.iload 5, 2) := by decide +kernel
theorem dX9_isLaidOut_61 : decode cX9_isLaidOut 61 = .ok (.invokevirtual 389, 3) := by decide +kernel
theorem dX9_isLaidOut_64 : decode cX9_isLaidOut 64 = .ok (.aload_n 0, 1) := by decide +kernel
theorem dX9_isLaidOut_65 : decode cX9_isLaidOut 65 = .ok (.getfield 51, 3) := by decide +kernel
theorem dX9_isLaidOut_68 : decode cX9_isLaidOut 68 = .ok (.iconst 0, 1) := by decide +kernel
theorem dX9_isLaidOut_69 : decode cX9_isLaidOut 69 = .ok (.iconst 0, 1) := by decide +kernel
theorem dX9_isLaidOut_70 : decode cX9_isLaidOut 70 = .ok (.invokevirtual 250, 3) := by decide +kernel
theorem dX9_isLaidOut_73 : decode cX9_isLaidOut 73 = .ok (.iconst 1, 1) := by decide +kernel
theorem dX9_isLaidOut_74 : decode cX9_isLaidOut 74 = .ok (.ireturn, 1) := by decide +kernel
def zX9_isLaidOut (Qr : Option PV → Mem → Prop) : XZ := (RX9, 5, 116, 7, some FieldType.boolean, Qr)
noncomputable def fX9_isLaidOut (o : Nat) (x1 : Int) (x2 : Int) (x3 : Int) (x4 : Int) (x5 : Int) (F : Mem) : Option (Int × Mem) :=
  (fX4_valleyAt (o + 1) x1 F).bind fun r1 =>
  if r1 = 0 then
    some (0, F)
  else
    if (fX9_isDay x4) = 0 then
      some (0, F)
    else
      if x5 < 1 then
        some (0, F)
      else
        if 7 < x5 then
          some (0, F)
        else
          (fX9_isState o x2 x3 F).bind fun q7 =>
          if q7.1 ≠ 0 then
            (fX1_open (o + 62) r1 (o + 47) x4 x5 q7.2).bind fun q10 =>
            (fX1_fill (o + 62) 0 0 q10).bind fun q12 =>
            some (1, q12)
          else
            some (0, q7.2)
theorem fX9_isLaidOut_ok {Qr : Option PV → Mem → Prop} : ∀ (o : Nat) (x1 : Int) (x2 : Int) (x3 : Int) (x4 : Int) (x5 : Int) (F : Mem) (res : (Int × Mem)) (ho : isK o 9), fX9_isLaidOut o x1 x2 x3 x4 x5 F = some res → Qr (some (vI res.1)) res.2 → PR cX9_isLaidOut (zX9_isLaidOut Qr) 0 [(0, vR o), (1, vI x1), (2, vI x2), (3, vI x3), (4, vI x4), (5, vI x5)] [] F := by
  intro o x1 x2 x3 x4 x5 F res ho h hq
  refine s_aload_n (j := 0) dX9_isLaidOut_0 rfl rfl ?_
  refine s_getR dX9_isLaidOut_1 flX9_10 ho ?_
  refine s_iload_n (j := 1) dX9_isLaidOut_4 rfl rfl ?_
  obtain ⟨r1, hv2, h⟩ := bnd h
  refine s_callV (As := [vI x1]) (rest := []) (r := (some (vR r1))) (F' := F) dX9_isLaidOut_5 (clX9_105 (Nat.le_of_ble_eq_true rfl) (Nat.le_of_ble_eq_true rfl)) (trX9_0 ho) rfl ⟨_, _, _, rfl, (trX9_0 ho), hv2, rfl, rfl⟩ rfl (Nat.le_of_ble_eq_true rfl) ?_
  refine s_astore (ls' := [(6, vR r1), (0, vR o), (1, vI x1), (2, vI x2), (3, vI x3), (4, vI x4), (5, vI x5)]) dX9_isLaidOut_8 (Nat.le_of_ble_eq_true rfl) rfl ?_
  refine s_aload (j := 0) dX9_isLaidOut_10 rfl ?_
  refine s_ifnull (tgt := 45) dX9_isLaidOut_12 rfl (fun hc3 => ?_) (fun hc3 => ?_)
  · have h := ifp hc3 h
    refine s_iconst dX9_isLaidOut_45 (cin rfl) ?_
    have h := Option.some.inj h
    subst h
    exact s_zreturn dX9_isLaidOut_46 rfl (Or.inl rfl) hq
  · have h := ifn hc3 h
    refine s_iload (j := 5) dX9_isLaidOut_15 rfl ?_
    refine s_callS (As := [vI x4]) (rest := []) (r := (some (vI (fX9_isDay x4)))) (F' := F) dX9_isLaidOut_17 (clX9_219 (Nat.le_of_ble_eq_true rfl) (Nat.le_of_ble_eq_true rfl)) rfl ⟨_, _, rfl, rfl, rfl, rfl⟩ rfl (Nat.le_of_ble_eq_true rfl) ?_
    refine s_if_eq (tgt := 45) dX9_isLaidOut_20 rfl (fun hc4 => ?_) (fun hc4 => ?_)
    · have h := ifp hc4 h
      refine s_iconst dX9_isLaidOut_45 (cin rfl) ?_
      have h := Option.some.inj h
      subst h
      exact s_zreturn dX9_isLaidOut_46 rfl (Or.inl rfl) hq
    · have h := ifn hc4 h
      refine s_iload (j := 6) dX9_isLaidOut_23 rfl ?_
      refine s_iconst dX9_isLaidOut_25 (cin rfl) ?_
      refine s_icmp_lt (tgt := 45) dX9_isLaidOut_26 rfl (fun hc5 => ?_) (fun hc5 => ?_)
      · have h := ifp hc5 h
        refine s_iconst dX9_isLaidOut_45 (cin rfl) ?_
        have h := Option.some.inj h
        subst h
        exact s_zreturn dX9_isLaidOut_46 rfl (Or.inl rfl) hq
      · have h := ifn hc5 h
        refine s_iload (j := 6) dX9_isLaidOut_29 rfl ?_
        refine s_bipush dX9_isLaidOut_31 rfl (cin rfl) ?_
        refine s_icmp_gt (tgt := 45) dX9_isLaidOut_33 rfl (fun hc6 => ?_) (fun hc6 => ?_)
        · have h := ifp hc6 h
          refine s_iconst dX9_isLaidOut_45 (cin rfl) ?_
          have h := Option.some.inj h
          subst h
          exact s_zreturn dX9_isLaidOut_46 rfl (Or.inl rfl) hq
        · have h := ifn hc6 h
          refine s_aload_n (j := 1) dX9_isLaidOut_36 rfl rfl ?_
          refine s_iload_n (j := 3) dX9_isLaidOut_37 rfl rfl ?_
          refine s_iload_n (j := 4) dX9_isLaidOut_38 rfl rfl ?_
          obtain ⟨q7, hv8, h⟩ := bnd h
          refine s_callV (As := [vI x2, vI x3]) (rest := []) (r := (some (vI q7.1))) (F' := q7.2) dX9_isLaidOut_39 (clX9_216 (Nat.le_of_ble_eq_true rfl) (Nat.le_of_ble_eq_true rfl)) ho rfl ⟨_, _, _, _, rfl, ho, hv8, rfl, rfl⟩ rfl (Nat.le_of_ble_eq_true rfl) ?_
          refine s_if_ne (tgt := 47) dX9_isLaidOut_42 rfl (fun hc9 => ?_) (fun hc9 => ?_)
          · have h := ifp hc9 h
            refine s_aload_n (j := 1) dX9_isLaidOut_47 rfl rfl ?_
            refine s_getR dX9_isLaidOut_48 flX9_51 ho ?_
            refine s_aload (j := 0) dX9_isLaidOut_51 rfl ?_
            refine s_aload_n (j := 1) dX9_isLaidOut_53 rfl rfl ?_
            refine s_getR dX9_isLaidOut_54 flX9_34 ho ?_
            refine s_iload (j := 5) dX9_isLaidOut_57 rfl ?_
            refine s_iload (j := 6) dX9_isLaidOut_59 rfl ?_
            obtain ⟨q10, hv11, h⟩ := bnd h
            refine s_callV (As := [vR r1, vR (o + 47), vI x4, vI x5]) (rest := []) (r := none) (F' := q10) dX9_isLaidOut_61 (clX9_389 (Nat.le_of_ble_eq_true rfl) (Nat.le_of_ble_eq_true rfl)) (trX9_7 ho) rfl ⟨_, _, _, _, _, _, rfl, (trX9_7 ho), (Or.inr ((fX4_valleyAt_rt _ _ _ _ (trX9_0 ho) hv2).resolve_left hc3)), (Or.inr (trX9_4 ho)), hv11, rfl, rfl⟩ rfl (Nat.le_of_ble_eq_true rfl) ?_
            refine s_aload_n (j := 1) dX9_isLaidOut_64 rfl rfl ?_
            refine s_getR dX9_isLaidOut_65 flX9_51 ho ?_
            refine s_iconst dX9_isLaidOut_68 (cin rfl) ?_
            refine s_iconst dX9_isLaidOut_69 (cin rfl) ?_
            obtain ⟨q12, hv13, h⟩ := bnd h
            refine s_callV (As := [vI 0, vI 0]) (rest := []) (r := none) (F' := q12) dX9_isLaidOut_70 (clX9_250 (Nat.le_of_ble_eq_true rfl) (Nat.le_of_ble_eq_true rfl)) (trX9_7 ho) rfl ⟨_, _, _, _, rfl, (trX9_7 ho), hv13, rfl, rfl⟩ rfl (Nat.le_of_ble_eq_true rfl) ?_
            refine s_iconst dX9_isLaidOut_73 (cin rfl) ?_
            have h := Option.some.inj h
            subst h
            exact s_zreturn dX9_isLaidOut_74 rfl (Or.inr rfl) hq
          · have h := ifn hc9 h
            refine s_iconst dX9_isLaidOut_45 (cin rfl) ?_
            have h := Option.some.inj h
            subst h
            exact s_zreturn dX9_isLaidOut_46 rfl (Or.inl rfl) hq
def gX9_isLaidOut : XG := fun As F r F' => ∃ o : Nat, ∃ x1 : Int, ∃ x2 : Int, ∃ x3 : Int, ∃ x4 : Int, ∃ x5 : Int, ∃ res : (Int × Mem), As = [vR o, vI x1, vI x2, vI x3, vI x4, vI x5] ∧ isK o 9 ∧ fX9_isLaidOut o x1 x2 x3 x4 x5 F = some res ∧ r = some (vI res.1) ∧ F' = res.2
theorem ctX9_isLaidOut : xCT yX9_isLaidOut cX9_isLaidOut 7 (some FieldType.boolean) 5 116 gX9_isLaidOut := xmet (by decide +kernel) (fun As F r F' hg => by obtain ⟨o, x1, x2, x3, x4, x5, res, rfl, ho, h, rfl, rfl⟩ := hg; exact Nat.le_of_ble_eq_true rfl) (fun As F r F' hg => by obtain ⟨o, x1, x2, x3, x4, x5, res, rfl, ho, h, rfl, rfl⟩ := hg; exact fX9_isLaidOut_ok o x1 x2 x3 x4 x5 _ _ ho h ⟨rfl, rfl⟩)
theorem mcX9_isLaidOut : Cond.code yX9_isLaidOut cX9_isLaidOut 7 (some FieldType.boolean) ∈ xw_T ∧ Cond.initialized yX9_isLaidOut.cls ∈ xw_T ∧ Cond.instanceMethod yX9_isLaidOut ∈ xw_T ∧ Cond.selects yX9_isLaidOut.cls yX9_isLaidOut yX9_isLaidOut ∈ xw_T := ⟨(xinT 1005 (by decide +kernel) (by decide +kernel)), (xinT 116 (by decide +kernel) (by decide +kernel)), (xinT 1004 (by decide +kernel) (by decide +kernel)), (xinT 26 (by decide +kernel) (by decide +kernel))⟩
theorem clX9_246 {fr lo : Nat} (h1 : 5 + 1 ≤ fr) (h2 : 8 + (7 + 11) + 116 ≤ lo) : xCall RX9 fr lo 0 246 9 5 gX9_isLaidOut := ⟨_, _, _, _, _, _, ctX9_isLaidOut, h1, h2, mcX9_isLaidOut.1, (xinT 1002 (by decide +kernel) (by decide +kernel)), mcX9_isLaidOut.2.1, ⟨by decide +kernel, by decide +kernel, by decide +kernel⟩, by rw [if_pos rfl]; exact ⟨mcX9_isLaidOut.2.2.1, mcX9_isLaidOut.2.2.2, _, _, rfl⟩⟩
theorem dX9_best_0 : decode cX9_best 0 = .ok (.iload 6, 2) := by decide +kernel
theorem dX9_best_2 : decode cX9_best 2 = .ok (.ifCond .lt 23, 3) := by decide +kernel
theorem dX9_best_5 : decode cX9_best 5 = .ok (.iload 6, 2) := by decide +kernel
theorem dX9_best_7 : decode cX9_best 7 = .ok (.iconst 2, 1) := by decide +kernel
theorem dX9_best_8 : decode cX9_best 8 = .ok (.if_icmp .gt 17, 3) := by decide +kernel
theorem dX9_best_11 : decode cX9_best 11 = .ok (.aload_n 0, 1) := by decide +kernel
theorem dX9_best_12 : decode cX9_best 12 = .ok (.iload_n 1, 1) := by decide +kernel
theorem dX9_best_13 : decode cX9_best 13 = .ok (.iload_n 2, 1) := by decide +kernel
theorem dX9_best_14 : decode cX9_best 14 = .ok (.iload_n 3, 1) := by decide +kernel
theorem dX9_best_15 : decode cX9_best 15 = .ok (.iload 4, 2) := by decide +kernel
theorem dX9_best_17 : decode cX9_best 17 = .ok (.iload 5, 2) := by decide +kernel
theorem dX9_best_19 : decode cX9_best 19 = .ok (.invokevirtual 246, 3) := by decide +kernel
theorem dX9_best_22 : decode cX9_best 22 = .ok (.ifCond .ne 5, 3) := by decide +kernel
theorem dX9_best_25 : decode cX9_best 25 = .ok (.iconst (-1), 1) := by decide +kernel
theorem dX9_best_26 : decode cX9_best 26 = .ok (.ireturn, 1) := by decide +kernel
theorem dX9_best_27 : decode cX9_best 27 = .ok (.aload_n 0, 1) := by decide +kernel
theorem dX9_best_28 : decode cX9_best 28 = .ok (.getfield 51, 3) := by decide +kernel
theorem dX9_best_31 : decode cX9_best 31 = .ok (.iload 6, 2) := by decide +kernel
theorem dX9_best_33 : decode cX9_best 33 = .ok (.iconst 2, 1) := by decide +kernel
theorem dX9_best_34 : decode cX9_best 34 = .ok (.if_icmp .ne 7, 3) := by decide +kernel
theorem dX9_best_37 : decode cX9_best 37 = .ok (.iconst 1, 1) := by decide +kernel
theorem dX9_best_38 : decode cX9_best 38 = .ok (.goto 4, 3) := by decide +kernel
theorem dX9_best_41 : decode cX9_best 41 = .ok (.iconst 0, 1) := by decide +kernel
theorem dX9_best_42 : decode cX9_best 42 = .ok (.iconst 0, 1) := by decide +kernel
theorem dX9_best_43 : decode cX9_best 43 = .ok (.invokevirtual 250, 3) := by decide +kernel
theorem dX9_best_46 : decode cX9_best 46 = .ok (.aload_n 0, 1) := by decide +kernel
theorem dX9_best_47 : decode cX9_best 47 = .ok (.getfield 51, 3) := by decide +kernel
theorem dX9_best_50 : decode cX9_best 50 = .ok (.iconst (-1), 1) := by decide +kernel
theorem dX9_best_51 : decode cX9_best 51 = .ok (.invokevirtual 254, 3) := by decide +kernel
theorem dX9_best_54 : decode cX9_best 54 = .ok (.istore 7, 2) := by decide +kernel
theorem dX9_best_56 : decode cX9_best 56 = .ok (.iload 6, 2) := by decide +kernel
theorem dX9_best_58 : decode cX9_best 58 = .ok (.iconst 1, 1) := by decide +kernel
theorem dX9_best_59 : decode cX9_best 59 = .ok (.if_icmp .ne 13, 3) := by decide +kernel
theorem dX9_best_62 : decode cX9_best 62 = .ok (.aload_n 0, 1) := by decide +kernel
theorem dX9_best_63 : decode cX9_best 63 = .ok (.getfield 51, 3) := by decide +kernel
theorem dX9_best_66 : decode cX9_best 66 = .ok (.invokevirtual 257, 3) := by decide +kernel
theorem dX9_best_69 : decode cX9_best 69 = .ok (.goto 5, 3) := by decide +kernel
theorem dX9_best_72 : decode cX9_best 72 = .ok (.iload 7, 2) := by decide +kernel
theorem dX9_best_74 : decode cX9_best 74 = .ok (.ireturn, 1) := by decide +kernel
def zX9_best (Qr : Option PV → Mem → Prop) : XZ := (RX9, 6, 142, 8, some FieldType.int, Qr)
noncomputable def fX9_best_b42 (o : Nat) (x6 : Int) (s0 : Nat) (s1 : Int) (F : Mem) : Option (Int × Mem) :=
  (fX1_fill s0 s1 0 F).bind fun q1 =>
  (fX1_solve (o + 62) (-1) q1).bind fun q3 =>
  if x6 ≠ 1 then
    some (q3.1, q3.2)
  else
    (fX1_climb (o + 62) q3.2).bind fun r6 =>
    some (r6, q3.2)
noncomputable def fX9_best (o : Nat) (x1 : Int) (x2 : Int) (x3 : Int) (x4 : Int) (x5 : Int) (x6 : Int) (F : Mem) : Option (Int × Mem) :=
  if x6 < 0 then
    some ((-1), F)
  else
    if 2 < x6 then
      some ((-1), F)
    else
      (fX9_isLaidOut o x1 x2 x3 x4 x5 F).bind fun q3 =>
      if q3.1 ≠ 0 then
        if x6 ≠ 2 then
          fX9_best_b42 o x6 (o + 62) 0 q3.2
        else
          fX9_best_b42 o x6 (o + 62) 1 q3.2
      else
        some ((-1), q3.2)
theorem fX9_best_b42_ok {Qr : Option PV → Mem → Prop}  : ∀ (o : Nat) (x6 : Int) (s0 : Nat) (s1 : Int) (F : Mem) (res : (Int × Mem)) (ho : isK o 9) (hs0 : isK s0 1), fX9_best_b42 o x6 s0 s1 F = some res → Qr (some (vI res.1)) res.2 → PR cX9_best (zX9_best Qr) 42 [(0, vR o), (6, vI x6)] [vI s1, vR s0] F := by
  intro o x6 s0 s1 F res ho hs0 h hq
  refine s_iconst dX9_best_42 (cin rfl) ?_
  obtain ⟨q1, hv2, h⟩ := bnd h
  refine s_callV (As := [vI s1, vI 0]) (rest := []) (r := none) (F' := q1) dX9_best_43 (clX9_250 (Nat.le_of_ble_eq_true rfl) (Nat.le_of_ble_eq_true rfl)) hs0 rfl ⟨_, _, _, _, rfl, hs0, hv2, rfl, rfl⟩ rfl (Nat.le_of_ble_eq_true rfl) ?_
  refine s_aload_n (j := 0) dX9_best_46 rfl rfl ?_
  refine s_getR dX9_best_47 flX9_51 ho ?_
  refine s_iconst dX9_best_50 (cin rfl) ?_
  obtain ⟨q3, hv4, h⟩ := bnd h
  refine s_callV (As := [vI (-1)]) (rest := []) (r := (some (vI q3.1))) (F' := q3.2) dX9_best_51 (clX9_254 (Nat.le_of_ble_eq_true rfl) (Nat.le_of_ble_eq_true rfl)) (trX9_7 ho) rfl ⟨_, _, _, rfl, (trX9_7 ho), hv4, rfl, rfl⟩ rfl (Nat.le_of_ble_eq_true rfl) ?_
  refine s_istore (ls' := [(7, vI q3.1), (0, vR o), (6, vI x6)]) dX9_best_54 (Nat.le_of_ble_eq_true rfl) rfl ?_
  refine s_iload (j := 2) dX9_best_56 rfl ?_
  refine s_iconst dX9_best_58 (cin rfl) ?_
  refine s_icmp_ne (tgt := 72) dX9_best_59 rfl (fun hc5 => ?_) (fun hc5 => ?_)
  · have h := ifp hc5 h
    refine s_iload (j := 0) dX9_best_72 rfl ?_
    have h := Option.some.inj h
    subst h
    exact s_ireturn dX9_best_74 rfl hq
  · have h := ifn hc5 h
    refine s_aload_n (j := 1) dX9_best_62 rfl rfl ?_
    refine s_getR dX9_best_63 flX9_51 ho ?_
    obtain ⟨r6, hv7, h⟩ := bnd h
    refine s_callV (As := []) (rest := []) (r := (some (vI r6))) (F' := q3.2) dX9_best_66 (clX9_257 (Nat.le_of_ble_eq_true rfl) (Nat.le_of_ble_eq_true rfl)) (trX9_7 ho) rfl ⟨_, _, rfl, (trX9_7 ho), hv7, rfl, rfl⟩ rfl (Nat.le_of_ble_eq_true rfl) ?_
    refine s_goto (tgt := 74) dX9_best_69 rfl ?_
    have h := Option.some.inj h
    subst h
    exact s_ireturn dX9_best_74 rfl hq
theorem fX9_best_ok {Qr : Option PV → Mem → Prop} : ∀ (o : Nat) (x1 : Int) (x2 : Int) (x3 : Int) (x4 : Int) (x5 : Int) (x6 : Int) (F : Mem) (res : (Int × Mem)) (ho : isK o 9), fX9_best o x1 x2 x3 x4 x5 x6 F = some res → Qr (some (vI res.1)) res.2 → PR cX9_best (zX9_best Qr) 0 [(0, vR o), (1, vI x1), (2, vI x2), (3, vI x3), (4, vI x4), (5, vI x5), (6, vI x6)] [] F := by
  intro o x1 x2 x3 x4 x5 x6 F res ho h hq
  refine s_iload (j := 6) dX9_best_0 rfl ?_
  refine s_if_lt (tgt := 25) dX9_best_2 rfl (fun hc1 => ?_) (fun hc1 => ?_)
  · have h := ifp hc1 h
    refine s_iconst dX9_best_25 (cin rfl) ?_
    have h := Option.some.inj h
    subst h
    exact s_ireturn dX9_best_26 rfl hq
  · have h := ifn hc1 h
    refine s_iload (j := 6) dX9_best_5 rfl ?_
    refine s_iconst dX9_best_7 (cin rfl) ?_
    refine s_icmp_gt (tgt := 25) dX9_best_8 rfl (fun hc2 => ?_) (fun hc2 => ?_)
    · have h := ifp hc2 h
      refine s_iconst dX9_best_25 (cin rfl) ?_
      have h := Option.some.inj h
      subst h
      exact s_ireturn dX9_best_26 rfl hq
    · have h := ifn hc2 h
      refine s_aload_n (j := 0) dX9_best_11 rfl rfl ?_
      refine s_iload_n (j := 1) dX9_best_12 rfl rfl ?_
      refine s_iload_n (j := 2) dX9_best_13 rfl rfl ?_
      refine s_iload_n (j := 3) dX9_best_14 rfl rfl ?_
      refine s_iload (j := 4) dX9_best_15 rfl ?_
      refine s_iload (j := 5) dX9_best_17 rfl ?_
      obtain ⟨q3, hv4, h⟩ := bnd h
      refine s_callV (As := [vI x1, vI x2, vI x3, vI x4, vI x5]) (rest := []) (r := (some (vI q3.1))) (F' := q3.2) dX9_best_19 (clX9_246 (Nat.le_of_ble_eq_true rfl) (Nat.le_of_ble_eq_true rfl)) ho rfl ⟨_, _, _, _, _, _, _, rfl, ho, hv4, rfl, rfl⟩ rfl (Nat.le_of_ble_eq_true rfl) ?_
      refine s_if_ne (tgt := 27) dX9_best_22 rfl (fun hc5 => ?_) (fun hc5 => ?_)
      · have h := ifp hc5 h
        refine s_aload_n (j := 0) dX9_best_27 rfl rfl ?_
        refine s_getR dX9_best_28 flX9_51 ho ?_
        refine s_iload (j := 6) dX9_best_31 rfl ?_
        refine s_iconst dX9_best_33 (cin rfl) ?_
        refine s_icmp_ne (tgt := 41) dX9_best_34 rfl (fun hc6 => ?_) (fun hc6 => ?_)
        · have h := ifp hc6 h
          refine s_iconst dX9_best_41 (cin rfl) ?_
          exact s_sub (ks := [0, 6]) rfl (fX9_best_b42_ok o x6 (o + 62) 0 q3.2 _ ho (trX9_7 ho) h hq)
        · have h := ifn hc6 h
          refine s_iconst dX9_best_37 (cin rfl) ?_
          refine s_goto (tgt := 42) dX9_best_38 rfl ?_
          exact s_sub (ks := [0, 6]) rfl (fX9_best_b42_ok o x6 (o + 62) 1 q3.2 _ ho (trX9_7 ho) h hq)
      · have h := ifn hc5 h
        refine s_iconst dX9_best_25 (cin rfl) ?_
        have h := Option.some.inj h
        subst h
        exact s_ireturn dX9_best_26 rfl hq
def gX9_best : XG := fun As F r F' => ∃ o : Nat, ∃ x1 : Int, ∃ x2 : Int, ∃ x3 : Int, ∃ x4 : Int, ∃ x5 : Int, ∃ x6 : Int, ∃ res : (Int × Mem), As = [vR o, vI x1, vI x2, vI x3, vI x4, vI x5, vI x6] ∧ isK o 9 ∧ fX9_best o x1 x2 x3 x4 x5 x6 F = some res ∧ r = some (vI res.1) ∧ F' = res.2
theorem ctX9_best : xCT yX9_best cX9_best 8 (some FieldType.int) 6 142 gX9_best := xmet (by decide +kernel) (fun As F r F' hg => by obtain ⟨o, x1, x2, x3, x4, x5, x6, res, rfl, ho, h, rfl, rfl⟩ := hg; exact Nat.le_of_ble_eq_true rfl) (fun As F r F' hg => by obtain ⟨o, x1, x2, x3, x4, x5, x6, res, rfl, ho, h, rfl, rfl⟩ := hg; exact fX9_best_ok o x1 x2 x3 x4 x5 x6 _ _ ho h ⟨rfl, rfl⟩)
theorem mcX9_best : Cond.code yX9_best cX9_best 8 (some FieldType.int) ∈ xw_T ∧ Cond.initialized yX9_best.cls ∈ xw_T ∧ Cond.instanceMethod yX9_best ∈ xw_T ∧ Cond.selects yX9_best.cls yX9_best yX9_best ∈ xw_T := ⟨(xinT 1001 (by decide +kernel) (by decide +kernel)), (xinT 116 (by decide +kernel) (by decide +kernel)), (xinT 999 (by decide +kernel) (by decide +kernel)), (xinT 1000 (by decide +kernel) (by decide +kernel))⟩
theorem dX9_spot_0 : decode cX9_spot 0 = .ok (.aload_n 0, 1) := by decide +kernel
theorem dX9_spot_1 : decode cX9_spot 1 = .ok (.iload_n 1, 1) := by decide +kernel
theorem dX9_spot_2 : decode cX9_spot 2 = .ok (.iload_n 2, 1) := by decide +kernel
theorem dX9_spot_3 : decode cX9_spot 3 = .ok (.iload_n 3, 1) := by decide +kernel
theorem dX9_spot_4 : decode cX9_spot 4 = .ok (.iload 4, 2) := by decide +kernel
theorem dX9_spot_6 : decode cX9_spot 6 = .ok (.iload 5, 2) := by decide +kernel
theorem dX9_spot_8 : decode cX9_spot 8 = .ok (.invokevirtual 246, 3) := by decide +kernel
theorem dX9_spot_11 : decode cX9_spot 11 = .ok (.ifCond .eq 15, 3) := by decide +kernel
theorem dX9_spot_14 : decode cX9_spot 14 = .ok (.aload_n 0, 1) := by decide +kernel
theorem dX9_spot_15 : decode cX9_spot 15 = .ok (.getfield 51, 3) := by decide +kernel
theorem dX9_spot_18 : decode cX9_spot 18 = .ok (.iconst (-1), 1) := by decide +kernel
theorem dX9_spot_19 : decode cX9_spot 19 = .ok (.invokevirtual 254, 3) := by decide +kernel
theorem dX9_spot_22 : decode cX9_spot 22 = .ok (.iconst (-1), 1) := by decide +kernel
theorem dX9_spot_23 : decode cX9_spot 23 = .ok (.if_icmp .ne 6, 3) := by decide +kernel
theorem dX9_spot_26 : decode cX9_spot 26 = .ok (.bipush (-2), 2) := by decide +kernel
theorem dX9_spot_28 : decode cX9_spot 28 = .ok (.ireturn, 1) := by decide +kernel
theorem dX9_spot_29 : decode cX9_spot 29 = .ok (.iload 6, 2) := by decide +kernel
theorem dX9_spot_31 : decode cX9_spot 31 = .ok (.ifCond .lt 30, 3) := by decide +kernel
theorem dX9_spot_34 : decode cX9_spot 34 = .ok (.iload 6, 2) := by decide +kernel
theorem dX9_spot_36 : decode cX9_spot 36 = .ok (.iload 5, 2) := by decide +kernel
theorem dX9_spot_38 : decode cX9_spot 38 = .ok (.if_icmp .ge 23, 3) := by decide +kernel
theorem dX9_spot_41 : decode cX9_spot 41 = .ok (.iload 7, 2) := by decide +kernel
theorem dX9_spot_43 : decode cX9_spot 43 = .ok (.ifCond .lt 18, 3) := by decide +kernel
theorem dX9_spot_46 : decode cX9_spot 46 = .ok (.iload 7, 2) := by decide +kernel
theorem dX9_spot_48 : decode cX9_spot 48 = .ok (.aload_n 0, 1) := by decide +kernel
theorem dX9_spot_49 : decode cX9_spot 49 = .ok (.getfield 51, 3) := by decide +kernel
theorem dX9_spot_52 : decode cX9_spot 52 = .ok (.getfield 259, 3) := by decide +kernel
theorem dX9_spot_55 : decode cX9_spot 55 = .ok (.getfield 109, 3) := by decide +kernel
theorem dX9_spot_58 : decode cX9_spot 58 = .ok (.if_icmp .lt 6, 3) := by decide +kernel
theorem dX9_spot_61 : decode cX9_spot 61 = .ok (.bipush (-2), 2) := by decide +kernel
theorem dX9_spot_63 : decode cX9_spot 63 = .ok (.ireturn, 1) := by decide +kernel
theorem dX9_spot_64 : decode cX9_spot 64 = .ok (.aload_n 0, 1) := by decide +kernel
theorem dX9_spot_65 : decode cX9_spot 65 = .ok (.getfield 58, 3) := by decide +kernel
theorem dX9_spot_68 : decode cX9_spot 68 = .ok (.aload_n 0, 1) := by decide +kernel
theorem dX9_spot_69 : decode cX9_spot 69 = .ok (.getfield 51, 3) := by decide +kernel
theorem dX9_spot_72 : decode cX9_spot 72 = .ok (.invokevirtual 260, 3) := by decide +kernel
theorem dX9_spot_75 : decode cX9_spot 75 = .ok (.aload_n 0, 1) := by decide +kernel
theorem dX9_spot_76 : decode cX9_spot 76 = .ok (.getfield 58, 3) := by decide +kernel
theorem dX9_spot_79 : decode cX9_spot 79 = .ok (.getfield 264, 3) := by decide +kernel
theorem dX9_spot_82 : decode cX9_spot 82 = .ok (.iload 6, 2) := by decide +kernel
theorem dX9_spot_84 : decode cX9_spot 84 = .ok (.aload_n 0, 1) := by decide +kernel
theorem dX9_spot_85 : decode cX9_spot 85 = .ok (.getfield 51, 3) := by decide +kernel
theorem dX9_spot_88 : decode cX9_spot 88 = .ok (.getfield 259, 3) := by decide +kernel
theorem dX9_spot_91 : decode cX9_spot 91 = .ok (.getfield 109, 3) := by decide +kernel
theorem dX9_spot_94 : decode cX9_spot 94 = .ok (.imul, 1) := by decide +kernel
theorem dX9_spot_95 : decode cX9_spot 95 = .ok (.iload 7, 2) := by decide +kernel
theorem dX9_spot_97 : decode cX9_spot 97 = .ok (.iadd, 1) := by decide +kernel
theorem dX9_spot_98 : decode cX9_spot 98 = .ok (.iaload, 1) := by decide +kernel
theorem dX9_spot_99 : decode cX9_spot 99 = .ok (.ireturn, 1) := by decide +kernel
def zX9_spot (Qr : Option PV → Mem → Prop) : XZ := (RX9, 6, 142, 8, some FieldType.int, Qr)
noncomputable def fX9_spot (o : Nat) (x1 : Int) (x2 : Int) (x3 : Int) (x4 : Int) (x5 : Int) (x6 : Int) (x7 : Int) (F : Mem) : Option (Int × Mem) :=
  (fX9_isLaidOut o x1 x2 x3 x4 x5 F).bind fun q1 =>
  if q1.1 = 0 then
    some ((-2), q1.2)
  else
    (fX1_solve (o + 62) (-1) q1.2).bind fun q4 =>
    if q4.1 ≠ (-1) then
      if x6 < 0 then
        some ((-2), q4.2)
      else
        if x5 ≤ x6 then
          some ((-2), q4.2)
        else
          if x7 < 0 then
            some ((-2), q4.2)
          else
            if (q4.2 (o + 62) 0).toNat = 0 then none else
            if x7 < (q4.2 ((q4.2 (o + 62) 0).toNat) 0) then
              (fX6_follow (o + 71) (o + 62) q4.2).bind fun q13 =>
              if (q13 (o + 62) 0).toNat = 0 then none else
              if (0 : Int) ≤ (xw ((xw (x6 * (q13 ((q13 (o + 62) 0).toNat) 0))) + x7)) ∧ (xw ((xw (x6 * (q13 ((q13 (o + 62) 0).toNat) 0))) + x7)) < (alen ((o + 71) + 1) : Int) then
                some (q13 ((o + 71) + 1) (xw ((xw (x6 * (q13 ((q13 (o + 62) 0).toNat) 0))) + x7)).toNat, q13)
              else none
            else
              some ((-2), q4.2)
    else
      some ((-2), q4.2)
theorem fX9_spot_ok {Qr : Option PV → Mem → Prop} : ∀ (o : Nat) (x1 : Int) (x2 : Int) (x3 : Int) (x4 : Int) (x5 : Int) (x6 : Int) (x7 : Int) (F : Mem) (res : (Int × Mem)) (ho : isK o 9), fX9_spot o x1 x2 x3 x4 x5 x6 x7 F = some res → Qr (some (vI res.1)) res.2 → PR cX9_spot (zX9_spot Qr) 0 [(0, vR o), (1, vI x1), (2, vI x2), (3, vI x3), (4, vI x4), (5, vI x5), (6, vI x6), (7, vI x7)] [] F := by
  intro o x1 x2 x3 x4 x5 x6 x7 F res ho h hq
  refine s_aload_n (j := 0) dX9_spot_0 rfl rfl ?_
  refine s_iload_n (j := 1) dX9_spot_1 rfl rfl ?_
  refine s_iload_n (j := 2) dX9_spot_2 rfl rfl ?_
  refine s_iload_n (j := 3) dX9_spot_3 rfl rfl ?_
  refine s_iload (j := 4) dX9_spot_4 rfl ?_
  refine s_iload (j := 5) dX9_spot_6 rfl ?_
  obtain ⟨q1, hv2, h⟩ := bnd h
  refine s_callV (As := [vI x1, vI x2, vI x3, vI x4, vI x5]) (rest := []) (r := (some (vI q1.1))) (F' := q1.2) dX9_spot_8 (clX9_246 (Nat.le_of_ble_eq_true rfl) (Nat.le_of_ble_eq_true rfl)) ho rfl ⟨_, _, _, _, _, _, _, rfl, ho, hv2, rfl, rfl⟩ rfl (Nat.le_of_ble_eq_true rfl) ?_
  refine s_if_eq (tgt := 26) dX9_spot_11 rfl (fun hc3 => ?_) (fun hc3 => ?_)
  · have h := ifp hc3 h
    refine s_bipush dX9_spot_26 rfl (cin rfl) ?_
    have h := Option.some.inj h
    subst h
    exact s_ireturn dX9_spot_28 rfl hq
  · have h := ifn hc3 h
    refine s_aload_n (j := 0) dX9_spot_14 rfl rfl ?_
    refine s_getR dX9_spot_15 flX9_51 ho ?_
    refine s_iconst dX9_spot_18 (cin rfl) ?_
    obtain ⟨q4, hv5, h⟩ := bnd h
    refine s_callV (As := [vI (-1)]) (rest := []) (r := (some (vI q4.1))) (F' := q4.2) dX9_spot_19 (clX9_254 (Nat.le_of_ble_eq_true rfl) (Nat.le_of_ble_eq_true rfl)) (trX9_7 ho) rfl ⟨_, _, _, rfl, (trX9_7 ho), hv5, rfl, rfl⟩ rfl (Nat.le_of_ble_eq_true rfl) ?_
    refine s_iconst dX9_spot_22 (cin rfl) ?_
    refine s_icmp_ne (tgt := 29) dX9_spot_23 rfl (fun hc6 => ?_) (fun hc6 => ?_)
    · have h := ifp hc6 h
      refine s_iload (j := 6) dX9_spot_29 rfl ?_
      refine s_if_lt (tgt := 61) dX9_spot_31 rfl (fun hc7 => ?_) (fun hc7 => ?_)
      · have h := ifp hc7 h
        refine s_bipush dX9_spot_61 rfl (cin rfl) ?_
        have h := Option.some.inj h
        subst h
        exact s_ireturn dX9_spot_63 rfl hq
      · have h := ifn hc7 h
        refine s_iload (j := 6) dX9_spot_34 rfl ?_
        refine s_iload (j := 5) dX9_spot_36 rfl ?_
        refine s_icmp_ge (tgt := 61) dX9_spot_38 rfl (fun hc8 => ?_) (fun hc8 => ?_)
        · have h := ifp hc8 h
          refine s_bipush dX9_spot_61 rfl (cin rfl) ?_
          have h := Option.some.inj h
          subst h
          exact s_ireturn dX9_spot_63 rfl hq
        · have h := ifn hc8 h
          refine s_iload (j := 7) dX9_spot_41 rfl ?_
          refine s_if_lt (tgt := 61) dX9_spot_43 rfl (fun hc9 => ?_) (fun hc9 => ?_)
          · have h := ifp hc9 h
            refine s_bipush dX9_spot_61 rfl (cin rfl) ?_
            have h := Option.some.inj h
            subst h
            exact s_ireturn dX9_spot_63 rfl hq
          · have h := ifn hc9 h
            refine s_iload (j := 7) dX9_spot_46 rfl ?_
            refine s_aload_n (j := 0) dX9_spot_48 rfl rfl ?_
            refine s_getR dX9_spot_49 flX9_51 ho ?_
            refine s_getM dX9_spot_52 flX9_259 (trX9_7 ho) (fun hm10 => ?_)
            have hm10 : _ = 0 ∨ isK ((q4.2 (o + 62) 0).toNat) 7 := hm10
            obtain ⟨hn11, h⟩ := gdn h
            refine s_getI dX9_spot_55 flX9_109 (hm10.resolve_left hn11) ?_
            refine s_icmp_lt (tgt := 64) dX9_spot_58 rfl (fun hc12 => ?_) (fun hc12 => ?_)
            · have h := ifp hc12 h
              refine s_aload_n (j := 0) dX9_spot_64 rfl rfl ?_
              refine s_getR dX9_spot_65 flX9_58 ho ?_
              refine s_aload_n (j := 0) dX9_spot_68 rfl rfl ?_
              refine s_getR dX9_spot_69 flX9_51 ho ?_
              obtain ⟨q13, hv14, h⟩ := bnd h
              refine s_callV (As := [vR (o + 62)]) (rest := []) (r := none) (F' := q13) dX9_spot_72 (clX9_260 (Nat.le_of_ble_eq_true rfl) (Nat.le_of_ble_eq_true rfl)) (trX9_8 ho) rfl ⟨_, _, _, rfl, (trX9_8 ho), (Or.inr (trX9_7 ho)), hv14, rfl, rfl⟩ rfl (Nat.le_of_ble_eq_true rfl) ?_
              refine s_aload_n (j := 0) dX9_spot_75 rfl rfl ?_
              refine s_getR dX9_spot_76 flX9_58 ho ?_
              refine s_getR dX9_spot_79 flX9_264 (trX9_8 ho) ?_
              refine s_iload (j := 6) dX9_spot_82 rfl ?_
              refine s_aload_n (j := 0) dX9_spot_84 rfl rfl ?_
              refine s_getR dX9_spot_85 flX9_51 ho ?_
              refine s_getM dX9_spot_88 flX9_259 (trX9_7 ho) (fun hm15 => ?_)
              have hm15 : _ = 0 ∨ isK ((q13 (o + 62) 0).toNat) 7 := hm15
              obtain ⟨hn16, h⟩ := gdn h
              refine s_getI dX9_spot_91 flX9_109 (hm15.resolve_left hn16) ?_
              refine s_imul dX9_spot_94 ?_
              refine s_iload (j := 7) dX9_spot_95 rfl ?_
              refine s_iadd dX9_spot_97 ?_
              obtain ⟨hb17, h⟩ := gd h
              refine s_iaload dX9_spot_98 (trX6_0 (trX9_8 ho)) hb17.1 hb17.2 ?_
              have h := Option.some.inj h
              subst h
              exact s_ireturn dX9_spot_99 rfl hq
            · have h := ifn hc12 h
              refine s_bipush dX9_spot_61 rfl (cin rfl) ?_
              have h := Option.some.inj h
              subst h
              exact s_ireturn dX9_spot_63 rfl hq
    · have h := ifn hc6 h
      refine s_bipush dX9_spot_26 rfl (cin rfl) ?_
      have h := Option.some.inj h
      subst h
      exact s_ireturn dX9_spot_28 rfl hq
def gX9_spot : XG := fun As F r F' => ∃ o : Nat, ∃ x1 : Int, ∃ x2 : Int, ∃ x3 : Int, ∃ x4 : Int, ∃ x5 : Int, ∃ x6 : Int, ∃ x7 : Int, ∃ res : (Int × Mem), As = [vR o, vI x1, vI x2, vI x3, vI x4, vI x5, vI x6, vI x7] ∧ isK o 9 ∧ fX9_spot o x1 x2 x3 x4 x5 x6 x7 F = some res ∧ r = some (vI res.1) ∧ F' = res.2
theorem ctX9_spot : xCT yX9_spot cX9_spot 8 (some FieldType.int) 6 142 gX9_spot := xmet (by decide +kernel) (fun As F r F' hg => by obtain ⟨o, x1, x2, x3, x4, x5, x6, x7, res, rfl, ho, h, rfl, rfl⟩ := hg; exact Nat.le_of_ble_eq_true rfl) (fun As F r F' hg => by obtain ⟨o, x1, x2, x3, x4, x5, x6, x7, res, rfl, ho, h, rfl, rfl⟩ := hg; exact fX9_spot_ok o x1 x2 x3 x4 x5 x6 x7 _ _ ho h ⟨rfl, rfl⟩)
theorem mcX9_spot : Cond.code yX9_spot cX9_spot 8 (some FieldType.int) ∈ xw_T ∧ Cond.initialized yX9_spot.cls ∈ xw_T ∧ Cond.instanceMethod yX9_spot ∈ xw_T ∧ Cond.selects yX9_spot.cls yX9_spot yX9_spot ∈ xw_T := ⟨(xinT 1077 (by decide +kernel) (by decide +kernel)), (xinT 116 (by decide +kernel) (by decide +kernel)), (xinT 1075 (by decide +kernel) (by decide +kernel)), (xinT 1076 (by decide +kernel) (by decide +kernel))⟩
theorem dX9_gainOfDay_0 : decode cX9_gainOfDay 0 = .ok (.aload_n 0, 1) := by decide +kernel
theorem dX9_gainOfDay_1 : decode cX9_gainOfDay 1 = .ok (.iload_n 1, 1) := by decide +kernel
theorem dX9_gainOfDay_2 : decode cX9_gainOfDay 2 = .ok (.iload_n 2, 1) := by decide +kernel
theorem dX9_gainOfDay_3 : decode cX9_gainOfDay 3 = .ok (.iload_n 3, 1) := by decide +kernel
theorem dX9_gainOfDay_4 : decode cX9_gainOfDay 4 = .ok (.iload 4, 2) := by decide +kernel
theorem dX9_gainOfDay_6 : decode cX9_gainOfDay 6 = .ok (.iconst 1, 1) := by decide +kernel
theorem dX9_gainOfDay_7 : decode cX9_gainOfDay 7 = .ok (.invokevirtual 246, 3) := by decide +kernel
theorem dX9_gainOfDay_10 : decode cX9_gainOfDay 10 = .ok (.ifCond .eq 14, 3) := by decide +kernel
theorem dX9_gainOfDay_13 : decode cX9_gainOfDay 13 = .ok (.aload_n 0, 1) := by decide +kernel
theorem dX9_gainOfDay_14 : decode cX9_gainOfDay 14 = .ok (.getfield 51, 3) := by decide +kernel
theorem dX9_gainOfDay_17 : decode cX9_gainOfDay 17 = .ok (.iconst (-1), 1) := by decide +kernel
theorem dX9_gainOfDay_18 : decode cX9_gainOfDay 18 = .ok (.invokevirtual 254, 3) := by decide +kernel
theorem dX9_gainOfDay_21 : decode cX9_gainOfDay 21 = .ok (.goto 4, 3) := by decide +kernel
theorem dX9_gainOfDay_24 : decode cX9_gainOfDay 24 = .ok (.iconst (-1), 1) := by decide +kernel
theorem dX9_gainOfDay_25 : decode cX9_gainOfDay 25 = .ok (.ireturn, 1) := by decide +kernel
def zX9_gainOfDay (Qr : Option PV → Mem → Prop) : XZ := (RX9, 6, 142, 5, some FieldType.int, Qr)
noncomputable def fX9_gainOfDay (o : Nat) (x1 : Int) (x2 : Int) (x3 : Int) (x4 : Int) (F : Mem) : Option (Int × Mem) :=
  (fX9_isLaidOut o x1 x2 x3 x4 1 F).bind fun q1 =>
  if q1.1 = 0 then
    some ((-1), q1.2)
  else
    (fX1_solve (o + 62) (-1) q1.2).bind fun q4 =>
    some (q4.1, q4.2)
theorem fX9_gainOfDay_ok {Qr : Option PV → Mem → Prop} : ∀ (o : Nat) (x1 : Int) (x2 : Int) (x3 : Int) (x4 : Int) (F : Mem) (res : (Int × Mem)) (ho : isK o 9), fX9_gainOfDay o x1 x2 x3 x4 F = some res → Qr (some (vI res.1)) res.2 → PR cX9_gainOfDay (zX9_gainOfDay Qr) 0 [(0, vR o), (1, vI x1), (2, vI x2), (3, vI x3), (4, vI x4)] [] F := by
  intro o x1 x2 x3 x4 F res ho h hq
  refine s_aload_n (j := 0) dX9_gainOfDay_0 rfl rfl ?_
  refine s_iload_n (j := 1) dX9_gainOfDay_1 rfl rfl ?_
  refine s_iload_n (j := 2) dX9_gainOfDay_2 rfl rfl ?_
  refine s_iload_n (j := 3) dX9_gainOfDay_3 rfl rfl ?_
  refine s_iload (j := 4) dX9_gainOfDay_4 rfl ?_
  refine s_iconst dX9_gainOfDay_6 (cin rfl) ?_
  obtain ⟨q1, hv2, h⟩ := bnd h
  refine s_callV (As := [vI x1, vI x2, vI x3, vI x4, vI 1]) (rest := []) (r := (some (vI q1.1))) (F' := q1.2) dX9_gainOfDay_7 (clX9_246 (Nat.le_of_ble_eq_true rfl) (Nat.le_of_ble_eq_true rfl)) ho rfl ⟨_, _, _, _, _, _, _, rfl, ho, hv2, rfl, rfl⟩ rfl (Nat.le_of_ble_eq_true rfl) ?_
  refine s_if_eq (tgt := 24) dX9_gainOfDay_10 rfl (fun hc3 => ?_) (fun hc3 => ?_)
  · have h := ifp hc3 h
    refine s_iconst dX9_gainOfDay_24 (cin rfl) ?_
    have h := Option.some.inj h
    subst h
    exact s_ireturn dX9_gainOfDay_25 rfl hq
  · have h := ifn hc3 h
    refine s_aload_n (j := 0) dX9_gainOfDay_13 rfl rfl ?_
    refine s_getR dX9_gainOfDay_14 flX9_51 ho ?_
    refine s_iconst dX9_gainOfDay_17 (cin rfl) ?_
    obtain ⟨q4, hv5, h⟩ := bnd h
    refine s_callV (As := [vI (-1)]) (rest := []) (r := (some (vI q4.1))) (F' := q4.2) dX9_gainOfDay_18 (clX9_254 (Nat.le_of_ble_eq_true rfl) (Nat.le_of_ble_eq_true rfl)) (trX9_7 ho) rfl ⟨_, _, _, rfl, (trX9_7 ho), hv5, rfl, rfl⟩ rfl (Nat.le_of_ble_eq_true rfl) ?_
    refine s_goto (tgt := 25) dX9_gainOfDay_21 rfl ?_
    have h := Option.some.inj h
    subst h
    exact s_ireturn dX9_gainOfDay_25 rfl hq
def gX9_gainOfDay : XG := fun As F r F' => ∃ o : Nat, ∃ x1 : Int, ∃ x2 : Int, ∃ x3 : Int, ∃ x4 : Int, ∃ res : (Int × Mem), As = [vR o, vI x1, vI x2, vI x3, vI x4] ∧ isK o 9 ∧ fX9_gainOfDay o x1 x2 x3 x4 F = some res ∧ r = some (vI res.1) ∧ F' = res.2
theorem ctX9_gainOfDay : xCT yX9_gainOfDay cX9_gainOfDay 5 (some FieldType.int) 6 142 gX9_gainOfDay := xmet (by decide +kernel) (fun As F r F' hg => by obtain ⟨o, x1, x2, x3, x4, res, rfl, ho, h, rfl, rfl⟩ := hg; exact Nat.le_of_ble_eq_true rfl) (fun As F r F' hg => by obtain ⟨o, x1, x2, x3, x4, res, rfl, ho, h, rfl, rfl⟩ := hg; exact fX9_gainOfDay_ok o x1 x2 x3 x4 _ _ ho h ⟨rfl, rfl⟩)
theorem mcX9_gainOfDay : Cond.code yX9_gainOfDay cX9_gainOfDay 5 (some FieldType.int) ∈ xw_T ∧ Cond.initialized yX9_gainOfDay.cls ∈ xw_T ∧ Cond.instanceMethod yX9_gainOfDay ∈ xw_T ∧ Cond.selects yX9_gainOfDay.cls yX9_gainOfDay yX9_gainOfDay ∈ xw_T := ⟨(xinT 1110 (by decide +kernel) (by decide +kernel)), (xinT 116 (by decide +kernel) (by decide +kernel)), (xinT 1109 (by decide +kernel) (by decide +kernel)), (xinT 32 (by decide +kernel) (by decide +kernel))⟩
theorem clX9_265 {fr lo : Nat} (h1 : 6 + 1 ≤ fr) (h2 : 8 + (5 + 11) + 142 ≤ lo) : xCall RX9 fr lo 0 265 9 4 gX9_gainOfDay := ⟨_, _, _, _, _, _, ctX9_gainOfDay, h1, h2, mcX9_gainOfDay.1, (xinT 1107 (by decide +kernel) (by decide +kernel)), mcX9_gainOfDay.2.1, ⟨by decide +kernel, by decide +kernel, by decide +kernel⟩, by rw [if_pos rfl]; exact ⟨mcX9_gainOfDay.2.2.1, mcX9_gainOfDay.2.2.2, _, _, rfl⟩⟩
theorem dX9_harm_0 : decode cX9_harm 0 = .ok (.aload_n 0, 1) := by decide +kernel
theorem dX9_harm_1 : decode cX9_harm 1 = .ok (.iload_n 1, 1) := by decide +kernel
theorem dX9_harm_2 : decode cX9_harm 2 = .ok (.iload_n 2, 1) := by decide +kernel
theorem dX9_harm_3 : decode cX9_harm 3 = .ok (.iload_n 3, 1) := by decide +kernel
theorem dX9_harm_4 : decode cX9_harm 4 = .ok (.iload 4, 2) := by decide +kernel
theorem dX9_harm_6 : decode cX9_harm 6 = .ok (.invokevirtual 265, 3) := by decide +kernel
theorem dX9_harm_9 : decode cX9_harm 9 = .ok (.istore 9, 2) := by decide +kernel
theorem dX9_harm_11 : decode cX9_harm 11 = .ok (.iload 9, 2) := by decide +kernel
theorem dX9_harm_13 : decode cX9_harm 13 = .ok (.iconst (-1), 1) := by decide +kernel
theorem dX9_harm_14 : decode cX9_harm 14 = .ok (.if_icmp .eq 35, 3) := by decide +kernel
theorem dX9_harm_17 : decode cX9_harm 17 = .ok (.aload_n 0, 1) := by decide +kernel
theorem dX9_harm_18 : decode cX9_harm 18 = .ok (.getfield 51, 3) := by decide +kernel
theorem dX9_harm_21 : decode cX9_harm 21 = .ok (.getfield 259, 3) := by decide +kernel
theorem dX9_harm_24 : decode cX9_harm 24 = .ok (.iload 5, 2) := by decide +kernel
theorem dX9_harm_26 : decode cX9_harm 26 = .ok (.invokevirtual 141, 3) := by decide +kernel
theorem dX9_harm_29 : decode cX9_harm 29 = .ok (.ifCond .eq 20, 3) := by decide +kernel
theorem dX9_harm_32 : decode cX9_harm 32 = .ok (.aload_n 0, 1) := by decide +kernel
theorem dX9_harm_33 : decode cX9_harm 33 = .ok (.getfield 51, 3) := by decide +kernel
theorem dX9_harm_36 : decode cX9_harm 36 = .ok (.getfield 259, 3) := by decide +kernel
theorem dX9_harm_39 : decode cX9_harm 39 = .ok (.iload 6, 2) := by decide +kernel
theorem dX9_harm_41 : decode cX9_harm 41 = .ok (.iload 7, 2) := by decide +kernel
theorem dX9_harm_43 : decode cX9_harm 43 = .ok (.invokevirtual 269, 3) := by decide +kernel
theorem dX9_harm_46 : decode cX9_harm 46 = .ok (.ifCond .ne 6, 3) := by decide +kernel
theorem dX9_harm_49 : decode cX9_harm 49 = .ok (.bipush (-2), 2) := by decide +kernel
theorem dX9_harm_51 : decode cX9_harm 51 = .ok (.ireturn, 1) := by decide +kernel
theorem dX9_harm_52 : decode cX9_harm 52 = .ok (.iload 8, 2) := by decide +kernel
theorem dX9_harm_54 : decode cX9_harm 54 = .ok (.ifCond .eq 25, 3) := by decide +kernel
theorem dX9_harm_57 : decode cX9_harm 57 = .ok (.aload_n 0, 1) := by decide +kernel
theorem dX9_harm_58 : decode cX9_harm 58 = .ok (.getfield 58, 3) := by decide +kernel
theorem dX9_harm_61 : decode cX9_harm 61 = .ok (.aload_n 0, 1) := by decide +kernel
theorem dX9_harm_62 : decode cX9_harm 62 = .ok (.getfield 51, 3) := by decide +kernel
theorem dX9_harm_65 : decode cX9_harm 65 = .ok (.invokevirtual 260, 3) := by decide +kernel
theorem dX9_harm_68 : decode cX9_harm 68 = .ok (.aload_n 0, 1) := by decide +kernel
theorem dX9_harm_69 : decode cX9_harm 69 = .ok (.getfield 58, 3) := by decide +kernel
theorem dX9_harm_72 : decode cX9_harm 72 = .ok (.getfield 264, 3) := by decide +kernel
theorem dX9_harm_75 : decode cX9_harm 75 = .ok (.iload 6, 2) := by decide +kernel
theorem dX9_harm_77 : decode cX9_harm 77 = .ok (.iaload, 1) := by decide +kernel
theorem dX9_harm_78 : decode cX9_harm 78 = .ok (.ireturn, 1) := by decide +kernel
theorem dX9_harm_79 : decode cX9_harm 79 = .ok (.aload_n 0, 1) := by decide +kernel
theorem dX9_harm_80 : decode cX9_harm 80 = .ok (.getfield 51, 3) := by decide +kernel
theorem dX9_harm_83 : decode cX9_harm 83 = .ok (.invokevirtual 272, 3) := by decide +kernel
theorem dX9_harm_86 : decode cX9_harm 86 = .ok (.aload_n 0, 1) := by decide +kernel
theorem dX9_harm_87 : decode cX9_harm 87 = .ok (.getfield 51, 3) := by decide +kernel
theorem dX9_harm_90 : decode cX9_harm 90 = .ok (.iload 9, 2) := by decide +kernel
theorem dX9_harm_92 : decode cX9_harm 92 = .ok (.iload 5, 2) := by decide +kernel
theorem dX9_harm_94 : decode cX9_harm 94 = .ok (.iload 6, 2) := by decide +kernel
theorem dX9_harm_96 : decode cX9_harm 96 = .ok (.iload 7, 2) := by decide +kernel
theorem dX9_harm_98 : decode cX9_harm 98 = .ok (.invokevirtual 275, 3) := by decide +kernel
theorem dX9_harm_101 : decode cX9_harm 101 = .ok (.istore 10, 2) := by decide +kernel
theorem dX9_harm_103 : decode cX9_harm 103 = .ok (.iload 10, 2) := by decide +kernel
theorem dX9_harm_105 : decode cX9_harm 105 = .ok (.iconst (-1), 1) := by decide +kernel
theorem dX9_harm_106 : decode cX9_harm 106 = .ok (.if_icmp .ne 8, 3) := by decide +kernel
theorem dX9_harm_109 : decode cX9_harm 109 = .ok (.bipush (-2), 2) := by decide +kernel
theorem dX9_harm_111 : decode cX9_harm 111 = .ok (.goto 5, 3) := by decide +kernel
theorem dX9_harm_114 : decode cX9_harm 114 = .ok (.iload 10, 2) := by decide +kernel
theorem dX9_harm_116 : decode cX9_harm 116 = .ok (.ireturn, 1) := by decide +kernel
def zX9_harm (Qr : Option PV → Mem → Prop) : XZ := (RX9, 7, 166, 11, some FieldType.int, Qr)
noncomputable def fX9_harm (o : Nat) (x1 : Int) (x2 : Int) (x3 : Int) (x4 : Int) (x5 : Int) (x6 : Int) (x7 : Int) (x8 : Int) (F : Mem) : Option (Int × Mem) :=
  (fX9_gainOfDay o x1 x2 x3 x4 F).bind fun q1 =>
  if q1.1 = (-1) then
    some ((-2), q1.2)
  else
    if (q1.2 (o + 62) 0).toNat = 0 then none else
    if (fX7_hasHouse ((q1.2 (o + 62) 0).toNat) x5 q1.2) = 0 then
      some ((-2), q1.2)
    else
      if (q1.2 (o + 62) 0).toNat = 0 then none else
      if (fX7_hasSlots ((q1.2 (o + 62) 0).toNat) x6 x7 q1.2) ≠ 0 then
        if x8 = 0 then
          (fX1_reachAll (o + 62) q1.2).bind fun q11 =>
          (fX1_harmOf (o + 62) q1.1 x5 x6 x7 q11).bind fun r13 =>
          if r13 ≠ (-1) then
            some (r13, q11)
          else
            some ((-2), q11)
        else
          (fX6_follow (o + 71) (o + 62) q1.2).bind fun q16 =>
          if (0 : Int) ≤ x6 ∧ x6 < (alen ((o + 71) + 1) : Int) then
            some (q16 ((o + 71) + 1) x6.toNat, q16)
          else none
      else
        some ((-2), q1.2)
theorem fX9_harm_ok {Qr : Option PV → Mem → Prop} : ∀ (o : Nat) (x1 : Int) (x2 : Int) (x3 : Int) (x4 : Int) (x5 : Int) (x6 : Int) (x7 : Int) (x8 : Int) (F : Mem) (res : (Int × Mem)) (ho : isK o 9), fX9_harm o x1 x2 x3 x4 x5 x6 x7 x8 F = some res → Qr (some (vI res.1)) res.2 → PR cX9_harm (zX9_harm Qr) 0 [(0, vR o), (1, vI x1), (2, vI x2), (3, vI x3), (4, vI x4), (5, vI x5), (6, vI x6), (7, vI x7), (8, vI x8)] [] F := by
  intro o x1 x2 x3 x4 x5 x6 x7 x8 F res ho h hq
  refine s_aload_n (j := 0) dX9_harm_0 rfl rfl ?_
  refine s_iload_n (j := 1) dX9_harm_1 rfl rfl ?_
  refine s_iload_n (j := 2) dX9_harm_2 rfl rfl ?_
  refine s_iload_n (j := 3) dX9_harm_3 rfl rfl ?_
  refine s_iload (j := 4) dX9_harm_4 rfl ?_
  obtain ⟨q1, hv2, h⟩ := bnd h
  refine s_callV (As := [vI x1, vI x2, vI x3, vI x4]) (rest := []) (r := (some (vI q1.1))) (F' := q1.2) dX9_harm_6 (clX9_265 (Nat.le_of_ble_eq_true rfl) (Nat.le_of_ble_eq_true rfl)) ho rfl ⟨_, _, _, _, _, _, rfl, ho, hv2, rfl, rfl⟩ rfl (Nat.le_of_ble_eq_true rfl) ?_
  refine s_istore (ls' := [(9, vI q1.1), (0, vR o), (1, vI x1), (2, vI x2), (3, vI x3), (4, vI x4), (5, vI x5), (6, vI x6), (7, vI x7), (8, vI x8)]) dX9_harm_9 (Nat.le_of_ble_eq_true rfl) rfl ?_
  refine s_iload (j := 0) dX9_harm_11 rfl ?_
  refine s_iconst dX9_harm_13 (cin rfl) ?_
  refine s_icmp_eq (tgt := 49) dX9_harm_14 rfl (fun hc3 => ?_) (fun hc3 => ?_)
  · have h := ifp hc3 h
    refine s_bipush dX9_harm_49 rfl (cin rfl) ?_
    have h := Option.some.inj h
    subst h
    exact s_ireturn dX9_harm_51 rfl hq
  · have h := ifn hc3 h
    refine s_aload_n (j := 1) dX9_harm_17 rfl rfl ?_
    refine s_getR dX9_harm_18 flX9_51 ho ?_
    refine s_getM dX9_harm_21 flX9_259 (trX9_7 ho) (fun hm4 => ?_)
    have hm4 : _ = 0 ∨ isK ((q1.2 (o + 62) 0).toNat) 7 := hm4
    refine s_iload (j := 6) dX9_harm_24 rfl ?_
    obtain ⟨hn5, h⟩ := gdn h
    refine s_callV (As := [vI x5]) (rest := []) (r := (some (vI (fX7_hasHouse ((q1.2 (o + 62) 0).toNat) x5 q1.2)))) (F' := q1.2) dX9_harm_26 (clX9_141 (Nat.le_of_ble_eq_true rfl) (Nat.le_of_ble_eq_true rfl)) (hm4.resolve_left hn5) rfl ⟨_, _, _, rfl, (hm4.resolve_left hn5), rfl, rfl, rfl⟩ rfl (Nat.le_of_ble_eq_true rfl) ?_
    refine s_if_eq (tgt := 49) dX9_harm_29 rfl (fun hc6 => ?_) (fun hc6 => ?_)
    · have h := ifp hc6 h
      refine s_bipush dX9_harm_49 rfl (cin rfl) ?_
      have h := Option.some.inj h
      subst h
      exact s_ireturn dX9_harm_51 rfl hq
    · have h := ifn hc6 h
      refine s_aload_n (j := 1) dX9_harm_32 rfl rfl ?_
      refine s_getR dX9_harm_33 flX9_51 ho ?_
      refine s_getM dX9_harm_36 flX9_259 (trX9_7 ho) (fun hm7 => ?_)
      have hm7 : _ = 0 ∨ isK ((q1.2 (o + 62) 0).toNat) 7 := hm7
      refine s_iload (j := 7) dX9_harm_39 rfl ?_
      refine s_iload (j := 8) dX9_harm_41 rfl ?_
      obtain ⟨hn8, h⟩ := gdn h
      refine s_callV (As := [vI x6, vI x7]) (rest := []) (r := (some (vI (fX7_hasSlots ((q1.2 (o + 62) 0).toNat) x6 x7 q1.2)))) (F' := q1.2) dX9_harm_43 (clX9_269 (Nat.le_of_ble_eq_true rfl) (Nat.le_of_ble_eq_true rfl)) (hm7.resolve_left hn8) rfl ⟨_, _, _, _, rfl, (hm7.resolve_left hn8), rfl, rfl, rfl⟩ rfl (Nat.le_of_ble_eq_true rfl) ?_
      refine s_if_ne (tgt := 52) dX9_harm_46 rfl (fun hc9 => ?_) (fun hc9 => ?_)
      · have h := ifp hc9 h
        refine s_iload (j := 9) dX9_harm_52 rfl ?_
        refine s_if_eq (tgt := 79) dX9_harm_54 rfl (fun hc10 => ?_) (fun hc10 => ?_)
        · have h := ifp hc10 h
          refine s_aload_n (j := 1) dX9_harm_79 rfl rfl ?_
          refine s_getR dX9_harm_80 flX9_51 ho ?_
          obtain ⟨q11, hv12, h⟩ := bnd h
          refine s_callV (As := []) (rest := []) (r := none) (F' := q11) dX9_harm_83 (clX9_272 (Nat.le_of_ble_eq_true rfl) (Nat.le_of_ble_eq_true rfl)) (trX9_7 ho) rfl ⟨_, _, rfl, (trX9_7 ho), hv12, rfl, rfl⟩ rfl (Nat.le_of_ble_eq_true rfl) ?_
          refine s_aload_n (j := 1) dX9_harm_86 rfl rfl ?_
          refine s_getR dX9_harm_87 flX9_51 ho ?_
          refine s_iload (j := 0) dX9_harm_90 rfl ?_
          refine s_iload (j := 6) dX9_harm_92 rfl ?_
          refine s_iload (j := 7) dX9_harm_94 rfl ?_
          refine s_iload (j := 8) dX9_harm_96 rfl ?_
          obtain ⟨r13, hv14, h⟩ := bnd h
          refine s_callV (As := [vI q1.1, vI x5, vI x6, vI x7]) (rest := []) (r := (some (vI r13))) (F' := q11) dX9_harm_98 (clX9_275 (Nat.le_of_ble_eq_true rfl) (Nat.le_of_ble_eq_true rfl)) (trX9_7 ho) rfl ⟨_, _, _, _, _, _, rfl, (trX9_7 ho), hv14, rfl, rfl⟩ rfl (Nat.le_of_ble_eq_true rfl) ?_
          refine s_istore (ls' := [(10, vI r13), (9, vI q1.1), (0, vR o), (1, vI x1), (2, vI x2), (3, vI x3), (4, vI x4), (5, vI x5), (6, vI x6), (7, vI x7), (8, vI x8)]) dX9_harm_101 (Nat.le_of_ble_eq_true rfl) rfl ?_
          refine s_iload (j := 0) dX9_harm_103 rfl ?_
          refine s_iconst dX9_harm_105 (cin rfl) ?_
          refine s_icmp_ne (tgt := 114) dX9_harm_106 rfl (fun hc15 => ?_) (fun hc15 => ?_)
          · have h := ifp hc15 h
            refine s_iload (j := 0) dX9_harm_114 rfl ?_
            have h := Option.some.inj h
            subst h
            exact s_ireturn dX9_harm_116 rfl hq
          · have h := ifn hc15 h
            refine s_bipush dX9_harm_109 rfl (cin rfl) ?_
            refine s_goto (tgt := 116) dX9_harm_111 rfl ?_
            have h := Option.some.inj h
            subst h
            exact s_ireturn dX9_harm_116 rfl hq
        · have h := ifn hc10 h
          refine s_aload_n (j := 1) dX9_harm_57 rfl rfl ?_
          refine s_getR dX9_harm_58 flX9_58 ho ?_
          refine s_aload_n (j := 1) dX9_harm_61 rfl rfl ?_
          refine s_getR dX9_harm_62 flX9_51 ho ?_
          obtain ⟨q16, hv17, h⟩ := bnd h
          refine s_callV (As := [vR (o + 62)]) (rest := []) (r := none) (F' := q16) dX9_harm_65 (clX9_260 (Nat.le_of_ble_eq_true rfl) (Nat.le_of_ble_eq_true rfl)) (trX9_8 ho) rfl ⟨_, _, _, rfl, (trX9_8 ho), (Or.inr (trX9_7 ho)), hv17, rfl, rfl⟩ rfl (Nat.le_of_ble_eq_true rfl) ?_
          refine s_aload_n (j := 1) dX9_harm_68 rfl rfl ?_
          refine s_getR dX9_harm_69 flX9_58 ho ?_
          refine s_getR dX9_harm_72 flX9_264 (trX9_8 ho) ?_
          refine s_iload (j := 7) dX9_harm_75 rfl ?_
          obtain ⟨hb18, h⟩ := gd h
          refine s_iaload dX9_harm_77 (trX6_0 (trX9_8 ho)) hb18.1 hb18.2 ?_
          have h := Option.some.inj h
          subst h
          exact s_ireturn dX9_harm_78 rfl hq
      · have h := ifn hc9 h
        refine s_bipush dX9_harm_49 rfl (cin rfl) ?_
        have h := Option.some.inj h
        subst h
        exact s_ireturn dX9_harm_51 rfl hq
def gX9_harm : XG := fun As F r F' => ∃ o : Nat, ∃ x1 : Int, ∃ x2 : Int, ∃ x3 : Int, ∃ x4 : Int, ∃ x5 : Int, ∃ x6 : Int, ∃ x7 : Int, ∃ x8 : Int, ∃ res : (Int × Mem), As = [vR o, vI x1, vI x2, vI x3, vI x4, vI x5, vI x6, vI x7, vI x8] ∧ isK o 9 ∧ fX9_harm o x1 x2 x3 x4 x5 x6 x7 x8 F = some res ∧ r = some (vI res.1) ∧ F' = res.2
theorem ctX9_harm : xCT yX9_harm cX9_harm 11 (some FieldType.int) 7 166 gX9_harm := xmet (by decide +kernel) (fun As F r F' hg => by obtain ⟨o, x1, x2, x3, x4, x5, x6, x7, x8, res, rfl, ho, h, rfl, rfl⟩ := hg; exact Nat.le_of_ble_eq_true rfl) (fun As F r F' hg => by obtain ⟨o, x1, x2, x3, x4, x5, x6, x7, x8, res, rfl, ho, h, rfl, rfl⟩ := hg; exact fX9_harm_ok o x1 x2 x3 x4 x5 x6 x7 x8 _ _ ho h ⟨rfl, rfl⟩)
theorem mcX9_harm : Cond.code yX9_harm cX9_harm 11 (some FieldType.int) ∈ xw_T ∧ Cond.initialized yX9_harm.cls ∈ xw_T ∧ Cond.instanceMethod yX9_harm ∈ xw_T ∧ Cond.selects yX9_harm.cls yX9_harm yX9_harm ∈ xw_T := ⟨(xinT 1106 (by decide +kernel) (by decide +kernel)), (xinT 116 (by decide +kernel) (by decide +kernel)), (xinT 1104 (by decide +kernel) (by decide +kernel)), (xinT 1105 (by decide +kernel) (by decide +kernel))⟩
theorem dX9_soon_0 : decode cX9_soon 0 = .ok (.aload_n 0, 1) := by decide +kernel
theorem dX9_soon_1 : decode cX9_soon 1 = .ok (.iload_n 1, 1) := by decide +kernel
theorem dX9_soon_2 : decode cX9_soon 2 = .ok (.iload_n 2, 1) := by decide +kernel
theorem dX9_soon_3 : decode cX9_soon 3 = .ok (.iload_n 3, 1) := by decide +kernel
theorem dX9_soon_4 : decode cX9_soon 4 = .ok (.iload 4, 2) := by decide +kernel
theorem dX9_soon_6 : decode cX9_soon 6 = .ok (.invokevirtual 265, 3) := by decide +kernel
theorem dX9_soon_9 : decode cX9_soon 9 = .ok (.istore 7, 2) := by decide +kernel
theorem dX9_soon_11 : decode cX9_soon 11 = .ok (.iload 7, 2) := by decide +kernel
theorem dX9_soon_13 : decode cX9_soon 13 = .ok (.iconst (-1), 1) := by decide +kernel
theorem dX9_soon_14 : decode cX9_soon 14 = .ok (.if_icmp .eq 38, 3) := by decide +kernel
theorem dX9_soon_17 : decode cX9_soon 17 = .ok (.aload_n 0, 1) := by decide +kernel
theorem dX9_soon_18 : decode cX9_soon 18 = .ok (.getfield 51, 3) := by decide +kernel
theorem dX9_soon_21 : decode cX9_soon 21 = .ok (.getfield 259, 3) := by decide +kernel
theorem dX9_soon_24 : decode cX9_soon 24 = .ok (.iload 5, 2) := by decide +kernel
theorem dX9_soon_26 : decode cX9_soon 26 = .ok (.invokevirtual 141, 3) := by decide +kernel
theorem dX9_soon_29 : decode cX9_soon 29 = .ok (.ifCond .eq 23, 3) := by decide +kernel
theorem dX9_soon_32 : decode cX9_soon 32 = .ok (.iload 6, 2) := by decide +kernel
theorem dX9_soon_34 : decode cX9_soon 34 = .ok (.ifCond .lt 18, 3) := by decide +kernel
theorem dX9_soon_37 : decode cX9_soon 37 = .ok (.iload 6, 2) := by decide +kernel
theorem dX9_soon_39 : decode cX9_soon 39 = .ok (.aload_n 0, 1) := by decide +kernel
theorem dX9_soon_40 : decode cX9_soon 40 = .ok (.getfield 51, 3) := by decide +kernel
theorem dX9_soon_43 : decode cX9_soon 43 = .ok (.getfield 259, 3) := by decide +kernel
theorem dX9_soon_46 : decode cX9_soon 46 = .ok (.getfield 109, 3) := by decide +kernel
theorem dX9_soon_49 : decode cX9_soon 49 = .ok (.if_icmp .lt 6, 3) := by decide +kernel
theorem dX9_soon_52 : decode cX9_soon 52 = .ok (.bipush (-2), 2) := by decide +kernel
theorem dX9_soon_54 : decode cX9_soon 54 = .ok (.ireturn, 1) := by decide +kernel
theorem dX9_soon_55 : decode cX9_soon 55 = .ok (.aload_n 0, 1) := by decide +kernel
theorem dX9_soon_56 : decode cX9_soon 56 = .ok (.getfield 58, 3) := by decide +kernel
theorem dX9_soon_59 : decode cX9_soon 59 = .ok (.aload_n 0, 1) := by decide +kernel
theorem dX9_soon_60 : decode cX9_soon 60 = .ok (.getfield 51, 3) := by decide +kernel
theorem dX9_soon_63 : decode cX9_soon 63 = .ok (.invokevirtual 260, 3) := by decide +kernel
theorem dX9_soon_66 : decode cX9_soon 66 = .ok (.aload_n 0, 1) := by decide +kernel
theorem dX9_soon_67 : decode cX9_soon 67 = .ok (.getfield 58, 3) := by decide +kernel
theorem dX9_soon_70 : decode cX9_soon 70 = .ok (.getfield 278, 3) := by decide +kernel
theorem dX9_soon_73 : decode cX9_soon 73 = .ok (.iload 6, 2) := by decide +kernel
theorem dX9_soon_75 : decode cX9_soon 75 = .ok (.iaload, 1) := by decide +kernel
theorem dX9_soon_76 : decode cX9_soon 76 = .ok (.aload_n 0, 1) := by decide +kernel
theorem dX9_soon_77 : decode cX9_soon 77 = .ok (.getfield 51, 3) := by decide +kernel
theorem dX9_soon_80 : decode cX9_soon 80 = .ok (.getfield 259, 3) := by decide +kernel
theorem dX9_soon_83 : decode cX9_soon 83 = .ok (.aload_n 0, 1) := by decide +kernel
theorem dX9_soon_84 : decode cX9_soon 84 = .ok (.getfield 58, 3) := by decide +kernel
theorem dX9_soon_87 : decode cX9_soon 87 = .ok (.getfield 281, 3) := by decide +kernel
theorem dX9_soon_90 : decode cX9_soon 90 = .ok (.iload 6, 2) := by decide +kernel
theorem dX9_soon_92 : decode cX9_soon 92 = .ok (.iaload, 1) := by decide +kernel
theorem dX9_soon_93 : decode cX9_soon 93 = .ok (.iload 5, 2) := by decide +kernel
theorem dX9_soon_95 : decode cX9_soon 95 = .ok (.aload_n 0, 1) := by decide +kernel
theorem dX9_soon_96 : decode cX9_soon 96 = .ok (.getfield 51, 3) := by decide +kernel
theorem dX9_soon_99 : decode cX9_soon 99 = .ok (.getfield 259, 3) := by decide +kernel
theorem dX9_soon_102 : decode cX9_soon 102 = .ok (.getfield 114, 3) := by decide +kernel
theorem dX9_soon_105 : decode cX9_soon 105 = .ok (.invokevirtual 145, 3) := by decide +kernel
theorem dX9_soon_108 : decode cX9_soon 108 = .ok (.iadd, 1) := by decide +kernel
theorem dX9_soon_109 : decode cX9_soon 109 = .ok (.ireturn, 1) := by decide +kernel
def zX9_soon (Qr : Option PV → Mem → Prop) : XZ := (RX9, 7, 166, 8, some FieldType.int, Qr)
noncomputable def fX9_soon (o : Nat) (x1 : Int) (x2 : Int) (x3 : Int) (x4 : Int) (x5 : Int) (x6 : Int) (F : Mem) : Option (Int × Mem) :=
  (fX9_gainOfDay o x1 x2 x3 x4 F).bind fun q1 =>
  if q1.1 = (-1) then
    some ((-2), q1.2)
  else
    if (q1.2 (o + 62) 0).toNat = 0 then none else
    if (fX7_hasHouse ((q1.2 (o + 62) 0).toNat) x5 q1.2) = 0 then
      some ((-2), q1.2)
    else
      if x6 < 0 then
        some ((-2), q1.2)
      else
        if (q1.2 (o + 62) 0).toNat = 0 then none else
        if x6 < (q1.2 ((q1.2 (o + 62) 0).toNat) 0) then
          (fX6_follow (o + 71) (o + 62) q1.2).bind fun q11 =>
          if (0 : Int) ≤ x6 ∧ x6 < (alen ((o + 71) + 3) : Int) then
            if (0 : Int) ≤ x6 ∧ x6 < (alen ((o + 71) + 4) : Int) then
              if (q11 (o + 62) 0).toNat = 0 then none else
              if (q11 (o + 62) 0).toNat = 0 then none else
              (fX7_slotsBetween ((q11 (o + 62) 0).toNat) (q11 ((o + 71) + 4) x6.toNat) x5 (q11 ((q11 (o + 62) 0).toNat) 1) q11).bind fun r19 =>
              some (xw ((q11 ((o + 71) + 3) x6.toNat) + r19), q11)
            else none
          else none
        else
          some ((-2), q1.2)
theorem fX9_soon_ok {Qr : Option PV → Mem → Prop} : ∀ (o : Nat) (x1 : Int) (x2 : Int) (x3 : Int) (x4 : Int) (x5 : Int) (x6 : Int) (F : Mem) (res : (Int × Mem)) (ho : isK o 9), fX9_soon o x1 x2 x3 x4 x5 x6 F = some res → Qr (some (vI res.1)) res.2 → PR cX9_soon (zX9_soon Qr) 0 [(0, vR o), (1, vI x1), (2, vI x2), (3, vI x3), (4, vI x4), (5, vI x5), (6, vI x6)] [] F := by
  intro o x1 x2 x3 x4 x5 x6 F res ho h hq
  refine s_aload_n (j := 0) dX9_soon_0 rfl rfl ?_
  refine s_iload_n (j := 1) dX9_soon_1 rfl rfl ?_
  refine s_iload_n (j := 2) dX9_soon_2 rfl rfl ?_
  refine s_iload_n (j := 3) dX9_soon_3 rfl rfl ?_
  refine s_iload (j := 4) dX9_soon_4 rfl ?_
  obtain ⟨q1, hv2, h⟩ := bnd h
  refine s_callV (As := [vI x1, vI x2, vI x3, vI x4]) (rest := []) (r := (some (vI q1.1))) (F' := q1.2) dX9_soon_6 (clX9_265 (Nat.le_of_ble_eq_true rfl) (Nat.le_of_ble_eq_true rfl)) ho rfl ⟨_, _, _, _, _, _, rfl, ho, hv2, rfl, rfl⟩ rfl (Nat.le_of_ble_eq_true rfl) ?_
  refine s_istore (ls' := [(7, vI q1.1), (0, vR o), (1, vI x1), (2, vI x2), (3, vI x3), (4, vI x4), (5, vI x5), (6, vI x6)]) dX9_soon_9 (Nat.le_of_ble_eq_true rfl) rfl ?_
  refine s_iload (j := 0) dX9_soon_11 rfl ?_
  refine s_iconst dX9_soon_13 (cin rfl) ?_
  refine s_icmp_eq (tgt := 52) dX9_soon_14 rfl (fun hc3 => ?_) (fun hc3 => ?_)
  · have h := ifp hc3 h
    refine s_bipush dX9_soon_52 rfl (cin rfl) ?_
    have h := Option.some.inj h
    subst h
    exact s_ireturn dX9_soon_54 rfl hq
  · have h := ifn hc3 h
    refine s_aload_n (j := 1) dX9_soon_17 rfl rfl ?_
    refine s_getR dX9_soon_18 flX9_51 ho ?_
    refine s_getM dX9_soon_21 flX9_259 (trX9_7 ho) (fun hm4 => ?_)
    have hm4 : _ = 0 ∨ isK ((q1.2 (o + 62) 0).toNat) 7 := hm4
    refine s_iload (j := 6) dX9_soon_24 rfl ?_
    obtain ⟨hn5, h⟩ := gdn h
    refine s_callV (As := [vI x5]) (rest := []) (r := (some (vI (fX7_hasHouse ((q1.2 (o + 62) 0).toNat) x5 q1.2)))) (F' := q1.2) dX9_soon_26 (clX9_141 (Nat.le_of_ble_eq_true rfl) (Nat.le_of_ble_eq_true rfl)) (hm4.resolve_left hn5) rfl ⟨_, _, _, rfl, (hm4.resolve_left hn5), rfl, rfl, rfl⟩ rfl (Nat.le_of_ble_eq_true rfl) ?_
    refine s_if_eq (tgt := 52) dX9_soon_29 rfl (fun hc6 => ?_) (fun hc6 => ?_)
    · have h := ifp hc6 h
      refine s_bipush dX9_soon_52 rfl (cin rfl) ?_
      have h := Option.some.inj h
      subst h
      exact s_ireturn dX9_soon_54 rfl hq
    · have h := ifn hc6 h
      refine s_iload (j := 7) dX9_soon_32 rfl ?_
      refine s_if_lt (tgt := 52) dX9_soon_34 rfl (fun hc7 => ?_) (fun hc7 => ?_)
      · have h := ifp hc7 h
        refine s_bipush dX9_soon_52 rfl (cin rfl) ?_
        have h := Option.some.inj h
        subst h
        exact s_ireturn dX9_soon_54 rfl hq
      · have h := ifn hc7 h
        refine s_iload (j := 7) dX9_soon_37 rfl ?_
        refine s_aload_n (j := 1) dX9_soon_39 rfl rfl ?_
        refine s_getR dX9_soon_40 flX9_51 ho ?_
        refine s_getM dX9_soon_43 flX9_259 (trX9_7 ho) (fun hm8 => ?_)
        have hm8 : _ = 0 ∨ isK ((q1.2 (o + 62) 0).toNat) 7 := hm8
        obtain ⟨hn9, h⟩ := gdn h
        refine s_getI dX9_soon_46 flX9_109 (hm8.resolve_left hn9) ?_
        refine s_icmp_lt (tgt := 55) dX9_soon_49 rfl (fun hc10 => ?_) (fun hc10 => ?_)
        · have h := ifp hc10 h
          refine s_aload_n (j := 1) dX9_soon_55 rfl rfl ?_
          refine s_getR dX9_soon_56 flX9_58 ho ?_
          refine s_aload_n (j := 1) dX9_soon_59 rfl rfl ?_
          refine s_getR dX9_soon_60 flX9_51 ho ?_
          obtain ⟨q11, hv12, h⟩ := bnd h
          refine s_callV (As := [vR (o + 62)]) (rest := []) (r := none) (F' := q11) dX9_soon_63 (clX9_260 (Nat.le_of_ble_eq_true rfl) (Nat.le_of_ble_eq_true rfl)) (trX9_8 ho) rfl ⟨_, _, _, rfl, (trX9_8 ho), (Or.inr (trX9_7 ho)), hv12, rfl, rfl⟩ rfl (Nat.le_of_ble_eq_true rfl) ?_
          refine s_aload_n (j := 1) dX9_soon_66 rfl rfl ?_
          refine s_getR dX9_soon_67 flX9_58 ho ?_
          refine s_getR dX9_soon_70 flX9_278 (trX9_8 ho) ?_
          refine s_iload (j := 7) dX9_soon_73 rfl ?_
          obtain ⟨hb13, h⟩ := gd h
          refine s_iaload dX9_soon_75 (trX6_2 (trX9_8 ho)) hb13.1 hb13.2 ?_
          refine s_aload_n (j := 1) dX9_soon_76 rfl rfl ?_
          refine s_getR dX9_soon_77 flX9_51 ho ?_
          refine s_getM dX9_soon_80 flX9_259 (trX9_7 ho) (fun hm14 => ?_)
          have hm14 : _ = 0 ∨ isK ((q11 (o + 62) 0).toNat) 7 := hm14
          refine s_aload_n (j := 1) dX9_soon_83 rfl rfl ?_
          refine s_getR dX9_soon_84 flX9_58 ho ?_
          refine s_getR dX9_soon_87 flX9_281 (trX9_8 ho) ?_
          refine s_iload (j := 7) dX9_soon_90 rfl ?_
          obtain ⟨hb15, h⟩ := gd h
          refine s_iaload dX9_soon_92 (trX6_3 (trX9_8 ho)) hb15.1 hb15.2 ?_
          refine s_iload (j := 6) dX9_soon_93 rfl ?_
          refine s_aload_n (j := 1) dX9_soon_95 rfl rfl ?_
          refine s_getR dX9_soon_96 flX9_51 ho ?_
          refine s_getM dX9_soon_99 flX9_259 (trX9_7 ho) (fun hm16 => ?_)
          have hm16 : _ = 0 ∨ isK ((q11 (o + 62) 0).toNat) 7 := hm16
          obtain ⟨hn17, h⟩ := gdn h
          refine s_getI dX9_soon_102 flX9_114 (hm16.resolve_left hn17) ?_
          obtain ⟨hn18, h⟩ := gdn h
          obtain ⟨r19, hv20, h⟩ := bnd h
          refine s_callV (As := [vI (q11 ((o + 71) + 4) x6.toNat), vI x5, vI (q11 ((q11 (o + 62) 0).toNat) 1)]) (rest := [vI (q11 ((o + 71) + 3) x6.toNat)]) (r := (some (vI r19))) (F' := q11) dX9_soon_105 (clX9_145 (Nat.le_of_ble_eq_true rfl) (Nat.le_of_ble_eq_true rfl)) (hm14.resolve_left hn18) rfl ⟨_, _, _, _, _, rfl, (hm14.resolve_left hn18), hv20, rfl, rfl⟩ rfl (Nat.le_of_ble_eq_true rfl) ?_
          refine s_iadd dX9_soon_108 ?_
          have h := Option.some.inj h
          subst h
          exact s_ireturn dX9_soon_109 rfl hq
        · have h := ifn hc10 h
          refine s_bipush dX9_soon_52 rfl (cin rfl) ?_
          have h := Option.some.inj h
          subst h
          exact s_ireturn dX9_soon_54 rfl hq
def gX9_soon : XG := fun As F r F' => ∃ o : Nat, ∃ x1 : Int, ∃ x2 : Int, ∃ x3 : Int, ∃ x4 : Int, ∃ x5 : Int, ∃ x6 : Int, ∃ res : (Int × Mem), As = [vR o, vI x1, vI x2, vI x3, vI x4, vI x5, vI x6] ∧ isK o 9 ∧ fX9_soon o x1 x2 x3 x4 x5 x6 F = some res ∧ r = some (vI res.1) ∧ F' = res.2
theorem ctX9_soon : xCT yX9_soon cX9_soon 8 (some FieldType.int) 7 166 gX9_soon := xmet (by decide +kernel) (fun As F r F' hg => by obtain ⟨o, x1, x2, x3, x4, x5, x6, res, rfl, ho, h, rfl, rfl⟩ := hg; exact Nat.le_of_ble_eq_true rfl) (fun As F r F' hg => by obtain ⟨o, x1, x2, x3, x4, x5, x6, res, rfl, ho, h, rfl, rfl⟩ := hg; exact fX9_soon_ok o x1 x2 x3 x4 x5 x6 _ _ ho h ⟨rfl, rfl⟩)
theorem mcX9_soon : Cond.code yX9_soon cX9_soon 8 (some FieldType.int) ∈ xw_T ∧ Cond.initialized yX9_soon.cls ∈ xw_T ∧ Cond.instanceMethod yX9_soon ∈ xw_T ∧ Cond.selects yX9_soon.cls yX9_soon yX9_soon ∈ xw_T := ⟨(xinT 1134 (by decide +kernel) (by decide +kernel)), (xinT 116 (by decide +kernel) (by decide +kernel)), (xinT 1132 (by decide +kernel) (by decide +kernel)), (xinT 1133 (by decide +kernel) (by decide +kernel))⟩
theorem dX9_worth_0 : decode cX9_worth 0 = .ok (.aload_n 0, 1) := by decide +kernel
theorem dX9_worth_1 : decode cX9_worth 1 = .ok (.iload_n 1, 1) := by decide +kernel
theorem dX9_worth_2 : decode cX9_worth 2 = .ok (.iload_n 2, 1) := by decide +kernel
theorem dX9_worth_3 : decode cX9_worth 3 = .ok (.iload_n 3, 1) := by decide +kernel
theorem dX9_worth_4 : decode cX9_worth 4 = .ok (.iload 4, 2) := by decide +kernel
theorem dX9_worth_6 : decode cX9_worth 6 = .ok (.invokevirtual 265, 3) := by decide +kernel
theorem dX9_worth_9 : decode cX9_worth 9 = .ok (.istore 8, 2) := by decide +kernel
theorem dX9_worth_11 : decode cX9_worth 11 = .ok (.iload 8, 2) := by decide +kernel
theorem dX9_worth_13 : decode cX9_worth 13 = .ok (.iconst (-1), 1) := by decide +kernel
theorem dX9_worth_14 : decode cX9_worth 14 = .ok (.if_icmp .eq 41, 3) := by decide +kernel
theorem dX9_worth_17 : decode cX9_worth 17 = .ok (.aload_n 0, 1) := by decide +kernel
theorem dX9_worth_18 : decode cX9_worth 18 = .ok (.getfield 51, 3) := by decide +kernel
theorem dX9_worth_21 : decode cX9_worth 21 = .ok (.getfield 259, 3) := by decide +kernel
theorem dX9_worth_24 : decode cX9_worth 24 = .ok (.iload 6, 2) := by decide +kernel
theorem dX9_worth_26 : decode cX9_worth 26 = .ok (.iload 7, 2) := by decide +kernel
theorem dX9_worth_28 : decode cX9_worth 28 = .ok (.invokevirtual 269, 3) := by decide +kernel
theorem dX9_worth_31 : decode cX9_worth 31 = .ok (.ifCond .eq 24, 3) := by decide +kernel
theorem dX9_worth_34 : decode cX9_worth 34 = .ok (.iload 5, 2) := by decide +kernel
theorem dX9_worth_36 : decode cX9_worth 36 = .ok (.iconst (-1), 1) := by decide +kernel
theorem dX9_worth_37 : decode cX9_worth 37 = .ok (.if_icmp .eq 21, 3) := by decide +kernel
theorem dX9_worth_40 : decode cX9_worth 40 = .ok (.aload_n 0, 1) := by decide +kernel
theorem dX9_worth_41 : decode cX9_worth 41 = .ok (.getfield 51, 3) := by decide +kernel
theorem dX9_worth_44 : decode cX9_worth 44 = .ok (.getfield 259, 3) := by decide +kernel
theorem dX9_worth_47 : decode cX9_worth 47 = .ok (.iload 5, 2) := by decide +kernel
theorem dX9_worth_49 : decode cX9_worth 49 = .ok (.invokevirtual 141, 3) := by decide +kernel
theorem dX9_worth_52 : decode cX9_worth 52 = .ok (.ifCond .ne 6, 3) := by decide +kernel
theorem dX9_worth_55 : decode cX9_worth 55 = .ok (.bipush (-2), 2) := by decide +kernel
theorem dX9_worth_57 : decode cX9_worth 57 = .ok (.ireturn, 1) := by decide +kernel
theorem dX9_worth_58 : decode cX9_worth 58 = .ok (.aload_n 0, 1) := by decide +kernel
theorem dX9_worth_59 : decode cX9_worth 59 = .ok (.getfield 51, 3) := by decide +kernel
theorem dX9_worth_62 : decode cX9_worth 62 = .ok (.iload 8, 2) := by decide +kernel
theorem dX9_worth_64 : decode cX9_worth 64 = .ok (.iload 5, 2) := by decide +kernel
theorem dX9_worth_66 : decode cX9_worth 66 = .ok (.iload 6, 2) := by decide +kernel
theorem dX9_worth_68 : decode cX9_worth 68 = .ok (.iload 7, 2) := by decide +kernel
theorem dX9_worth_70 : decode cX9_worth 70 = .ok (.invokevirtual 284, 3) := by decide +kernel
theorem dX9_worth_73 : decode cX9_worth 73 = .ok (.ireturn, 1) := by decide +kernel
def zX9_worth (Qr : Option PV → Mem → Prop) : XZ := (RX9, 7, 166, 9, some FieldType.int, Qr)
noncomputable def fX9_worth_b58 (o : Nat) (x5 : Int) (x6 : Int) (x7 : Int) (x8 : Int) (F : Mem) : Option (Int × Mem) :=
  (fX1_lossOf (o + 62) x8 x5 x6 x7 F).bind fun q1 =>
  some (q1.1, q1.2)
noncomputable def fX9_worth (o : Nat) (x1 : Int) (x2 : Int) (x3 : Int) (x4 : Int) (x5 : Int) (x6 : Int) (x7 : Int) (F : Mem) : Option (Int × Mem) :=
  (fX9_gainOfDay o x1 x2 x3 x4 F).bind fun q1 =>
  if q1.1 = (-1) then
    some ((-2), q1.2)
  else
    if (q1.2 (o + 62) 0).toNat = 0 then none else
    if (fX7_hasSlots ((q1.2 (o + 62) 0).toNat) x6 x7 q1.2) = 0 then
      some ((-2), q1.2)
    else
      if x5 = (-1) then
        fX9_worth_b58 o x5 x6 x7 q1.1 q1.2
      else
        if (q1.2 (o + 62) 0).toNat = 0 then none else
        if (fX7_hasHouse ((q1.2 (o + 62) 0).toNat) x5 q1.2) ≠ 0 then
          fX9_worth_b58 o x5 x6 x7 q1.1 q1.2
        else
          some ((-2), q1.2)
theorem fX9_worth_b58_ok {Qr : Option PV → Mem → Prop}  : ∀ (o : Nat) (x5 : Int) (x6 : Int) (x7 : Int) (x8 : Int) (F : Mem) (res : (Int × Mem)) (ho : isK o 9), fX9_worth_b58 o x5 x6 x7 x8 F = some res → Qr (some (vI res.1)) res.2 → PR cX9_worth (zX9_worth Qr) 58 [(0, vR o), (5, vI x5), (6, vI x6), (7, vI x7), (8, vI x8)] [] F := by
  intro o x5 x6 x7 x8 F res ho h hq
  refine s_aload_n (j := 0) dX9_worth_58 rfl rfl ?_
  refine s_getR dX9_worth_59 flX9_51 ho ?_
  refine s_iload (j := 4) dX9_worth_62 rfl ?_
  refine s_iload (j := 1) dX9_worth_64 rfl ?_
  refine s_iload (j := 2) dX9_worth_66 rfl ?_
  refine s_iload (j := 3) dX9_worth_68 rfl ?_
  obtain ⟨q1, hv2, h⟩ := bnd h
  refine s_callV (As := [vI x8, vI x5, vI x6, vI x7]) (rest := []) (r := (some (vI q1.1))) (F' := q1.2) dX9_worth_70 (clX9_284 (Nat.le_of_ble_eq_true rfl) (Nat.le_of_ble_eq_true rfl)) (trX9_7 ho) rfl ⟨_, _, _, _, _, _, rfl, (trX9_7 ho), hv2, rfl, rfl⟩ rfl (Nat.le_of_ble_eq_true rfl) ?_
  have h := Option.some.inj h
  subst h
  exact s_ireturn dX9_worth_73 rfl hq
theorem fX9_worth_ok {Qr : Option PV → Mem → Prop} : ∀ (o : Nat) (x1 : Int) (x2 : Int) (x3 : Int) (x4 : Int) (x5 : Int) (x6 : Int) (x7 : Int) (F : Mem) (res : (Int × Mem)) (ho : isK o 9), fX9_worth o x1 x2 x3 x4 x5 x6 x7 F = some res → Qr (some (vI res.1)) res.2 → PR cX9_worth (zX9_worth Qr) 0 [(0, vR o), (1, vI x1), (2, vI x2), (3, vI x3), (4, vI x4), (5, vI x5), (6, vI x6), (7, vI x7)] [] F := by
  intro o x1 x2 x3 x4 x5 x6 x7 F res ho h hq
  refine s_aload_n (j := 0) dX9_worth_0 rfl rfl ?_
  refine s_iload_n (j := 1) dX9_worth_1 rfl rfl ?_
  refine s_iload_n (j := 2) dX9_worth_2 rfl rfl ?_
  refine s_iload_n (j := 3) dX9_worth_3 rfl rfl ?_
  refine s_iload (j := 4) dX9_worth_4 rfl ?_
  obtain ⟨q1, hv2, h⟩ := bnd h
  refine s_callV (As := [vI x1, vI x2, vI x3, vI x4]) (rest := []) (r := (some (vI q1.1))) (F' := q1.2) dX9_worth_6 (clX9_265 (Nat.le_of_ble_eq_true rfl) (Nat.le_of_ble_eq_true rfl)) ho rfl ⟨_, _, _, _, _, _, rfl, ho, hv2, rfl, rfl⟩ rfl (Nat.le_of_ble_eq_true rfl) ?_
  refine s_istore (ls' := [(8, vI q1.1), (0, vR o), (1, vI x1), (2, vI x2), (3, vI x3), (4, vI x4), (5, vI x5), (6, vI x6), (7, vI x7)]) dX9_worth_9 (Nat.le_of_ble_eq_true rfl) rfl ?_
  refine s_iload (j := 0) dX9_worth_11 rfl ?_
  refine s_iconst dX9_worth_13 (cin rfl) ?_
  refine s_icmp_eq (tgt := 55) dX9_worth_14 rfl (fun hc3 => ?_) (fun hc3 => ?_)
  · have h := ifp hc3 h
    refine s_bipush dX9_worth_55 rfl (cin rfl) ?_
    have h := Option.some.inj h
    subst h
    exact s_ireturn dX9_worth_57 rfl hq
  · have h := ifn hc3 h
    refine s_aload_n (j := 1) dX9_worth_17 rfl rfl ?_
    refine s_getR dX9_worth_18 flX9_51 ho ?_
    refine s_getM dX9_worth_21 flX9_259 (trX9_7 ho) (fun hm4 => ?_)
    have hm4 : _ = 0 ∨ isK ((q1.2 (o + 62) 0).toNat) 7 := hm4
    refine s_iload (j := 7) dX9_worth_24 rfl ?_
    refine s_iload (j := 8) dX9_worth_26 rfl ?_
    obtain ⟨hn5, h⟩ := gdn h
    refine s_callV (As := [vI x6, vI x7]) (rest := []) (r := (some (vI (fX7_hasSlots ((q1.2 (o + 62) 0).toNat) x6 x7 q1.2)))) (F' := q1.2) dX9_worth_28 (clX9_269 (Nat.le_of_ble_eq_true rfl) (Nat.le_of_ble_eq_true rfl)) (hm4.resolve_left hn5) rfl ⟨_, _, _, _, rfl, (hm4.resolve_left hn5), rfl, rfl, rfl⟩ rfl (Nat.le_of_ble_eq_true rfl) ?_
    refine s_if_eq (tgt := 55) dX9_worth_31 rfl (fun hc6 => ?_) (fun hc6 => ?_)
    · have h := ifp hc6 h
      refine s_bipush dX9_worth_55 rfl (cin rfl) ?_
      have h := Option.some.inj h
      subst h
      exact s_ireturn dX9_worth_57 rfl hq
    · have h := ifn hc6 h
      refine s_iload (j := 6) dX9_worth_34 rfl ?_
      refine s_iconst dX9_worth_36 (cin rfl) ?_
      refine s_icmp_eq (tgt := 58) dX9_worth_37 rfl (fun hc7 => ?_) (fun hc7 => ?_)
      · have h := ifp hc7 h
        exact s_sub (ks := [1, 6, 7, 8, 0]) rfl (fX9_worth_b58_ok o x5 x6 x7 q1.1 q1.2 _ ho h hq)
      · have h := ifn hc7 h
        refine s_aload_n (j := 1) dX9_worth_40 rfl rfl ?_
        refine s_getR dX9_worth_41 flX9_51 ho ?_
        refine s_getM dX9_worth_44 flX9_259 (trX9_7 ho) (fun hm8 => ?_)
        have hm8 : _ = 0 ∨ isK ((q1.2 (o + 62) 0).toNat) 7 := hm8
        refine s_iload (j := 6) dX9_worth_47 rfl ?_
        obtain ⟨hn9, h⟩ := gdn h
        refine s_callV (As := [vI x5]) (rest := []) (r := (some (vI (fX7_hasHouse ((q1.2 (o + 62) 0).toNat) x5 q1.2)))) (F' := q1.2) dX9_worth_49 (clX9_141 (Nat.le_of_ble_eq_true rfl) (Nat.le_of_ble_eq_true rfl)) (hm8.resolve_left hn9) rfl ⟨_, _, _, rfl, (hm8.resolve_left hn9), rfl, rfl, rfl⟩ rfl (Nat.le_of_ble_eq_true rfl) ?_
        refine s_if_ne (tgt := 58) dX9_worth_52 rfl (fun hc10 => ?_) (fun hc10 => ?_)
        · have h := ifp hc10 h
          exact s_sub (ks := [1, 6, 7, 8, 0]) rfl (fX9_worth_b58_ok o x5 x6 x7 q1.1 q1.2 _ ho h hq)
        · have h := ifn hc10 h
          refine s_bipush dX9_worth_55 rfl (cin rfl) ?_
          have h := Option.some.inj h
          subst h
          exact s_ireturn dX9_worth_57 rfl hq
def gX9_worth : XG := fun As F r F' => ∃ o : Nat, ∃ x1 : Int, ∃ x2 : Int, ∃ x3 : Int, ∃ x4 : Int, ∃ x5 : Int, ∃ x6 : Int, ∃ x7 : Int, ∃ res : (Int × Mem), As = [vR o, vI x1, vI x2, vI x3, vI x4, vI x5, vI x6, vI x7] ∧ isK o 9 ∧ fX9_worth o x1 x2 x3 x4 x5 x6 x7 F = some res ∧ r = some (vI res.1) ∧ F' = res.2
theorem ctX9_worth : xCT yX9_worth cX9_worth 9 (some FieldType.int) 7 166 gX9_worth := xmet (by decide +kernel) (fun As F r F' hg => by obtain ⟨o, x1, x2, x3, x4, x5, x6, x7, res, rfl, ho, h, rfl, rfl⟩ := hg; exact Nat.le_of_ble_eq_true rfl) (fun As F r F' hg => by obtain ⟨o, x1, x2, x3, x4, x5, x6, x7, res, rfl, ho, h, rfl, rfl⟩ := hg; exact fX9_worth_ok o x1 x2 x3 x4 x5 x6 x7 _ _ ho h ⟨rfl, rfl⟩)
theorem mcX9_worth : Cond.code yX9_worth cX9_worth 9 (some FieldType.int) ∈ xw_T ∧ Cond.initialized yX9_worth.cls ∈ xw_T ∧ Cond.instanceMethod yX9_worth ∈ xw_T ∧ Cond.selects yX9_worth.cls yX9_worth yX9_worth ∈ xw_T := ⟨(xinT 1138 (by decide +kernel) (by decide +kernel)), (xinT 116 (by decide +kernel) (by decide +kernel)), (xinT 1136 (by decide +kernel) (by decide +kernel)), (xinT 1137 (by decide +kernel) (by decide +kernel))⟩
theorem dX9_pays_0 : decode cX9_pays 0 = .ok (.aload_n 0, 1) := by decide +kernel
theorem dX9_pays_1 : decode cX9_pays 1 = .ok (.iload_n 1, 1) := by decide +kernel
theorem dX9_pays_2 : decode cX9_pays 2 = .ok (.iload_n 2, 1) := by decide +kernel
theorem dX9_pays_3 : decode cX9_pays 3 = .ok (.iload_n 3, 1) := by decide +kernel
theorem dX9_pays_4 : decode cX9_pays 4 = .ok (.iload 4, 2) := by decide +kernel
theorem dX9_pays_6 : decode cX9_pays 6 = .ok (.invokevirtual 265, 3) := by decide +kernel
theorem dX9_pays_9 : decode cX9_pays 9 = .ok (.istore 9, 2) := by decide +kernel
theorem dX9_pays_11 : decode cX9_pays 11 = .ok (.iload 9, 2) := by decide +kernel
theorem dX9_pays_13 : decode cX9_pays 13 = .ok (.iconst (-1), 1) := by decide +kernel
theorem dX9_pays_14 : decode cX9_pays 14 = .ok (.if_icmp .eq 35, 3) := by decide +kernel
theorem dX9_pays_17 : decode cX9_pays 17 = .ok (.aload_n 0, 1) := by decide +kernel
theorem dX9_pays_18 : decode cX9_pays 18 = .ok (.getfield 51, 3) := by decide +kernel
theorem dX9_pays_21 : decode cX9_pays 21 = .ok (.getfield 259, 3) := by decide +kernel
theorem dX9_pays_24 : decode cX9_pays 24 = .ok (.iload 5, 2) := by decide +kernel
theorem dX9_pays_26 : decode cX9_pays 26 = .ok (.invokevirtual 141, 3) := by decide +kernel
theorem dX9_pays_29 : decode cX9_pays 29 = .ok (.ifCond .eq 20, 3) := by decide +kernel
theorem dX9_pays_32 : decode cX9_pays 32 = .ok (.aload_n 0, 1) := by decide +kernel
theorem dX9_pays_33 : decode cX9_pays 33 = .ok (.getfield 51, 3) := by decide +kernel
theorem dX9_pays_36 : decode cX9_pays 36 = .ok (.getfield 259, 3) := by decide +kernel
theorem dX9_pays_39 : decode cX9_pays 39 = .ok (.iload 6, 2) := by decide +kernel
theorem dX9_pays_41 : decode cX9_pays 41 = .ok (.iload 7, 2) := by decide +kernel
theorem dX9_pays_43 : decode cX9_pays 43 = .ok (.invokevirtual 269, 3) := by decide +kernel
theorem dX9_pays_46 : decode cX9_pays 46 = .ok (.ifCond .ne 5, 3) := by decide +kernel
theorem dX9_pays_49 : decode cX9_pays 49 = .ok (.iconst 0, 1) := by decide +kernel
theorem dX9_pays_50 : decode cX9_pays 50 = .ok (.ireturn, 1) := by decide +kernel
theorem dX9_pays_51 : decode cX9_pays 51 = .ok (.aload_n 0, 1) := by decide +kernel
theorem dX9_pays_52 : decode cX9_pays 52 = .ok (.getfield 51, 3) := by decide +kernel
theorem dX9_pays_55 : decode cX9_pays 55 = .ok (.invokevirtual 272, 3) := by decide +kernel
theorem dX9_pays_58 : decode cX9_pays 58 = .ok (.aload_n 0, 1) := by decide +kernel
theorem dX9_pays_59 : decode cX9_pays 59 = .ok (.getfield 51, 3) := by decide +kernel
theorem dX9_pays_62 : decode cX9_pays 62 = .ok (.iload 9, 2) := by decide +kernel
theorem dX9_pays_64 : decode cX9_pays 64 = .ok (.iload 5, 2) := by decide +kernel
theorem dX9_pays_66 : decode cX9_pays 66 = .ok (.iload 6, 2) := by decide +kernel
theorem dX9_pays_68 : decode cX9_pays 68 = .ok (.iload 7, 2) := by decide +kernel
theorem dX9_pays_70 : decode cX9_pays 70 = .ok (.invokevirtual 275, 3) := by decide +kernel
theorem dX9_pays_73 : decode cX9_pays 73 = .ok (.istore 10, 2) := by decide +kernel
theorem dX9_pays_75 : decode cX9_pays 75 = .ok (.iload 10, 2) := by decide +kernel
theorem dX9_pays_77 : decode cX9_pays 77 = .ok (.iconst (-1), 1) := by decide +kernel
theorem dX9_pays_78 : decode cX9_pays 78 = .ok (.if_icmp .eq 15, 3) := by decide +kernel
theorem dX9_pays_81 : decode cX9_pays 81 = .ok (.iload 8, 2) := by decide +kernel
theorem dX9_pays_83 : decode cX9_pays 83 = .ok (.ifCond .lt 10, 3) := by decide +kernel
theorem dX9_pays_86 : decode cX9_pays 86 = .ok (.iload 8, 2) := by decide +kernel
theorem dX9_pays_88 : decode cX9_pays 88 = .ok (.bipush 100, 2) := by decide +kernel
theorem dX9_pays_90 : decode cX9_pays 90 = .ok (.if_icmp .le 5, 3) := by decide +kernel
theorem dX9_pays_93 : decode cX9_pays 93 = .ok (.iconst 0, 1) := by decide +kernel
theorem dX9_pays_94 : decode cX9_pays 94 = .ok (.ireturn, 1) := by decide +kernel
theorem dX9_pays_95 : decode cX9_pays 95 = .ok (.iload 8, 2) := by decide +kernel
theorem dX9_pays_97 : decode cX9_pays 97 = .ok (.iload 10, 2) := by decide +kernel
theorem dX9_pays_99 : decode cX9_pays 99 = .ok (.imul, 1) := by decide +kernel
theorem dX9_pays_100 : decode cX9_pays 100 = .ok (.bipush 100, 2) := by decide +kernel
theorem dX9_pays_102 : decode cX9_pays 102 = .ok (.aload_n 0, 1) := by decide +kernel
theorem dX9_pays_103 : decode cX9_pays 103 = .ok (.getfield 51, 3) := by decide +kernel
theorem dX9_pays_106 : decode cX9_pays 106 = .ok (.iload 9, 2) := by decide +kernel
theorem dX9_pays_108 : decode cX9_pays 108 = .ok (.iconst (-1), 1) := by decide +kernel
theorem dX9_pays_109 : decode cX9_pays 109 = .ok (.iload 6, 2) := by decide +kernel
theorem dX9_pays_111 : decode cX9_pays 111 = .ok (.iload 7, 2) := by decide +kernel
theorem dX9_pays_113 : decode cX9_pays 113 = .ok (.invokevirtual 284, 3) := by decide +kernel
theorem dX9_pays_116 : decode cX9_pays 116 = .ok (.imul, 1) := by decide +kernel
theorem dX9_pays_117 : decode cX9_pays 117 = .ok (.if_icmp .le 7, 3) := by decide +kernel
theorem dX9_pays_120 : decode cX9_pays 120 = .ok (.iconst 1, 1) := by decide +kernel
theorem dX9_pays_121 : decode cX9_pays 121 = .ok (.goto 4, 3) := by decide +kernel
theorem dX9_pays_124 : decode cX9_pays 124 = .ok (.iconst 0, 1) := by decide +kernel
theorem dX9_pays_125 : decode cX9_pays 125 = .ok (.ireturn, 1) := by decide +kernel
def zX9_pays (Qr : Option PV → Mem → Prop) : XZ := (RX9, 7, 166, 11, some FieldType.boolean, Qr)
noncomputable def fX9_pays (o : Nat) (x1 : Int) (x2 : Int) (x3 : Int) (x4 : Int) (x5 : Int) (x6 : Int) (x7 : Int) (x8 : Int) (F : Mem) : Option (Int × Mem) :=
  (fX9_gainOfDay o x1 x2 x3 x4 F).bind fun q1 =>
  if q1.1 = (-1) then
    some (0, q1.2)
  else
    if (q1.2 (o + 62) 0).toNat = 0 then none else
    if (fX7_hasHouse ((q1.2 (o + 62) 0).toNat) x5 q1.2) = 0 then
      some (0, q1.2)
    else
      if (q1.2 (o + 62) 0).toNat = 0 then none else
      if (fX7_hasSlots ((q1.2 (o + 62) 0).toNat) x6 x7 q1.2) ≠ 0 then
        (fX1_reachAll (o + 62) q1.2).bind fun q10 =>
        (fX1_harmOf (o + 62) q1.1 x5 x6 x7 q10).bind fun r12 =>
        if r12 = (-1) then
          some (0, q10)
        else
          if x8 < 0 then
            some (0, q10)
          else
            if x8 ≤ 100 then
              (fX1_lossOf (o + 62) q1.1 (-1) x6 x7 q10).bind fun q17 =>
              if (xw (x8 * r12)) ≤ (xw (100 * q17.1)) then
                some (0, q17.2)
              else
                some (1, q17.2)
            else
              some (0, q10)
      else
        some (0, q1.2)
theorem fX9_pays_ok {Qr : Option PV → Mem → Prop} : ∀ (o : Nat) (x1 : Int) (x2 : Int) (x3 : Int) (x4 : Int) (x5 : Int) (x6 : Int) (x7 : Int) (x8 : Int) (F : Mem) (res : (Int × Mem)) (ho : isK o 9), fX9_pays o x1 x2 x3 x4 x5 x6 x7 x8 F = some res → Qr (some (vI res.1)) res.2 → PR cX9_pays (zX9_pays Qr) 0 [(0, vR o), (1, vI x1), (2, vI x2), (3, vI x3), (4, vI x4), (5, vI x5), (6, vI x6), (7, vI x7), (8, vI x8)] [] F := by
  intro o x1 x2 x3 x4 x5 x6 x7 x8 F res ho h hq
  refine s_aload_n (j := 0) dX9_pays_0 rfl rfl ?_
  refine s_iload_n (j := 1) dX9_pays_1 rfl rfl ?_
  refine s_iload_n (j := 2) dX9_pays_2 rfl rfl ?_
  refine s_iload_n (j := 3) dX9_pays_3 rfl rfl ?_
  refine s_iload (j := 4) dX9_pays_4 rfl ?_
  obtain ⟨q1, hv2, h⟩ := bnd h
  refine s_callV (As := [vI x1, vI x2, vI x3, vI x4]) (rest := []) (r := (some (vI q1.1))) (F' := q1.2) dX9_pays_6 (clX9_265 (Nat.le_of_ble_eq_true rfl) (Nat.le_of_ble_eq_true rfl)) ho rfl ⟨_, _, _, _, _, _, rfl, ho, hv2, rfl, rfl⟩ rfl (Nat.le_of_ble_eq_true rfl) ?_
  refine s_istore (ls' := [(9, vI q1.1), (0, vR o), (1, vI x1), (2, vI x2), (3, vI x3), (4, vI x4), (5, vI x5), (6, vI x6), (7, vI x7), (8, vI x8)]) dX9_pays_9 (Nat.le_of_ble_eq_true rfl) rfl ?_
  refine s_iload (j := 0) dX9_pays_11 rfl ?_
  refine s_iconst dX9_pays_13 (cin rfl) ?_
  refine s_icmp_eq (tgt := 49) dX9_pays_14 rfl (fun hc3 => ?_) (fun hc3 => ?_)
  · have h := ifp hc3 h
    refine s_iconst dX9_pays_49 (cin rfl) ?_
    have h := Option.some.inj h
    subst h
    exact s_zreturn dX9_pays_50 rfl (Or.inl rfl) hq
  · have h := ifn hc3 h
    refine s_aload_n (j := 1) dX9_pays_17 rfl rfl ?_
    refine s_getR dX9_pays_18 flX9_51 ho ?_
    refine s_getM dX9_pays_21 flX9_259 (trX9_7 ho) (fun hm4 => ?_)
    have hm4 : _ = 0 ∨ isK ((q1.2 (o + 62) 0).toNat) 7 := hm4
    refine s_iload (j := 6) dX9_pays_24 rfl ?_
    obtain ⟨hn5, h⟩ := gdn h
    refine s_callV (As := [vI x5]) (rest := []) (r := (some (vI (fX7_hasHouse ((q1.2 (o + 62) 0).toNat) x5 q1.2)))) (F' := q1.2) dX9_pays_26 (clX9_141 (Nat.le_of_ble_eq_true rfl) (Nat.le_of_ble_eq_true rfl)) (hm4.resolve_left hn5) rfl ⟨_, _, _, rfl, (hm4.resolve_left hn5), rfl, rfl, rfl⟩ rfl (Nat.le_of_ble_eq_true rfl) ?_
    refine s_if_eq (tgt := 49) dX9_pays_29 rfl (fun hc6 => ?_) (fun hc6 => ?_)
    · have h := ifp hc6 h
      refine s_iconst dX9_pays_49 (cin rfl) ?_
      have h := Option.some.inj h
      subst h
      exact s_zreturn dX9_pays_50 rfl (Or.inl rfl) hq
    · have h := ifn hc6 h
      refine s_aload_n (j := 1) dX9_pays_32 rfl rfl ?_
      refine s_getR dX9_pays_33 flX9_51 ho ?_
      refine s_getM dX9_pays_36 flX9_259 (trX9_7 ho) (fun hm7 => ?_)
      have hm7 : _ = 0 ∨ isK ((q1.2 (o + 62) 0).toNat) 7 := hm7
      refine s_iload (j := 7) dX9_pays_39 rfl ?_
      refine s_iload (j := 8) dX9_pays_41 rfl ?_
      obtain ⟨hn8, h⟩ := gdn h
      refine s_callV (As := [vI x6, vI x7]) (rest := []) (r := (some (vI (fX7_hasSlots ((q1.2 (o + 62) 0).toNat) x6 x7 q1.2)))) (F' := q1.2) dX9_pays_43 (clX9_269 (Nat.le_of_ble_eq_true rfl) (Nat.le_of_ble_eq_true rfl)) (hm7.resolve_left hn8) rfl ⟨_, _, _, _, rfl, (hm7.resolve_left hn8), rfl, rfl, rfl⟩ rfl (Nat.le_of_ble_eq_true rfl) ?_
      refine s_if_ne (tgt := 51) dX9_pays_46 rfl (fun hc9 => ?_) (fun hc9 => ?_)
      · have h := ifp hc9 h
        refine s_aload_n (j := 1) dX9_pays_51 rfl rfl ?_
        refine s_getR dX9_pays_52 flX9_51 ho ?_
        obtain ⟨q10, hv11, h⟩ := bnd h
        refine s_callV (As := []) (rest := []) (r := none) (F' := q10) dX9_pays_55 (clX9_272 (Nat.le_of_ble_eq_true rfl) (Nat.le_of_ble_eq_true rfl)) (trX9_7 ho) rfl ⟨_, _, rfl, (trX9_7 ho), hv11, rfl, rfl⟩ rfl (Nat.le_of_ble_eq_true rfl) ?_
        refine s_aload_n (j := 1) dX9_pays_58 rfl rfl ?_
        refine s_getR dX9_pays_59 flX9_51 ho ?_
        refine s_iload (j := 0) dX9_pays_62 rfl ?_
        refine s_iload (j := 6) dX9_pays_64 rfl ?_
        refine s_iload (j := 7) dX9_pays_66 rfl ?_
        refine s_iload (j := 8) dX9_pays_68 rfl ?_
        obtain ⟨r12, hv13, h⟩ := bnd h
        refine s_callV (As := [vI q1.1, vI x5, vI x6, vI x7]) (rest := []) (r := (some (vI r12))) (F' := q10) dX9_pays_70 (clX9_275 (Nat.le_of_ble_eq_true rfl) (Nat.le_of_ble_eq_true rfl)) (trX9_7 ho) rfl ⟨_, _, _, _, _, _, rfl, (trX9_7 ho), hv13, rfl, rfl⟩ rfl (Nat.le_of_ble_eq_true rfl) ?_
        refine s_istore (ls' := [(10, vI r12), (9, vI q1.1), (0, vR o), (1, vI x1), (2, vI x2), (3, vI x3), (4, vI x4), (5, vI x5), (6, vI x6), (7, vI x7), (8, vI x8)]) dX9_pays_73 (Nat.le_of_ble_eq_true rfl) rfl ?_
        refine s_iload (j := 0) dX9_pays_75 rfl ?_
        refine s_iconst dX9_pays_77 (cin rfl) ?_
        refine s_icmp_eq (tgt := 93) dX9_pays_78 rfl (fun hc14 => ?_) (fun hc14 => ?_)
        · have h := ifp hc14 h
          refine s_iconst dX9_pays_93 (cin rfl) ?_
          have h := Option.some.inj h
          subst h
          exact s_zreturn dX9_pays_94 rfl (Or.inl rfl) hq
        · have h := ifn hc14 h
          refine s_iload (j := 10) dX9_pays_81 rfl ?_
          refine s_if_lt (tgt := 93) dX9_pays_83 rfl (fun hc15 => ?_) (fun hc15 => ?_)
          · have h := ifp hc15 h
            refine s_iconst dX9_pays_93 (cin rfl) ?_
            have h := Option.some.inj h
            subst h
            exact s_zreturn dX9_pays_94 rfl (Or.inl rfl) hq
          · have h := ifn hc15 h
            refine s_iload (j := 10) dX9_pays_86 rfl ?_
            refine s_bipush dX9_pays_88 rfl (cin rfl) ?_
            refine s_icmp_le (tgt := 95) dX9_pays_90 rfl (fun hc16 => ?_) (fun hc16 => ?_)
            · have h := ifp hc16 h
              refine s_iload (j := 10) dX9_pays_95 rfl ?_
              refine s_iload (j := 0) dX9_pays_97 rfl ?_
              refine s_imul dX9_pays_99 ?_
              refine s_bipush dX9_pays_100 rfl (cin rfl) ?_
              refine s_aload_n (j := 2) dX9_pays_102 rfl rfl ?_
              refine s_getR dX9_pays_103 flX9_51 ho ?_
              refine s_iload (j := 1) dX9_pays_106 rfl ?_
              refine s_iconst dX9_pays_108 (cin rfl) ?_
              refine s_iload (j := 8) dX9_pays_109 rfl ?_
              refine s_iload (j := 9) dX9_pays_111 rfl ?_
              obtain ⟨q17, hv18, h⟩ := bnd h
              refine s_callV (As := [vI q1.1, vI (-1), vI x6, vI x7]) (rest := [vI 100, vI (xw (x8 * r12))]) (r := (some (vI q17.1))) (F' := q17.2) dX9_pays_113 (clX9_284 (Nat.le_of_ble_eq_true rfl) (Nat.le_of_ble_eq_true rfl)) (trX9_7 ho) rfl ⟨_, _, _, _, _, _, rfl, (trX9_7 ho), hv18, rfl, rfl⟩ rfl (Nat.le_of_ble_eq_true rfl) ?_
              refine s_imul dX9_pays_116 ?_
              refine s_icmp_le (tgt := 124) dX9_pays_117 rfl (fun hc19 => ?_) (fun hc19 => ?_)
              · have h := ifp hc19 h
                refine s_iconst dX9_pays_124 (cin rfl) ?_
                have h := Option.some.inj h
                subst h
                exact s_zreturn dX9_pays_125 rfl (Or.inl rfl) hq
              · have h := ifn hc19 h
                refine s_iconst dX9_pays_120 (cin rfl) ?_
                refine s_goto (tgt := 125) dX9_pays_121 rfl ?_
                have h := Option.some.inj h
                subst h
                exact s_zreturn dX9_pays_125 rfl (Or.inr rfl) hq
            · have h := ifn hc16 h
              refine s_iconst dX9_pays_93 (cin rfl) ?_
              have h := Option.some.inj h
              subst h
              exact s_zreturn dX9_pays_94 rfl (Or.inl rfl) hq
      · have h := ifn hc9 h
        refine s_iconst dX9_pays_49 (cin rfl) ?_
        have h := Option.some.inj h
        subst h
        exact s_zreturn dX9_pays_50 rfl (Or.inl rfl) hq
def gX9_pays : XG := fun As F r F' => ∃ o : Nat, ∃ x1 : Int, ∃ x2 : Int, ∃ x3 : Int, ∃ x4 : Int, ∃ x5 : Int, ∃ x6 : Int, ∃ x7 : Int, ∃ x8 : Int, ∃ res : (Int × Mem), As = [vR o, vI x1, vI x2, vI x3, vI x4, vI x5, vI x6, vI x7, vI x8] ∧ isK o 9 ∧ fX9_pays o x1 x2 x3 x4 x5 x6 x7 x8 F = some res ∧ r = some (vI res.1) ∧ F' = res.2
theorem ctX9_pays : xCT yX9_pays cX9_pays 11 (some FieldType.boolean) 7 166 gX9_pays := xmet (by decide +kernel) (fun As F r F' hg => by obtain ⟨o, x1, x2, x3, x4, x5, x6, x7, x8, res, rfl, ho, h, rfl, rfl⟩ := hg; exact Nat.le_of_ble_eq_true rfl) (fun As F r F' hg => by obtain ⟨o, x1, x2, x3, x4, x5, x6, x7, x8, res, rfl, ho, h, rfl, rfl⟩ := hg; exact fX9_pays_ok o x1 x2 x3 x4 x5 x6 x7 x8 _ _ ho h ⟨rfl, rfl⟩)
theorem mcX9_pays : Cond.code yX9_pays cX9_pays 11 (some FieldType.boolean) ∈ xw_T ∧ Cond.initialized yX9_pays.cls ∈ xw_T ∧ Cond.instanceMethod yX9_pays ∈ xw_T ∧ Cond.selects yX9_pays.cls yX9_pays yX9_pays ∈ xw_T := ⟨(xinT 1152 (by decide +kernel) (by decide +kernel)), (xinT 116 (by decide +kernel) (by decide +kernel)), (xinT 1150 (by decide +kernel) (by decide +kernel)), (xinT 1151 (by decide +kernel) (by decide +kernel))⟩
theorem dX9_deal_0 : decode cX9_deal 0 = .ok (.aload_n 0, 1) := by decide +kernel
theorem dX9_deal_1 : decode cX9_deal 1 = .ok (.iload_n 1, 1) := by decide +kernel
theorem dX9_deal_2 : decode cX9_deal 2 = .ok (.iload_n 2, 1) := by decide +kernel
theorem dX9_deal_3 : decode cX9_deal 3 = .ok (.iload_n 3, 1) := by decide +kernel
theorem dX9_deal_4 : decode cX9_deal 4 = .ok (.iload 4, 2) := by decide +kernel
theorem dX9_deal_6 : decode cX9_deal 6 = .ok (.invokevirtual 265, 3) := by decide +kernel
theorem dX9_deal_9 : decode cX9_deal 9 = .ok (.istore 8, 2) := by decide +kernel
theorem dX9_deal_11 : decode cX9_deal 11 = .ok (.iload 8, 2) := by decide +kernel
theorem dX9_deal_13 : decode cX9_deal 13 = .ok (.iconst (-1), 1) := by decide +kernel
theorem dX9_deal_14 : decode cX9_deal 14 = .ok (.if_icmp .eq 40, 3) := by decide +kernel
theorem dX9_deal_17 : decode cX9_deal 17 = .ok (.iload 5, 2) := by decide +kernel
theorem dX9_deal_19 : decode cX9_deal 19 = .ok (.iload 6, 2) := by decide +kernel
theorem dX9_deal_21 : decode cX9_deal 21 = .ok (.if_icmp .eq 33, 3) := by decide +kernel
theorem dX9_deal_24 : decode cX9_deal 24 = .ok (.aload_n 0, 1) := by decide +kernel
theorem dX9_deal_25 : decode cX9_deal 25 = .ok (.getfield 51, 3) := by decide +kernel
theorem dX9_deal_28 : decode cX9_deal 28 = .ok (.getfield 259, 3) := by decide +kernel
theorem dX9_deal_31 : decode cX9_deal 31 = .ok (.iload 5, 2) := by decide +kernel
theorem dX9_deal_33 : decode cX9_deal 33 = .ok (.invokevirtual 141, 3) := by decide +kernel
theorem dX9_deal_36 : decode cX9_deal 36 = .ok (.ifCond .eq 18, 3) := by decide +kernel
theorem dX9_deal_39 : decode cX9_deal 39 = .ok (.aload_n 0, 1) := by decide +kernel
theorem dX9_deal_40 : decode cX9_deal 40 = .ok (.getfield 51, 3) := by decide +kernel
theorem dX9_deal_43 : decode cX9_deal 43 = .ok (.getfield 259, 3) := by decide +kernel
theorem dX9_deal_46 : decode cX9_deal 46 = .ok (.iload 6, 2) := by decide +kernel
theorem dX9_deal_48 : decode cX9_deal 48 = .ok (.invokevirtual 141, 3) := by decide +kernel
theorem dX9_deal_51 : decode cX9_deal 51 = .ok (.ifCond .ne 5, 3) := by decide +kernel
theorem dX9_deal_54 : decode cX9_deal 54 = .ok (.iconst (-1), 1) := by decide +kernel
theorem dX9_deal_55 : decode cX9_deal 55 = .ok (.ireturn, 1) := by decide +kernel
theorem dX9_deal_56 : decode cX9_deal 56 = .ok (.aload_n 0, 1) := by decide +kernel
theorem dX9_deal_57 : decode cX9_deal 57 = .ok (.getfield 65, 3) := by decide +kernel
theorem dX9_deal_60 : decode cX9_deal 60 = .ok (.aload_n 0, 1) := by decide +kernel
theorem dX9_deal_61 : decode cX9_deal 61 = .ok (.getfield 51, 3) := by decide +kernel
theorem dX9_deal_64 : decode cX9_deal 64 = .ok (.iload 8, 2) := by decide +kernel
theorem dX9_deal_66 : decode cX9_deal 66 = .ok (.iload 5, 2) := by decide +kernel
theorem dX9_deal_68 : decode cX9_deal 68 = .ok (.iload 6, 2) := by decide +kernel
theorem dX9_deal_70 : decode cX9_deal 70 = .ok (.invokevirtual 287, 3) := by decide +kernel
theorem dX9_deal_73 : decode cX9_deal 73 = .ok (.aload_n 0, 1) := by decide +kernel
theorem dX9_deal_74 : decode cX9_deal 74 = .ok (.getfield 65, 3) := by decide +kernel
theorem dX9_deal_77 : decode cX9_deal 77 = .ok (.getfield 291, 3) := by decide +kernel
theorem dX9_deal_80 : decode cX9_deal 80 = .ok (.ifCond .ne 5, 3) := by decide +kernel
theorem dX9_deal_83 : decode cX9_deal 83 = .ok (.iconst (-1), 1) := by decide +kernel
theorem dX9_deal_84 : decode cX9_deal 84 = .ok (.ireturn, 1) := by decide +kernel
theorem dX9_deal_85 : decode cX9_deal 85 = .ok (.iload 7, 2) := by decide +kernel
theorem dX9_deal_87 : decode cX9_deal 87 = .ok (.ifCond .ne 13, 3) := by decide +kernel
theorem dX9_deal_90 : decode cX9_deal 90 = .ok (.aload_n 0, 1) := by decide +kernel
theorem dX9_deal_91 : decode cX9_deal 91 = .ok (.getfield 65, 3) := by decide +kernel
theorem dX9_deal_94 : decode cX9_deal 94 = .ok (.getfield 294, 3) := by decide +kernel
theorem dX9_deal_97 : decode cX9_deal 97 = .ok (.goto 36, 3) := by decide +kernel
theorem dX9_deal_100 : decode cX9_deal 100 = .ok (.iload 7, 2) := by decide +kernel
theorem dX9_deal_102 : decode cX9_deal 102 = .ok (.iconst 1, 1) := by decide +kernel
theorem dX9_deal_103 : decode cX9_deal 103 = .ok (.if_icmp .ne 13, 3) := by decide +kernel
theorem dX9_deal_106 : decode cX9_deal 106 = .ok (.aload_n 0, 1) := by decide +kernel
theorem dX9_deal_107 : decode cX9_deal 107 = .ok (.getfield 65, 3) := by decide +kernel
theorem dX9_deal_110 : decode cX9_deal 110 = .ok (.getfield 297, 3) := by decide +kernel
theorem dX9_deal_113 : decode cX9_deal 113 = .ok (.goto 20, 3) := by decide +kernel
theorem dX9_deal_116 : decode cX9_deal 116 = .ok (.iload 7, 2) := by decide +kernel
theorem dX9_deal_118 : decode cX9_deal 118 = .ok (.iconst 2, 1) := by decide +kernel
theorem dX9_deal_119 : decode cX9_deal 119 = .ok (.if_icmp .ne 13, 3) := by decide +kernel
theorem dX9_deal_122 : decode cX9_deal 122 = .ok (.aload_n 0, 1) := by decide +kernel
theorem dX9_deal_123 : decode cX9_deal 123 = .ok (.getfield 65, 3) := by decide +kernel
theorem dX9_deal_126 : decode cX9_deal 126 = .ok (.getfield 291, 3) := by decide +kernel
theorem dX9_deal_129 : decode cX9_deal 129 = .ok (.goto 4, 3) := by decide +kernel
theorem dX9_deal_132 : decode cX9_deal 132 = .ok (.iconst (-1), 1) := by decide +kernel
theorem dX9_deal_133 : decode cX9_deal 133 = .ok (.ireturn, 1) := by decide +kernel
def zX9_deal (Qr : Option PV → Mem → Prop) : XZ := (RX9, 7, 166, 9, some FieldType.int, Qr)
noncomputable def fX9_deal (o : Nat) (x1 : Int) (x2 : Int) (x3 : Int) (x4 : Int) (x5 : Int) (x6 : Int) (x7 : Int) (F : Mem) : Option (Int × Mem) :=
  (fX9_gainOfDay o x1 x2 x3 x4 F).bind fun q1 =>
  if q1.1 = (-1) then
    some ((-1), q1.2)
  else
    if x5 = x6 then
      some ((-1), q1.2)
    else
      if (q1.2 (o + 62) 0).toNat = 0 then none else
      if (fX7_hasHouse ((q1.2 (o + 62) 0).toNat) x5 q1.2) = 0 then
        some ((-1), q1.2)
      else
        if (q1.2 (o + 62) 0).toNat = 0 then none else
        if (fX7_hasHouse ((q1.2 (o + 62) 0).toNat) x6 q1.2) ≠ 0 then
          (fX5_findDeal (o + 77) (o + 62) q1.1 x5 x6 q1.2).bind fun q11 =>
          if (q11 (o + 77) 2) ≠ 0 then
            if x7 ≠ 0 then
              if x7 ≠ 1 then
                if x7 ≠ 2 then
                  some ((-1), q11)
                else
                  some (q11 (o + 77) 2, q11)
              else
                some (q11 (o + 77) 1, q11)
            else
              some (q11 (o + 77) 0, q11)
          else
            some ((-1), q11)
        else
          some ((-1), q1.2)
theorem fX9_deal_ok {Qr : Option PV → Mem → Prop} : ∀ (o : Nat) (x1 : Int) (x2 : Int) (x3 : Int) (x4 : Int) (x5 : Int) (x6 : Int) (x7 : Int) (F : Mem) (res : (Int × Mem)) (ho : isK o 9), fX9_deal o x1 x2 x3 x4 x5 x6 x7 F = some res → Qr (some (vI res.1)) res.2 → PR cX9_deal (zX9_deal Qr) 0 [(0, vR o), (1, vI x1), (2, vI x2), (3, vI x3), (4, vI x4), (5, vI x5), (6, vI x6), (7, vI x7)] [] F := by
  intro o x1 x2 x3 x4 x5 x6 x7 F res ho h hq
  refine s_aload_n (j := 0) dX9_deal_0 rfl rfl ?_
  refine s_iload_n (j := 1) dX9_deal_1 rfl rfl ?_
  refine s_iload_n (j := 2) dX9_deal_2 rfl rfl ?_
  refine s_iload_n (j := 3) dX9_deal_3 rfl rfl ?_
  refine s_iload (j := 4) dX9_deal_4 rfl ?_
  obtain ⟨q1, hv2, h⟩ := bnd h
  refine s_callV (As := [vI x1, vI x2, vI x3, vI x4]) (rest := []) (r := (some (vI q1.1))) (F' := q1.2) dX9_deal_6 (clX9_265 (Nat.le_of_ble_eq_true rfl) (Nat.le_of_ble_eq_true rfl)) ho rfl ⟨_, _, _, _, _, _, rfl, ho, hv2, rfl, rfl⟩ rfl (Nat.le_of_ble_eq_true rfl) ?_
  refine s_istore (ls' := [(8, vI q1.1), (0, vR o), (1, vI x1), (2, vI x2), (3, vI x3), (4, vI x4), (5, vI x5), (6, vI x6), (7, vI x7)]) dX9_deal_9 (Nat.le_of_ble_eq_true rfl) rfl ?_
  refine s_iload (j := 0) dX9_deal_11 rfl ?_
  refine s_iconst dX9_deal_13 (cin rfl) ?_
  refine s_icmp_eq (tgt := 54) dX9_deal_14 rfl (fun hc3 => ?_) (fun hc3 => ?_)
  · have h := ifp hc3 h
    refine s_iconst dX9_deal_54 (cin rfl) ?_
    have h := Option.some.inj h
    subst h
    exact s_ireturn dX9_deal_55 rfl hq
  · have h := ifn hc3 h
    refine s_iload (j := 6) dX9_deal_17 rfl ?_
    refine s_iload (j := 7) dX9_deal_19 rfl ?_
    refine s_icmp_eq (tgt := 54) dX9_deal_21 rfl (fun hc4 => ?_) (fun hc4 => ?_)
    · have h := ifp hc4 h
      refine s_iconst dX9_deal_54 (cin rfl) ?_
      have h := Option.some.inj h
      subst h
      exact s_ireturn dX9_deal_55 rfl hq
    · have h := ifn hc4 h
      refine s_aload_n (j := 1) dX9_deal_24 rfl rfl ?_
      refine s_getR dX9_deal_25 flX9_51 ho ?_
      refine s_getM dX9_deal_28 flX9_259 (trX9_7 ho) (fun hm5 => ?_)
      have hm5 : _ = 0 ∨ isK ((q1.2 (o + 62) 0).toNat) 7 := hm5
      refine s_iload (j := 6) dX9_deal_31 rfl ?_
      obtain ⟨hn6, h⟩ := gdn h
      refine s_callV (As := [vI x5]) (rest := []) (r := (some (vI (fX7_hasHouse ((q1.2 (o + 62) 0).toNat) x5 q1.2)))) (F' := q1.2) dX9_deal_33 (clX9_141 (Nat.le_of_ble_eq_true rfl) (Nat.le_of_ble_eq_true rfl)) (hm5.resolve_left hn6) rfl ⟨_, _, _, rfl, (hm5.resolve_left hn6), rfl, rfl, rfl⟩ rfl (Nat.le_of_ble_eq_true rfl) ?_
      refine s_if_eq (tgt := 54) dX9_deal_36 rfl (fun hc7 => ?_) (fun hc7 => ?_)
      · have h := ifp hc7 h
        refine s_iconst dX9_deal_54 (cin rfl) ?_
        have h := Option.some.inj h
        subst h
        exact s_ireturn dX9_deal_55 rfl hq
      · have h := ifn hc7 h
        refine s_aload_n (j := 1) dX9_deal_39 rfl rfl ?_
        refine s_getR dX9_deal_40 flX9_51 ho ?_
        refine s_getM dX9_deal_43 flX9_259 (trX9_7 ho) (fun hm8 => ?_)
        have hm8 : _ = 0 ∨ isK ((q1.2 (o + 62) 0).toNat) 7 := hm8
        refine s_iload (j := 7) dX9_deal_46 rfl ?_
        obtain ⟨hn9, h⟩ := gdn h
        refine s_callV (As := [vI x6]) (rest := []) (r := (some (vI (fX7_hasHouse ((q1.2 (o + 62) 0).toNat) x6 q1.2)))) (F' := q1.2) dX9_deal_48 (clX9_141 (Nat.le_of_ble_eq_true rfl) (Nat.le_of_ble_eq_true rfl)) (hm8.resolve_left hn9) rfl ⟨_, _, _, rfl, (hm8.resolve_left hn9), rfl, rfl, rfl⟩ rfl (Nat.le_of_ble_eq_true rfl) ?_
        refine s_if_ne (tgt := 56) dX9_deal_51 rfl (fun hc10 => ?_) (fun hc10 => ?_)
        · have h := ifp hc10 h
          refine s_aload_n (j := 1) dX9_deal_56 rfl rfl ?_
          refine s_getR dX9_deal_57 flX9_65 ho ?_
          refine s_aload_n (j := 1) dX9_deal_60 rfl rfl ?_
          refine s_getR dX9_deal_61 flX9_51 ho ?_
          refine s_iload (j := 0) dX9_deal_64 rfl ?_
          refine s_iload (j := 6) dX9_deal_66 rfl ?_
          refine s_iload (j := 7) dX9_deal_68 rfl ?_
          obtain ⟨q11, hv12, h⟩ := bnd h
          refine s_callV (As := [vR (o + 62), vI q1.1, vI x5, vI x6]) (rest := []) (r := none) (F' := q11) dX9_deal_70 (clX9_287 (Nat.le_of_ble_eq_true rfl) (Nat.le_of_ble_eq_true rfl)) (trX9_9 ho) rfl ⟨_, _, _, _, _, _, rfl, (trX9_9 ho), (Or.inr (trX9_7 ho)), hv12, rfl, rfl⟩ rfl (Nat.le_of_ble_eq_true rfl) ?_
          refine s_aload_n (j := 1) dX9_deal_73 rfl rfl ?_
          refine s_getR dX9_deal_74 flX9_65 ho ?_
          refine s_getI dX9_deal_77 flX9_291 (trX9_9 ho) ?_
          refine s_if_ne (tgt := 85) dX9_deal_80 rfl (fun hc13 => ?_) (fun hc13 => ?_)
          · have h := ifp hc13 h
            refine s_iload (j := 8) dX9_deal_85 rfl ?_
            refine s_if_ne (tgt := 100) dX9_deal_87 rfl (fun hc14 => ?_) (fun hc14 => ?_)
            · have h := ifp hc14 h
              refine s_iload (j := 8) dX9_deal_100 rfl ?_
              refine s_iconst dX9_deal_102 (cin rfl) ?_
              refine s_icmp_ne (tgt := 116) dX9_deal_103 rfl (fun hc15 => ?_) (fun hc15 => ?_)
              · have h := ifp hc15 h
                refine s_iload (j := 8) dX9_deal_116 rfl ?_
                refine s_iconst dX9_deal_118 (cin rfl) ?_
                refine s_icmp_ne (tgt := 132) dX9_deal_119 rfl (fun hc16 => ?_) (fun hc16 => ?_)
                · have h := ifp hc16 h
                  refine s_iconst dX9_deal_132 (cin rfl) ?_
                  have h := Option.some.inj h
                  subst h
                  exact s_ireturn dX9_deal_133 rfl hq
                · have h := ifn hc16 h
                  refine s_aload_n (j := 1) dX9_deal_122 rfl rfl ?_
                  refine s_getR dX9_deal_123 flX9_65 ho ?_
                  refine s_getI dX9_deal_126 flX9_291 (trX9_9 ho) ?_
                  refine s_goto (tgt := 133) dX9_deal_129 rfl ?_
                  have h := Option.some.inj h
                  subst h
                  exact s_ireturn dX9_deal_133 rfl hq
              · have h := ifn hc15 h
                refine s_aload_n (j := 1) dX9_deal_106 rfl rfl ?_
                refine s_getR dX9_deal_107 flX9_65 ho ?_
                refine s_getI dX9_deal_110 flX9_297 (trX9_9 ho) ?_
                refine s_goto (tgt := 133) dX9_deal_113 rfl ?_
                have h := Option.some.inj h
                subst h
                exact s_ireturn dX9_deal_133 rfl hq
            · have h := ifn hc14 h
              refine s_aload_n (j := 1) dX9_deal_90 rfl rfl ?_
              refine s_getR dX9_deal_91 flX9_65 ho ?_
              refine s_getI dX9_deal_94 flX9_294 (trX9_9 ho) ?_
              refine s_goto (tgt := 133) dX9_deal_97 rfl ?_
              have h := Option.some.inj h
              subst h
              exact s_ireturn dX9_deal_133 rfl hq
          · have h := ifn hc13 h
            refine s_iconst dX9_deal_83 (cin rfl) ?_
            have h := Option.some.inj h
            subst h
            exact s_ireturn dX9_deal_84 rfl hq
        · have h := ifn hc10 h
          refine s_iconst dX9_deal_54 (cin rfl) ?_
          have h := Option.some.inj h
          subst h
          exact s_ireturn dX9_deal_55 rfl hq
def gX9_deal : XG := fun As F r F' => ∃ o : Nat, ∃ x1 : Int, ∃ x2 : Int, ∃ x3 : Int, ∃ x4 : Int, ∃ x5 : Int, ∃ x6 : Int, ∃ x7 : Int, ∃ res : (Int × Mem), As = [vR o, vI x1, vI x2, vI x3, vI x4, vI x5, vI x6, vI x7] ∧ isK o 9 ∧ fX9_deal o x1 x2 x3 x4 x5 x6 x7 F = some res ∧ r = some (vI res.1) ∧ F' = res.2
theorem ctX9_deal : xCT yX9_deal cX9_deal 9 (some FieldType.int) 7 166 gX9_deal := xmet (by decide +kernel) (fun As F r F' hg => by obtain ⟨o, x1, x2, x3, x4, x5, x6, x7, res, rfl, ho, h, rfl, rfl⟩ := hg; exact Nat.le_of_ble_eq_true rfl) (fun As F r F' hg => by obtain ⟨o, x1, x2, x3, x4, x5, x6, x7, res, rfl, ho, h, rfl, rfl⟩ := hg; exact fX9_deal_ok o x1 x2 x3 x4 x5 x6 x7 _ _ ho h ⟨rfl, rfl⟩)
theorem mcX9_deal : Cond.code yX9_deal cX9_deal 9 (some FieldType.int) ∈ xw_T ∧ Cond.initialized yX9_deal.cls ∈ xw_T ∧ Cond.instanceMethod yX9_deal ∈ xw_T ∧ Cond.selects yX9_deal.cls yX9_deal yX9_deal ∈ xw_T := ⟨(xinT 1156 (by decide +kernel) (by decide +kernel)), (xinT 116 (by decide +kernel) (by decide +kernel)), (xinT 1154 (by decide +kernel) (by decide +kernel)), (xinT 1155 (by decide +kernel) (by decide +kernel))⟩
theorem dX9_halved_0 : decode cX9_halved 0 = .ok (.iload 5, 2) := by decide +kernel
theorem dX9_halved_2 : decode cX9_halved 2 = .ok (.ifCond .lt 22, 3) := by decide +kernel
theorem dX9_halved_5 : decode cX9_halved 5 = .ok (.iload 5, 2) := by decide +kernel
theorem dX9_halved_7 : decode cX9_halved 7 = .ok (.iconst 1, 1) := by decide +kernel
theorem dX9_halved_8 : decode cX9_halved 8 = .ok (.if_icmp .gt 16, 3) := by decide +kernel
theorem dX9_halved_11 : decode cX9_halved 11 = .ok (.aload_n 0, 1) := by decide +kernel
theorem dX9_halved_12 : decode cX9_halved 12 = .ok (.iload_n 1, 1) := by decide +kernel
theorem dX9_halved_13 : decode cX9_halved 13 = .ok (.iload_n 2, 1) := by decide +kernel
theorem dX9_halved_14 : decode cX9_halved 14 = .ok (.iload_n 3, 1) := by decide +kernel
theorem dX9_halved_15 : decode cX9_halved 15 = .ok (.iload 4, 2) := by decide +kernel
theorem dX9_halved_17 : decode cX9_halved 17 = .ok (.invokevirtual 265, 3) := by decide +kernel
theorem dX9_halved_20 : decode cX9_halved 20 = .ok (.iconst (-1), 1) := by decide +kernel
theorem dX9_halved_21 : decode cX9_halved 21 = .ok (.if_icmp .ne 5, 3) := by decide +kernel
theorem dX9_halved_24 : decode cX9_halved 24 = .ok (.iconst (-1), 1) := by decide +kernel
theorem dX9_halved_25 : decode cX9_halved 25 = .ok (.ireturn, 1) := by decide +kernel
theorem dX9_halved_26 : decode cX9_halved 26 = .ok (.aload_n 0, 1) := by decide +kernel
theorem dX9_halved_27 : decode cX9_halved 27 = .ok (.getfield 51, 3) := by decide +kernel
theorem dX9_halved_30 : decode cX9_halved 30 = .ok (.invokevirtual 300, 3) := by decide +kernel
theorem dX9_halved_33 : decode cX9_halved 33 = .ok (.aload_n 0, 1) := by decide +kernel
theorem dX9_halved_34 : decode cX9_halved 34 = .ok (.getfield 51, 3) := by decide +kernel
theorem dX9_halved_37 : decode cX9_halved 37 = .ok (.iconst (-1), 1) := by decide +kernel
theorem dX9_halved_38 : decode cX9_halved 38 = .ok (.invokevirtual 254, 3) := by decide +kernel
theorem dX9_halved_41 : decode cX9_halved 41 = .ok (.istore 6, 2) := by decide +kernel
theorem dX9_halved_43 : decode cX9_halved 43 = .ok (.aload_n 0, 1) := by decide +kernel
theorem dX9_halved_44 : decode cX9_halved 44 = .ok (.getfield 51, 3) := by decide +kernel
theorem dX9_halved_47 : decode cX9_halved 47 = .ok (.invokevirtual 303, 3) := by decide +kernel
theorem dX9_halved_50 : decode cX9_halved 50 = .ok (.iconst 2, 1) := by decide +kernel
theorem dX9_halved_51 : decode cX9_halved 51 = .ok (.aload_n 0, 1) := by decide +kernel
theorem dX9_halved_52 : decode cX9_halved 52 = .ok (.getfield 51, 3) := by decide +kernel
theorem dX9_halved_55 : decode cX9_halved 55 = .ok (.iconst (-1), 1) := by decide +kernel
theorem dX9_halved_56 : decode cX9_halved 56 = .ok (.invokevirtual 254, 3) := by decide +kernel
theorem dX9_halved_59 : decode cX9_halved 59 = .ok (.imul, 1) := by decide +kernel
theorem dX9_halved_60 : decode cX9_halved 60 = .ok (.istore 7, 2) := by decide +kernel
theorem dX9_halved_62 : decode cX9_halved 62 = .ok (.iload 5, 2) := by decide +kernel
theorem dX9_halved_64 : decode cX9_halved 64 = .ok (.ifCond .ne 8, 3) := by decide +kernel
theorem dX9_halved_67 : decode cX9_halved 67 = .ok (.iload 7, 2) := by decide +kernel
theorem dX9_halved_69 : decode cX9_halved 69 = .ok (.goto 15, 3) := by decide +kernel
theorem dX9_halved_72 : decode cX9_halved 72 = .ok (.iload 7, 2) := by decide +kernel
theorem dX9_halved_74 : decode cX9_halved 74 = .ok (.iload 6, 2) := by decide +kernel
theorem dX9_halved_76 : decode cX9_halved 76 = .ok (.if_icmp .le 7, 3) := by decide +kernel
theorem dX9_halved_79 : decode cX9_halved 79 = .ok (.iconst 1, 1) := by decide +kernel
theorem dX9_halved_80 : decode cX9_halved 80 = .ok (.goto 4, 3) := by decide +kernel
theorem dX9_halved_83 : decode cX9_halved 83 = .ok (.iconst 0, 1) := by decide +kernel
theorem dX9_halved_84 : decode cX9_halved 84 = .ok (.ireturn, 1) := by decide +kernel
def zX9_halved (Qr : Option PV → Mem → Prop) : XZ := (RX9, 7, 166, 8, some FieldType.int, Qr)
noncomputable def fX9_halved (o : Nat) (x1 : Int) (x2 : Int) (x3 : Int) (x4 : Int) (x5 : Int) (F : Mem) : Option (Int × Mem) :=
  if x5 < 0 then
    some ((-1), F)
  else
    if 1 < x5 then
      some ((-1), F)
    else
      (fX9_gainOfDay o x1 x2 x3 x4 F).bind fun q3 =>
      if q3.1 ≠ (-1) then
        (fX1_dropMusts (o + 62) q3.2).bind fun q6 =>
        (fX1_solve (o + 62) (-1) q6).bind fun q8 =>
        (fX1_keepGainOfEyes (o + 62) q8.2).bind fun q10 =>
        (fX1_solve (o + 62) (-1) q10).bind fun q12 =>
        if x5 ≠ 0 then
          if (xw (2 * q12.1)) ≤ q8.1 then
            some (0, q12.2)
          else
            some (1, q12.2)
        else
          some (xw (2 * q12.1), q12.2)
      else
        some ((-1), q3.2)
theorem fX9_halved_ok {Qr : Option PV → Mem → Prop} : ∀ (o : Nat) (x1 : Int) (x2 : Int) (x3 : Int) (x4 : Int) (x5 : Int) (F : Mem) (res : (Int × Mem)) (ho : isK o 9), fX9_halved o x1 x2 x3 x4 x5 F = some res → Qr (some (vI res.1)) res.2 → PR cX9_halved (zX9_halved Qr) 0 [(0, vR o), (1, vI x1), (2, vI x2), (3, vI x3), (4, vI x4), (5, vI x5)] [] F := by
  intro o x1 x2 x3 x4 x5 F res ho h hq
  refine s_iload (j := 5) dX9_halved_0 rfl ?_
  refine s_if_lt (tgt := 24) dX9_halved_2 rfl (fun hc1 => ?_) (fun hc1 => ?_)
  · have h := ifp hc1 h
    refine s_iconst dX9_halved_24 (cin rfl) ?_
    have h := Option.some.inj h
    subst h
    exact s_ireturn dX9_halved_25 rfl hq
  · have h := ifn hc1 h
    refine s_iload (j := 5) dX9_halved_5 rfl ?_
    refine s_iconst dX9_halved_7 (cin rfl) ?_
    refine s_icmp_gt (tgt := 24) dX9_halved_8 rfl (fun hc2 => ?_) (fun hc2 => ?_)
    · have h := ifp hc2 h
      refine s_iconst dX9_halved_24 (cin rfl) ?_
      have h := Option.some.inj h
      subst h
      exact s_ireturn dX9_halved_25 rfl hq
    · have h := ifn hc2 h
      refine s_aload_n (j := 0) dX9_halved_11 rfl rfl ?_
      refine s_iload_n (j := 1) dX9_halved_12 rfl rfl ?_
      refine s_iload_n (j := 2) dX9_halved_13 rfl rfl ?_
      refine s_iload_n (j := 3) dX9_halved_14 rfl rfl ?_
      refine s_iload (j := 4) dX9_halved_15 rfl ?_
      obtain ⟨q3, hv4, h⟩ := bnd h
      refine s_callV (As := [vI x1, vI x2, vI x3, vI x4]) (rest := []) (r := (some (vI q3.1))) (F' := q3.2) dX9_halved_17 (clX9_265 (Nat.le_of_ble_eq_true rfl) (Nat.le_of_ble_eq_true rfl)) ho rfl ⟨_, _, _, _, _, _, rfl, ho, hv4, rfl, rfl⟩ rfl (Nat.le_of_ble_eq_true rfl) ?_
      refine s_iconst dX9_halved_20 (cin rfl) ?_
      refine s_icmp_ne (tgt := 26) dX9_halved_21 rfl (fun hc5 => ?_) (fun hc5 => ?_)
      · have h := ifp hc5 h
        refine s_aload_n (j := 0) dX9_halved_26 rfl rfl ?_
        refine s_getR dX9_halved_27 flX9_51 ho ?_
        obtain ⟨q6, hv7, h⟩ := bnd h
        refine s_callV (As := []) (rest := []) (r := none) (F' := q6) dX9_halved_30 (clX9_300 (Nat.le_of_ble_eq_true rfl) (Nat.le_of_ble_eq_true rfl)) (trX9_7 ho) rfl ⟨_, _, rfl, (trX9_7 ho), hv7, rfl, rfl⟩ rfl (Nat.le_of_ble_eq_true rfl) ?_
        refine s_aload_n (j := 0) dX9_halved_33 rfl rfl ?_
        refine s_getR dX9_halved_34 flX9_51 ho ?_
        refine s_iconst dX9_halved_37 (cin rfl) ?_
        obtain ⟨q8, hv9, h⟩ := bnd h
        refine s_callV (As := [vI (-1)]) (rest := []) (r := (some (vI q8.1))) (F' := q8.2) dX9_halved_38 (clX9_254 (Nat.le_of_ble_eq_true rfl) (Nat.le_of_ble_eq_true rfl)) (trX9_7 ho) rfl ⟨_, _, _, rfl, (trX9_7 ho), hv9, rfl, rfl⟩ rfl (Nat.le_of_ble_eq_true rfl) ?_
        refine s_istore (ls' := [(6, vI q8.1), (0, vR o), (1, vI x1), (2, vI x2), (3, vI x3), (4, vI x4), (5, vI x5)]) dX9_halved_41 (Nat.le_of_ble_eq_true rfl) rfl ?_
        refine s_aload_n (j := 1) dX9_halved_43 rfl rfl ?_
        refine s_getR dX9_halved_44 flX9_51 ho ?_
        obtain ⟨q10, hv11, h⟩ := bnd h
        refine s_callV (As := []) (rest := []) (r := none) (F' := q10) dX9_halved_47 (clX9_303 (Nat.le_of_ble_eq_true rfl) (Nat.le_of_ble_eq_true rfl)) (trX9_7 ho) rfl ⟨_, _, rfl, (trX9_7 ho), hv11, rfl, rfl⟩ rfl (Nat.le_of_ble_eq_true rfl) ?_
        refine s_iconst dX9_halved_50 (cin rfl) ?_
        refine s_aload_n (j := 1) dX9_halved_51 rfl rfl ?_
        refine s_getR dX9_halved_52 flX9_51 ho ?_
        refine s_iconst dX9_halved_55 (cin rfl) ?_
        obtain ⟨q12, hv13, h⟩ := bnd h
        refine s_callV (As := [vI (-1)]) (rest := [vI 2]) (r := (some (vI q12.1))) (F' := q12.2) dX9_halved_56 (clX9_254 (Nat.le_of_ble_eq_true rfl) (Nat.le_of_ble_eq_true rfl)) (trX9_7 ho) rfl ⟨_, _, _, rfl, (trX9_7 ho), hv13, rfl, rfl⟩ rfl (Nat.le_of_ble_eq_true rfl) ?_
        refine s_imul dX9_halved_59 ?_
        refine s_istore dX9_halved_60 (Nat.le_of_ble_eq_true rfl) rfl ?_
        refine s_iload (j := 7) dX9_halved_62 rfl ?_
        refine s_if_ne (tgt := 72) dX9_halved_64 rfl (fun hc14 => ?_) (fun hc14 => ?_)
        · have h := ifp hc14 h
          refine s_iload (j := 0) dX9_halved_72 rfl ?_
          refine s_iload (j := 1) dX9_halved_74 rfl ?_
          refine s_icmp_le (tgt := 83) dX9_halved_76 rfl (fun hc15 => ?_) (fun hc15 => ?_)
          · have h := ifp hc15 h
            refine s_iconst dX9_halved_83 (cin rfl) ?_
            have h := Option.some.inj h
            subst h
            exact s_ireturn dX9_halved_84 rfl hq
          · have h := ifn hc15 h
            refine s_iconst dX9_halved_79 (cin rfl) ?_
            refine s_goto (tgt := 84) dX9_halved_80 rfl ?_
            have h := Option.some.inj h
            subst h
            exact s_ireturn dX9_halved_84 rfl hq
        · have h := ifn hc14 h
          refine s_iload (j := 0) dX9_halved_67 rfl ?_
          refine s_goto (tgt := 84) dX9_halved_69 rfl ?_
          have h := Option.some.inj h
          subst h
          exact s_ireturn dX9_halved_84 rfl hq
      · have h := ifn hc5 h
        refine s_iconst dX9_halved_24 (cin rfl) ?_
        have h := Option.some.inj h
        subst h
        exact s_ireturn dX9_halved_25 rfl hq
def gX9_halved : XG := fun As F r F' => ∃ o : Nat, ∃ x1 : Int, ∃ x2 : Int, ∃ x3 : Int, ∃ x4 : Int, ∃ x5 : Int, ∃ res : (Int × Mem), As = [vR o, vI x1, vI x2, vI x3, vI x4, vI x5] ∧ isK o 9 ∧ fX9_halved o x1 x2 x3 x4 x5 F = some res ∧ r = some (vI res.1) ∧ F' = res.2
theorem ctX9_halved : xCT yX9_halved cX9_halved 8 (some FieldType.int) 7 166 gX9_halved := xmet (by decide +kernel) (fun As F r F' hg => by obtain ⟨o, x1, x2, x3, x4, x5, res, rfl, ho, h, rfl, rfl⟩ := hg; exact Nat.le_of_ble_eq_true rfl) (fun As F r F' hg => by obtain ⟨o, x1, x2, x3, x4, x5, res, rfl, ho, h, rfl, rfl⟩ := hg; exact fX9_halved_ok o x1 x2 x3 x4 x5 _ _ ho h ⟨rfl, rfl⟩)
theorem mcX9_halved : Cond.code yX9_halved cX9_halved 8 (some FieldType.int) ∈ xw_T ∧ Cond.initialized yX9_halved.cls ∈ xw_T ∧ Cond.instanceMethod yX9_halved ∈ xw_T ∧ Cond.selects yX9_halved.cls yX9_halved yX9_halved ∈ xw_T := ⟨(xinT 1174 (by decide +kernel) (by decide +kernel)), (xinT 116 (by decide +kernel) (by decide +kernel)), (xinT 1172 (by decide +kernel) (by decide +kernel)), (xinT 1173 (by decide +kernel) (by decide +kernel))⟩
theorem dX9_drawnBelow_0 : decode cX9_drawnBelow 0 = .ok (.iload_n 1, 1) := by decide +kernel
theorem dX9_drawnBelow_1 : decode cX9_drawnBelow 1 = .ok (.iconst 1, 1) := by decide +kernel
theorem dX9_drawnBelow_2 : decode cX9_drawnBelow 2 = .ok (.if_icmp .ge 7, 3) := by decide +kernel
theorem dX9_drawnBelow_5 : decode cX9_drawnBelow 5 = .ok (.iconst 0, 1) := by decide +kernel
theorem dX9_drawnBelow_6 : decode cX9_drawnBelow 6 = .ok (.goto 9, 3) := by decide +kernel
theorem dX9_drawnBelow_9 : decode cX9_drawnBelow 9 = .ok (.iload_n 0, 1) := by decide +kernel
theorem dX9_drawnBelow_10 : decode cX9_drawnBelow 10 = .ok (.bipush 16, 2) := by decide +kernel
theorem dX9_drawnBelow_12 : decode cX9_drawnBelow 12 = .ok (.iushr, 1) := by decide +kernel
theorem dX9_drawnBelow_13 : decode cX9_drawnBelow 13 = .ok (.iload_n 1, 1) := by decide +kernel
theorem dX9_drawnBelow_14 : decode cX9_drawnBelow 14 = .ok (.irem, 1) := by decide +kernel
theorem dX9_drawnBelow_15 : decode cX9_drawnBelow 15 = .ok (.ireturn, 1) := by decide +kernel
def zX9_drawnBelow (Qr : Option PV → Mem → Prop) : XZ := (RX9, 0, 0, 2, some FieldType.int, Qr)
noncomputable def fX9_drawnBelow (x0 : Int) (x1 : Int) : Option Int :=
  if 1 ≤ x1 then
    if x1 = 0 then none else
    some (Int.tmod (xushr x0 16) x1)
  else
    some 0
theorem fX9_drawnBelow_ok {Qr : Option PV → Mem → Prop} : ∀ (x0 : Int) (x1 : Int) (F : Mem) (res : Int), fX9_drawnBelow x0 x1 = some res → Qr (some (vI res)) F → PR cX9_drawnBelow (zX9_drawnBelow Qr) 0 [(0, vI x0), (1, vI x1)] [] F := by
  intro x0 x1 F res  h hq
  refine s_iload_n (j := 1) dX9_drawnBelow_0 rfl rfl ?_
  refine s_iconst dX9_drawnBelow_1 (cin rfl) ?_
  refine s_icmp_ge (tgt := 9) dX9_drawnBelow_2 rfl (fun hc1 => ?_) (fun hc1 => ?_)
  · have h := ifp hc1 h
    refine s_iload_n (j := 0) dX9_drawnBelow_9 rfl rfl ?_
    refine s_bipush dX9_drawnBelow_10 rfl (cin rfl) ?_
    refine s_iushr dX9_drawnBelow_12 ?_
    refine s_iload_n (j := 1) dX9_drawnBelow_13 rfl rfl ?_
    obtain ⟨hd2, h⟩ := gdn h
    refine s_irem dX9_drawnBelow_14 hd2 ?_
    have h := Option.some.inj h
    subst h
    exact s_ireturn dX9_drawnBelow_15 rfl hq
  · have h := ifn hc1 h
    refine s_iconst dX9_drawnBelow_5 (cin rfl) ?_
    refine s_goto (tgt := 15) dX9_drawnBelow_6 rfl ?_
    have h := Option.some.inj h
    subst h
    exact s_ireturn dX9_drawnBelow_15 rfl hq
def gX9_drawnBelow : XG := fun As F r F' => ∃ x0 : Int, ∃ x1 : Int, ∃ res : Int, As = [vI x0, vI x1] ∧ fX9_drawnBelow x0 x1 = some res ∧ r = some (vI res) ∧ F' = F
theorem ctX9_drawnBelow : xCT yX9_drawnBelow cX9_drawnBelow 2 (some FieldType.int) 0 0 gX9_drawnBelow := xmet (by decide +kernel) (fun As F r F' hg => by obtain ⟨x0, x1, res, rfl, h, rfl, rfl⟩ := hg; exact Nat.le_of_ble_eq_true rfl) (fun As F r F' hg => by obtain ⟨x0, x1, res, rfl, h, rfl, rfl⟩ := hg; exact fX9_drawnBelow_ok x0 x1 _ _  h ⟨rfl, rfl⟩)
theorem mcX9_drawnBelow : Cond.code yX9_drawnBelow cX9_drawnBelow 2 (some FieldType.int) ∈ xw_T ∧ Cond.initialized yX9_drawnBelow.cls ∈ xw_T ∧ Cond.static yX9_drawnBelow ∈ xw_T := ⟨(xinT 1190 (by decide +kernel) (by decide +kernel)), (xinT 116 (by decide +kernel) (by decide +kernel)), (xinT 1189 (by decide +kernel) (by decide +kernel))⟩
theorem clX9_309 {fr lo : Nat} (h1 : 0 + 1 ≤ fr) (h2 : 8 + (2 + 11) + 0 ≤ lo) : xCall RX9 fr lo 1 309 0 2 gX9_drawnBelow := ⟨_, _, _, _, _, _, ctX9_drawnBelow, h1, h2, mcX9_drawnBelow.1, (xinT 1188 (by decide +kernel) (by decide +kernel)), mcX9_drawnBelow.2.1, ⟨by decide +kernel, by decide +kernel, by decide +kernel⟩, by rw [if_neg (by decide)]; exact mcX9_drawnBelow.2.2⟩
theorem dX9_nextOf_0 : decode cX9_nextOf 0 = .ok (.iload_n 0, 1) := by decide +kernel
theorem dX9_nextOf_1 : decode cX9_nextOf 1 = .ok (.ldc_w 378, 3) := by decide +kernel
theorem dX9_nextOf_4 : decode cX9_nextOf 4 = .ok (.imul, 1) := by decide +kernel
theorem dX9_nextOf_5 : decode cX9_nextOf 5 = .ok (.sipush 12345, 3) := by decide +kernel
theorem dX9_nextOf_8 : decode cX9_nextOf 8 = .ok (.iadd, 1) := by decide +kernel
theorem dX9_nextOf_9 : decode cX9_nextOf 9 = .ok (.ireturn, 1) := by decide +kernel
def zX9_nextOf (Qr : Option PV → Mem → Prop) : XZ := (RX9, 0, 0, 1, some FieldType.int, Qr)
noncomputable def fX9_nextOf (x0 : Int) : Int :=
  xw ((xw (x0 * 1103515245)) + 12345)
theorem fX9_nextOf_ok {Qr : Option PV → Mem → Prop} : ∀ (x0 : Int) (F : Mem) (res : Int), fX9_nextOf x0 = res → Qr (some (vI res)) F → PR cX9_nextOf (zX9_nextOf Qr) 0 [(0, vI x0)] [] F := by
  intro x0 F res  h hq
  refine s_iload_n (j := 0) dX9_nextOf_0 rfl rfl ?_
  refine s_ldcw dX9_nextOf_1 kcX9_378 (cin rfl) ?_
  refine s_imul dX9_nextOf_4 ?_
  refine s_sipush dX9_nextOf_5 rfl (cin rfl) ?_
  refine s_iadd dX9_nextOf_8 ?_
  subst h
  exact s_ireturn dX9_nextOf_9 rfl hq
def gX9_nextOf : XG := fun As F r F' => ∃ x0 : Int, ∃ res : Int, As = [vI x0] ∧ fX9_nextOf x0 = res ∧ r = some (vI res) ∧ F' = F
theorem ctX9_nextOf : xCT yX9_nextOf cX9_nextOf 1 (some FieldType.int) 0 0 gX9_nextOf := xmet (by decide +kernel) (fun As F r F' hg => by obtain ⟨x0, res, rfl, h, rfl, rfl⟩ := hg; exact Nat.le_of_ble_eq_true rfl) (fun As F r F' hg => by obtain ⟨x0, res, rfl, h, rfl, rfl⟩ := hg; exact fX9_nextOf_ok x0 _ _  h ⟨rfl, rfl⟩)
theorem mcX9_nextOf : Cond.code yX9_nextOf cX9_nextOf 1 (some FieldType.int) ∈ xw_T ∧ Cond.initialized yX9_nextOf.cls ∈ xw_T ∧ Cond.static yX9_nextOf ∈ xw_T := ⟨(xinT 1186 (by decide +kernel) (by decide +kernel)), (xinT 116 (by decide +kernel) (by decide +kernel)), (xinT 1185 (by decide +kernel) (by decide +kernel))⟩
theorem clX9_306 {fr lo : Nat} (h1 : 0 + 1 ≤ fr) (h2 : 8 + (1 + 11) + 0 ≤ lo) : xCall RX9 fr lo 1 306 0 1 gX9_nextOf := ⟨_, _, _, _, _, _, ctX9_nextOf, h1, h2, mcX9_nextOf.1, (xinT 1184 (by decide +kernel) (by decide +kernel)), mcX9_nextOf.2.1, ⟨by decide +kernel, by decide +kernel, by decide +kernel⟩, by rw [if_neg (by decide)]; exact mcX9_nextOf.2.2⟩
theorem dX9_needs_0 : decode cX9_needs 0 = .ok (.iload 6, 2) := by decide +kernel
theorem dX9_needs_2 : decode cX9_needs 2 = .ok (.iconst 1, 1) := by decide +kernel
theorem dX9_needs_3 : decode cX9_needs 3 = .ok (.if_icmp .lt 21, 3) := by decide +kernel
theorem dX9_needs_6 : decode cX9_needs 6 = .ok (.iload 6, 2) := by decide +kernel
theorem dX9_needs_8 : decode cX9_needs 8 = .ok (.bipush 9, 2) := by decide +kernel
theorem dX9_needs_10 : decode cX9_needs 10 = .ok (.if_icmp .gt 14, 3) := by decide +kernel
theorem dX9_needs_13 : decode cX9_needs 13 = .ok (.iload 7, 2) := by decide +kernel
theorem dX9_needs_15 : decode cX9_needs 15 = .ok (.ifCond .lt 9, 3) := by decide +kernel
theorem dX9_needs_18 : decode cX9_needs 18 = .ok (.iload 7, 2) := by decide +kernel
theorem dX9_needs_20 : decode cX9_needs 20 = .ok (.iconst 2, 1) := by decide +kernel
theorem dX9_needs_21 : decode cX9_needs 21 = .ok (.if_icmp .le 6, 3) := by decide +kernel
theorem dX9_needs_24 : decode cX9_needs 24 = .ok (.bipush (-2), 2) := by decide +kernel
theorem dX9_needs_26 : decode cX9_needs 26 = .ok (.ireturn, 1) := by decide +kernel
theorem dX9_needs_27 : decode cX9_needs 27 = .ok (.aload_n 0, 1) := by decide +kernel
theorem dX9_needs_28 : decode cX9_needs 28 = .ok (.iload_n 1, 1) := by decide +kernel
theorem dX9_needs_29 : decode cX9_needs 29 = .ok (.iload_n 2, 1) := by decide +kernel
theorem dX9_needs_30 : decode cX9_needs 30 = .ok (.iload_n 3, 1) := by decide +kernel
theorem dX9_needs_31 : decode cX9_needs 31 = .ok (.iload 4, 2) := by decide +kernel
theorem dX9_needs_33 : decode cX9_needs 33 = .ok (.invokevirtual 265, 3) := by decide +kernel
theorem dX9_needs_36 : decode cX9_needs 36 = .ok (.istore 8, 2) := by decide +kernel
theorem dX9_needs_38 : decode cX9_needs 38 = .ok (.iload 8, 2) := by decide +kernel
theorem dX9_needs_40 : decode cX9_needs 40 = .ok (.iconst (-1), 1) := by decide +kernel
theorem dX9_needs_41 : decode cX9_needs 41 = .ok (.if_icmp .ne 6, 3) := by decide +kernel
theorem dX9_needs_44 : decode cX9_needs 44 = .ok (.bipush (-2), 2) := by decide +kernel
theorem dX9_needs_46 : decode cX9_needs 46 = .ok (.ireturn, 1) := by decide +kernel
theorem dX9_needs_47 : decode cX9_needs 47 = .ok (.aload_n 0, 1) := by decide +kernel
theorem dX9_needs_48 : decode cX9_needs 48 = .ok (.getfield 51, 3) := by decide +kernel
theorem dX9_needs_51 : decode cX9_needs 51 = .ok (.invokevirtual 272, 3) := by decide +kernel
theorem dX9_needs_54 : decode cX9_needs 54 = .ok (.iload 5, 2) := by decide +kernel
theorem dX9_needs_56 : decode cX9_needs 56 = .ok (.istore 9, 2) := by decide +kernel
theorem dX9_needs_58 : decode cX9_needs 58 = .ok (.iconst 0, 1) := by decide +kernel
theorem dX9_needs_59 : decode cX9_needs 59 = .ok (.istore 10, 2) := by decide +kernel
theorem dX9_needs_61 : decode cX9_needs 61 = .ok (.iconst 0, 1) := by decide +kernel
theorem dX9_needs_62 : decode cX9_needs 62 = .ok (.istore 11, 2) := by decide +kernel
theorem dX9_needs_64 : decode cX9_needs 64 = .ok (.iconst 0, 1) := by decide +kernel
theorem dX9_needs_65 : decode cX9_needs 65 = .ok (.istore 12, 2) := by decide +kernel
theorem dX9_needs_67 : decode cX9_needs 67 = .ok (.iconst 0, 1) := by decide +kernel
theorem dX9_needs_68 : decode cX9_needs 68 = .ok (.istore 13, 2) := by decide +kernel
theorem dX9_needs_70 : decode cX9_needs 70 = .ok (.iload 13, 2) := by decide +kernel
theorem dX9_needs_72 : decode cX9_needs 72 = .ok (.iload 6, 2) := by decide +kernel
theorem dX9_needs_74 : decode cX9_needs 74 = .ok (.if_icmp .ge 138, 3) := by decide +kernel
theorem dX9_needs_77 : decode cX9_needs 77 = .ok (.iload 9, 2) := by decide +kernel
theorem dX9_needs_79 : decode cX9_needs 79 = .ok (.invokestatic 306, 3) := by decide +kernel
theorem dX9_needs_82 : decode cX9_needs 82 = .ok (.istore 9, 2) := by decide +kernel
theorem dX9_needs_84 : decode cX9_needs 84 = .ok (.iload 9, 2) := by decide +kernel
theorem dX9_needs_86 : decode cX9_needs 86 = .ok (.aload_n 0, 1) := by decide +kernel
theorem dX9_needs_87 : decode cX9_needs 87 = .ok (.getfield 51, 3) := by decide +kernel
theorem dX9_needs_90 : decode cX9_needs 90 = .ok (.getfield 259, 3) := by decide +kernel
theorem dX9_needs_93 : decode cX9_needs 93 = .ok (.getfield 126, 3) := by decide +kernel
theorem dX9_needs_96 : decode cX9_needs 96 = .ok (.getfield 130, 3) := by decide +kernel
theorem dX9_needs_99 : decode cX9_needs 99 = .ok (.invokestatic 309, 3) := by decide +kernel
theorem dX9_needs_102 : decode cX9_needs 102 = .ok (.istore 14, 2) := by decide +kernel
theorem dX9_needs_104 : decode cX9_needs 104 = .ok (.iload 9, 2) := by decide +kernel
theorem dX9_needs_106 : decode cX9_needs 106 = .ok (.invokestatic 306, 3) := by decide +kernel
theorem dX9_needs_109 : decode cX9_needs 109 = .ok (.istore 9, 2) := by decide +kernel
theorem dX9_needs_111 : decode cX9_needs 111 = .ok (.iload 9, 2) := by decide +kernel
theorem dX9_needs_113 : decode cX9_needs 113 = .ok (.aload_n 0, 1) := by decide +kernel
theorem dX9_needs_114 : decode cX9_needs 114 = .ok (.getfield 51, 3) := by decide +kernel
theorem dX9_needs_117 : decode cX9_needs 117 = .ok (.getfield 259, 3) := by decide +kernel
theorem dX9_needs_120 : decode cX9_needs 120 = .ok (.getfield 109, 3) := by decide +kernel
theorem dX9_needs_123 : decode cX9_needs 123 = .ok (.invokestatic 309, 3) := by decide +kernel
theorem dX9_needs_126 : decode cX9_needs 126 = .ok (.istore 15, 2) := by decide +kernel
theorem dX9_needs_128 : decode cX9_needs 128 = .ok (.iload 9, 2) := by decide +kernel
theorem dX9_needs_130 : decode cX9_needs 130 = .ok (.invokestatic 306, 3) := by decide +kernel
theorem dX9_needs_133 : decode cX9_needs 133 = .ok (.istore 9, 2) := by decide +kernel
theorem dX9_needs_135 : decode cX9_needs 135 = .ok (.iload 15, 2) := by decide +kernel
theorem dX9_needs_137 : decode cX9_needs 137 = .ok (.iload 9, 2) := by decide +kernel
theorem dX9_needs_139 : decode cX9_needs 139 = .ok (.iconst 3, 1) := by decide +kernel
theorem dX9_needs_140 : decode cX9_needs 140 = .ok (.invokestatic 309, 3) := by decide +kernel
theorem dX9_needs_143 : decode cX9_needs 143 = .ok (.iadd, 1) := by decide +kernel
theorem dX9_needs_144 : decode cX9_needs 144 = .ok (.iconst 1, 1) := by decide +kernel
theorem dX9_needs_145 : decode cX9_needs 145 = .ok (.iadd, 1) := by decide +kernel
theorem dX9_needs_146 : decode cX9_needs 146 = .ok (.aload_n 0, 1) := by decide +kernel
theorem dX9_needs_147 : decode cX9_needs 147 = .ok (.getfield 51, 3) := by decide +kernel
theorem dX9_needs_150 : decode cX9_needs 150 = .ok (.getfield 259, 3) := by decide +kernel
theorem dX9_needs_153 : decode cX9_needs 153 = .ok (.getfield 109, 3) := by decide +kernel
theorem dX9_needs_156 : decode cX9_needs 156 = .ok (.invokestatic 312, 3) := by decide +kernel
theorem dX9_needs_159 : decode cX9_needs 159 = .ok (.istore 16, 2) := by decide +kernel
theorem dX9_needs_161 : decode cX9_needs 161 = .ok (.aload_n 0, 1) := by decide +kernel
theorem dX9_needs_162 : decode cX9_needs 162 = .ok (.getfield 51, 3) := by decide +kernel
theorem dX9_needs_165 : decode cX9_needs 165 = .ok (.iload 8, 2) := by decide +kernel
theorem dX9_needs_167 : decode cX9_needs 167 = .ok (.iload 14, 2) := by decide +kernel
theorem dX9_needs_169 : decode cX9_needs 169 = .ok (.iload 15, 2) := by decide +kernel
theorem dX9_needs_171 : decode cX9_needs 171 = .ok (.iload 16, 2) := by decide +kernel
theorem dX9_needs_173 : decode cX9_needs 173 = .ok (.invokevirtual 275, 3) := by decide +kernel
theorem dX9_needs_176 : decode cX9_needs 176 = .ok (.istore 17, 2) := by decide +kernel
theorem dX9_needs_178 : decode cX9_needs 178 = .ok (.iload 17, 2) := by decide +kernel
theorem dX9_needs_180 : decode cX9_needs 180 = .ok (.iconst (-1), 1) := by decide +kernel
theorem dX9_needs_181 : decode cX9_needs 181 = .ok (.if_icmp .ne 9, 3) := by decide +kernel
theorem dX9_needs_184 : decode cX9_needs 184 = .ok (.iinc 11 1, 3) := by decide +kernel
theorem dX9_needs_187 : decode cX9_needs 187 = .ok (.goto 19, 3) := by decide +kernel
theorem dX9_needs_190 : decode cX9_needs 190 = .ok (.iload 10, 2) := by decide +kernel
theorem dX9_needs_192 : decode cX9_needs 192 = .ok (.iload 17, 2) := by decide +kernel
theorem dX9_needs_194 : decode cX9_needs 194 = .ok (.iadd, 1) := by decide +kernel
theorem dX9_needs_195 : decode cX9_needs 195 = .ok (.istore 10, 2) := by decide +kernel
theorem dX9_needs_197 : decode cX9_needs 197 = .ok (.iload 12, 2) := by decide +kernel
theorem dX9_needs_199 : decode cX9_needs 199 = .ok (.iload 17, 2) := by decide +kernel
theorem dX9_needs_201 : decode cX9_needs 201 = .ok (.invokestatic 317, 3) := by decide +kernel
theorem dX9_needs_204 : decode cX9_needs 204 = .ok (.istore 12, 2) := by decide +kernel
theorem dX9_needs_206 : decode cX9_needs 206 = .ok (.iinc 13 1, 3) := by decide +kernel
theorem dX9_needs_209 : decode cX9_needs 209 = .ok (.goto (-139), 3) := by decide +kernel
theorem dX9_needs_212 : decode cX9_needs 212 = .ok (.iload 7, 2) := by decide +kernel
theorem dX9_needs_214 : decode cX9_needs 214 = .ok (.ifCond .ne 8, 3) := by decide +kernel
theorem dX9_needs_217 : decode cX9_needs 217 = .ok (.iload 10, 2) := by decide +kernel
theorem dX9_needs_219 : decode cX9_needs 219 = .ok (.goto 16, 3) := by decide +kernel
theorem dX9_needs_222 : decode cX9_needs 222 = .ok (.iload 7, 2) := by decide +kernel
theorem dX9_needs_224 : decode cX9_needs 224 = .ok (.iconst 1, 1) := by decide +kernel
theorem dX9_needs_225 : decode cX9_needs 225 = .ok (.if_icmp .ne 8, 3) := by decide +kernel
theorem dX9_needs_228 : decode cX9_needs 228 = .ok (.iload 11, 2) := by decide +kernel
theorem dX9_needs_230 : decode cX9_needs 230 = .ok (.goto 5, 3) := by decide +kernel
theorem dX9_needs_233 : decode cX9_needs 233 = .ok (.iload 12, 2) := by decide +kernel
theorem dX9_needs_235 : decode cX9_needs 235 = .ok (.ireturn, 1) := by decide +kernel
def zX9_needs (Qr : Option PV → Mem → Prop) : XZ := (RX9, 7, 166, 18, some FieldType.int, Qr)
noncomputable def fX9_needs_b70 : Nat → Nat → Int → Int → Int → Int → Int → Int → Int → Int → Mem → Option (Int × Mem)
  | 0, _, _, _, _, _, _, _, _, _, _ => none
  | n + 1, o, x6, x7, x8, x9, x10, x11, x12, x13, F =>
    if x6 ≤ x13 then
      if x7 ≠ 0 then
        if x7 ≠ 1 then
          some (x12, F)
        else
          some (x11, F)
      else
        some (x10, F)
    else
      if (F (o + 62) 0).toNat = 0 then none else
      (fX9_drawnBelow (fX9_nextOf x9) (F (((F (o + 62) 0).toNat) + 1) 3)).bind fun r6 =>
      if (F (o + 62) 0).toNat = 0 then none else
      (fX9_drawnBelow (fX9_nextOf (fX9_nextOf x9)) (F ((F (o + 62) 0).toNat) 0)).bind fun r10 =>
      (fX9_drawnBelow (fX9_nextOf (fX9_nextOf (fX9_nextOf x9))) 3).bind fun r12 =>
      if (F (o + 62) 0).toNat = 0 then none else
      (fX1_harmOf (o + 62) x8 r6 r10 (xmin (xw ((xw (r10 + r12)) + 1)) (F ((F (o + 62) 0).toNat) 0)) F).bind fun r16 =>
      if r16 ≠ (-1) then
        fX9_needs_b70 n o x6 x7 x8 (fX9_nextOf (fX9_nextOf (fX9_nextOf x9))) (xw (x10 + r16)) x11 (xmax x12 r16) (xw (x13 + 1)) F
      else
        fX9_needs_b70 n o x6 x7 x8 (fX9_nextOf (fX9_nextOf (fX9_nextOf x9))) x10 (xw (x11 + 1)) x12 (xw (x13 + 1)) F
noncomputable def fX9_needs (o : Nat) (x1 : Int) (x2 : Int) (x3 : Int) (x4 : Int) (x5 : Int) (x6 : Int) (x7 : Int) (F : Mem) : Option (Int × Mem) :=
  if x6 < 1 then
    some ((-2), F)
  else
    if 9 < x6 then
      some ((-2), F)
    else
      if x7 < 0 then
        some ((-2), F)
      else
        if x7 ≤ 2 then
          (fX9_gainOfDay o x1 x2 x3 x4 F).bind fun q5 =>
          if q5.1 ≠ (-1) then
            (fX1_reachAll (o + 62) q5.2).bind fun q8 =>
            fX9_needs_b70 FU o x6 x7 q5.1 x5 0 0 0 0 q8
          else
            some ((-2), q5.2)
        else
          some ((-2), F)
theorem fX9_needs_b70_ok {Qr : Option PV → Mem → Prop}  : ∀ (n : Nat) (o : Nat) (x6 : Int) (x7 : Int) (x8 : Int) (x9 : Int) (x10 : Int) (x11 : Int) (x12 : Int) (x13 : Int) (F : Mem) (res : (Int × Mem)) (ho : isK o 9), fX9_needs_b70 n o x6 x7 x8 x9 x10 x11 x12 x13 F = some res → Qr (some (vI res.1)) res.2 → PR cX9_needs (zX9_needs Qr) 70 [(0, vR o), (6, vI x6), (7, vI x7), (8, vI x8), (9, vI x9), (10, vI x10), (11, vI x11), (12, vI x12), (13, vI x13)] [] F := by
  intro n
  induction n with
  | zero => intro o x6 x7 x8 x9 x10 x11 x12 x13 F res ho h hq; exact nomatch (show (none : Option _) = some _ from h)
  | succ n ih =>
    intro o x6 x7 x8 x9 x10 x11 x12 x13 F res ho h hq
    refine s_iload (j := 8) dX9_needs_70 rfl ?_
    refine s_iload (j := 1) dX9_needs_72 rfl ?_
    refine s_icmp_ge (tgt := 212) dX9_needs_74 rfl (fun hc1 => ?_) (fun hc1 => ?_)
    · have h := ifp hc1 h
      refine s_iload (j := 2) dX9_needs_212 rfl ?_
      refine s_if_ne (tgt := 222) dX9_needs_214 rfl (fun hc2 => ?_) (fun hc2 => ?_)
      · have h := ifp hc2 h
        refine s_iload (j := 2) dX9_needs_222 rfl ?_
        refine s_iconst dX9_needs_224 (cin rfl) ?_
        refine s_icmp_ne (tgt := 233) dX9_needs_225 rfl (fun hc3 => ?_) (fun hc3 => ?_)
        · have h := ifp hc3 h
          refine s_iload (j := 7) dX9_needs_233 rfl ?_
          have h := Option.some.inj h
          subst h
          exact s_ireturn dX9_needs_235 rfl hq
        · have h := ifn hc3 h
          refine s_iload (j := 6) dX9_needs_228 rfl ?_
          refine s_goto (tgt := 235) dX9_needs_230 rfl ?_
          have h := Option.some.inj h
          subst h
          exact s_ireturn dX9_needs_235 rfl hq
      · have h := ifn hc2 h
        refine s_iload (j := 5) dX9_needs_217 rfl ?_
        refine s_goto (tgt := 235) dX9_needs_219 rfl ?_
        have h := Option.some.inj h
        subst h
        exact s_ireturn dX9_needs_235 rfl hq
    · have h := ifn hc1 h
      refine s_iload (j := 4) dX9_needs_77 rfl ?_
      refine s_callS (As := [vI x9]) (rest := []) (r := (some (vI (fX9_nextOf x9)))) (F' := F) dX9_needs_79 (clX9_306 (Nat.le_of_ble_eq_true rfl) (Nat.le_of_ble_eq_true rfl)) rfl ⟨_, _, rfl, rfl, rfl, rfl⟩ rfl (Nat.le_of_ble_eq_true rfl) ?_
      refine s_istore (ls' := [(9, vI (fX9_nextOf x9)), (0, vR o), (6, vI x6), (7, vI x7), (8, vI x8), (10, vI x10), (11, vI x11), (12, vI x12), (13, vI x13)]) dX9_needs_82 (Nat.le_of_ble_eq_true rfl) rfl ?_
      refine s_iload (j := 0) dX9_needs_84 rfl ?_
      refine s_aload_n (j := 1) dX9_needs_86 rfl rfl ?_
      refine s_getR dX9_needs_87 flX9_51 ho ?_
      refine s_getM dX9_needs_90 flX9_259 (trX9_7 ho) (fun hm4 => ?_)
      have hm4 : _ = 0 ∨ isK ((F (o + 62) 0).toNat) 7 := hm4
      obtain ⟨hn5, h⟩ := gdn h
      refine s_getR dX9_needs_93 flX9_126 (hm4.resolve_left hn5) ?_
      refine s_getI dX9_needs_96 flX9_130 (trX7_5 (hm4.resolve_left hn5)) ?_
      obtain ⟨r6, hv7, h⟩ := bnd h
      refine s_callS (As := [vI (fX9_nextOf x9), vI (F (((F (o + 62) 0).toNat) + 1) 3)]) (rest := []) (r := (some (vI r6))) (F' := F) dX9_needs_99 (clX9_309 (Nat.le_of_ble_eq_true rfl) (Nat.le_of_ble_eq_true rfl)) rfl ⟨_, _, _, rfl, hv7, rfl, rfl⟩ rfl (Nat.le_of_ble_eq_true rfl) ?_
      refine s_istore dX9_needs_102 (Nat.le_of_ble_eq_true rfl) rfl ?_
      refine s_iload (j := 1) dX9_needs_104 rfl ?_
      refine s_callS (As := [vI (fX9_nextOf x9)]) (rest := []) (r := (some (vI (fX9_nextOf (fX9_nextOf x9))))) (F' := F) dX9_needs_106 (clX9_306 (Nat.le_of_ble_eq_true rfl) (Nat.le_of_ble_eq_true rfl)) rfl ⟨_, _, rfl, rfl, rfl, rfl⟩ rfl (Nat.le_of_ble_eq_true rfl) ?_
      refine s_istore (ls' := [(9, vI (fX9_nextOf (fX9_nextOf x9))), (14, vI r6), (0, vR o), (6, vI x6), (7, vI x7), (8, vI x8), (10, vI x10), (11, vI x11), (12, vI x12), (13, vI x13)]) dX9_needs_109 (Nat.le_of_ble_eq_true rfl) rfl ?_
      refine s_iload (j := 0) dX9_needs_111 rfl ?_
      refine s_aload_n (j := 2) dX9_needs_113 rfl rfl ?_
      refine s_getR dX9_needs_114 flX9_51 ho ?_
      refine s_getM dX9_needs_117 flX9_259 (trX9_7 ho) (fun hm8 => ?_)
      have hm8 : _ = 0 ∨ isK ((F (o + 62) 0).toNat) 7 := hm8
      obtain ⟨hn9, h⟩ := gdn h
      refine s_getI dX9_needs_120 flX9_109 (hm8.resolve_left hn9) ?_
      obtain ⟨r10, hv11, h⟩ := bnd h
      refine s_callS (As := [vI (fX9_nextOf (fX9_nextOf x9)), vI (F ((F (o + 62) 0).toNat) 0)]) (rest := []) (r := (some (vI r10))) (F' := F) dX9_needs_123 (clX9_309 (Nat.le_of_ble_eq_true rfl) (Nat.le_of_ble_eq_true rfl)) rfl ⟨_, _, _, rfl, hv11, rfl, rfl⟩ rfl (Nat.le_of_ble_eq_true rfl) ?_
      refine s_istore dX9_needs_126 (Nat.le_of_ble_eq_true rfl) rfl ?_
      refine s_iload (j := 1) dX9_needs_128 rfl ?_
      refine s_callS (As := [vI (fX9_nextOf (fX9_nextOf x9))]) (rest := []) (r := (some (vI (fX9_nextOf (fX9_nextOf (fX9_nextOf x9)))))) (F' := F) dX9_needs_130 (clX9_306 (Nat.le_of_ble_eq_true rfl) (Nat.le_of_ble_eq_true rfl)) rfl ⟨_, _, rfl, rfl, rfl, rfl⟩ rfl (Nat.le_of_ble_eq_true rfl) ?_
      refine s_istore (ls' := [(9, vI (fX9_nextOf (fX9_nextOf (fX9_nextOf x9)))), (15, vI r10), (14, vI r6), (0, vR o), (6, vI x6), (7, vI x7), (8, vI x8), (10, vI x10), (11, vI x11), (12, vI x12), (13, vI x13)]) dX9_needs_133 (Nat.le_of_ble_eq_true rfl) rfl ?_
      refine s_iload (j := 1) dX9_needs_135 rfl ?_
      refine s_iload (j := 0) dX9_needs_137 rfl ?_
      refine s_iconst dX9_needs_139 (cin rfl) ?_
      obtain ⟨r12, hv13, h⟩ := bnd h
      refine s_callS (As := [vI (fX9_nextOf (fX9_nextOf (fX9_nextOf x9))), vI 3]) (rest := [vI r10]) (r := (some (vI r12))) (F' := F) dX9_needs_140 (clX9_309 (Nat.le_of_ble_eq_true rfl) (Nat.le_of_ble_eq_true rfl)) rfl ⟨_, _, _, rfl, hv13, rfl, rfl⟩ rfl (Nat.le_of_ble_eq_true rfl) ?_
      refine s_iadd dX9_needs_143 ?_
      refine s_iconst dX9_needs_144 (cin rfl) ?_
      refine s_iadd dX9_needs_145 ?_
      refine s_aload_n (j := 3) dX9_needs_146 rfl rfl ?_
      refine s_getR dX9_needs_147 flX9_51 ho ?_
      refine s_getM dX9_needs_150 flX9_259 (trX9_7 ho) (fun hm14 => ?_)
      have hm14 : _ = 0 ∨ isK ((F (o + 62) 0).toNat) 7 := hm14
      obtain ⟨hn15, h⟩ := gdn h
      refine s_getI dX9_needs_153 flX9_109 (hm14.resolve_left hn15) ?_
      refine s_mmin dX9_needs_156 mtX9_312 (Nat.le_of_ble_eq_true rfl) ?_
      refine s_istore dX9_needs_159 (Nat.le_of_ble_eq_true rfl) rfl ?_
      refine s_aload_n (j := 4) dX9_needs_161 rfl rfl ?_
      refine s_getR dX9_needs_162 flX9_51 ho ?_
      refine s_iload (j := 7) dX9_needs_165 rfl ?_
      refine s_iload (j := 3) dX9_needs_167 rfl ?_
      refine s_iload (j := 2) dX9_needs_169 rfl ?_
      refine s_iload (j := 0) dX9_needs_171 rfl ?_
      obtain ⟨r16, hv17, h⟩ := bnd h
      refine s_callV (As := [vI x8, vI r6, vI r10, vI (xmin (xw ((xw (r10 + r12)) + 1)) (F ((F (o + 62) 0).toNat) 0))]) (rest := []) (r := (some (vI r16))) (F' := F) dX9_needs_173 (clX9_275 (Nat.le_of_ble_eq_true rfl) (Nat.le_of_ble_eq_true rfl)) (trX9_7 ho) rfl ⟨_, _, _, _, _, _, rfl, (trX9_7 ho), hv17, rfl, rfl⟩ rfl (Nat.le_of_ble_eq_true rfl) ?_
      refine s_istore (ls' := [(17, vI r16), (16, vI (xmin (xw ((xw (r10 + r12)) + 1)) (F ((F (o + 62) 0).toNat) 0))), (9, vI (fX9_nextOf (fX9_nextOf (fX9_nextOf x9)))), (15, vI r10), (14, vI r6), (0, vR o), (6, vI x6), (7, vI x7), (8, vI x8), (10, vI x10), (11, vI x11), (12, vI x12), (13, vI x13)]) dX9_needs_176 (Nat.le_of_ble_eq_true rfl) rfl ?_
      refine s_iload (j := 0) dX9_needs_178 rfl ?_
      refine s_iconst dX9_needs_180 (cin rfl) ?_
      refine s_icmp_ne (tgt := 190) dX9_needs_181 rfl (fun hc18 => ?_) (fun hc18 => ?_)
      · have h := ifp hc18 h
        refine s_iload (j := 9) dX9_needs_190 rfl ?_
        refine s_iload (j := 0) dX9_needs_192 rfl ?_
        refine s_iadd dX9_needs_194 ?_
        refine s_istore (ls' := [(10, vI (xw (x10 + r16))), (17, vI r16), (16, vI (xmin (xw ((xw (r10 + r12)) + 1)) (F ((F (o + 62) 0).toNat) 0))), (9, vI (fX9_nextOf (fX9_nextOf (fX9_nextOf x9)))), (15, vI r10), (14, vI r6), (0, vR o), (6, vI x6), (7, vI x7), (8, vI x8), (11, vI x11), (12, vI x12), (13, vI x13)]) dX9_needs_195 (Nat.le_of_ble_eq_true rfl) rfl ?_
        refine s_iload (j := 11) dX9_needs_197 rfl ?_
        refine s_iload (j := 1) dX9_needs_199 rfl ?_
        refine s_mmax dX9_needs_201 mtX9_317 (Nat.le_of_ble_eq_true rfl) ?_
        refine s_istore dX9_needs_204 (Nat.le_of_ble_eq_true rfl) rfl ?_
        refine s_iinc (ls' := [(13, vI (xw (x13 + 1))), (12, vI (xmax x12 r16)), (10, vI (xw (x10 + r16))), (17, vI r16), (16, vI (xmin (xw ((xw (r10 + r12)) + 1)) (F ((F (o + 62) 0).toNat) 0))), (9, vI (fX9_nextOf (fX9_nextOf (fX9_nextOf x9)))), (15, vI r10), (14, vI r6), (0, vR o), (6, vI x6), (7, vI x7), (8, vI x8), (11, vI x11)]) (j := 12) dX9_needs_206 rfl (Nat.le_of_ble_eq_true rfl) rfl ?_
        refine s_goto (tgt := 70) dX9_needs_209 rfl ?_
        exact s_sub (ks := [8, 9, 10, 11, 5, 2, 12, 1, 0]) rfl (ih o x6 x7 x8 (fX9_nextOf (fX9_nextOf (fX9_nextOf x9))) (xw (x10 + r16)) x11 (xmax x12 r16) (xw (x13 + 1)) F _ ho h hq)
      · have h := ifn hc18 h
        refine s_iinc (ls' := [(11, vI (xw (x11 + 1))), (17, vI r16), (16, vI (xmin (xw ((xw (r10 + r12)) + 1)) (F ((F (o + 62) 0).toNat) 0))), (9, vI (fX9_nextOf (fX9_nextOf (fX9_nextOf x9)))), (15, vI r10), (14, vI r6), (0, vR o), (6, vI x6), (7, vI x7), (8, vI x8), (10, vI x10), (12, vI x12), (13, vI x13)]) (j := 10) dX9_needs_184 rfl (Nat.le_of_ble_eq_true rfl) rfl ?_
        refine s_goto (tgt := 206) dX9_needs_187 rfl ?_
        refine s_iinc (j := 12) dX9_needs_206 rfl (Nat.le_of_ble_eq_true rfl) rfl ?_
        refine s_goto (tgt := 70) dX9_needs_209 rfl ?_
        exact s_sub (ks := [7, 8, 9, 10, 4, 11, 1, 12, 0]) rfl (ih o x6 x7 x8 (fX9_nextOf (fX9_nextOf (fX9_nextOf x9))) x10 (xw (x11 + 1)) x12 (xw (x13 + 1)) F _ ho h hq)
theorem fX9_needs_ok {Qr : Option PV → Mem → Prop} : ∀ (o : Nat) (x1 : Int) (x2 : Int) (x3 : Int) (x4 : Int) (x5 : Int) (x6 : Int) (x7 : Int) (F : Mem) (res : (Int × Mem)) (ho : isK o 9), fX9_needs o x1 x2 x3 x4 x5 x6 x7 F = some res → Qr (some (vI res.1)) res.2 → PR cX9_needs (zX9_needs Qr) 0 [(0, vR o), (1, vI x1), (2, vI x2), (3, vI x3), (4, vI x4), (5, vI x5), (6, vI x6), (7, vI x7)] [] F := by
  intro o x1 x2 x3 x4 x5 x6 x7 F res ho h hq
  refine s_iload (j := 6) dX9_needs_0 rfl ?_
  refine s_iconst dX9_needs_2 (cin rfl) ?_
  refine s_icmp_lt (tgt := 24) dX9_needs_3 rfl (fun hc1 => ?_) (fun hc1 => ?_)
  · have h := ifp hc1 h
    refine s_bipush dX9_needs_24 rfl (cin rfl) ?_
    have h := Option.some.inj h
    subst h
    exact s_ireturn dX9_needs_26 rfl hq
  · have h := ifn hc1 h
    refine s_iload (j := 6) dX9_needs_6 rfl ?_
    refine s_bipush dX9_needs_8 rfl (cin rfl) ?_
    refine s_icmp_gt (tgt := 24) dX9_needs_10 rfl (fun hc2 => ?_) (fun hc2 => ?_)
    · have h := ifp hc2 h
      refine s_bipush dX9_needs_24 rfl (cin rfl) ?_
      have h := Option.some.inj h
      subst h
      exact s_ireturn dX9_needs_26 rfl hq
    · have h := ifn hc2 h
      refine s_iload (j := 7) dX9_needs_13 rfl ?_
      refine s_if_lt (tgt := 24) dX9_needs_15 rfl (fun hc3 => ?_) (fun hc3 => ?_)
      · have h := ifp hc3 h
        refine s_bipush dX9_needs_24 rfl (cin rfl) ?_
        have h := Option.some.inj h
        subst h
        exact s_ireturn dX9_needs_26 rfl hq
      · have h := ifn hc3 h
        refine s_iload (j := 7) dX9_needs_18 rfl ?_
        refine s_iconst dX9_needs_20 (cin rfl) ?_
        refine s_icmp_le (tgt := 27) dX9_needs_21 rfl (fun hc4 => ?_) (fun hc4 => ?_)
        · have h := ifp hc4 h
          refine s_aload_n (j := 0) dX9_needs_27 rfl rfl ?_
          refine s_iload_n (j := 1) dX9_needs_28 rfl rfl ?_
          refine s_iload_n (j := 2) dX9_needs_29 rfl rfl ?_
          refine s_iload_n (j := 3) dX9_needs_30 rfl rfl ?_
          refine s_iload (j := 4) dX9_needs_31 rfl ?_
          obtain ⟨q5, hv6, h⟩ := bnd h
          refine s_callV (As := [vI x1, vI x2, vI x3, vI x4]) (rest := []) (r := (some (vI q5.1))) (F' := q5.2) dX9_needs_33 (clX9_265 (Nat.le_of_ble_eq_true rfl) (Nat.le_of_ble_eq_true rfl)) ho rfl ⟨_, _, _, _, _, _, rfl, ho, hv6, rfl, rfl⟩ rfl (Nat.le_of_ble_eq_true rfl) ?_
          refine s_istore (ls' := [(8, vI q5.1), (0, vR o), (1, vI x1), (2, vI x2), (3, vI x3), (4, vI x4), (5, vI x5), (6, vI x6), (7, vI x7)]) dX9_needs_36 (Nat.le_of_ble_eq_true rfl) rfl ?_
          refine s_iload (j := 0) dX9_needs_38 rfl ?_
          refine s_iconst dX9_needs_40 (cin rfl) ?_
          refine s_icmp_ne (tgt := 47) dX9_needs_41 rfl (fun hc7 => ?_) (fun hc7 => ?_)
          · have h := ifp hc7 h
            refine s_aload_n (j := 1) dX9_needs_47 rfl rfl ?_
            refine s_getR dX9_needs_48 flX9_51 ho ?_
            obtain ⟨q8, hv9, h⟩ := bnd h
            refine s_callV (As := []) (rest := []) (r := none) (F' := q8) dX9_needs_51 (clX9_272 (Nat.le_of_ble_eq_true rfl) (Nat.le_of_ble_eq_true rfl)) (trX9_7 ho) rfl ⟨_, _, rfl, (trX9_7 ho), hv9, rfl, rfl⟩ rfl (Nat.le_of_ble_eq_true rfl) ?_
            refine s_iload (j := 6) dX9_needs_54 rfl ?_
            refine s_istore (ls' := [(9, vI x5), (8, vI q5.1), (0, vR o), (1, vI x1), (2, vI x2), (3, vI x3), (4, vI x4), (5, vI x5), (6, vI x6), (7, vI x7)]) dX9_needs_56 (Nat.le_of_ble_eq_true rfl) rfl ?_
            refine s_iconst dX9_needs_58 (cin rfl) ?_
            refine s_istore dX9_needs_59 (Nat.le_of_ble_eq_true rfl) rfl ?_
            refine s_iconst dX9_needs_61 (cin rfl) ?_
            refine s_istore (ls' := [(11, vI 0), (10, vI 0), (9, vI x5), (8, vI q5.1), (0, vR o), (1, vI x1), (2, vI x2), (3, vI x3), (4, vI x4), (5, vI x5), (6, vI x6), (7, vI x7)]) dX9_needs_62 (Nat.le_of_ble_eq_true rfl) rfl ?_
            refine s_iconst dX9_needs_64 (cin rfl) ?_
            refine s_istore dX9_needs_65 (Nat.le_of_ble_eq_true rfl) rfl ?_
            refine s_iconst dX9_needs_67 (cin rfl) ?_
            refine s_istore (ls' := [(13, vI 0), (12, vI 0), (11, vI 0), (10, vI 0), (9, vI x5), (8, vI q5.1), (0, vR o), (1, vI x1), (2, vI x2), (3, vI x3), (4, vI x4), (5, vI x5), (6, vI x6), (7, vI x7)]) dX9_needs_68 (Nat.le_of_ble_eq_true rfl) rfl ?_
            exact s_sub (ks := [6, 12, 13, 5, 4, 3, 2, 1, 0]) rfl (fX9_needs_b70_ok FU o x6 x7 q5.1 x5 0 0 0 0 q8 _ ho h hq)
          · have h := ifn hc7 h
            refine s_bipush dX9_needs_44 rfl (cin rfl) ?_
            have h := Option.some.inj h
            subst h
            exact s_ireturn dX9_needs_46 rfl hq
        · have h := ifn hc4 h
          refine s_bipush dX9_needs_24 rfl (cin rfl) ?_
          have h := Option.some.inj h
          subst h
          exact s_ireturn dX9_needs_26 rfl hq
def gX9_needs : XG := fun As F r F' => ∃ o : Nat, ∃ x1 : Int, ∃ x2 : Int, ∃ x3 : Int, ∃ x4 : Int, ∃ x5 : Int, ∃ x6 : Int, ∃ x7 : Int, ∃ res : (Int × Mem), As = [vR o, vI x1, vI x2, vI x3, vI x4, vI x5, vI x6, vI x7] ∧ isK o 9 ∧ fX9_needs o x1 x2 x3 x4 x5 x6 x7 F = some res ∧ r = some (vI res.1) ∧ F' = res.2
theorem ctX9_needs : xCT yX9_needs cX9_needs 18 (some FieldType.int) 7 166 gX9_needs := xmet (by decide +kernel) (fun As F r F' hg => by obtain ⟨o, x1, x2, x3, x4, x5, x6, x7, res, rfl, ho, h, rfl, rfl⟩ := hg; exact Nat.le_of_ble_eq_true rfl) (fun As F r F' hg => by obtain ⟨o, x1, x2, x3, x4, x5, x6, x7, res, rfl, ho, h, rfl, rfl⟩ := hg; exact fX9_needs_ok o x1 x2 x3 x4 x5 x6 x7 _ _ ho h ⟨rfl, rfl⟩)
theorem mcX9_needs : Cond.code yX9_needs cX9_needs 18 (some FieldType.int) ∈ xw_T ∧ Cond.initialized yX9_needs.cls ∈ xw_T ∧ Cond.instanceMethod yX9_needs ∈ xw_T ∧ Cond.selects yX9_needs.cls yX9_needs yX9_needs ∈ xw_T := ⟨(xinT 1183 (by decide +kernel) (by decide +kernel)), (xinT 116 (by decide +kernel) (by decide +kernel)), (xinT 1181 (by decide +kernel) (by decide +kernel)), (xinT 1182 (by decide +kernel) (by decide +kernel))⟩
theorem dX9_dearest_0 : decode cX9_dearest 0 = .ok (.iconst 0, 1) := by decide +kernel
theorem dX9_dearest_1 : decode cX9_dearest 1 = .ok (.istore_n 2, 1) := by decide +kernel
theorem dX9_dearest_2 : decode cX9_dearest 2 = .ok (.iconst (-1), 1) := by decide +kernel
theorem dX9_dearest_3 : decode cX9_dearest 3 = .ok (.istore_n 3, 1) := by decide +kernel
theorem dX9_dearest_4 : decode cX9_dearest 4 = .ok (.iconst 0, 1) := by decide +kernel
theorem dX9_dearest_5 : decode cX9_dearest 5 = .ok (.istore 4, 2) := by decide +kernel
theorem dX9_dearest_7 : decode cX9_dearest 7 = .ok (.iload 4, 2) := by decide +kernel
theorem dX9_dearest_9 : decode cX9_dearest 9 = .ok (.aload_n 0, 1) := by decide +kernel
theorem dX9_dearest_10 : decode cX9_dearest 10 = .ok (.getfield 51, 3) := by decide +kernel
theorem dX9_dearest_13 : decode cX9_dearest 13 = .ok (.getfield 327, 3) := by decide +kernel
theorem dX9_dearest_16 : decode cX9_dearest 16 = .ok (.if_icmp .ge 54, 3) := by decide +kernel
theorem dX9_dearest_19 : decode cX9_dearest 19 = .ok (.aload_n 0, 1) := by decide +kernel
theorem dX9_dearest_20 : decode cX9_dearest 20 = .ok (.getfield 58, 3) := by decide +kernel
theorem dX9_dearest_23 : decode cX9_dearest 23 = .ok (.getfield 393, 3) := by decide +kernel
theorem dX9_dearest_26 : decode cX9_dearest 26 = .ok (.iload 4, 2) := by decide +kernel
theorem dX9_dearest_28 : decode cX9_dearest 28 = .ok (.iaload, 1) := by decide +kernel
theorem dX9_dearest_29 : decode cX9_dearest 29 = .ok (.ifCond .ne 6, 3) := by decide +kernel
theorem dX9_dearest_32 : decode cX9_dearest 32 = .ok (.goto 32, 3) := by decide +kernel
theorem dX9_dearest_35 : decode cX9_dearest 35 = .ok (.aload_n 0, 1) := by decide +kernel
theorem dX9_dearest_36 : decode cX9_dearest 36 = .ok (.getfield 51, 3) := by decide +kernel
theorem dX9_dearest_39 : decode cX9_dearest 39 = .ok (.iload_n 1, 1) := by decide +kernel
theorem dX9_dearest_40 : decode cX9_dearest 40 = .ok (.iconst (-1), 1) := by decide +kernel
theorem dX9_dearest_41 : decode cX9_dearest 41 = .ok (.iload 4, 2) := by decide +kernel
theorem dX9_dearest_43 : decode cX9_dearest 43 = .ok (.iload 4, 2) := by decide +kernel
theorem dX9_dearest_45 : decode cX9_dearest 45 = .ok (.iconst 1, 1) := by decide +kernel
theorem dX9_dearest_46 : decode cX9_dearest 46 = .ok (.iadd, 1) := by decide +kernel
theorem dX9_dearest_47 : decode cX9_dearest 47 = .ok (.invokevirtual 284, 3) := by decide +kernel
theorem dX9_dearest_50 : decode cX9_dearest 50 = .ok (.istore 5, 2) := by decide +kernel
theorem dX9_dearest_52 : decode cX9_dearest 52 = .ok (.iload 5, 2) := by decide +kernel
theorem dX9_dearest_54 : decode cX9_dearest 54 = .ok (.iload_n 2, 1) := by decide +kernel
theorem dX9_dearest_55 : decode cX9_dearest 55 = .ok (.if_icmp .le 9, 3) := by decide +kernel
theorem dX9_dearest_58 : decode cX9_dearest 58 = .ok (.iload 5, 2) := by decide +kernel
theorem dX9_dearest_60 : decode cX9_dearest 60 = .ok (.istore_n 2, 1) := by decide +kernel
theorem dX9_dearest_61 : decode cX9_dearest 61 = .ok (.iload 4, 2) := by decide +kernel
theorem dX9_dearest_63 : decode cX9_dearest 63 = .ok (.istore_n 3, 1) := by decide +kernel
theorem dX9_dearest_64 : decode cX9_dearest 64 = .ok (.iinc 4 1, 3) := by decide +kernel
theorem dX9_dearest_67 : decode cX9_dearest 67 = .ok (.goto (-60), 3) := by decide +kernel
theorem dX9_dearest_70 : decode cX9_dearest 70 = .ok (.iload_n 3, 1) := by decide +kernel
theorem dX9_dearest_71 : decode cX9_dearest 71 = .ok (.ireturn, 1) := by decide +kernel
def zX9_dearest (Qr : Option PV → Mem → Prop) : XZ := (RX9, 5, 136, 6, some FieldType.int, Qr)
noncomputable def fX9_dearest_b7 : Nat → Nat → Int → Int → Int → Int → Mem → Option (Int × Mem)
  | 0, _, _, _, _, _, _ => none
  | n + 1, o, x1, x2, x3, x4, F =>
    if (F (o + 62) 4) ≤ x4 then
      some (x3, F)
    else
      if (0 : Int) ≤ x4 ∧ x4 < (alen ((o + 71) + 2) : Int) then
        if (F ((o + 71) + 2) x4.toNat) ≠ 0 then
          (fX1_lossOf (o + 62) x1 (-1) x4 (xw (x4 + 1)) F).bind fun q4 =>
          if q4.1 ≤ x2 then
            fX9_dearest_b7 n o x1 x2 x3 (xw (x4 + 1)) q4.2
          else
            fX9_dearest_b7 n o x1 q4.1 x4 (xw (x4 + 1)) q4.2
        else
          fX9_dearest_b7 n o x1 x2 x3 (xw (x4 + 1)) F
      else none
noncomputable def fX9_dearest (o : Nat) (x1 : Int) (F : Mem) : Option (Int × Mem) :=
  fX9_dearest_b7 FU o x1 0 (-1) 0 F
theorem fX9_dearest_b7_ok {Qr : Option PV → Mem → Prop}  : ∀ (n : Nat) (o : Nat) (x1 : Int) (x2 : Int) (x3 : Int) (x4 : Int) (F : Mem) (res : (Int × Mem)) (ho : isK o 9), fX9_dearest_b7 n o x1 x2 x3 x4 F = some res → Qr (some (vI res.1)) res.2 → PR cX9_dearest (zX9_dearest Qr) 7 [(0, vR o), (1, vI x1), (2, vI x2), (3, vI x3), (4, vI x4)] [] F := by
  intro n
  induction n with
  | zero => intro o x1 x2 x3 x4 F res ho h hq; exact nomatch (show (none : Option _) = some _ from h)
  | succ n ih =>
    intro o x1 x2 x3 x4 F res ho h hq
    refine s_iload (j := 4) dX9_dearest_7 rfl ?_
    refine s_aload_n (j := 0) dX9_dearest_9 rfl rfl ?_
    refine s_getR dX9_dearest_10 flX9_51 ho ?_
    refine s_getI dX9_dearest_13 flX9_327 (trX9_7 ho) ?_
    refine s_icmp_ge (tgt := 70) dX9_dearest_16 rfl (fun hc1 => ?_) (fun hc1 => ?_)
    · have h := ifp hc1 h
      refine s_iload_n (j := 3) dX9_dearest_70 rfl rfl ?_
      have h := Option.some.inj h
      subst h
      exact s_ireturn dX9_dearest_71 rfl hq
    · have h := ifn hc1 h
      refine s_aload_n (j := 0) dX9_dearest_19 rfl rfl ?_
      refine s_getR dX9_dearest_20 flX9_58 ho ?_
      refine s_getR dX9_dearest_23 flX9_393 (trX9_8 ho) ?_
      refine s_iload (j := 4) dX9_dearest_26 rfl ?_
      obtain ⟨hb2, h⟩ := gd h
      refine s_iaload dX9_dearest_28 (trX6_1 (trX9_8 ho)) hb2.1 hb2.2 ?_
      refine s_if_ne (tgt := 35) dX9_dearest_29 rfl (fun hc3 => ?_) (fun hc3 => ?_)
      · have h := ifp hc3 h
        refine s_aload_n (j := 0) dX9_dearest_35 rfl rfl ?_
        refine s_getR dX9_dearest_36 flX9_51 ho ?_
        refine s_iload_n (j := 1) dX9_dearest_39 rfl rfl ?_
        refine s_iconst dX9_dearest_40 (cin rfl) ?_
        refine s_iload (j := 4) dX9_dearest_41 rfl ?_
        refine s_iload (j := 4) dX9_dearest_43 rfl ?_
        refine s_iconst dX9_dearest_45 (cin rfl) ?_
        refine s_iadd dX9_dearest_46 ?_
        obtain ⟨q4, hv5, h⟩ := bnd h
        refine s_callV (As := [vI x1, vI (-1), vI x4, vI (xw (x4 + 1))]) (rest := []) (r := (some (vI q4.1))) (F' := q4.2) dX9_dearest_47 (clX9_284 (Nat.le_of_ble_eq_true rfl) (Nat.le_of_ble_eq_true rfl)) (trX9_7 ho) rfl ⟨_, _, _, _, _, _, rfl, (trX9_7 ho), hv5, rfl, rfl⟩ rfl (Nat.le_of_ble_eq_true rfl) ?_
        refine s_istore (ls' := [(5, vI q4.1), (0, vR o), (1, vI x1), (2, vI x2), (3, vI x3), (4, vI x4)]) dX9_dearest_50 (Nat.le_of_ble_eq_true rfl) rfl ?_
        refine s_iload (j := 0) dX9_dearest_52 rfl ?_
        refine s_iload_n (j := 3) dX9_dearest_54 rfl rfl ?_
        refine s_icmp_le (tgt := 64) dX9_dearest_55 rfl (fun hc6 => ?_) (fun hc6 => ?_)
        · have h := ifp hc6 h
          refine s_iinc (ls' := [(4, vI (xw (x4 + 1))), (5, vI q4.1), (0, vR o), (1, vI x1), (2, vI x2), (3, vI x3)]) (j := 5) dX9_dearest_64 rfl (Nat.le_of_ble_eq_true rfl) rfl ?_
          refine s_goto (tgt := 7) dX9_dearest_67 rfl ?_
          exact s_sub (ks := [2, 3, 4, 5, 0]) rfl (ih o x1 x2 x3 (xw (x4 + 1)) q4.2 _ ho h hq)
        · have h := ifn hc6 h
          refine s_iload (j := 0) dX9_dearest_58 rfl ?_
          refine s_istore_n (ls' := [(2, vI q4.1), (5, vI q4.1), (0, vR o), (1, vI x1), (3, vI x3), (4, vI x4)]) dX9_dearest_60 rfl (Nat.le_of_ble_eq_true rfl) rfl ?_
          refine s_iload (j := 5) dX9_dearest_61 rfl ?_
          refine s_istore_n dX9_dearest_63 rfl (Nat.le_of_ble_eq_true rfl) rfl ?_
          refine s_iinc (ls' := [(4, vI (xw (x4 + 1))), (3, vI x4), (2, vI q4.1), (5, vI q4.1), (0, vR o), (1, vI x1)]) (j := 5) dX9_dearest_64 rfl (Nat.le_of_ble_eq_true rfl) rfl ?_
          refine s_goto (tgt := 7) dX9_dearest_67 rfl ?_
          exact s_sub (ks := [4, 5, 2, 1, 0]) rfl (ih o x1 q4.1 x4 (xw (x4 + 1)) q4.2 _ ho h hq)
      · have h := ifn hc3 h
        refine s_goto (tgt := 64) dX9_dearest_32 rfl ?_
        refine s_iinc (ls' := [(4, vI (xw (x4 + 1))), (0, vR o), (1, vI x1), (2, vI x2), (3, vI x3)]) (j := 4) dX9_dearest_64 rfl (Nat.le_of_ble_eq_true rfl) rfl ?_
        refine s_goto (tgt := 7) dX9_dearest_67 rfl ?_
        exact s_sub (ks := [1, 2, 3, 4, 0]) rfl (ih o x1 x2 x3 (xw (x4 + 1)) F _ ho h hq)
theorem fX9_dearest_ok {Qr : Option PV → Mem → Prop} : ∀ (o : Nat) (x1 : Int) (F : Mem) (res : (Int × Mem)) (ho : isK o 9), fX9_dearest o x1 F = some res → Qr (some (vI res.1)) res.2 → PR cX9_dearest (zX9_dearest Qr) 0 [(0, vR o), (1, vI x1)] [] F := by
  intro o x1 F res ho h hq
  refine s_iconst dX9_dearest_0 (cin rfl) ?_
  refine s_istore_n (ls' := [(2, vI 0), (0, vR o), (1, vI x1)]) dX9_dearest_1 rfl (Nat.le_of_ble_eq_true rfl) rfl ?_
  refine s_iconst dX9_dearest_2 (cin rfl) ?_
  refine s_istore_n dX9_dearest_3 rfl (Nat.le_of_ble_eq_true rfl) rfl ?_
  refine s_iconst dX9_dearest_4 (cin rfl) ?_
  refine s_istore (ls' := [(4, vI 0), (3, vI (-1)), (2, vI 0), (0, vR o), (1, vI x1)]) dX9_dearest_5 (Nat.le_of_ble_eq_true rfl) rfl ?_
  exact s_sub (ks := [3, 4, 2, 1, 0]) rfl (fX9_dearest_b7_ok FU o x1 0 (-1) 0 F _ ho h hq)
def gX9_dearest : XG := fun As F r F' => ∃ o : Nat, ∃ x1 : Int, ∃ res : (Int × Mem), As = [vR o, vI x1] ∧ isK o 9 ∧ fX9_dearest o x1 F = some res ∧ r = some (vI res.1) ∧ F' = res.2
theorem ctX9_dearest : xCT yX9_dearest cX9_dearest 6 (some FieldType.int) 5 136 gX9_dearest := xmet (by decide +kernel) (fun As F r F' hg => by obtain ⟨o, x1, res, rfl, ho, h, rfl, rfl⟩ := hg; exact Nat.le_of_ble_eq_true rfl) (fun As F r F' hg => by obtain ⟨o, x1, res, rfl, ho, h, rfl, rfl⟩ := hg; exact fX9_dearest_ok o x1 _ _ ho h ⟨rfl, rfl⟩)
theorem mcX9_dearest : Cond.code yX9_dearest cX9_dearest 6 (some FieldType.int) ∈ xw_T ∧ Cond.initialized yX9_dearest.cls ∈ xw_T ∧ Cond.instanceMethod yX9_dearest ∈ xw_T ∧ Cond.selects yX9_dearest.cls yX9_dearest yX9_dearest ∈ xw_T := ⟨(xinT 1226 (by decide +kernel) (by decide +kernel)), (xinT 116 (by decide +kernel) (by decide +kernel)), (xinT 1225 (by decide +kernel) (by decide +kernel)), (xinT 35 (by decide +kernel) (by decide +kernel))⟩
theorem clX9_337 {fr lo : Nat} (h1 : 5 + 1 ≤ fr) (h2 : 8 + (6 + 11) + 136 ≤ lo) : xCall RX9 fr lo 0 337 9 1 gX9_dearest := ⟨_, _, _, _, _, _, ctX9_dearest, h1, h2, mcX9_dearest.1, (xinT 1223 (by decide +kernel) (by decide +kernel)), mcX9_dearest.2.1, ⟨by decide +kernel, by decide +kernel, by decide +kernel⟩, by rw [if_pos rfl]; exact ⟨mcX9_dearest.2.2.1, mcX9_dearest.2.2.2, _, _, rfl⟩⟩
theorem dX9_enough_0 : decode cX9_enough 0 = .ok (.aload_n 0, 1) := by decide +kernel
theorem dX9_enough_1 : decode cX9_enough 1 = .ok (.getfield 51, 3) := by decide +kernel
theorem dX9_enough_4 : decode cX9_enough 4 = .ok (.bipush 99, 2) := by decide +kernel
theorem dX9_enough_6 : decode cX9_enough 6 = .ok (.invokevirtual 396, 3) := by decide +kernel
theorem dX9_enough_9 : decode cX9_enough 9 = .ok (.istore_n 1, 1) := by decide +kernel
theorem dX9_enough_10 : decode cX9_enough 10 = .ok (.iconst 1, 1) := by decide +kernel
theorem dX9_enough_11 : decode cX9_enough 11 = .ok (.istore_n 2, 1) := by decide +kernel
theorem dX9_enough_12 : decode cX9_enough 12 = .ok (.bipush 99, 2) := by decide +kernel
theorem dX9_enough_14 : decode cX9_enough 14 = .ok (.istore_n 3, 1) := by decide +kernel
theorem dX9_enough_15 : decode cX9_enough 15 = .ok (.iconst 0, 1) := by decide +kernel
theorem dX9_enough_16 : decode cX9_enough 16 = .ok (.istore 4, 2) := by decide +kernel
theorem dX9_enough_18 : decode cX9_enough 18 = .ok (.iload 4, 2) := by decide +kernel
theorem dX9_enough_20 : decode cX9_enough 20 = .ok (.bipush 99, 2) := by decide +kernel
theorem dX9_enough_22 : decode cX9_enough 22 = .ok (.if_icmp .ge 45, 3) := by decide +kernel
theorem dX9_enough_25 : decode cX9_enough 25 = .ok (.iload_n 2, 1) := by decide +kernel
theorem dX9_enough_26 : decode cX9_enough 26 = .ok (.iload_n 3, 1) := by decide +kernel
theorem dX9_enough_27 : decode cX9_enough 27 = .ok (.if_icmp .ge 40, 3) := by decide +kernel
theorem dX9_enough_30 : decode cX9_enough 30 = .ok (.iload_n 2, 1) := by decide +kernel
theorem dX9_enough_31 : decode cX9_enough 31 = .ok (.iload_n 3, 1) := by decide +kernel
theorem dX9_enough_32 : decode cX9_enough 32 = .ok (.iadd, 1) := by decide +kernel
theorem dX9_enough_33 : decode cX9_enough 33 = .ok (.iconst 2, 1) := by decide +kernel
theorem dX9_enough_34 : decode cX9_enough 34 = .ok (.idiv, 1) := by decide +kernel
theorem dX9_enough_35 : decode cX9_enough 35 = .ok (.istore 5, 2) := by decide +kernel
theorem dX9_enough_37 : decode cX9_enough 37 = .ok (.aload_n 0, 1) := by decide +kernel
theorem dX9_enough_38 : decode cX9_enough 38 = .ok (.getfield 51, 3) := by decide +kernel
theorem dX9_enough_41 : decode cX9_enough 41 = .ok (.iload 5, 2) := by decide +kernel
theorem dX9_enough_43 : decode cX9_enough 43 = .ok (.invokevirtual 396, 3) := by decide +kernel
theorem dX9_enough_46 : decode cX9_enough 46 = .ok (.iload_n 1, 1) := by decide +kernel
theorem dX9_enough_47 : decode cX9_enough 47 = .ok (.if_icmp .ne 9, 3) := by decide +kernel
theorem dX9_enough_50 : decode cX9_enough 50 = .ok (.iload 5, 2) := by decide +kernel
theorem dX9_enough_52 : decode cX9_enough 52 = .ok (.istore_n 3, 1) := by decide +kernel
theorem dX9_enough_53 : decode cX9_enough 53 = .ok (.goto 8, 3) := by decide +kernel
theorem dX9_enough_56 : decode cX9_enough 56 = .ok (.iload 5, 2) := by decide +kernel
theorem dX9_enough_58 : decode cX9_enough 58 = .ok (.iconst 1, 1) := by decide +kernel
theorem dX9_enough_59 : decode cX9_enough 59 = .ok (.iadd, 1) := by decide +kernel
theorem dX9_enough_60 : decode cX9_enough 60 = .ok (.istore_n 2, 1) := by decide +kernel
theorem dX9_enough_61 : decode cX9_enough 61 = .ok (.iinc 4 1, 3) := by decide +kernel
theorem dX9_enough_64 : decode cX9_enough 64 = .ok (.goto (-46), 3) := by decide +kernel
theorem dX9_enough_67 : decode cX9_enough 67 = .ok (.iload_n 3, 1) := by decide +kernel
theorem dX9_enough_68 : decode cX9_enough 68 = .ok (.ireturn, 1) := by decide +kernel
def zX9_enough (Qr : Option PV → Mem → Prop) : XZ := (RX9, 5, 133, 6, some FieldType.int, Qr)
noncomputable def fX9_enough_b18 : Nat → Nat → Int → Int → Int → Int → Mem → Option (Int × Mem)
  | 0, _, _, _, _, _, _ => none
  | n + 1, o, x1, x2, x3, x4, F =>
    if 99 ≤ x4 then
      some (x3, F)
    else
      if x3 ≤ x2 then
        some (x3, F)
      else
        (fX1_gainByPace (o + 62) (xw (Int.tdiv (xw (x2 + x3)) 2)) F).bind fun q3 =>
        if q3.1 ≠ x1 then
          fX9_enough_b18 n o x1 (xw ((xw (Int.tdiv (xw (x2 + x3)) 2)) + 1)) x3 (xw (x4 + 1)) q3.2
        else
          fX9_enough_b18 n o x1 x2 (xw (Int.tdiv (xw (x2 + x3)) 2)) (xw (x4 + 1)) q3.2
noncomputable def fX9_enough (o : Nat) (F : Mem) : Option (Int × Mem) :=
  (fX1_gainByPace (o + 62) 99 F).bind fun q1 =>
  fX9_enough_b18 FU o q1.1 1 99 0 q1.2
theorem fX9_enough_b18_ok {Qr : Option PV → Mem → Prop}  : ∀ (n : Nat) (o : Nat) (x1 : Int) (x2 : Int) (x3 : Int) (x4 : Int) (F : Mem) (res : (Int × Mem)) (ho : isK o 9), fX9_enough_b18 n o x1 x2 x3 x4 F = some res → Qr (some (vI res.1)) res.2 → PR cX9_enough (zX9_enough Qr) 18 [(0, vR o), (1, vI x1), (2, vI x2), (3, vI x3), (4, vI x4)] [] F := by
  intro n
  induction n with
  | zero => intro o x1 x2 x3 x4 F res ho h hq; exact nomatch (show (none : Option _) = some _ from h)
  | succ n ih =>
    intro o x1 x2 x3 x4 F res ho h hq
    refine s_iload (j := 4) dX9_enough_18 rfl ?_
    refine s_bipush dX9_enough_20 rfl (cin rfl) ?_
    refine s_icmp_ge (tgt := 67) dX9_enough_22 rfl (fun hc1 => ?_) (fun hc1 => ?_)
    · have h := ifp hc1 h
      refine s_iload_n (j := 3) dX9_enough_67 rfl rfl ?_
      have h := Option.some.inj h
      subst h
      exact s_ireturn dX9_enough_68 rfl hq
    · have h := ifn hc1 h
      refine s_iload_n (j := 2) dX9_enough_25 rfl rfl ?_
      refine s_iload_n (j := 3) dX9_enough_26 rfl rfl ?_
      refine s_icmp_ge (tgt := 67) dX9_enough_27 rfl (fun hc2 => ?_) (fun hc2 => ?_)
      · have h := ifp hc2 h
        refine s_iload_n (j := 3) dX9_enough_67 rfl rfl ?_
        have h := Option.some.inj h
        subst h
        exact s_ireturn dX9_enough_68 rfl hq
      · have h := ifn hc2 h
        refine s_iload_n (j := 2) dX9_enough_30 rfl rfl ?_
        refine s_iload_n (j := 3) dX9_enough_31 rfl rfl ?_
        refine s_iadd dX9_enough_32 ?_
        refine s_iconst dX9_enough_33 (cin rfl) ?_
        refine s_idiv dX9_enough_34 (by decide) ?_
        refine s_istore (ls' := [(5, vI (xw (Int.tdiv (xw (x2 + x3)) 2))), (0, vR o), (1, vI x1), (2, vI x2), (3, vI x3), (4, vI x4)]) dX9_enough_35 (Nat.le_of_ble_eq_true rfl) rfl ?_
        refine s_aload_n (j := 1) dX9_enough_37 rfl rfl ?_
        refine s_getR dX9_enough_38 flX9_51 ho ?_
        refine s_iload (j := 0) dX9_enough_41 rfl ?_
        obtain ⟨q3, hv4, h⟩ := bnd h
        refine s_callV (As := [vI (xw (Int.tdiv (xw (x2 + x3)) 2))]) (rest := []) (r := (some (vI q3.1))) (F' := q3.2) dX9_enough_43 (clX9_396 (Nat.le_of_ble_eq_true rfl) (Nat.le_of_ble_eq_true rfl)) (trX9_7 ho) rfl ⟨_, _, _, rfl, (trX9_7 ho), hv4, rfl, rfl⟩ rfl (Nat.le_of_ble_eq_true rfl) ?_
        refine s_iload_n (j := 2) dX9_enough_46 rfl rfl ?_
        refine s_icmp_ne (tgt := 56) dX9_enough_47 rfl (fun hc5 => ?_) (fun hc5 => ?_)
        · have h := ifp hc5 h
          refine s_iload (j := 0) dX9_enough_56 rfl ?_
          refine s_iconst dX9_enough_58 (cin rfl) ?_
          refine s_iadd dX9_enough_59 ?_
          refine s_istore_n (ls' := [(2, vI (xw ((xw (Int.tdiv (xw (x2 + x3)) 2)) + 1))), (5, vI (xw (Int.tdiv (xw (x2 + x3)) 2))), (0, vR o), (1, vI x1), (3, vI x3), (4, vI x4)]) dX9_enough_60 rfl (Nat.le_of_ble_eq_true rfl) rfl ?_
          refine s_iinc (j := 5) dX9_enough_61 rfl (Nat.le_of_ble_eq_true rfl) rfl ?_
          refine s_goto (tgt := 18) dX9_enough_64 rfl ?_
          exact s_sub (ks := [3, 4, 1, 5, 0]) rfl (ih o x1 (xw ((xw (Int.tdiv (xw (x2 + x3)) 2)) + 1)) x3 (xw (x4 + 1)) q3.2 _ ho h hq)
        · have h := ifn hc5 h
          refine s_iload (j := 0) dX9_enough_50 rfl ?_
          refine s_istore_n (ls' := [(3, vI (xw (Int.tdiv (xw (x2 + x3)) 2))), (5, vI (xw (Int.tdiv (xw (x2 + x3)) 2))), (0, vR o), (1, vI x1), (2, vI x2), (4, vI x4)]) dX9_enough_52 rfl (Nat.le_of_ble_eq_true rfl) rfl ?_
          refine s_goto (tgt := 61) dX9_enough_53 rfl ?_
          refine s_iinc (j := 5) dX9_enough_61 rfl (Nat.le_of_ble_eq_true rfl) rfl ?_
          refine s_goto (tgt := 18) dX9_enough_64 rfl ?_
          exact s_sub (ks := [3, 4, 5, 1, 0]) rfl (ih o x1 x2 (xw (Int.tdiv (xw (x2 + x3)) 2)) (xw (x4 + 1)) q3.2 _ ho h hq)
theorem fX9_enough_ok {Qr : Option PV → Mem → Prop} : ∀ (o : Nat) (F : Mem) (res : (Int × Mem)) (ho : isK o 9), fX9_enough o F = some res → Qr (some (vI res.1)) res.2 → PR cX9_enough (zX9_enough Qr) 0 [(0, vR o)] [] F := by
  intro o F res ho h hq
  refine s_aload_n (j := 0) dX9_enough_0 rfl rfl ?_
  refine s_getR dX9_enough_1 flX9_51 ho ?_
  refine s_bipush dX9_enough_4 rfl (cin rfl) ?_
  obtain ⟨q1, hv2, h⟩ := bnd h
  refine s_callV (As := [vI 99]) (rest := []) (r := (some (vI q1.1))) (F' := q1.2) dX9_enough_6 (clX9_396 (Nat.le_of_ble_eq_true rfl) (Nat.le_of_ble_eq_true rfl)) (trX9_7 ho) rfl ⟨_, _, _, rfl, (trX9_7 ho), hv2, rfl, rfl⟩ rfl (Nat.le_of_ble_eq_true rfl) ?_
  refine s_istore_n (ls' := [(1, vI q1.1), (0, vR o)]) dX9_enough_9 rfl (Nat.le_of_ble_eq_true rfl) rfl ?_
  refine s_iconst dX9_enough_10 (cin rfl) ?_
  refine s_istore_n dX9_enough_11 rfl (Nat.le_of_ble_eq_true rfl) rfl ?_
  refine s_bipush dX9_enough_12 rfl (cin rfl) ?_
  refine s_istore_n (ls' := [(3, vI 99), (2, vI 1), (1, vI q1.1), (0, vR o)]) dX9_enough_14 rfl (Nat.le_of_ble_eq_true rfl) rfl ?_
  refine s_iconst dX9_enough_15 (cin rfl) ?_
  refine s_istore dX9_enough_16 (Nat.le_of_ble_eq_true rfl) rfl ?_
  exact s_sub (ks := [4, 3, 2, 1, 0]) rfl (fX9_enough_b18_ok FU o q1.1 1 99 0 q1.2 _ ho h hq)
def gX9_enough : XG := fun As F r F' => ∃ o : Nat, ∃ res : (Int × Mem), As = [vR o] ∧ isK o 9 ∧ fX9_enough o F = some res ∧ r = some (vI res.1) ∧ F' = res.2
theorem ctX9_enough : xCT yX9_enough cX9_enough 6 (some FieldType.int) 5 133 gX9_enough := xmet (by decide +kernel) (fun As F r F' hg => by obtain ⟨o, res, rfl, ho, h, rfl, rfl⟩ := hg; exact Nat.le_of_ble_eq_true rfl) (fun As F r F' hg => by obtain ⟨o, res, rfl, ho, h, rfl, rfl⟩ := hg; exact fX9_enough_ok o _ _ ho h ⟨rfl, rfl⟩)
theorem mcX9_enough : Cond.code yX9_enough cX9_enough 6 (some FieldType.int) ∈ xw_T ∧ Cond.initialized yX9_enough.cls ∈ xw_T ∧ Cond.instanceMethod yX9_enough ∈ xw_T ∧ Cond.selects yX9_enough.cls yX9_enough yX9_enough ∈ xw_T := ⟨(xinT 1239 (by decide +kernel) (by decide +kernel)), (xinT 116 (by decide +kernel) (by decide +kernel)), (xinT 1238 (by decide +kernel) (by decide +kernel)), (xinT 37 (by decide +kernel) (by decide +kernel))⟩
theorem clX9_343 {fr lo : Nat} (h1 : 5 + 1 ≤ fr) (h2 : 8 + (6 + 11) + 133 ≤ lo) : xCall RX9 fr lo 0 343 9 0 gX9_enough := ⟨_, _, _, _, _, _, ctX9_enough, h1, h2, mcX9_enough.1, (xinT 1236 (by decide +kernel) (by decide +kernel)), mcX9_enough.2.1, ⟨by decide +kernel, by decide +kernel, by decide +kernel⟩, by rw [if_pos rfl]; exact ⟨mcX9_enough.2.2.1, mcX9_enough.2.2.2, _, _, rfl⟩⟩
theorem dX9_lesson_0 : decode cX9_lesson 0 = .ok (.iload_n 1, 1) := by decide +kernel
theorem dX9_lesson_1 : decode cX9_lesson 1 = .ok (.aload_n 0, 1) := by decide +kernel
theorem dX9_lesson_2 : decode cX9_lesson 2 = .ok (.getfield 51, 3) := by decide +kernel
theorem dX9_lesson_5 : decode cX9_lesson 5 = .ok (.iconst 0, 1) := by decide +kernel
theorem dX9_lesson_6 : decode cX9_lesson 6 = .ok (.invokevirtual 320, 3) := by decide +kernel
theorem dX9_lesson_9 : decode cX9_lesson 9 = .ok (.iadd, 1) := by decide +kernel
theorem dX9_lesson_10 : decode cX9_lesson 10 = .ok (.istore_n 2, 1) := by decide +kernel
theorem dX9_lesson_11 : decode cX9_lesson 11 = .ok (.iconst (-1), 1) := by decide +kernel
theorem dX9_lesson_12 : decode cX9_lesson 12 = .ok (.istore_n 3, 1) := by decide +kernel
theorem dX9_lesson_13 : decode cX9_lesson 13 = .ok (.iconst 0, 1) := by decide +kernel
theorem dX9_lesson_14 : decode cX9_lesson 14 = .ok (.istore 4, 2) := by decide +kernel
theorem dX9_lesson_16 : decode cX9_lesson 16 = .ok (.iload 4, 2) := by decide +kernel
theorem dX9_lesson_18 : decode cX9_lesson 18 = .ok (.aload_n 0, 1) := by decide +kernel
theorem dX9_lesson_19 : decode cX9_lesson 19 = .ok (.getfield 51, 3) := by decide +kernel
theorem dX9_lesson_22 : decode cX9_lesson 22 = .ok (.getfield 259, 3) := by decide +kernel
theorem dX9_lesson_25 : decode cX9_lesson 25 = .ok (.getfield 126, 3) := by decide +kernel
theorem dX9_lesson_28 : decode cX9_lesson 28 = .ok (.getfield 130, 3) := by decide +kernel
theorem dX9_lesson_31 : decode cX9_lesson 31 = .ok (.if_icmp .ge 34, 3) := by decide +kernel
theorem dX9_lesson_34 : decode cX9_lesson 34 = .ok (.aload_n 0, 1) := by decide +kernel
theorem dX9_lesson_35 : decode cX9_lesson 35 = .ok (.getfield 51, 3) := by decide +kernel
theorem dX9_lesson_38 : decode cX9_lesson 38 = .ok (.iconst 1, 1) := by decide +kernel
theorem dX9_lesson_39 : decode cX9_lesson 39 = .ok (.iload 4, 2) := by decide +kernel
theorem dX9_lesson_41 : decode cX9_lesson 41 = .ok (.ishl, 1) := by decide +kernel
theorem dX9_lesson_42 : decode cX9_lesson 42 = .ok (.invokevirtual 364, 3) := by decide +kernel
theorem dX9_lesson_45 : decode cX9_lesson 45 = .ok (.istore 5, 2) := by decide +kernel
theorem dX9_lesson_47 : decode cX9_lesson 47 = .ok (.iload 5, 2) := by decide +kernel
theorem dX9_lesson_49 : decode cX9_lesson 49 = .ok (.iload_n 2, 1) := by decide +kernel
theorem dX9_lesson_50 : decode cX9_lesson 50 = .ok (.if_icmp .le 9, 3) := by decide +kernel
theorem dX9_lesson_53 : decode cX9_lesson 53 = .ok (.iload 5, 2) := by decide +kernel
theorem dX9_lesson_55 : decode cX9_lesson 55 = .ok (.istore_n 2, 1) := by decide +kernel
theorem dX9_lesson_56 : decode cX9_lesson 56 = .ok (.iload 4, 2) := by decide +kernel
theorem dX9_lesson_58 : decode cX9_lesson 58 = .ok (.istore_n 3, 1) := by decide +kernel
theorem dX9_lesson_59 : decode cX9_lesson 59 = .ok (.iinc 4 1, 3) := by decide +kernel
theorem dX9_lesson_62 : decode cX9_lesson 62 = .ok (.goto (-46), 3) := by decide +kernel
theorem dX9_lesson_65 : decode cX9_lesson 65 = .ok (.iload_n 3, 1) := by decide +kernel
theorem dX9_lesson_66 : decode cX9_lesson 66 = .ok (.ireturn, 1) := by decide +kernel
def zX9_lesson (Qr : Option PV → Mem → Prop) : XZ := (RX9, 5, 133, 6, some FieldType.int, Qr)
noncomputable def fX9_lesson_b16 : Nat → Nat → Int → Int → Int → Mem → Option (Int × Mem)
  | 0, _, _, _, _, _ => none
  | n + 1, o, x2, x3, x4, F =>
    if (F (o + 62) 0).toNat = 0 then none else
    if (F (((F (o + 62) 0).toNat) + 1) 3) ≤ x4 then
      some (x3, F)
    else
      (fX1_yieldWith (o + 62) (xshl 1 x4) F).bind fun q4 =>
      if q4.1 ≤ x2 then
        fX9_lesson_b16 n o x2 x3 (xw (x4 + 1)) q4.2
      else
        fX9_lesson_b16 n o q4.1 x4 (xw (x4 + 1)) q4.2
noncomputable def fX9_lesson (o : Nat) (x1 : Int) (F : Mem) : Option (Int × Mem) :=
  (fX1_touchRows (o + 62) 0 F).bind fun r1 =>
  fX9_lesson_b16 FU o (xw (x1 + r1)) (-1) 0 F
theorem fX9_lesson_b16_ok {Qr : Option PV → Mem → Prop}  : ∀ (n : Nat) (o : Nat) (x2 : Int) (x3 : Int) (x4 : Int) (F : Mem) (res : (Int × Mem)) (ho : isK o 9), fX9_lesson_b16 n o x2 x3 x4 F = some res → Qr (some (vI res.1)) res.2 → PR cX9_lesson (zX9_lesson Qr) 16 [(0, vR o), (2, vI x2), (3, vI x3), (4, vI x4)] [] F := by
  intro n
  induction n with
  | zero => intro o x2 x3 x4 F res ho h hq; exact nomatch (show (none : Option _) = some _ from h)
  | succ n ih =>
    intro o x2 x3 x4 F res ho h hq
    refine s_iload (j := 3) dX9_lesson_16 rfl ?_
    refine s_aload_n (j := 0) dX9_lesson_18 rfl rfl ?_
    refine s_getR dX9_lesson_19 flX9_51 ho ?_
    refine s_getM dX9_lesson_22 flX9_259 (trX9_7 ho) (fun hm1 => ?_)
    have hm1 : _ = 0 ∨ isK ((F (o + 62) 0).toNat) 7 := hm1
    obtain ⟨hn2, h⟩ := gdn h
    refine s_getR dX9_lesson_25 flX9_126 (hm1.resolve_left hn2) ?_
    refine s_getI dX9_lesson_28 flX9_130 (trX7_5 (hm1.resolve_left hn2)) ?_
    refine s_icmp_ge (tgt := 65) dX9_lesson_31 rfl (fun hc3 => ?_) (fun hc3 => ?_)
    · have h := ifp hc3 h
      refine s_iload_n (j := 2) dX9_lesson_65 rfl rfl ?_
      have h := Option.some.inj h
      subst h
      exact s_ireturn dX9_lesson_66 rfl hq
    · have h := ifn hc3 h
      refine s_aload_n (j := 0) dX9_lesson_34 rfl rfl ?_
      refine s_getR dX9_lesson_35 flX9_51 ho ?_
      refine s_iconst dX9_lesson_38 (cin rfl) ?_
      refine s_iload (j := 3) dX9_lesson_39 rfl ?_
      refine s_ishl dX9_lesson_41 ?_
      obtain ⟨q4, hv5, h⟩ := bnd h
      refine s_callV (As := [vI (xshl 1 x4)]) (rest := []) (r := (some (vI q4.1))) (F' := q4.2) dX9_lesson_42 (clX9_364 (Nat.le_of_ble_eq_true rfl) (Nat.le_of_ble_eq_true rfl)) (trX9_7 ho) rfl ⟨_, _, _, rfl, (trX9_7 ho), hv5, rfl, rfl⟩ rfl (Nat.le_of_ble_eq_true rfl) ?_
      refine s_istore (ls' := [(5, vI q4.1), (0, vR o), (2, vI x2), (3, vI x3), (4, vI x4)]) dX9_lesson_45 (Nat.le_of_ble_eq_true rfl) rfl ?_
      refine s_iload (j := 0) dX9_lesson_47 rfl ?_
      refine s_iload_n (j := 2) dX9_lesson_49 rfl rfl ?_
      refine s_icmp_le (tgt := 59) dX9_lesson_50 rfl (fun hc6 => ?_) (fun hc6 => ?_)
      · have h := ifp hc6 h
        refine s_iinc (ls' := [(4, vI (xw (x4 + 1))), (5, vI q4.1), (0, vR o), (2, vI x2), (3, vI x3)]) (j := 4) dX9_lesson_59 rfl (Nat.le_of_ble_eq_true rfl) rfl ?_
        refine s_goto (tgt := 16) dX9_lesson_62 rfl ?_
        exact s_sub (ks := [2, 3, 4, 0]) rfl (ih o x2 x3 (xw (x4 + 1)) q4.2 _ ho h hq)
      · have h := ifn hc6 h
        refine s_iload (j := 0) dX9_lesson_53 rfl ?_
        refine s_istore_n (ls' := [(2, vI q4.1), (5, vI q4.1), (0, vR o), (3, vI x3), (4, vI x4)]) dX9_lesson_55 rfl (Nat.le_of_ble_eq_true rfl) rfl ?_
        refine s_iload (j := 4) dX9_lesson_56 rfl ?_
        refine s_istore_n dX9_lesson_58 rfl (Nat.le_of_ble_eq_true rfl) rfl ?_
        refine s_iinc (ls' := [(4, vI (xw (x4 + 1))), (3, vI x4), (2, vI q4.1), (5, vI q4.1), (0, vR o)]) (j := 4) dX9_lesson_59 rfl (Nat.le_of_ble_eq_true rfl) rfl ?_
        refine s_goto (tgt := 16) dX9_lesson_62 rfl ?_
        exact s_sub (ks := [4, 2, 1, 0]) rfl (ih o q4.1 x4 (xw (x4 + 1)) q4.2 _ ho h hq)
theorem fX9_lesson_ok {Qr : Option PV → Mem → Prop} : ∀ (o : Nat) (x1 : Int) (F : Mem) (res : (Int × Mem)) (ho : isK o 9), fX9_lesson o x1 F = some res → Qr (some (vI res.1)) res.2 → PR cX9_lesson (zX9_lesson Qr) 0 [(0, vR o), (1, vI x1)] [] F := by
  intro o x1 F res ho h hq
  refine s_iload_n (j := 1) dX9_lesson_0 rfl rfl ?_
  refine s_aload_n (j := 0) dX9_lesson_1 rfl rfl ?_
  refine s_getR dX9_lesson_2 flX9_51 ho ?_
  refine s_iconst dX9_lesson_5 (cin rfl) ?_
  obtain ⟨r1, hv2, h⟩ := bnd h
  refine s_callV (As := [vI 0]) (rest := [vI x1]) (r := (some (vI r1))) (F' := F) dX9_lesson_6 (clX9_320 (Nat.le_of_ble_eq_true rfl) (Nat.le_of_ble_eq_true rfl)) (trX9_7 ho) rfl ⟨_, _, _, rfl, (trX9_7 ho), hv2, rfl, rfl⟩ rfl (Nat.le_of_ble_eq_true rfl) ?_
  refine s_iadd dX9_lesson_9 ?_
  refine s_istore_n (ls' := [(2, vI (xw (x1 + r1))), (0, vR o), (1, vI x1)]) dX9_lesson_10 rfl (Nat.le_of_ble_eq_true rfl) rfl ?_
  refine s_iconst dX9_lesson_11 (cin rfl) ?_
  refine s_istore_n dX9_lesson_12 rfl (Nat.le_of_ble_eq_true rfl) rfl ?_
  refine s_iconst dX9_lesson_13 (cin rfl) ?_
  refine s_istore (ls' := [(4, vI 0), (3, vI (-1)), (2, vI (xw (x1 + r1))), (0, vR o), (1, vI x1)]) dX9_lesson_14 (Nat.le_of_ble_eq_true rfl) rfl ?_
  exact s_sub (ks := [3, 2, 1, 0]) rfl (fX9_lesson_b16_ok FU o (xw (x1 + r1)) (-1) 0 F _ ho h hq)
def gX9_lesson : XG := fun As F r F' => ∃ o : Nat, ∃ x1 : Int, ∃ res : (Int × Mem), As = [vR o, vI x1] ∧ isK o 9 ∧ fX9_lesson o x1 F = some res ∧ r = some (vI res.1) ∧ F' = res.2
theorem ctX9_lesson : xCT yX9_lesson cX9_lesson 6 (some FieldType.int) 5 133 gX9_lesson := xmet (by decide +kernel) (fun As F r F' hg => by obtain ⟨o, x1, res, rfl, ho, h, rfl, rfl⟩ := hg; exact Nat.le_of_ble_eq_true rfl) (fun As F r F' hg => by obtain ⟨o, x1, res, rfl, ho, h, rfl, rfl⟩ := hg; exact fX9_lesson_ok o x1 _ _ ho h ⟨rfl, rfl⟩)
theorem mcX9_lesson : Cond.code yX9_lesson cX9_lesson 6 (some FieldType.int) ∈ xw_T ∧ Cond.initialized yX9_lesson.cls ∈ xw_T ∧ Cond.instanceMethod yX9_lesson ∈ xw_T ∧ Cond.selects yX9_lesson.cls yX9_lesson yX9_lesson ∈ xw_T := ⟨(xinT 1230 (by decide +kernel) (by decide +kernel)), (xinT 116 (by decide +kernel) (by decide +kernel)), (xinT 1229 (by decide +kernel) (by decide +kernel)), (xinT 36 (by decide +kernel) (by decide +kernel))⟩
theorem clX9_340 {fr lo : Nat} (h1 : 5 + 1 ≤ fr) (h2 : 8 + (6 + 11) + 133 ≤ lo) : xCall RX9 fr lo 0 340 9 1 gX9_lesson := ⟨_, _, _, _, _, _, ctX9_lesson, h1, h2, mcX9_lesson.1, (xinT 1227 (by decide +kernel) (by decide +kernel)), mcX9_lesson.2.1, ⟨by decide +kernel, by decide +kernel, by decide +kernel⟩, by rw [if_pos rfl]; exact ⟨mcX9_lesson.2.2.1, mcX9_lesson.2.2.2, _, _, rfl⟩⟩
