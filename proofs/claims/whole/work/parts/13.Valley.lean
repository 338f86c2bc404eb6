theorem dX7_seesBy_0 : decode cX7_seesBy 0 = .ok (.iload_n 1, 1) := by decide +kernel
theorem dX7_seesBy_1 : decode cX7_seesBy 1 = .ok (.iconst 3, 1) := by decide +kernel
theorem dX7_seesBy_2 : decode cX7_seesBy 2 = .ok (.if_icmp .ne 19, 3) := by decide +kernel
theorem dX7_seesBy_5 : decode cX7_seesBy 5 = .ok (.iload_n 2, 1) := by decide +kernel
theorem dX7_seesBy_6 : decode cX7_seesBy 6 = .ok (.aload_n 0, 1) := by decide +kernel
theorem dX7_seesBy_7 : decode cX7_seesBy 7 = .ok (.getfield 18, 3) := by decide +kernel
theorem dX7_seesBy_10 : decode cX7_seesBy 10 = .ok (.if_icmp .lt 15, 3) := by decide +kernel
theorem dX7_seesBy_13 : decode cX7_seesBy 13 = .ok (.iload_n 2, 1) := by decide +kernel
theorem dX7_seesBy_14 : decode cX7_seesBy 14 = .ok (.aload_n 0, 1) := by decide +kernel
theorem dX7_seesBy_15 : decode cX7_seesBy 15 = .ok (.getfield 21, 3) := by decide +kernel
theorem dX7_seesBy_18 : decode cX7_seesBy 18 = .ok (.if_icmp .ge 7, 3) := by decide +kernel
theorem dX7_seesBy_21 : decode cX7_seesBy 21 = .ok (.iconst 1, 1) := by decide +kernel
theorem dX7_seesBy_22 : decode cX7_seesBy 22 = .ok (.goto 4, 3) := by decide +kernel
theorem dX7_seesBy_25 : decode cX7_seesBy 25 = .ok (.iconst 0, 1) := by decide +kernel
theorem dX7_seesBy_26 : decode cX7_seesBy 26 = .ok (.ireturn, 1) := by decide +kernel
def zX7_seesBy (Qr : Option PV → Mem → Prop) : XZ := (RX7, 0, 0, 3, some FieldType.boolean, Qr)
noncomputable def fX7_seesBy (o : Nat) (x1 : Int) (x2 : Int) (F : Mem) : Int :=
  if x1 ≠ 3 then
    1
  else
    if x2 < (F o 2) then
      0
    else
      if (F o 3) ≤ x2 then
        0
      else
        1
theorem fX7_seesBy_ok {Qr : Option PV → Mem → Prop} : ∀ (o : Nat) (x1 : Int) (x2 : Int) (F : Mem) (res : Int) (ho : isK o 7), fX7_seesBy o x1 x2 F = res → Qr (some (vI res)) F → PR cX7_seesBy (zX7_seesBy Qr) 0 [(0, vR o), (1, vI x1), (2, vI x2)] [] F := by
  intro o x1 x2 F res ho h hq
  refine s_iload_n (j := 1) dX7_seesBy_0 rfl rfl ?_
  refine s_iconst dX7_seesBy_1 (cin rfl) ?_
  refine s_icmp_ne (tgt := 21) dX7_seesBy_2 rfl (fun hc1 => ?_) (fun hc1 => ?_)
  · have h := ifp hc1 h
    refine s_iconst dX7_seesBy_21 (cin rfl) ?_
    refine s_goto (tgt := 26) dX7_seesBy_22 rfl ?_
    subst h
    exact s_zreturn dX7_seesBy_26 rfl (Or.inr rfl) hq
  · have h := ifn hc1 h
    refine s_iload_n (j := 2) dX7_seesBy_5 rfl rfl ?_
    refine s_aload_n (j := 0) dX7_seesBy_6 rfl rfl ?_
    refine s_getI dX7_seesBy_7 flX7_18 ho ?_
    refine s_icmp_lt (tgt := 25) dX7_seesBy_10 rfl (fun hc2 => ?_) (fun hc2 => ?_)
    · have h := ifp hc2 h
      refine s_iconst dX7_seesBy_25 (cin rfl) ?_
      subst h
      exact s_zreturn dX7_seesBy_26 rfl (Or.inl rfl) hq
    · have h := ifn hc2 h
      refine s_iload_n (j := 2) dX7_seesBy_13 rfl rfl ?_
      refine s_aload_n (j := 0) dX7_seesBy_14 rfl rfl ?_
      refine s_getI dX7_seesBy_15 flX7_21 ho ?_
      refine s_icmp_ge (tgt := 25) dX7_seesBy_18 rfl (fun hc3 => ?_) (fun hc3 => ?_)
      · have h := ifp hc3 h
        refine s_iconst dX7_seesBy_25 (cin rfl) ?_
        subst h
        exact s_zreturn dX7_seesBy_26 rfl (Or.inl rfl) hq
      · have h := ifn hc3 h
        refine s_iconst dX7_seesBy_21 (cin rfl) ?_
        refine s_goto (tgt := 26) dX7_seesBy_22 rfl ?_
        subst h
        exact s_zreturn dX7_seesBy_26 rfl (Or.inr rfl) hq
def gX7_seesBy : XG := fun As F r F' => ∃ o : Nat, ∃ x1 : Int, ∃ x2 : Int, ∃ res : Int, As = [vR o, vI x1, vI x2] ∧ isK o 7 ∧ fX7_seesBy o x1 x2 F = res ∧ r = some (vI res) ∧ F' = F
theorem ctX7_seesBy : xCT yX7_seesBy cX7_seesBy 3 (some FieldType.boolean) 0 0 gX7_seesBy := xmet (by decide +kernel) (fun As F r F' hg => by obtain ⟨o, x1, x2, res, rfl, ho, h, rfl, rfl⟩ := hg; exact Nat.le_of_ble_eq_true rfl) (fun As F r F' hg => by obtain ⟨o, x1, x2, res, rfl, ho, h, rfl, rfl⟩ := hg; exact fX7_seesBy_ok o x1 x2 _ _ ho h ⟨rfl, rfl⟩)
theorem mcX7_seesBy : Cond.code yX7_seesBy cX7_seesBy 3 (some FieldType.boolean) ∈ xw_T ∧ Cond.initialized yX7_seesBy.cls ∈ xw_T ∧ Cond.instanceMethod yX7_seesBy ∈ xw_T ∧ Cond.selects yX7_seesBy.cls yX7_seesBy yX7_seesBy ∈ xw_T := ⟨(xinT 849 (by decide +kernel) (by decide +kernel)), (xinT 118 (by decide +kernel) (by decide +kernel)), (xinT 847 (by decide +kernel) (by decide +kernel)), (xinT 848 (by decide +kernel) (by decide +kernel))⟩
theorem clX1_164 {fr lo : Nat} (h1 : 0 + 1 ≤ fr) (h2 : 8 + (3 + 11) + 0 ≤ lo) : xCall RX1 fr lo 0 164 7 2 gX7_seesBy := ⟨_, _, _, _, _, _, ctX7_seesBy, h1, h2, mcX7_seesBy.1, (xinT 1044 (by decide +kernel) (by decide +kernel)), mcX7_seesBy.2.1, ⟨by decide +kernel, by decide +kernel, by decide +kernel⟩, by rw [if_pos rfl]; exact ⟨mcX7_seesBy.2.2.1, mcX7_seesBy.2.2.2, _, _, rfl⟩⟩
theorem clX6_96 {fr lo : Nat} (h1 : 0 + 1 ≤ fr) (h2 : 8 + (3 + 11) + 0 ≤ lo) : xCall RX6 fr lo 0 96 7 2 gX7_seesBy := ⟨_, _, _, _, _, _, ctX7_seesBy, h1, h2, mcX7_seesBy.1, (xinT 1210 (by decide +kernel) (by decide +kernel)), mcX7_seesBy.2.1, ⟨by decide +kernel, by decide +kernel, by decide +kernel⟩, by rw [if_pos rfl]; exact ⟨mcX7_seesBy.2.2.1, mcX7_seesBy.2.2.2, _, _, rfl⟩⟩
theorem clX8_73 {fr lo : Nat} (h1 : 0 + 1 ≤ fr) (h2 : 8 + (3 + 11) + 0 ≤ lo) : xCall RX8 fr lo 0 73 7 2 gX7_seesBy := ⟨_, _, _, _, _, _, ctX7_seesBy, h1, h2, mcX7_seesBy.1, (xinT 846 (by decide +kernel) (by decide +kernel)), mcX7_seesBy.2.1, ⟨by decide +kernel, by decide +kernel, by decide +kernel⟩, by rw [if_pos rfl]; exact ⟨mcX7_seesBy.2.2.1, mcX7_seesBy.2.2.2, _, _, rfl⟩⟩
theorem dX7_slotsBetween_0 : decode cX7_slotsBetween 0 = .ok (.iload_n 1, 1) := by decide +kernel
theorem dX7_slotsBetween_1 : decode cX7_slotsBetween 1 = .ok (.iload_n 2, 1) := by decide +kernel
theorem dX7_slotsBetween_2 : decode cX7_slotsBetween 2 = .ok (.if_icmp .eq 8, 3) := by decide +kernel
theorem dX7_slotsBetween_5 : decode cX7_slotsBetween 5 = .ok (.iload_n 3, 1) := by decide +kernel
theorem dX7_slotsBetween_6 : decode cX7_slotsBetween 6 = .ok (.iconst 1, 1) := by decide +kernel
theorem dX7_slotsBetween_7 : decode cX7_slotsBetween 7 = .ok (.if_icmp .ge 5, 3) := by decide +kernel
theorem dX7_slotsBetween_10 : decode cX7_slotsBetween 10 = .ok (.iconst 0, 1) := by decide +kernel
theorem dX7_slotsBetween_11 : decode cX7_slotsBetween 11 = .ok (.ireturn, 1) := by decide +kernel
theorem dX7_slotsBetween_12 : decode cX7_slotsBetween 12 = .ok (.aload_n 0, 1) := by decide +kernel
theorem dX7_slotsBetween_13 : decode cX7_slotsBetween 13 = .ok (.getfield 32, 3) := by decide +kernel
theorem dX7_slotsBetween_16 : decode cX7_slotsBetween 16 = .ok (.iload_n 1, 1) := by decide +kernel
theorem dX7_slotsBetween_17 : decode cX7_slotsBetween 17 = .ok (.iconst 0, 1) := by decide +kernel
theorem dX7_slotsBetween_18 : decode cX7_slotsBetween 18 = .ok (.invokevirtual 46, 3) := by decide +kernel
theorem dX7_slotsBetween_21 : decode cX7_slotsBetween 21 = .ok (.aload_n 0, 1) := by decide +kernel
theorem dX7_slotsBetween_22 : decode cX7_slotsBetween 22 = .ok (.getfield 32, 3) := by decide +kernel
theorem dX7_slotsBetween_25 : decode cX7_slotsBetween 25 = .ok (.iload_n 2, 1) := by decide +kernel
theorem dX7_slotsBetween_26 : decode cX7_slotsBetween 26 = .ok (.iconst 0, 1) := by decide +kernel
theorem dX7_slotsBetween_27 : decode cX7_slotsBetween 27 = .ok (.invokevirtual 46, 3) := by decide +kernel
theorem dX7_slotsBetween_30 : decode cX7_slotsBetween 30 = .ok (.isub, 1) := by decide +kernel
theorem dX7_slotsBetween_31 : decode cX7_slotsBetween 31 = .ok (.invokestatic 54, 3) := by decide +kernel
theorem dX7_slotsBetween_34 : decode cX7_slotsBetween 34 = .ok (.istore 4, 2) := by decide +kernel
theorem dX7_slotsBetween_36 : decode cX7_slotsBetween 36 = .ok (.iconst 1, 1) := by decide +kernel
theorem dX7_slotsBetween_37 : decode cX7_slotsBetween 37 = .ok (.iload 4, 2) := by decide +kernel
theorem dX7_slotsBetween_39 : decode cX7_slotsBetween 39 = .ok (.iload_n 3, 1) := by decide +kernel
theorem dX7_slotsBetween_40 : decode cX7_slotsBetween 40 = .ok (.iadd, 1) := by decide +kernel
theorem dX7_slotsBetween_41 : decode cX7_slotsBetween 41 = .ok (.iconst 1, 1) := by decide +kernel
theorem dX7_slotsBetween_42 : decode cX7_slotsBetween 42 = .ok (.isub, 1) := by decide +kernel
theorem dX7_slotsBetween_43 : decode cX7_slotsBetween 43 = .ok (.iload_n 3, 1) := by decide +kernel
theorem dX7_slotsBetween_44 : decode cX7_slotsBetween 44 = .ok (.idiv, 1) := by decide +kernel
theorem dX7_slotsBetween_45 : decode cX7_slotsBetween 45 = .ok (.invokestatic 60, 3) := by decide +kernel
theorem dX7_slotsBetween_48 : decode cX7_slotsBetween 48 = .ok (.ireturn, 1) := by decide +kernel
def zX7_slotsBetween (Qr : Option PV → Mem → Prop) : XZ := (RX7, 1, 40, 5, some FieldType.int, Qr)
noncomputable def fX7_slotsBetween (o : Nat) (x1 : Int) (x2 : Int) (x3 : Int) (F : Mem) : Option Int :=
  if x1 = x2 then
    some 0
  else
    if 1 ≤ x3 then
      (fX3_cell (o + 1) x1 0 F).bind fun r3 =>
      (fX3_cell (o + 1) x2 0 F).bind fun r5 =>
      if x3 = 0 then none else
      some (xmax 1 (xw (Int.tdiv (xw ((xw ((xabs (xw (r3 - r5))) + x3)) - 1)) x3)))
    else
      some 0
theorem fX7_slotsBetween_ok {Qr : Option PV → Mem → Prop} : ∀ (o : Nat) (x1 : Int) (x2 : Int) (x3 : Int) (F : Mem) (res : Int) (ho : isK o 7), fX7_slotsBetween o x1 x2 x3 F = some res → Qr (some (vI res)) F → PR cX7_slotsBetween (zX7_slotsBetween Qr) 0 [(0, vR o), (1, vI x1), (2, vI x2), (3, vI x3)] [] F := by
  intro o x1 x2 x3 F res ho h hq
  refine s_iload_n (j := 1) dX7_slotsBetween_0 rfl rfl ?_
  refine s_iload_n (j := 2) dX7_slotsBetween_1 rfl rfl ?_
  refine s_icmp_eq (tgt := 10) dX7_slotsBetween_2 rfl (fun hc1 => ?_) (fun hc1 => ?_)
  · have h := ifp hc1 h
    refine s_iconst dX7_slotsBetween_10 (cin rfl) ?_
    have h := Option.some.inj h
    subst h
    exact s_ireturn dX7_slotsBetween_11 rfl hq
  · have h := ifn hc1 h
    refine s_iload_n (j := 3) dX7_slotsBetween_5 rfl rfl ?_
    refine s_iconst dX7_slotsBetween_6 (cin rfl) ?_
    refine s_icmp_ge (tgt := 12) dX7_slotsBetween_7 rfl (fun hc2 => ?_) (fun hc2 => ?_)
    · have h := ifp hc2 h
      refine s_aload_n (j := 0) dX7_slotsBetween_12 rfl rfl ?_
      refine s_getR dX7_slotsBetween_13 flX7_32 ho ?_
      refine s_iload_n (j := 1) dX7_slotsBetween_16 rfl rfl ?_
      refine s_iconst dX7_slotsBetween_17 (cin rfl) ?_
      obtain ⟨r3, hv4, h⟩ := bnd h
      refine s_callV (As := [vI x1, vI 0]) (rest := []) (r := (some (vI r3))) (F' := F) dX7_slotsBetween_18 (clX7_46 (Nat.le_of_ble_eq_true rfl) (Nat.le_of_ble_eq_true rfl)) (trX7_5 ho) rfl ⟨_, _, _, _, rfl, (trX7_5 ho), hv4, rfl, rfl⟩ rfl (Nat.le_of_ble_eq_true rfl) ?_
      refine s_aload_n (j := 0) dX7_slotsBetween_21 rfl rfl ?_
      refine s_getR dX7_slotsBetween_22 flX7_32 ho ?_
      refine s_iload_n (j := 2) dX7_slotsBetween_25 rfl rfl ?_
      refine s_iconst dX7_slotsBetween_26 (cin rfl) ?_
      obtain ⟨r5, hv6, h⟩ := bnd h
      refine s_callV (As := [vI x2, vI 0]) (rest := [vI r3]) (r := (some (vI r5))) (F' := F) dX7_slotsBetween_27 (clX7_46 (Nat.le_of_ble_eq_true rfl) (Nat.le_of_ble_eq_true rfl)) (trX7_5 ho) rfl ⟨_, _, _, _, rfl, (trX7_5 ho), hv6, rfl, rfl⟩ rfl (Nat.le_of_ble_eq_true rfl) ?_
      refine s_isub dX7_slotsBetween_30 ?_
      refine s_mabs dX7_slotsBetween_31 mtX7_54 (Nat.le_of_ble_eq_true rfl) ?_
      refine s_istore (ls' := [(4, vI (xabs (xw (r3 - r5)))), (0, vR o), (1, vI x1), (2, vI x2), (3, vI x3)]) dX7_slotsBetween_34 (Nat.le_of_ble_eq_true rfl) rfl ?_
      refine s_iconst dX7_slotsBetween_36 (cin rfl) ?_
      refine s_iload (j := 0) dX7_slotsBetween_37 rfl ?_
      refine s_iload_n (j := 4) dX7_slotsBetween_39 rfl rfl ?_
      refine s_iadd dX7_slotsBetween_40 ?_
      refine s_iconst dX7_slotsBetween_41 (cin rfl) ?_
      refine s_isub dX7_slotsBetween_42 ?_
      refine s_iload_n (j := 4) dX7_slotsBetween_43 rfl rfl ?_
      obtain ⟨hd7, h⟩ := gdn h
      refine s_idiv dX7_slotsBetween_44 hd7 ?_
      refine s_mmax dX7_slotsBetween_45 mtX7_60 (Nat.le_of_ble_eq_true rfl) ?_
      have h := Option.some.inj h
      subst h
      exact s_ireturn dX7_slotsBetween_48 rfl hq
    · have h := ifn hc2 h
      refine s_iconst dX7_slotsBetween_10 (cin rfl) ?_
      have h := Option.some.inj h
      subst h
      exact s_ireturn dX7_slotsBetween_11 rfl hq
def gX7_slotsBetween : XG := fun As F r F' => ∃ o : Nat, ∃ x1 : Int, ∃ x2 : Int, ∃ x3 : Int, ∃ res : Int, As = [vR o, vI x1, vI x2, vI x3] ∧ isK o 7 ∧ fX7_slotsBetween o x1 x2 x3 F = some res ∧ r = some (vI res) ∧ F' = F
theorem ctX7_slotsBetween : xCT yX7_slotsBetween cX7_slotsBetween 5 (some FieldType.int) 1 40 gX7_slotsBetween := xmet (by decide +kernel) (fun As F r F' hg => by obtain ⟨o, x1, x2, x3, res, rfl, ho, h, rfl, rfl⟩ := hg; exact Nat.le_of_ble_eq_true rfl) (fun As F r F' hg => by obtain ⟨o, x1, x2, x3, res, rfl, ho, h, rfl, rfl⟩ := hg; exact fX7_slotsBetween_ok o x1 x2 x3 _ _ ho h ⟨rfl, rfl⟩)
theorem mcX7_slotsBetween : Cond.code yX7_slotsBetween cX7_slotsBetween 5 (some FieldType.int) ∈ xw_T ∧ Cond.initialized yX7_slotsBetween.cls ∈ xw_T ∧ Cond.instanceMethod yX7_slotsBetween ∈ xw_T ∧ Cond.selects yX7_slotsBetween.cls yX7_slotsBetween yX7_slotsBetween ∈ xw_T := ⟨(xinT 771 (by decide +kernel) (by decide +kernel)), (xinT 118 (by decide +kernel) (by decide +kernel)), (xinT 769 (by decide +kernel) (by decide +kernel)), (xinT 770 (by decide +kernel) (by decide +kernel))⟩
theorem clX1_111 {fr lo : Nat} (h1 : 1 + 1 ≤ fr) (h2 : 8 + (5 + 11) + 40 ≤ lo) : xCall RX1 fr lo 0 111 7 3 gX7_slotsBetween := ⟨_, _, _, _, _, _, ctX7_slotsBetween, h1, h2, mcX7_slotsBetween.1, (xinT 1019 (by decide +kernel) (by decide +kernel)), mcX7_slotsBetween.2.1, ⟨by decide +kernel, by decide +kernel, by decide +kernel⟩, by rw [if_pos rfl]; exact ⟨mcX7_slotsBetween.2.2.1, mcX7_slotsBetween.2.2.2, _, _, rfl⟩⟩
theorem clX8_46 {fr lo : Nat} (h1 : 1 + 1 ≤ fr) (h2 : 8 + (5 + 11) + 40 ≤ lo) : xCall RX8 fr lo 0 46 7 3 gX7_slotsBetween := ⟨_, _, _, _, _, _, ctX7_slotsBetween, h1, h2, mcX7_slotsBetween.1, (xinT 830 (by decide +kernel) (by decide +kernel)), mcX7_slotsBetween.2.1, ⟨by decide +kernel, by decide +kernel, by decide +kernel⟩, by rw [if_pos rfl]; exact ⟨mcX7_slotsBetween.2.2.1, mcX7_slotsBetween.2.2.2, _, _, rfl⟩⟩
theorem clX9_145 {fr lo : Nat} (h1 : 1 + 1 ≤ fr) (h2 : 8 + (5 + 11) + 40 ≤ lo) : xCall RX9 fr lo 0 145 7 3 gX7_slotsBetween := ⟨_, _, _, _, _, _, ctX7_slotsBetween, h1, h2, mcX7_slotsBetween.1, (xinT 768 (by decide +kernel) (by decide +kernel)), mcX7_slotsBetween.2.1, ⟨by decide +kernel, by decide +kernel, by decide +kernel⟩, by rw [if_pos rfl]; exact ⟨mcX7_slotsBetween.2.2.1, mcX7_slotsBetween.2.2.2, _, _, rfl⟩⟩
theorem dX7_stepsBetween_0 : decode cX7_stepsBetween 0 = .ok (.aload_n 0, 1) := by decide +kernel
theorem dX7_stepsBetween_1 : decode cX7_stepsBetween 1 = .ok (.getfield 32, 3) := by decide +kernel
theorem dX7_stepsBetween_4 : decode cX7_stepsBetween 4 = .ok (.iload_n 1, 1) := by decide +kernel
theorem dX7_stepsBetween_5 : decode cX7_stepsBetween 5 = .ok (.iconst 0, 1) := by decide +kernel
theorem dX7_stepsBetween_6 : decode cX7_stepsBetween 6 = .ok (.invokevirtual 46, 3) := by decide +kernel
theorem dX7_stepsBetween_9 : decode cX7_stepsBetween 9 = .ok (.aload_n 0, 1) := by decide +kernel
theorem dX7_stepsBetween_10 : decode cX7_stepsBetween 10 = .ok (.getfield 32, 3) := by decide +kernel
theorem dX7_stepsBetween_13 : decode cX7_stepsBetween 13 = .ok (.iload_n 2, 1) := by decide +kernel
theorem dX7_stepsBetween_14 : decode cX7_stepsBetween 14 = .ok (.iconst 0, 1) := by decide +kernel
theorem dX7_stepsBetween_15 : decode cX7_stepsBetween 15 = .ok (.invokevirtual 46, 3) := by decide +kernel
theorem dX7_stepsBetween_18 : decode cX7_stepsBetween 18 = .ok (.isub, 1) := by decide +kernel
theorem dX7_stepsBetween_19 : decode cX7_stepsBetween 19 = .ok (.invokestatic 54, 3) := by decide +kernel
theorem dX7_stepsBetween_22 : decode cX7_stepsBetween 22 = .ok (.ireturn, 1) := by decide +kernel
def zX7_stepsBetween (Qr : Option PV → Mem → Prop) : XZ := (RX7, 1, 40, 3, some FieldType.int, Qr)
noncomputable def fX7_stepsBetween (o : Nat) (x1 : Int) (x2 : Int) (F : Mem) : Option Int :=
  (fX3_cell (o + 1) x1 0 F).bind fun r1 =>
  (fX3_cell (o + 1) x2 0 F).bind fun r3 =>
  some (xabs (xw (r1 - r3)))
theorem fX7_stepsBetween_ok {Qr : Option PV → Mem → Prop} : ∀ (o : Nat) (x1 : Int) (x2 : Int) (F : Mem) (res : Int) (ho : isK o 7), fX7_stepsBetween o x1 x2 F = some res → Qr (some (vI res)) F → PR cX7_stepsBetween (zX7_stepsBetween Qr) 0 [(0, vR o), (1, vI x1), (2, vI x2)] [] F := by
  intro o x1 x2 F res ho h hq
  refine s_aload_n (j := 0) dX7_stepsBetween_0 rfl rfl ?_
  refine s_getR dX7_stepsBetween_1 flX7_32 ho ?_
  refine s_iload_n (j := 1) dX7_stepsBetween_4 rfl rfl ?_
  refine s_iconst dX7_stepsBetween_5 (cin rfl) ?_
  obtain ⟨r1, hv2, h⟩ := bnd h
  refine s_callV (As := [vI x1, vI 0]) (rest := []) (r := (some (vI r1))) (F' := F) dX7_stepsBetween_6 (clX7_46 (Nat.le_of_ble_eq_true rfl) (Nat.le_of_ble_eq_true rfl)) (trX7_5 ho) rfl ⟨_, _, _, _, rfl, (trX7_5 ho), hv2, rfl, rfl⟩ rfl (Nat.le_of_ble_eq_true rfl) ?_
  refine s_aload_n (j := 0) dX7_stepsBetween_9 rfl rfl ?_
  refine s_getR dX7_stepsBetween_10 flX7_32 ho ?_
  refine s_iload_n (j := 2) dX7_stepsBetween_13 rfl rfl ?_
  refine s_iconst dX7_stepsBetween_14 (cin rfl) ?_
  obtain ⟨r3, hv4, h⟩ := bnd h
  refine s_callV (As := [vI x2, vI 0]) (rest := [vI r1]) (r := (some (vI r3))) (F' := F) dX7_stepsBetween_15 (clX7_46 (Nat.le_of_ble_eq_true rfl) (Nat.le_of_ble_eq_true rfl)) (trX7_5 ho) rfl ⟨_, _, _, _, rfl, (trX7_5 ho), hv4, rfl, rfl⟩ rfl (Nat.le_of_ble_eq_true rfl) ?_
  refine s_isub dX7_stepsBetween_18 ?_
  refine s_mabs dX7_stepsBetween_19 mtX7_54 (Nat.le_of_ble_eq_true rfl) ?_
  have h := Option.some.inj h
  subst h
  exact s_ireturn dX7_stepsBetween_22 rfl hq
def gX7_stepsBetween : XG := fun As F r F' => ∃ o : Nat, ∃ x1 : Int, ∃ x2 : Int, ∃ res : Int, As = [vR o, vI x1, vI x2] ∧ isK o 7 ∧ fX7_stepsBetween o x1 x2 F = some res ∧ r = some (vI res) ∧ F' = F
theorem ctX7_stepsBetween : xCT yX7_stepsBetween cX7_stepsBetween 3 (some FieldType.int) 1 40 gX7_stepsBetween := xmet (by decide +kernel) (fun As F r F' hg => by obtain ⟨o, x1, x2, res, rfl, ho, h, rfl, rfl⟩ := hg; exact Nat.le_of_ble_eq_true rfl) (fun As F r F' hg => by obtain ⟨o, x1, x2, res, rfl, ho, h, rfl, rfl⟩ := hg; exact fX7_stepsBetween_ok o x1 x2 _ _ ho h ⟨rfl, rfl⟩)
theorem mcX7_stepsBetween : Cond.code yX7_stepsBetween cX7_stepsBetween 3 (some FieldType.int) ∈ xw_T ∧ Cond.initialized yX7_stepsBetween.cls ∈ xw_T ∧ Cond.instanceMethod yX7_stepsBetween ∈ xw_T ∧ Cond.selects yX7_stepsBetween.cls yX7_stepsBetween yX7_stepsBetween ∈ xw_T := ⟨(xinT 779 (by decide +kernel) (by decide +kernel)), (xinT 118 (by decide +kernel) (by decide +kernel)), (xinT 777 (by decide +kernel) (by decide +kernel)), (xinT 778 (by decide +kernel) (by decide +kernel))⟩
theorem clX1_108 {fr lo : Nat} (h1 : 1 + 1 ≤ fr) (h2 : 8 + (3 + 11) + 40 ≤ lo) : xCall RX1 fr lo 0 108 7 2 gX7_stepsBetween := ⟨_, _, _, _, _, _, ctX7_stepsBetween, h1, h2, mcX7_stepsBetween.1, (xinT 1018 (by decide +kernel) (by decide +kernel)), mcX7_stepsBetween.2.1, ⟨by decide +kernel, by decide +kernel, by decide +kernel⟩, by rw [if_pos rfl]; exact ⟨mcX7_stepsBetween.2.2.1, mcX7_stepsBetween.2.2.2, _, _, rfl⟩⟩
theorem clX8_61 {fr lo : Nat} (h1 : 1 + 1 ≤ fr) (h2 : 8 + (3 + 11) + 40 ≤ lo) : xCall RX8 fr lo 0 61 7 2 gX7_stepsBetween := ⟨_, _, _, _, _, _, ctX7_stepsBetween, h1, h2, mcX7_stepsBetween.1, (xinT 837 (by decide +kernel) (by decide +kernel)), mcX7_stepsBetween.2.1, ⟨by decide +kernel, by decide +kernel, by decide +kernel⟩, by rw [if_pos rfl]; exact ⟨mcX7_stepsBetween.2.2.1, mcX7_stepsBetween.2.2.2, _, _, rfl⟩⟩
theorem clX9_149 {fr lo : Nat} (h1 : 1 + 1 ≤ fr) (h2 : 8 + (3 + 11) + 40 ≤ lo) : xCall RX9 fr lo 0 149 7 2 gX7_stepsBetween := ⟨_, _, _, _, _, _, ctX7_stepsBetween, h1, h2, mcX7_stepsBetween.1, (xinT 776 (by decide +kernel) (by decide +kernel)), mcX7_stepsBetween.2.1, ⟨by decide +kernel, by decide +kernel, by decide +kernel⟩, by rw [if_pos rfl]; exact ⟨mcX7_stepsBetween.2.2.1, mcX7_stepsBetween.2.2.2, _, _, rfl⟩⟩
theorem dX7_isTouch_0 : decode cX7_isTouch 0 = .ok (.aload_n 0, 1) := by decide +kernel
theorem dX7_isTouch_1 : decode cX7_isTouch 1 = .ok (.getfield 32, 3) := by decide +kernel
theorem dX7_isTouch_4 : decode cX7_isTouch 4 = .ok (.iload_n 1, 1) := by decide +kernel
theorem dX7_isTouch_5 : decode cX7_isTouch 5 = .ok (.iconst 1, 1) := by decide +kernel
theorem dX7_isTouch_6 : decode cX7_isTouch 6 = .ok (.invokevirtual 46, 3) := by decide +kernel
theorem dX7_isTouch_9 : decode cX7_isTouch 9 = .ok (.ifCond .ne 7, 3) := by decide +kernel
theorem dX7_isTouch_12 : decode cX7_isTouch 12 = .ok (.iconst 1, 1) := by decide +kernel
theorem dX7_isTouch_13 : decode cX7_isTouch 13 = .ok (.goto 4, 3) := by decide +kernel
theorem dX7_isTouch_16 : decode cX7_isTouch 16 = .ok (.iconst 0, 1) := by decide +kernel
theorem dX7_isTouch_17 : decode cX7_isTouch 17 = .ok (.ireturn, 1) := by decide +kernel
def zX7_isTouch (Qr : Option PV → Mem → Prop) : XZ := (RX7, 1, 22, 2, some FieldType.boolean, Qr)
noncomputable def fX7_isTouch (o : Nat) (x1 : Int) (F : Mem) : Option Int :=
  (fX3_cell (o + 1) x1 1 F).bind fun r1 =>
  if r1 ≠ 0 then
    some 0
  else
    some 1
theorem fX7_isTouch_ok {Qr : Option PV → Mem → Prop} : ∀ (o : Nat) (x1 : Int) (F : Mem) (res : Int) (ho : isK o 7), fX7_isTouch o x1 F = some res → Qr (some (vI res)) F → PR cX7_isTouch (zX7_isTouch Qr) 0 [(0, vR o), (1, vI x1)] [] F := by
  intro o x1 F res ho h hq
  refine s_aload_n (j := 0) dX7_isTouch_0 rfl rfl ?_
  refine s_getR dX7_isTouch_1 flX7_32 ho ?_
  refine s_iload_n (j := 1) dX7_isTouch_4 rfl rfl ?_
  refine s_iconst dX7_isTouch_5 (cin rfl) ?_
  obtain ⟨r1, hv2, h⟩ := bnd h
  refine s_callV (As := [vI x1, vI 1]) (rest := []) (r := (some (vI r1))) (F' := F) dX7_isTouch_6 (clX7_46 (Nat.le_of_ble_eq_true rfl) (Nat.le_of_ble_eq_true rfl)) (trX7_5 ho) rfl ⟨_, _, _, _, rfl, (trX7_5 ho), hv2, rfl, rfl⟩ rfl (Nat.le_of_ble_eq_true rfl) ?_
  refine s_if_ne (tgt := 16) dX7_isTouch_9 rfl (fun hc3 => ?_) (fun hc3 => ?_)
  · have h := ifp hc3 h
    refine s_iconst dX7_isTouch_16 (cin rfl) ?_
    have h := Option.some.inj h
    subst h
    exact s_zreturn dX7_isTouch_17 rfl (Or.inl rfl) hq
  · have h := ifn hc3 h
    refine s_iconst dX7_isTouch_12 (cin rfl) ?_
    refine s_goto (tgt := 17) dX7_isTouch_13 rfl ?_
    have h := Option.some.inj h
    subst h
    exact s_zreturn dX7_isTouch_17 rfl (Or.inr rfl) hq
def gX7_isTouch : XG := fun As F r F' => ∃ o : Nat, ∃ x1 : Int, ∃ res : Int, As = [vR o, vI x1] ∧ isK o 7 ∧ fX7_isTouch o x1 F = some res ∧ r = some (vI res) ∧ F' = F
theorem ctX7_isTouch : xCT yX7_isTouch cX7_isTouch 2 (some FieldType.boolean) 1 22 gX7_isTouch := xmet (by decide +kernel) (fun As F r F' hg => by obtain ⟨o, x1, res, rfl, ho, h, rfl, rfl⟩ := hg; exact Nat.le_of_ble_eq_true rfl) (fun As F r F' hg => by obtain ⟨o, x1, res, rfl, ho, h, rfl, rfl⟩ := hg; exact fX7_isTouch_ok o x1 _ _ ho h ⟨rfl, rfl⟩)
theorem mcX7_isTouch : Cond.code yX7_isTouch cX7_isTouch 2 (some FieldType.boolean) ∈ xw_T ∧ Cond.initialized yX7_isTouch.cls ∈ xw_T ∧ Cond.instanceMethod yX7_isTouch ∈ xw_T ∧ Cond.selects yX7_isTouch.cls yX7_isTouch yX7_isTouch ∈ xw_T := ⟨(xinT 1027 (by decide +kernel) (by decide +kernel)), (xinT 118 (by decide +kernel) (by decide +kernel)), (xinT 1025 (by decide +kernel) (by decide +kernel)), (xinT 1026 (by decide +kernel) (by decide +kernel))⟩
theorem clX1_76 {fr lo : Nat} (h1 : 1 + 1 ≤ fr) (h2 : 8 + (2 + 11) + 22 ≤ lo) : xCall RX1 fr lo 0 76 7 1 gX7_isTouch := ⟨_, _, _, _, _, _, ctX7_isTouch, h1, h2, mcX7_isTouch.1, (xinT 1024 (by decide +kernel) (by decide +kernel)), mcX7_isTouch.2.1, ⟨by decide +kernel, by decide +kernel, by decide +kernel⟩, by rw [if_pos rfl]; exact ⟨mcX7_isTouch.2.2.1, mcX7_isTouch.2.2.2, _, _, rfl⟩⟩
theorem clX6_81 {fr lo : Nat} (h1 : 1 + 1 ≤ fr) (h2 : 8 + (2 + 11) + 22 ≤ lo) : xCall RX6 fr lo 0 81 7 1 gX7_isTouch := ⟨_, _, _, _, _, _, ctX7_isTouch, h1, h2, mcX7_isTouch.1, (xinT 1203 (by decide +kernel) (by decide +kernel)), mcX7_isTouch.2.1, ⟨by decide +kernel, by decide +kernel, by decide +kernel⟩, by rw [if_pos rfl]; exact ⟨mcX7_isTouch.2.2.1, mcX7_isTouch.2.2.2, _, _, rfl⟩⟩
theorem dX7_rateOf_0 : decode cX7_rateOf 0 = .ok (.aload_n 0, 1) := by decide +kernel
theorem dX7_rateOf_1 : decode cX7_rateOf 1 = .ok (.getfield 32, 3) := by decide +kernel
theorem dX7_rateOf_4 : decode cX7_rateOf 4 = .ok (.iload_n 1, 1) := by decide +kernel
theorem dX7_rateOf_5 : decode cX7_rateOf 5 = .ok (.iconst 2, 1) := by decide +kernel
theorem dX7_rateOf_6 : decode cX7_rateOf 6 = .ok (.invokevirtual 46, 3) := by decide +kernel
theorem dX7_rateOf_9 : decode cX7_rateOf 9 = .ok (.istore_n 3, 1) := by decide +kernel
theorem dX7_rateOf_10 : decode cX7_rateOf 10 = .ok (.iload_n 2, 1) := by decide +kernel
theorem dX7_rateOf_11 : decode cX7_rateOf 11 = .ok (.ifCond .eq 22, 3) := by decide +kernel
theorem dX7_rateOf_14 : decode cX7_rateOf 14 = .ok (.aload_n 0, 1) := by decide +kernel
theorem dX7_rateOf_15 : decode cX7_rateOf 15 = .ok (.getfield 32, 3) := by decide +kernel
theorem dX7_rateOf_18 : decode cX7_rateOf 18 = .ok (.iload_n 1, 1) := by decide +kernel
theorem dX7_rateOf_19 : decode cX7_rateOf 19 = .ok (.iconst 1, 1) := by decide +kernel
theorem dX7_rateOf_20 : decode cX7_rateOf 20 = .ok (.invokevirtual 46, 3) := by decide +kernel
theorem dX7_rateOf_23 : decode cX7_rateOf 23 = .ok (.iconst 1, 1) := by decide +kernel
theorem dX7_rateOf_24 : decode cX7_rateOf 24 = .ok (.if_icmp .le 9, 3) := by decide +kernel
theorem dX7_rateOf_27 : decode cX7_rateOf 27 = .ok (.iload_n 3, 1) := by decide +kernel
theorem dX7_rateOf_28 : decode cX7_rateOf 28 = .ok (.iconst 2, 1) := by decide +kernel
theorem dX7_rateOf_29 : decode cX7_rateOf 29 = .ok (.idiv, 1) := by decide +kernel
theorem dX7_rateOf_30 : decode cX7_rateOf 30 = .ok (.goto 4, 3) := by decide +kernel
theorem dX7_rateOf_33 : decode cX7_rateOf 33 = .ok (.iload_n 3, 1) := by decide +kernel
theorem dX7_rateOf_34 : decode cX7_rateOf 34 = .ok (.ireturn, 1) := by decide +kernel
def zX7_rateOf (Qr : Option PV → Mem → Prop) : XZ := (RX7, 1, 22, 4, some FieldType.int, Qr)
noncomputable def fX7_rateOf (o : Nat) (x1 : Int) (x2 : Int) (F : Mem) : Option Int :=
  (fX3_cell (o + 1) x1 2 F).bind fun r1 =>
  if x2 = 0 then
    some r1
  else
    (fX3_cell (o + 1) x1 1 F).bind fun r4 =>
    if r4 ≤ 1 then
      some r1
    else
      some (xw (Int.tdiv r1 2))
theorem fX7_rateOf_ok {Qr : Option PV → Mem → Prop} : ∀ (o : Nat) (x1 : Int) (x2 : Int) (F : Mem) (res : Int) (ho : isK o 7), fX7_rateOf o x1 x2 F = some res → Qr (some (vI res)) F → PR cX7_rateOf (zX7_rateOf Qr) 0 [(0, vR o), (1, vI x1), (2, vI x2)] [] F := by
  intro o x1 x2 F res ho h hq
  refine s_aload_n (j := 0) dX7_rateOf_0 rfl rfl ?_
  refine s_getR dX7_rateOf_1 flX7_32 ho ?_
  refine s_iload_n (j := 1) dX7_rateOf_4 rfl rfl ?_
  refine s_iconst dX7_rateOf_5 (cin rfl) ?_
  obtain ⟨r1, hv2, h⟩ := bnd h
  refine s_callV (As := [vI x1, vI 2]) (rest := []) (r := (some (vI r1))) (F' := F) dX7_rateOf_6 (clX7_46 (Nat.le_of_ble_eq_true rfl) (Nat.le_of_ble_eq_true rfl)) (trX7_5 ho) rfl ⟨_, _, _, _, rfl, (trX7_5 ho), hv2, rfl, rfl⟩ rfl (Nat.le_of_ble_eq_true rfl) ?_
  refine s_istore_n (ls' := [(3, vI r1), (0, vR o), (1, vI x1), (2, vI x2)]) dX7_rateOf_9 rfl (Nat.le_of_ble_eq_true rfl) rfl ?_
  refine s_iload_n (j := 3) dX7_rateOf_10 rfl rfl ?_
  refine s_if_eq (tgt := 33) dX7_rateOf_11 rfl (fun hc3 => ?_) (fun hc3 => ?_)
  · have h := ifp hc3 h
    refine s_iload_n (j := 0) dX7_rateOf_33 rfl rfl ?_
    have h := Option.some.inj h
    subst h
    exact s_ireturn dX7_rateOf_34 rfl hq
  · have h := ifn hc3 h
    refine s_aload_n (j := 1) dX7_rateOf_14 rfl rfl ?_
    refine s_getR dX7_rateOf_15 flX7_32 ho ?_
    refine s_iload_n (j := 2) dX7_rateOf_18 rfl rfl ?_
    refine s_iconst dX7_rateOf_19 (cin rfl) ?_
    obtain ⟨r4, hv5, h⟩ := bnd h
    refine s_callV (As := [vI x1, vI 1]) (rest := []) (r := (some (vI r4))) (F' := F) dX7_rateOf_20 (clX7_46 (Nat.le_of_ble_eq_true rfl) (Nat.le_of_ble_eq_true rfl)) (trX7_5 ho) rfl ⟨_, _, _, _, rfl, (trX7_5 ho), hv5, rfl, rfl⟩ rfl (Nat.le_of_ble_eq_true rfl) ?_
    refine s_iconst dX7_rateOf_23 (cin rfl) ?_
    refine s_icmp_le (tgt := 33) dX7_rateOf_24 rfl (fun hc6 => ?_) (fun hc6 => ?_)
    · have h := ifp hc6 h
      refine s_iload_n (j := 0) dX7_rateOf_33 rfl rfl ?_
      have h := Option.some.inj h
      subst h
      exact s_ireturn dX7_rateOf_34 rfl hq
    · have h := ifn hc6 h
      refine s_iload_n (j := 0) dX7_rateOf_27 rfl rfl ?_
      refine s_iconst dX7_rateOf_28 (cin rfl) ?_
      refine s_idiv dX7_rateOf_29 (by decide) ?_
      refine s_goto (tgt := 34) dX7_rateOf_30 rfl ?_
      have h := Option.some.inj h
      subst h
      exact s_ireturn dX7_rateOf_34 rfl hq
def gX7_rateOf : XG := fun As F r F' => ∃ o : Nat, ∃ x1 : Int, ∃ x2 : Int, ∃ res : Int, As = [vR o, vI x1, vI x2] ∧ isK o 7 ∧ fX7_rateOf o x1 x2 F = some res ∧ r = some (vI res) ∧ F' = F
theorem ctX7_rateOf : xCT yX7_rateOf cX7_rateOf 4 (some FieldType.int) 1 22 gX7_rateOf := xmet (by decide +kernel) (fun As F r F' hg => by obtain ⟨o, x1, x2, res, rfl, ho, h, rfl, rfl⟩ := hg; exact Nat.le_of_ble_eq_true rfl) (fun As F r F' hg => by obtain ⟨o, x1, x2, res, rfl, ho, h, rfl, rfl⟩ := hg; exact fX7_rateOf_ok o x1 x2 _ _ ho h ⟨rfl, rfl⟩)
theorem mcX7_rateOf : Cond.code yX7_rateOf cX7_rateOf 4 (some FieldType.int) ∈ xw_T ∧ Cond.initialized yX7_rateOf.cls ∈ xw_T ∧ Cond.instanceMethod yX7_rateOf ∈ xw_T ∧ Cond.selects yX7_rateOf.cls yX7_rateOf yX7_rateOf ∈ xw_T := ⟨(xinT 853 (by decide +kernel) (by decide +kernel)), (xinT 118 (by decide +kernel) (by decide +kernel)), (xinT 851 (by decide +kernel) (by decide +kernel)), (xinT 852 (by decide +kernel) (by decide +kernel))⟩
theorem clX1_80 {fr lo : Nat} (h1 : 1 + 1 ≤ fr) (h2 : 8 + (4 + 11) + 22 ≤ lo) : xCall RX1 fr lo 0 80 7 2 gX7_rateOf := ⟨_, _, _, _, _, _, ctX7_rateOf, h1, h2, mcX7_rateOf.1, (xinT 1028 (by decide +kernel) (by decide +kernel)), mcX7_rateOf.2.1, ⟨by decide +kernel, by decide +kernel, by decide +kernel⟩, by rw [if_pos rfl]; exact ⟨mcX7_rateOf.2.2.1, mcX7_rateOf.2.2.2, _, _, rfl⟩⟩
theorem clX8_80 {fr lo : Nat} (h1 : 1 + 1 ≤ fr) (h2 : 8 + (4 + 11) + 22 ≤ lo) : xCall RX8 fr lo 0 80 7 2 gX7_rateOf := ⟨_, _, _, _, _, _, ctX7_rateOf, h1, h2, mcX7_rateOf.1, (xinT 850 (by decide +kernel) (by decide +kernel)), mcX7_rateOf.2.1, ⟨by decide +kernel, by decide +kernel, by decide +kernel⟩, by rw [if_pos rfl]; exact ⟨mcX7_rateOf.2.2.1, mcX7_rateOf.2.2.2, _, _, rfl⟩⟩
theorem dX7_clear_0 : decode cX7_clear 0 = .ok (.aload_n 0, 1) := by decide +kernel
theorem dX7_clear_1 : decode cX7_clear 1 = .ok (.bipush 24, 2) := by decide +kernel
theorem dX7_clear_3 : decode cX7_clear 3 = .ok (.putfield 9, 3) := by decide +kernel
theorem dX7_clear_6 : decode cX7_clear 6 = .ok (.aload_n 0, 1) := by decide +kernel
theorem dX7_clear_7 : decode cX7_clear 7 = .ok (.bipush 9, 2) := by decide +kernel
theorem dX7_clear_9 : decode cX7_clear 9 = .ok (.putfield 15, 3) := by decide +kernel
theorem dX7_clear_12 : decode cX7_clear 12 = .ok (.aload_n 0, 1) := by decide +kernel
theorem dX7_clear_13 : decode cX7_clear 13 = .ok (.iconst 0, 1) := by decide +kernel
theorem dX7_clear_14 : decode cX7_clear 14 = .ok (.putfield 18, 3) := by decide +kernel
theorem dX7_clear_17 : decode cX7_clear 17 = .ok (.aload_n 0, 1) := by decide +kernel
theorem dX7_clear_18 : decode cX7_clear 18 = .ok (.bipush 48, 2) := by decide +kernel
theorem dX7_clear_20 : decode cX7_clear 20 = .ok (.putfield 21, 3) := by decide +kernel
theorem dX7_clear_23 : decode cX7_clear 23 = .ok (.aload_n 0, 1) := by decide +kernel
theorem dX7_clear_24 : decode cX7_clear 24 = .ok (.iconst 0, 1) := by decide +kernel
theorem dX7_clear_25 : decode cX7_clear 25 = .ok (.putfield 24, 3) := by decide +kernel
theorem dX7_clear_28 : decode cX7_clear 28 = .ok (.aload_n 0, 1) := by decide +kernel
theorem dX7_clear_29 : decode cX7_clear 29 = .ok (.getfield 32, 3) := by decide +kernel
theorem dX7_clear_32 : decode cX7_clear 32 = .ok (.iconst 0, 1) := by decide +kernel
theorem dX7_clear_33 : decode cX7_clear 33 = .ok (.putfield 39, 3) := by decide +kernel
theorem dX7_clear_36 : decode cX7_clear 36 = .ok (.aload_n 0, 1) := by decide +kernel
theorem dX7_clear_37 : decode cX7_clear 37 = .ok (.getfield 36, 3) := by decide +kernel
theorem dX7_clear_40 : decode cX7_clear 40 = .ok (.iconst 0, 1) := by decide +kernel
theorem dX7_clear_41 : decode cX7_clear 41 = .ok (.putfield 39, 3) := by decide +kernel
theorem dX7_clear_44 : decode cX7_clear 44 = .ok (.return_, 1) := by decide +kernel
def zX7_clear (Qr : Option PV → Mem → Prop) : XZ := (RX7, 0, 0, 1, none, Qr)
noncomputable def fX7_clear (o : Nat) (F : Mem) : Mem :=
  mset (mset (mset (mset (mset (mset (mset F o 0 24) o 1 9) o 2 0) o 3 48) o 4 0) (o + 1) 3 0) (o + 3) 3 0
theorem fX7_clear_ok {Qr : Option PV → Mem → Prop} : ∀ (o : Nat) (F : Mem) (res : Mem) (ho : isK o 7), fX7_clear o F = res → Qr none res → PR cX7_clear (zX7_clear Qr) 0 [(0, vR o)] [] F := by
  intro o F res ho h hq
  refine s_aload_n (j := 0) dX7_clear_0 rfl rfl ?_
  refine s_bipush dX7_clear_1 rfl (cin rfl) ?_
  refine s_putI dX7_clear_3 flX7_9 fpX7_0 ho ?_
  refine s_aload_n (j := 0) dX7_clear_6 rfl rfl ?_
  refine s_bipush dX7_clear_7 rfl (cin rfl) ?_
  refine s_putI dX7_clear_9 flX7_15 fpX7_1 ho ?_
  refine s_aload_n (j := 0) dX7_clear_12 rfl rfl ?_
  refine s_iconst dX7_clear_13 (cin rfl) ?_
  refine s_putI dX7_clear_14 flX7_18 fpX7_2 ho ?_
  refine s_aload_n (j := 0) dX7_clear_17 rfl rfl ?_
  refine s_bipush dX7_clear_18 rfl (cin rfl) ?_
  refine s_putI dX7_clear_20 flX7_21 fpX7_3 ho ?_
  refine s_aload_n (j := 0) dX7_clear_23 rfl rfl ?_
  refine s_iconst dX7_clear_24 (cin rfl) ?_
  refine s_putI dX7_clear_25 flX7_24 fpX7_4 ho ?_
  refine s_aload_n (j := 0) dX7_clear_28 rfl rfl ?_
  refine s_getR dX7_clear_29 flX7_32 ho ?_
  refine s_iconst dX7_clear_32 (cin rfl) ?_
  refine s_putI dX7_clear_33 flX7_39 fpX3_3 (trX7_5 ho) ?_
  refine s_aload_n (j := 0) dX7_clear_36 rfl rfl ?_
  refine s_getR dX7_clear_37 flX7_36 ho ?_
  refine s_iconst dX7_clear_40 (cin rfl) ?_
  refine s_putI dX7_clear_41 flX7_39 fpX3_3 (trX7_6 ho) ?_
  subst h
  exact s_return dX7_clear_44 rfl hq
def gX7_clear : XG := fun As F r F' => ∃ o : Nat, ∃ res : Mem, As = [vR o] ∧ isK o 7 ∧ fX7_clear o F = res ∧ r = none ∧ F' = res
theorem ctX7_clear : xCT yX7_clear cX7_clear 1 (none) 0 0 gX7_clear := xmet (by decide +kernel) (fun As F r F' hg => by obtain ⟨o, res, rfl, ho, h, rfl, rfl⟩ := hg; exact Nat.le_of_ble_eq_true rfl) (fun As F r F' hg => by obtain ⟨o, res, rfl, ho, h, rfl, rfl⟩ := hg; exact fX7_clear_ok o _ _ ho h ⟨rfl, rfl⟩)
theorem mcX7_clear : Cond.code yX7_clear cX7_clear 1 (none) ∈ xw_T ∧ Cond.initialized yX7_clear.cls ∈ xw_T ∧ Cond.instanceMethod yX7_clear ∈ xw_T ∧ Cond.selects yX7_clear.cls yX7_clear yX7_clear ∈ xw_T := ⟨(xinT 564 (by decide +kernel) (by decide +kernel)), (xinT 118 (by decide +kernel) (by decide +kernel)), (xinT 562 (by decide +kernel) (by decide +kernel)), (xinT 563 (by decide +kernel) (by decide +kernel))⟩
theorem clX2_69 {fr lo : Nat} (h1 : 0 + 1 ≤ fr) (h2 : 8 + (1 + 11) + 0 ≤ lo) : xCall RX2 fr lo 0 69 7 0 gX7_clear := ⟨_, _, _, _, _, _, ctX7_clear, h1, h2, mcX7_clear.1, (xinT 561 (by decide +kernel) (by decide +kernel)), mcX7_clear.2.1, ⟨by decide +kernel, by decide +kernel, by decide +kernel⟩, by rw [if_pos rfl]; exact ⟨mcX7_clear.2.2.1, mcX7_clear.2.2.2, _, _, rfl⟩⟩
theorem dX7_hasHouse_0 : decode cX7_hasHouse 0 = .ok (.iload_n 1, 1) := by decide +kernel
theorem dX7_hasHouse_1 : decode cX7_hasHouse 1 = .ok (.ifCond .lt 18, 3) := by decide +kernel
theorem dX7_hasHouse_4 : decode cX7_hasHouse 4 = .ok (.iload_n 1, 1) := by decide +kernel
theorem dX7_hasHouse_5 : decode cX7_hasHouse 5 = .ok (.aload_n 0, 1) := by decide +kernel
theorem dX7_hasHouse_6 : decode cX7_hasHouse 6 = .ok (.getfield 32, 3) := by decide +kernel
theorem dX7_hasHouse_9 : decode cX7_hasHouse 9 = .ok (.getfield 39, 3) := by decide +kernel
theorem dX7_hasHouse_12 : decode cX7_hasHouse 12 = .ok (.if_icmp .ge 7, 3) := by decide +kernel
theorem dX7_hasHouse_15 : decode cX7_hasHouse 15 = .ok (.iconst 1, 1) := by decide +kernel
theorem dX7_hasHouse_16 : decode cX7_hasHouse 16 = .ok (.goto 4, 3) := by decide +kernel
theorem dX7_hasHouse_19 : decode cX7_hasHouse 19 = .ok (.iconst 0, 1) := by decide +kernel
theorem dX7_hasHouse_20 : decode cX7_hasHouse 20 = .ok (.ireturn, 1) := by decide +kernel
def zX7_hasHouse (Qr : Option PV → Mem → Prop) : XZ := (RX7, 0, 0, 2, some FieldType.boolean, Qr)
noncomputable def fX7_hasHouse (o : Nat) (x1 : Int) (F : Mem) : Int :=
  if x1 < 0 then
    0
  else
    if (F (o + 1) 3) ≤ x1 then
      0
    else
      1
theorem fX7_hasHouse_ok {Qr : Option PV → Mem → Prop} : ∀ (o : Nat) (x1 : Int) (F : Mem) (res : Int) (ho : isK o 7), fX7_hasHouse o x1 F = res → Qr (some (vI res)) F → PR cX7_hasHouse (zX7_hasHouse Qr) 0 [(0, vR o), (1, vI x1)] [] F := by
  intro o x1 F res ho h hq
  refine s_iload_n (j := 1) dX7_hasHouse_0 rfl rfl ?_
  refine s_if_lt (tgt := 19) dX7_hasHouse_1 rfl (fun hc1 => ?_) (fun hc1 => ?_)
  · have h := ifp hc1 h
    refine s_iconst dX7_hasHouse_19 (cin rfl) ?_
    subst h
    exact s_zreturn dX7_hasHouse_20 rfl (Or.inl rfl) hq
  · have h := ifn hc1 h
    refine s_iload_n (j := 1) dX7_hasHouse_4 rfl rfl ?_
    refine s_aload_n (j := 0) dX7_hasHouse_5 rfl rfl ?_
    refine s_getR dX7_hasHouse_6 flX7_32 ho ?_
    refine s_getI dX7_hasHouse_9 flX7_39 (trX7_5 ho) ?_
    refine s_icmp_ge (tgt := 19) dX7_hasHouse_12 rfl (fun hc2 => ?_) (fun hc2 => ?_)
    · have h := ifp hc2 h
      refine s_iconst dX7_hasHouse_19 (cin rfl) ?_
      subst h
      exact s_zreturn dX7_hasHouse_20 rfl (Or.inl rfl) hq
    · have h := ifn hc2 h
      refine s_iconst dX7_hasHouse_15 (cin rfl) ?_
      refine s_goto (tgt := 20) dX7_hasHouse_16 rfl ?_
      subst h
      exact s_zreturn dX7_hasHouse_20 rfl (Or.inr rfl) hq
def gX7_hasHouse : XG := fun As F r F' => ∃ o : Nat, ∃ x1 : Int, ∃ res : Int, As = [vR o, vI x1] ∧ isK o 7 ∧ fX7_hasHouse o x1 F = res ∧ r = some (vI res) ∧ F' = F
theorem ctX7_hasHouse : xCT yX7_hasHouse cX7_hasHouse 2 (some FieldType.boolean) 0 0 gX7_hasHouse := xmet (by decide +kernel) (fun As F r F' hg => by obtain ⟨o, x1, res, rfl, ho, h, rfl, rfl⟩ := hg; exact Nat.le_of_ble_eq_true rfl) (fun As F r F' hg => by obtain ⟨o, x1, res, rfl, ho, h, rfl, rfl⟩ := hg; exact fX7_hasHouse_ok o x1 _ _ ho h ⟨rfl, rfl⟩)
theorem mcX7_hasHouse : Cond.code yX7_hasHouse cX7_hasHouse 2 (some FieldType.boolean) ∈ xw_T ∧ Cond.initialized yX7_hasHouse.cls ∈ xw_T ∧ Cond.instanceMethod yX7_hasHouse ∈ xw_T ∧ Cond.selects yX7_hasHouse.cls yX7_hasHouse yX7_hasHouse ∈ xw_T := ⟨(xinT 726 (by decide +kernel) (by decide +kernel)), (xinT 118 (by decide +kernel) (by decide +kernel)), (xinT 724 (by decide +kernel) (by decide +kernel)), (xinT 725 (by decide +kernel) (by decide +kernel))⟩
theorem clX7_50 {fr lo : Nat} (h1 : 0 + 1 ≤ fr) (h2 : 8 + (2 + 11) + 0 ≤ lo) : xCall RX7 fr lo 0 50 7 1 gX7_hasHouse := ⟨_, _, _, _, _, _, ctX7_hasHouse, h1, h2, mcX7_hasHouse.1, (xinT 723 (by decide +kernel) (by decide +kernel)), mcX7_hasHouse.2.1, ⟨by decide +kernel, by decide +kernel, by decide +kernel⟩, by rw [if_pos rfl]; exact ⟨mcX7_hasHouse.2.2.1, mcX7_hasHouse.2.2.2, _, _, rfl⟩⟩
theorem clX8_50 {fr lo : Nat} (h1 : 0 + 1 ≤ fr) (h2 : 8 + (2 + 11) + 0 ≤ lo) : xCall RX8 fr lo 0 50 7 1 gX7_hasHouse := ⟨_, _, _, _, _, _, ctX7_hasHouse, h1, h2, mcX7_hasHouse.1, (xinT 831 (by decide +kernel) (by decide +kernel)), mcX7_hasHouse.2.1, ⟨by decide +kernel, by decide +kernel, by decide +kernel⟩, by rw [if_pos rfl]; exact ⟨mcX7_hasHouse.2.2.1, mcX7_hasHouse.2.2.2, _, _, rfl⟩⟩
theorem clX9_141 {fr lo : Nat} (h1 : 0 + 1 ≤ fr) (h2 : 8 + (2 + 11) + 0 ≤ lo) : xCall RX9 fr lo 0 141 7 1 gX7_hasHouse := ⟨_, _, _, _, _, _, ctX7_hasHouse, h1, h2, mcX7_hasHouse.1, (xinT 767 (by decide +kernel) (by decide +kernel)), mcX7_hasHouse.2.1, ⟨by decide +kernel, by decide +kernel, by decide +kernel⟩, by rw [if_pos rfl]; exact ⟨mcX7_hasHouse.2.2.1, mcX7_hasHouse.2.2.2, _, _, rfl⟩⟩
theorem dX7_stands_0 : decode cX7_stands 0 = .ok (.iconst 0, 1) := by decide +kernel
theorem dX7_stands_1 : decode cX7_stands 1 = .ok (.istore_n 1, 1) := by decide +kernel
theorem dX7_stands_2 : decode cX7_stands 2 = .ok (.iload_n 1, 1) := by decide +kernel
theorem dX7_stands_3 : decode cX7_stands 3 = .ok (.aload_n 0, 1) := by decide +kernel
theorem dX7_stands_4 : decode cX7_stands 4 = .ok (.getfield 36, 3) := by decide +kernel
theorem dX7_stands_7 : decode cX7_stands 7 = .ok (.getfield 39, 3) := by decide +kernel
theorem dX7_stands_10 : decode cX7_stands 10 = .ok (.if_icmp .ge 43, 3) := by decide +kernel
theorem dX7_stands_13 : decode cX7_stands 13 = .ok (.aload_n 0, 1) := by decide +kernel
theorem dX7_stands_14 : decode cX7_stands 14 = .ok (.aload_n 0, 1) := by decide +kernel
theorem dX7_stands_15 : decode cX7_stands 15 = .ok (.getfield 36, 3) := by decide +kernel
theorem dX7_stands_18 : decode cX7_stands 18 = .ok (.iload_n 1, 1) := by decide +kernel
theorem dX7_stands_19 : decode cX7_stands 19 = .ok (.iconst 0, 1) := by decide +kernel
theorem dX7_stands_20 : decode cX7_stands 20 = .ok (.invokevirtual 46, 3) := by decide +kernel
theorem dX7_stands_23 : decode cX7_stands 23 = .ok (.invokevirtual 50, 3) := by decide +kernel
theorem dX7_stands_26 : decode cX7_stands 26 = .ok (.ifCond .eq 19, 3) := by decide +kernel
theorem dX7_stands_29 : decode cX7_stands 29 = .ok (.aload_n 0, 1) := by decide +kernel
theorem dX7_stands_30 : decode cX7_stands 30 = .ok (.getfield 36, 3) := by decide +kernel
theorem dX7_stands_33 : decode cX7_stands 33 = .ok (.iload_n 1, 1) := by decide +kernel
theorem dX7_stands_34 : decode cX7_stands 34 = .ok (.iconst 2, 1) := by decide +kernel
theorem dX7_stands_35 : decode cX7_stands 35 = .ok (.invokevirtual 46, 3) := by decide +kernel
theorem dX7_stands_38 : decode cX7_stands 38 = .ok (.aload_n 0, 1) := by decide +kernel
theorem dX7_stands_39 : decode cX7_stands 39 = .ok (.getfield 9, 3) := by decide +kernel
theorem dX7_stands_42 : decode cX7_stands 42 = .ok (.if_icmp .le 5, 3) := by decide +kernel
theorem dX7_stands_45 : decode cX7_stands 45 = .ok (.iconst 0, 1) := by decide +kernel
theorem dX7_stands_46 : decode cX7_stands 46 = .ok (.ireturn, 1) := by decide +kernel
theorem dX7_stands_47 : decode cX7_stands 47 = .ok (.iinc 1 1, 3) := by decide +kernel
theorem dX7_stands_50 : decode cX7_stands 50 = .ok (.goto (-48), 3) := by decide +kernel
theorem dX7_stands_53 : decode cX7_stands 53 = .ok (.aload_n 0, 1) := by decide +kernel
theorem dX7_stands_54 : decode cX7_stands 54 = .ok (.aload_n 0, 1) := by decide +kernel
theorem dX7_stands_55 : decode cX7_stands 55 = .ok (.getfield 24, 3) := by decide +kernel
theorem dX7_stands_58 : decode cX7_stands 58 = .ok (.invokevirtual 50, 3) := by decide +kernel
theorem dX7_stands_61 : decode cX7_stands 61 = .ok (.ireturn, 1) := by decide +kernel
def zX7_stands (Qr : Option PV → Mem → Prop) : XZ := (RX7, 1, 22, 2, some FieldType.boolean, Qr)
noncomputable def fX7_stands_b2 (F : Mem) : Nat → Nat → Int → Option Int
  | 0, _, _ => none
  | n + 1, o, x1 =>
    if (F (o + 3) 3) ≤ x1 then
      if (fX7_hasHouse o (F o 4) F) = 0 ∨ (fX7_hasHouse o (F o 4) F) = 1 then
        some (fX7_hasHouse o (F o 4) F)
      else none
    else
      (fX3_cell (o + 3) x1 0 F).bind fun r3 =>
      if (fX7_hasHouse o r3 F) = 0 then
        some 0
      else
        (fX3_cell (o + 3) x1 2 F).bind fun r6 =>
        if r6 ≤ (F o 0) then
          fX7_stands_b2 F n o (xw (x1 + 1))
        else
          some 0
noncomputable def fX7_stands (o : Nat) (F : Mem) : Option Int :=
  fX7_stands_b2 F FU o 0
theorem fX7_stands_b2_ok {Qr : Option PV → Mem → Prop}  (F : Mem) : ∀ (n : Nat) (o : Nat) (x1 : Int) (res : Int) (ho : isK o 7), fX7_stands_b2 F n o x1 = some res → Qr (some (vI res)) F → PR cX7_stands (zX7_stands Qr) 2 [(0, vR o), (1, vI x1)] [] F := by
  intro n
  induction n with
  | zero => intro o x1 res ho h hq; exact nomatch (show (none : Option _) = some _ from h)
  | succ n ih =>
    intro o x1 res ho h hq
    refine s_iload_n (j := 1) dX7_stands_2 rfl rfl ?_
    refine s_aload_n (j := 0) dX7_stands_3 rfl rfl ?_
    refine s_getR dX7_stands_4 flX7_36 ho ?_
    refine s_getI dX7_stands_7 flX7_39 (trX7_6 ho) ?_
    refine s_icmp_ge (tgt := 53) dX7_stands_10 rfl (fun hc1 => ?_) (fun hc1 => ?_)
    · have h := ifp hc1 h
      refine s_aload_n (j := 0) dX7_stands_53 rfl rfl ?_
      refine s_aload_n (j := 0) dX7_stands_54 rfl rfl ?_
      refine s_getI dX7_stands_55 flX7_24 ho ?_
      refine s_callV (As := [vI (F o 4)]) (rest := []) (r := (some (vI (fX7_hasHouse o (F o 4) F)))) (F' := F) dX7_stands_58 (clX7_50 (Nat.le_of_ble_eq_true rfl) (Nat.le_of_ble_eq_true rfl)) ho rfl ⟨_, _, _, rfl, ho, rfl, rfl, rfl⟩ rfl (Nat.le_of_ble_eq_true rfl) ?_
      obtain ⟨hb2, h⟩ := gd h
      have h := Option.some.inj h
      subst h
      exact s_zreturn dX7_stands_61 rfl hb2 hq
    · have h := ifn hc1 h
      refine s_aload_n (j := 0) dX7_stands_13 rfl rfl ?_
      refine s_aload_n (j := 0) dX7_stands_14 rfl rfl ?_
      refine s_getR dX7_stands_15 flX7_36 ho ?_
      refine s_iload_n (j := 1) dX7_stands_18 rfl rfl ?_
      refine s_iconst dX7_stands_19 (cin rfl) ?_
      obtain ⟨r3, hv4, h⟩ := bnd h
      refine s_callV (As := [vI x1, vI 0]) (rest := [vR o]) (r := (some (vI r3))) (F' := F) dX7_stands_20 (clX7_46 (Nat.le_of_ble_eq_true rfl) (Nat.le_of_ble_eq_true rfl)) (trX7_6 ho) rfl ⟨_, _, _, _, rfl, (trX7_6 ho), hv4, rfl, rfl⟩ rfl (Nat.le_of_ble_eq_true rfl) ?_
      refine s_callV (As := [vI r3]) (rest := []) (r := (some (vI (fX7_hasHouse o r3 F)))) (F' := F) dX7_stands_23 (clX7_50 (Nat.le_of_ble_eq_true rfl) (Nat.le_of_ble_eq_true rfl)) ho rfl ⟨_, _, _, rfl, ho, rfl, rfl, rfl⟩ rfl (Nat.le_of_ble_eq_true rfl) ?_
      refine s_if_eq (tgt := 45) dX7_stands_26 rfl (fun hc5 => ?_) (fun hc5 => ?_)
      · have h := ifp hc5 h
        refine s_iconst dX7_stands_45 (cin rfl) ?_
        have h := Option.some.inj h
        subst h
        exact s_zreturn dX7_stands_46 rfl (Or.inl rfl) hq
      · have h := ifn hc5 h
        refine s_aload_n (j := 0) dX7_stands_29 rfl rfl ?_
        refine s_getR dX7_stands_30 flX7_36 ho ?_
        refine s_iload_n (j := 1) dX7_stands_33 rfl rfl ?_
        refine s_iconst dX7_stands_34 (cin rfl) ?_
        obtain ⟨r6, hv7, h⟩ := bnd h
        refine s_callV (As := [vI x1, vI 2]) (rest := []) (r := (some (vI r6))) (F' := F) dX7_stands_35 (clX7_46 (Nat.le_of_ble_eq_true rfl) (Nat.le_of_ble_eq_true rfl)) (trX7_6 ho) rfl ⟨_, _, _, _, rfl, (trX7_6 ho), hv7, rfl, rfl⟩ rfl (Nat.le_of_ble_eq_true rfl) ?_
        refine s_aload_n (j := 0) dX7_stands_38 rfl rfl ?_
        refine s_getI dX7_stands_39 flX7_9 ho ?_
        refine s_icmp_le (tgt := 47) dX7_stands_42 rfl (fun hc8 => ?_) (fun hc8 => ?_)
        · have h := ifp hc8 h
          refine s_iinc (ls' := [(1, vI (xw (x1 + 1))), (0, vR o)]) (j := 1) dX7_stands_47 rfl (Nat.le_of_ble_eq_true rfl) rfl ?_
          refine s_goto (tgt := 2) dX7_stands_50 rfl ?_
          exact s_sub (ks := [1, 0]) rfl (ih o (xw (x1 + 1)) _ ho h hq)
        · have h := ifn hc8 h
          refine s_iconst dX7_stands_45 (cin rfl) ?_
          have h := Option.some.inj h
          subst h
          exact s_zreturn dX7_stands_46 rfl (Or.inl rfl) hq
theorem fX7_stands_ok {Qr : Option PV → Mem → Prop} : ∀ (o : Nat) (F : Mem) (res : Int) (ho : isK o 7), fX7_stands o F = some res → Qr (some (vI res)) F → PR cX7_stands (zX7_stands Qr) 0 [(0, vR o)] [] F := by
  intro o F res ho h hq
  refine s_iconst dX7_stands_0 (cin rfl) ?_
  refine s_istore_n (ls' := [(1, vI 0), (0, vR o)]) dX7_stands_1 rfl (Nat.le_of_ble_eq_true rfl) rfl ?_
  exact s_sub (ks := [1, 0]) rfl (fX7_stands_b2_ok F FU o 0 _ ho h hq)
def gX7_stands : XG := fun As F r F' => ∃ o : Nat, ∃ res : Int, As = [vR o] ∧ isK o 7 ∧ fX7_stands o F = some res ∧ r = some (vI res) ∧ F' = F
theorem ctX7_stands : xCT yX7_stands cX7_stands 2 (some FieldType.boolean) 1 22 gX7_stands := xmet (by decide +kernel) (fun As F r F' hg => by obtain ⟨o, res, rfl, ho, h, rfl, rfl⟩ := hg; exact Nat.le_of_ble_eq_true rfl) (fun As F r F' hg => by obtain ⟨o, res, rfl, ho, h, rfl, rfl⟩ := hg; exact fX7_stands_ok o _ _ ho h ⟨rfl, rfl⟩)
theorem mcX7_stands : Cond.code yX7_stands cX7_stands 2 (some FieldType.boolean) ∈ xw_T ∧ Cond.initialized yX7_stands.cls ∈ xw_T ∧ Cond.instanceMethod yX7_stands ∈ xw_T ∧ Cond.selects yX7_stands.cls yX7_stands yX7_stands ∈ xw_T := ⟨(xinT 718 (by decide +kernel) (by decide +kernel)), (xinT 118 (by decide +kernel) (by decide +kernel)), (xinT 716 (by decide +kernel) (by decide +kernel)), (xinT 717 (by decide +kernel) (by decide +kernel))⟩
theorem clX2_86 {fr lo : Nat} (h1 : 1 + 1 ≤ fr) (h2 : 8 + (2 + 11) + 22 ≤ lo) : xCall RX2 fr lo 0 86 7 0 gX7_stands := ⟨_, _, _, _, _, _, ctX7_stands, h1, h2, mcX7_stands.1, (xinT 715 (by decide +kernel) (by decide +kernel)), mcX7_stands.2.1, ⟨by decide +kernel, by decide +kernel, by decide +kernel⟩, by rw [if_pos rfl]; exact ⟨mcX7_stands.2.2.1, mcX7_stands.2.2.2, _, _, rfl⟩⟩
theorem dX7_copyFrom_0 : decode cX7_copyFrom 0 = .ok (.aload_n 0, 1) := by decide +kernel
theorem dX7_copyFrom_1 : decode cX7_copyFrom 1 = .ok (.aload_n 1, 1) := by decide +kernel
theorem dX7_copyFrom_2 : decode cX7_copyFrom 2 = .ok (.getfield 9, 3) := by decide +kernel
theorem dX7_copyFrom_5 : decode cX7_copyFrom 5 = .ok (.putfield 9, 3) := by decide +kernel
theorem dX7_copyFrom_8 : decode cX7_copyFrom 8 = .ok (.aload_n 0, 1) := by decide +kernel
theorem dX7_copyFrom_9 : decode cX7_copyFrom 9 = .ok (.aload_n 1, 1) := by decide +kernel
theorem dX7_copyFrom_10 : decode cX7_copyFrom 10 = .ok (.getfield 15, 3) := by decide +kernel
theorem dX7_copyFrom_13 : decode cX7_copyFrom 13 = .ok (.putfield 15, 3) := by decide +kernel
theorem dX7_copyFrom_16 : decode cX7_copyFrom 16 = .ok (.aload_n 0, 1) := by decide +kernel
theorem dX7_copyFrom_17 : decode cX7_copyFrom 17 = .ok (.aload_n 1, 1) := by decide +kernel
theorem dX7_copyFrom_18 : decode cX7_copyFrom 18 = .ok (.getfield 18, 3) := by decide +kernel
theorem dX7_copyFrom_21 : decode cX7_copyFrom 21 = .ok (.putfield 18, 3) := by decide +kernel
theorem dX7_copyFrom_24 : decode cX7_copyFrom 24 = .ok (.aload_n 0, 1) := by decide +kernel
theorem dX7_copyFrom_25 : decode cX7_copyFrom 25 = .ok (.aload_n 1, 1) := by decide +kernel
theorem dX7_copyFrom_26 : decode cX7_copyFrom 26 = .ok (.getfield 21, 3) := by decide +kernel
theorem dX7_copyFrom_29 : decode cX7_copyFrom 29 = .ok (.putfield 21, 3) := by decide +kernel
theorem dX7_copyFrom_32 : decode cX7_copyFrom 32 = .ok (.aload_n 0, 1) := by decide +kernel
theorem dX7_copyFrom_33 : decode cX7_copyFrom 33 = .ok (.aload_n 1, 1) := by decide +kernel
theorem dX7_copyFrom_34 : decode cX7_copyFrom 34 = .ok (.getfield 24, 3) := by decide +kernel
theorem dX7_copyFrom_37 : decode cX7_copyFrom 37 = .ok (.putfield 24, 3) := by decide +kernel
theorem dX7_copyFrom_40 : decode cX7_copyFrom 40 = .ok (.aload_n 0, 1) := by decide +kernel
theorem dX7_copyFrom_41 : decode cX7_copyFrom 41 = .ok (.getfield 32, 3) := by decide +kernel
theorem dX7_copyFrom_44 : decode cX7_copyFrom 44 = .ok (.aload_n 1, 1) := by decide +kernel
theorem dX7_copyFrom_45 : decode cX7_copyFrom 45 = .ok (.getfield 32, 3) := by decide +kernel
theorem dX7_copyFrom_48 : decode cX7_copyFrom 48 = .ok (.invokevirtual 42, 3) := by decide +kernel
theorem dX7_copyFrom_51 : decode cX7_copyFrom 51 = .ok (.aload_n 0, 1) := by decide +kernel
theorem dX7_copyFrom_52 : decode cX7_copyFrom 52 = .ok (.getfield 36, 3) := by decide +kernel
theorem dX7_copyFrom_55 : decode cX7_copyFrom 55 = .ok (.aload_n 1, 1) := by decide +kernel
theorem dX7_copyFrom_56 : decode cX7_copyFrom 56 = .ok (.getfield 36, 3) := by decide +kernel
theorem dX7_copyFrom_59 : decode cX7_copyFrom 59 = .ok (.invokevirtual 42, 3) := by decide +kernel
theorem dX7_copyFrom_62 : decode cX7_copyFrom 62 = .ok (.return_, 1) := by decide +kernel
def zX7_copyFrom (Qr : Option PV → Mem → Prop) : XZ := (RX7, 2, 61, 2, none, Qr)
noncomputable def fX7_copyFrom (o : Nat) (x1 : Nat) (F : Mem) : Option Mem :=
  if x1 = 0 then none else
  if x1 = 0 then none else
  if x1 = 0 then none else
  if x1 = 0 then none else
  if x1 = 0 then none else
  if x1 = 0 then none else
  (fX3_copyFrom (o + 1) (x1 + 1) (mset (mset (mset (mset (mset F o 0 (F x1 0)) o 1 ((mset F o 0 (F x1 0)) x1 1)) o 2 ((mset (mset F o 0 (F x1 0)) o 1 ((mset F o 0 (F x1 0)) x1 1)) x1 2)) o 3 ((mset (mset (mset F o 0 (F x1 0)) o 1 ((mset F o 0 (F x1 0)) x1 1)) o 2 ((mset (mset F o 0 (F x1 0)) o 1 ((mset F o 0 (F x1 0)) x1 1)) x1 2)) x1 3)) o 4 ((mset (mset (mset (mset F o 0 (F x1 0)) o 1 ((mset F o 0 (F x1 0)) x1 1)) o 2 ((mset (mset F o 0 (F x1 0)) o 1 ((mset F o 0 (F x1 0)) x1 1)) x1 2)) o 3 ((mset (mset (mset F o 0 (F x1 0)) o 1 ((mset F o 0 (F x1 0)) x1 1)) o 2 ((mset (mset F o 0 (F x1 0)) o 1 ((mset F o 0 (F x1 0)) x1 1)) x1 2)) x1 3)) x1 4))).bind fun q7 =>
  if x1 = 0 then none else
  (fX3_copyFrom (o + 3) (x1 + 3) q7).bind fun q10 =>
  some q10
theorem fX7_copyFrom_ok {Qr : Option PV → Mem → Prop} : ∀ (o : Nat) (x1 : Nat) (F : Mem) (res : Mem) (ho : isK o 7) (hx1 : x1 = 0 ∨ isK x1 7), fX7_copyFrom o x1 F = some res → Qr none res → PR cX7_copyFrom (zX7_copyFrom Qr) 0 [(0, vR o), (1, vR x1)] [] F := by
  intro o x1 F res ho hx1 h hq
  refine s_aload_n (j := 0) dX7_copyFrom_0 rfl rfl ?_
  refine s_aload_n (j := 1) dX7_copyFrom_1 rfl rfl ?_
  obtain ⟨hn1, h⟩ := gdn h
  refine s_getI dX7_copyFrom_2 flX7_9 (hx1.resolve_left hn1) ?_
  refine s_putI dX7_copyFrom_5 flX7_9 fpX7_0 ho ?_
  refine s_aload_n (j := 0) dX7_copyFrom_8 rfl rfl ?_
  refine s_aload_n (j := 1) dX7_copyFrom_9 rfl rfl ?_
  obtain ⟨hn2, h⟩ := gdn h
  refine s_getI dX7_copyFrom_10 flX7_15 (hx1.resolve_left hn2) ?_
  refine s_putI dX7_copyFrom_13 flX7_15 fpX7_1 ho ?_
  refine s_aload_n (j := 0) dX7_copyFrom_16 rfl rfl ?_
  refine s_aload_n (j := 1) dX7_copyFrom_17 rfl rfl ?_
  obtain ⟨hn3, h⟩ := gdn h
  refine s_getI dX7_copyFrom_18 flX7_18 (hx1.resolve_left hn3) ?_
  refine s_putI dX7_copyFrom_21 flX7_18 fpX7_2 ho ?_
  refine s_aload_n (j := 0) dX7_copyFrom_24 rfl rfl ?_
  refine s_aload_n (j := 1) dX7_copyFrom_25 rfl rfl ?_
  obtain ⟨hn4, h⟩ := gdn h
  refine s_getI dX7_copyFrom_26 flX7_21 (hx1.resolve_left hn4) ?_
  refine s_putI dX7_copyFrom_29 flX7_21 fpX7_3 ho ?_
  refine s_aload_n (j := 0) dX7_copyFrom_32 rfl rfl ?_
  refine s_aload_n (j := 1) dX7_copyFrom_33 rfl rfl ?_
  obtain ⟨hn5, h⟩ := gdn h
  refine s_getI dX7_copyFrom_34 flX7_24 (hx1.resolve_left hn5) ?_
  refine s_putI dX7_copyFrom_37 flX7_24 fpX7_4 ho ?_
  refine s_aload_n (j := 0) dX7_copyFrom_40 rfl rfl ?_
  refine s_getR dX7_copyFrom_41 flX7_32 ho ?_
  refine s_aload_n (j := 1) dX7_copyFrom_44 rfl rfl ?_
  obtain ⟨hn6, h⟩ := gdn h
  refine s_getR dX7_copyFrom_45 flX7_32 (hx1.resolve_left hn6) ?_
  obtain ⟨q7, hv8, h⟩ := bnd h
  refine s_callV (As := [vR (x1 + 1)]) (rest := []) (r := none) (F' := q7) dX7_copyFrom_48 (clX7_42 (Nat.le_of_ble_eq_true rfl) (Nat.le_of_ble_eq_true rfl)) (trX7_5 ho) rfl ⟨_, _, _, rfl, (trX7_5 ho), (Or.inr (trX7_5 (hx1.resolve_left hn6))), hv8, rfl, rfl⟩ rfl (Nat.le_of_ble_eq_true rfl) ?_
  refine s_aload_n (j := 0) dX7_copyFrom_51 rfl rfl ?_
  refine s_getR dX7_copyFrom_52 flX7_36 ho ?_
  refine s_aload_n (j := 1) dX7_copyFrom_55 rfl rfl ?_
  obtain ⟨hn9, h⟩ := gdn h
  refine s_getR dX7_copyFrom_56 flX7_36 (hx1.resolve_left hn9) ?_
  obtain ⟨q10, hv11, h⟩ := bnd h
  refine s_callV (As := [vR (x1 + 3)]) (rest := []) (r := none) (F' := q10) dX7_copyFrom_59 (clX7_42 (Nat.le_of_ble_eq_true rfl) (Nat.le_of_ble_eq_true rfl)) (trX7_6 ho) rfl ⟨_, _, _, rfl, (trX7_6 ho), (Or.inr (trX7_6 (hx1.resolve_left hn9))), hv11, rfl, rfl⟩ rfl (Nat.le_of_ble_eq_true rfl) ?_
  have h := Option.some.inj h
  subst h
  exact s_return dX7_copyFrom_62 rfl hq
def gX7_copyFrom : XG := fun As F r F' => ∃ o : Nat, ∃ x1 : Nat, ∃ res : Mem, As = [vR o, vR x1] ∧ isK o 7 ∧ (x1 = 0 ∨ isK x1 7) ∧ fX7_copyFrom o x1 F = some res ∧ r = none ∧ F' = res
theorem ctX7_copyFrom : xCT yX7_copyFrom cX7_copyFrom 2 (none) 2 61 gX7_copyFrom := xmet (by decide +kernel) (fun As F r F' hg => by obtain ⟨o, x1, res, rfl, ho, hx1, h, rfl, rfl⟩ := hg; exact Nat.le_of_ble_eq_true rfl) (fun As F r F' hg => by obtain ⟨o, x1, res, rfl, ho, hx1, h, rfl, rfl⟩ := hg; exact fX7_copyFrom_ok o x1 _ _ ho hx1 h ⟨rfl, rfl⟩)
theorem mcX7_copyFrom : Cond.code yX7_copyFrom cX7_copyFrom 2 (none) ∈ xw_T ∧ Cond.initialized yX7_copyFrom.cls ∈ xw_T ∧ Cond.instanceMethod yX7_copyFrom ∈ xw_T ∧ Cond.selects yX7_copyFrom.cls yX7_copyFrom yX7_copyFrom ∈ xw_T := ⟨(xinT 734 (by decide +kernel) (by decide +kernel)), (xinT 118 (by decide +kernel) (by decide +kernel)), (xinT 732 (by decide +kernel) (by decide +kernel)), (xinT 733 (by decide +kernel) (by decide +kernel))⟩
theorem clX4_57 {fr lo : Nat} (h1 : 2 + 1 ≤ fr) (h2 : 8 + (2 + 11) + 61 ≤ lo) : xCall RX4 fr lo 0 57 7 1 gX7_copyFrom := ⟨_, _, _, _, _, _, ctX7_copyFrom, h1, h2, mcX7_copyFrom.1, (xinT 731 (by decide +kernel) (by decide +kernel)), mcX7_copyFrom.2.1, ⟨by decide +kernel, by decide +kernel, by decide +kernel⟩, by rw [if_pos rfl]; exact ⟨mcX7_copyFrom.2.2.1, mcX7_copyFrom.2.2.2, _, _, rfl⟩⟩
theorem dX7_hasSlots_0 : decode cX7_hasSlots 0 = .ok (.iload_n 1, 1) := by decide +kernel
theorem dX7_hasSlots_1 : decode cX7_hasSlots 1 = .ok (.ifCond .lt 20, 3) := by decide +kernel
theorem dX7_hasSlots_4 : decode cX7_hasSlots 4 = .ok (.iload_n 1, 1) := by decide +kernel
theorem dX7_hasSlots_5 : decode cX7_hasSlots 5 = .ok (.iload_n 2, 1) := by decide +kernel
theorem dX7_hasSlots_6 : decode cX7_hasSlots 6 = .ok (.if_icmp .ge 15, 3) := by decide +kernel
theorem dX7_hasSlots_9 : decode cX7_hasSlots 9 = .ok (.iload_n 2, 1) := by decide +kernel
theorem dX7_hasSlots_10 : decode cX7_hasSlots 10 = .ok (.aload_n 0, 1) := by decide +kernel
theorem dX7_hasSlots_11 : decode cX7_hasSlots 11 = .ok (.getfield 9, 3) := by decide +kernel
theorem dX7_hasSlots_14 : decode cX7_hasSlots 14 = .ok (.if_icmp .gt 7, 3) := by decide +kernel
theorem dX7_hasSlots_17 : decode cX7_hasSlots 17 = .ok (.iconst 1, 1) := by decide +kernel
theorem dX7_hasSlots_18 : decode cX7_hasSlots 18 = .ok (.goto 4, 3) := by decide +kernel
theorem dX7_hasSlots_21 : decode cX7_hasSlots 21 = .ok (.iconst 0, 1) := by decide +kernel
theorem dX7_hasSlots_22 : decode cX7_hasSlots 22 = .ok (.ireturn, 1) := by decide +kernel
def zX7_hasSlots (Qr : Option PV → Mem → Prop) : XZ := (RX7, 0, 0, 3, some FieldType.boolean, Qr)
noncomputable def fX7_hasSlots (o : Nat) (x1 : Int) (x2 : Int) (F : Mem) : Int :=
  if x1 < 0 then
    0
  else
    if x2 ≤ x1 then
      0
    else
      if (F o 0) < x2 then
        0
      else
        1
theorem fX7_hasSlots_ok {Qr : Option PV → Mem → Prop} : ∀ (o : Nat) (x1 : Int) (x2 : Int) (F : Mem) (res : Int) (ho : isK o 7), fX7_hasSlots o x1 x2 F = res → Qr (some (vI res)) F → PR cX7_hasSlots (zX7_hasSlots Qr) 0 [(0, vR o), (1, vI x1), (2, vI x2)] [] F := by
  intro o x1 x2 F res ho h hq
  refine s_iload_n (j := 1) dX7_hasSlots_0 rfl rfl ?_
  refine s_if_lt (tgt := 21) dX7_hasSlots_1 rfl (fun hc1 => ?_) (fun hc1 => ?_)
  · have h := ifp hc1 h
    refine s_iconst dX7_hasSlots_21 (cin rfl) ?_
    subst h
    exact s_zreturn dX7_hasSlots_22 rfl (Or.inl rfl) hq
  · have h := ifn hc1 h
    refine s_iload_n (j := 1) dX7_hasSlots_4 rfl rfl ?_
    refine s_iload_n (j := 2) dX7_hasSlots_5 rfl rfl ?_
    refine s_icmp_ge (tgt := 21) dX7_hasSlots_6 rfl (fun hc2 => ?_) (fun hc2 => ?_)
    · have h := ifp hc2 h
      refine s_iconst dX7_hasSlots_21 (cin rfl) ?_
      subst h
      exact s_zreturn dX7_hasSlots_22 rfl (Or.inl rfl) hq
    · have h := ifn hc2 h
      refine s_iload_n (j := 2) dX7_hasSlots_9 rfl rfl ?_
      refine s_aload_n (j := 0) dX7_hasSlots_10 rfl rfl ?_
      refine s_getI dX7_hasSlots_11 flX7_9 ho ?_
      refine s_icmp_gt (tgt := 21) dX7_hasSlots_14 rfl (fun hc3 => ?_) (fun hc3 => ?_)
      · have h := ifp hc3 h
        refine s_iconst dX7_hasSlots_21 (cin rfl) ?_
        subst h
        exact s_zreturn dX7_hasSlots_22 rfl (Or.inl rfl) hq
      · have h := ifn hc3 h
        refine s_iconst dX7_hasSlots_17 (cin rfl) ?_
        refine s_goto (tgt := 22) dX7_hasSlots_18 rfl ?_
        subst h
        exact s_zreturn dX7_hasSlots_22 rfl (Or.inr rfl) hq
def gX7_hasSlots : XG := fun As F r F' => ∃ o : Nat, ∃ x1 : Int, ∃ x2 : Int, ∃ res : Int, As = [vR o, vI x1, vI x2] ∧ isK o 7 ∧ fX7_hasSlots o x1 x2 F = res ∧ r = some (vI res) ∧ F' = F
theorem ctX7_hasSlots : xCT yX7_hasSlots cX7_hasSlots 3 (some FieldType.boolean) 0 0 gX7_hasSlots := xmet (by decide +kernel) (fun As F r F' hg => by obtain ⟨o, x1, x2, res, rfl, ho, h, rfl, rfl⟩ := hg; exact Nat.le_of_ble_eq_true rfl) (fun As F r F' hg => by obtain ⟨o, x1, x2, res, rfl, ho, h, rfl, rfl⟩ := hg; exact fX7_hasSlots_ok o x1 x2 _ _ ho h ⟨rfl, rfl⟩)
theorem mcX7_hasSlots : Cond.code yX7_hasSlots cX7_hasSlots 3 (some FieldType.boolean) ∈ xw_T ∧ Cond.initialized yX7_hasSlots.cls ∈ xw_T ∧ Cond.instanceMethod yX7_hasSlots ∈ xw_T ∧ Cond.selects yX7_hasSlots.cls yX7_hasSlots yX7_hasSlots ∈ xw_T := ⟨(xinT 1114 (by decide +kernel) (by decide +kernel)), (xinT 118 (by decide +kernel) (by decide +kernel)), (xinT 1112 (by decide +kernel) (by decide +kernel)), (xinT 1113 (by decide +kernel) (by decide +kernel))⟩
theorem clX9_269 {fr lo : Nat} (h1 : 0 + 1 ≤ fr) (h2 : 8 + (3 + 11) + 0 ≤ lo) : xCall RX9 fr lo 0 269 7 2 gX7_hasSlots := ⟨_, _, _, _, _, _, ctX7_hasSlots, h1, h2, mcX7_hasSlots.1, (xinT 1111 (by decide +kernel) (by decide +kernel)), mcX7_hasSlots.2.1, ⟨by decide +kernel, by decide +kernel, by decide +kernel⟩, by rw [if_pos rfl]; exact ⟨mcX7_hasSlots.2.2.1, mcX7_hasSlots.2.2.2, _, _, rfl⟩⟩
