theorem dX10_houseOf_0 : decode cX10_houseOf 0 = .ok (.aload_n 0, 1) := by decide +kernel
theorem dX10_houseOf_1 : decode cX10_houseOf 1 = .ok (.getfield 7, 3) := by decide +kernel
theorem dX10_houseOf_4 : decode cX10_houseOf 4 = .ok (.aload_n 0, 1) := by decide +kernel
theorem dX10_houseOf_5 : decode cX10_houseOf 5 = .ok (.getfield 172, 3) := by decide +kernel
theorem dX10_houseOf_8 : decode cX10_houseOf 8 = .ok (.bipush 8, 2) := by decide +kernel
theorem dX10_houseOf_10 : decode cX10_houseOf 10 = .ok (.iadd, 1) := by decide +kernel
theorem dX10_houseOf_11 : decode cX10_houseOf 11 = .ok (.iconst 4, 1) := by decide +kernel
theorem dX10_houseOf_12 : decode cX10_houseOf 12 = .ok (.iload_n 1, 1) := by decide +kernel
theorem dX10_houseOf_13 : decode cX10_houseOf 13 = .ok (.imul, 1) := by decide +kernel
theorem dX10_houseOf_14 : decode cX10_houseOf 14 = .ok (.iadd, 1) := by decide +kernel
theorem dX10_houseOf_15 : decode cX10_houseOf 15 = .ok (.iload_n 2, 1) := by decide +kernel
theorem dX10_houseOf_16 : decode cX10_houseOf 16 = .ok (.iadd, 1) := by decide +kernel
theorem dX10_houseOf_17 : decode cX10_houseOf 17 = .ok (.iaload, 1) := by decide +kernel
theorem dX10_houseOf_18 : decode cX10_houseOf 18 = .ok (.ireturn, 1) := by decide +kernel
def zX10_houseOf (Qr : Option PV → Mem → Prop) : XZ := (RX10, 0, 0, 3, some FieldType.int, Qr)
noncomputable def fX10_houseOf (o : Nat) (x1 : Int) (x2 : Int) (F : Mem) : Option Int :=
  if (0 : Int) ≤ (xw ((xw ((xw ((F o 10) + 8)) + (xw (4 * x1)))) + x2)) ∧ (xw ((xw ((xw ((F o 10) + 8)) + (xw (4 * x1)))) + x2)) < (alen (o + 1) : Int) then
    some (F (o + 1) (xw ((xw ((xw ((F o 10) + 8)) + (xw (4 * x1)))) + x2)).toNat)
  else none
theorem fX10_houseOf_ok {Qr : Option PV → Mem → Prop} : ∀ (o : Nat) (x1 : Int) (x2 : Int) (F : Mem) (res : Int) (ho : isK o 10), fX10_houseOf o x1 x2 F = some res → Qr (some (vI res)) F → PR cX10_houseOf (zX10_houseOf Qr) 0 [(0, vR o), (1, vI x1), (2, vI x2)] [] F := by
  intro o x1 x2 F res ho h hq
  refine s_aload_n (j := 0) dX10_houseOf_0 rfl rfl ?_
  refine s_getR dX10_houseOf_1 flX10_7 ho ?_
  refine s_aload_n (j := 0) dX10_houseOf_4 rfl rfl ?_
  refine s_getI dX10_houseOf_5 flX10_172 ho ?_
  refine s_bipush dX10_houseOf_8 rfl (cin rfl) ?_
  refine s_iadd dX10_houseOf_10 ?_
  refine s_iconst dX10_houseOf_11 (cin rfl) ?_
  refine s_iload_n (j := 1) dX10_houseOf_12 rfl rfl ?_
  refine s_imul dX10_houseOf_13 ?_
  refine s_iadd dX10_houseOf_14 ?_
  refine s_iload_n (j := 2) dX10_houseOf_15 rfl rfl ?_
  refine s_iadd dX10_houseOf_16 ?_
  obtain ⟨hb1, h⟩ := gd h
  refine s_iaload dX10_houseOf_17 (trX10_0 ho) hb1.1 hb1.2 ?_
  have h := Option.some.inj h
  subst h
  exact s_ireturn dX10_houseOf_18 rfl hq
def gX10_houseOf : XG := fun As F r F' => ∃ o : Nat, ∃ x1 : Int, ∃ x2 : Int, ∃ res : Int, As = [vR o, vI x1, vI x2] ∧ isK o 10 ∧ fX10_houseOf o x1 x2 F = some res ∧ r = some (vI res) ∧ F' = F
theorem ctX10_houseOf : xCT yX10_houseOf cX10_houseOf 3 (some FieldType.int) 0 0 gX10_houseOf := xmet (by decide +kernel) (fun As F r F' hg => by obtain ⟨o, x1, x2, res, rfl, ho, h, rfl, rfl⟩ := hg; exact Nat.le_of_ble_eq_true rfl) (fun As F r F' hg => by obtain ⟨o, x1, x2, res, rfl, ho, h, rfl, rfl⟩ := hg; exact fX10_houseOf_ok o x1 x2 _ _ ho h ⟨rfl, rfl⟩)
theorem mcX10_houseOf : Cond.code yX10_houseOf cX10_houseOf 3 (some FieldType.int) ∈ xw_T ∧ Cond.initialized yX10_houseOf.cls ∈ xw_T ∧ Cond.instanceMethod yX10_houseOf ∈ xw_T ∧ Cond.selects yX10_houseOf.cls yX10_houseOf yX10_houseOf ∈ xw_T := ⟨(xinT 1604 (by decide +kernel) (by decide +kernel)), (xinT 127 (by decide +kernel) (by decide +kernel)), (xinT 1603 (by decide +kernel) (by decide +kernel)), (xinT 60 (by decide +kernel) (by decide +kernel))⟩
theorem clX10_175 {fr lo : Nat} (h1 : 0 + 1 ≤ fr) (h2 : 8 + (3 + 11) + 0 ≤ lo) : xCall RX10 fr lo 0 175 10 2 gX10_houseOf := ⟨_, _, _, _, _, _, ctX10_houseOf, h1, h2, mcX10_houseOf.1, (xinT 1601 (by decide +kernel) (by decide +kernel)), mcX10_houseOf.2.1, ⟨by decide +kernel, by decide +kernel, by decide +kernel⟩, by rw [if_pos rfl]; exact ⟨mcX10_houseOf.2.2.1, mcX10_houseOf.2.2.2, _, _, rfl⟩⟩
theorem dX10_kindOf_0 : decode cX10_kindOf 0 = .ok (.iload_n 1, 1) := by decide +kernel
theorem dX10_kindOf_1 : decode cX10_kindOf 1 = .ok (.aload_n 0, 1) := by decide +kernel
theorem dX10_kindOf_2 : decode cX10_kindOf 2 = .ok (.getfield 20, 3) := by decide +kernel
theorem dX10_kindOf_5 : decode cX10_kindOf 5 = .ok (.if_icmp .eq 11, 3) := by decide +kernel
theorem dX10_kindOf_8 : decode cX10_kindOf 8 = .ok (.iload_n 1, 1) := by decide +kernel
theorem dX10_kindOf_9 : decode cX10_kindOf 9 = .ok (.aload_n 0, 1) := by decide +kernel
theorem dX10_kindOf_10 : decode cX10_kindOf 10 = .ok (.getfield 24, 3) := by decide +kernel
theorem dX10_kindOf_13 : decode cX10_kindOf 13 = .ok (.if_icmp .ne 7, 3) := by decide +kernel
theorem dX10_kindOf_16 : decode cX10_kindOf 16 = .ok (.iconst 0, 1) := by decide +kernel
theorem dX10_kindOf_17 : decode cX10_kindOf 17 = .ok (.goto 9, 3) := by decide +kernel
theorem dX10_kindOf_20 : decode cX10_kindOf 20 = .ok (.aload_n 0, 1) := by decide +kernel
theorem dX10_kindOf_21 : decode cX10_kindOf 21 = .ok (.iload_n 1, 1) := by decide +kernel
theorem dX10_kindOf_22 : decode cX10_kindOf 22 = .ok (.iconst 1, 1) := by decide +kernel
theorem dX10_kindOf_23 : decode cX10_kindOf 23 = .ok (.invokevirtual 175, 3) := by decide +kernel
theorem dX10_kindOf_26 : decode cX10_kindOf 26 = .ok (.ireturn, 1) := by decide +kernel
def zX10_kindOf (Qr : Option PV → Mem → Prop) : XZ := (RX10, 1, 22, 2, some FieldType.int, Qr)
noncomputable def fX10_kindOf (o : Nat) (x1 : Int) (F : Mem) : Option Int :=
  if x1 = (F o 11) then
    some 0
  else
    if x1 ≠ (F o 13) then
      (fX10_houseOf o x1 1 F).bind fun r3 =>
      some r3
    else
      some 0
theorem fX10_kindOf_ok {Qr : Option PV → Mem → Prop} : ∀ (o : Nat) (x1 : Int) (F : Mem) (res : Int) (ho : isK o 10), fX10_kindOf o x1 F = some res → Qr (some (vI res)) F → PR cX10_kindOf (zX10_kindOf Qr) 0 [(0, vR o), (1, vI x1)] [] F := by
  intro o x1 F res ho h hq
  refine s_iload_n (j := 1) dX10_kindOf_0 rfl rfl ?_
  refine s_aload_n (j := 0) dX10_kindOf_1 rfl rfl ?_
  refine s_getI dX10_kindOf_2 flX10_20 ho ?_
  refine s_icmp_eq (tgt := 16) dX10_kindOf_5 rfl (fun hc1 => ?_) (fun hc1 => ?_)
  · have h := ifp hc1 h
    refine s_iconst dX10_kindOf_16 (cin rfl) ?_
    refine s_goto (tgt := 26) dX10_kindOf_17 rfl ?_
    have h := Option.some.inj h
    subst h
    exact s_ireturn dX10_kindOf_26 rfl hq
  · have h := ifn hc1 h
    refine s_iload_n (j := 1) dX10_kindOf_8 rfl rfl ?_
    refine s_aload_n (j := 0) dX10_kindOf_9 rfl rfl ?_
    refine s_getI dX10_kindOf_10 flX10_24 ho ?_
    refine s_icmp_ne (tgt := 20) dX10_kindOf_13 rfl (fun hc2 => ?_) (fun hc2 => ?_)
    · have h := ifp hc2 h
      refine s_aload_n (j := 0) dX10_kindOf_20 rfl rfl ?_
      refine s_iload_n (j := 1) dX10_kindOf_21 rfl rfl ?_
      refine s_iconst dX10_kindOf_22 (cin rfl) ?_
      obtain ⟨r3, hv4, h⟩ := bnd h
      refine s_callV (As := [vI x1, vI 1]) (rest := []) (r := (some (vI r3))) (F' := F) dX10_kindOf_23 (clX10_175 (Nat.le_of_ble_eq_true rfl) (Nat.le_of_ble_eq_true rfl)) ho rfl ⟨_, _, _, _, rfl, ho, hv4, rfl, rfl⟩ rfl (Nat.le_of_ble_eq_true rfl) ?_
      have h := Option.some.inj h
      subst h
      exact s_ireturn dX10_kindOf_26 rfl hq
    · have h := ifn hc2 h
      refine s_iconst dX10_kindOf_16 (cin rfl) ?_
      refine s_goto (tgt := 26) dX10_kindOf_17 rfl ?_
      have h := Option.some.inj h
      subst h
      exact s_ireturn dX10_kindOf_26 rfl hq
def gX10_kindOf : XG := fun As F r F' => ∃ o : Nat, ∃ x1 : Int, ∃ res : Int, As = [vR o, vI x1] ∧ isK o 10 ∧ fX10_kindOf o x1 F = some res ∧ r = some (vI res) ∧ F' = F
theorem ctX10_kindOf : xCT yX10_kindOf cX10_kindOf 2 (some FieldType.int) 1 22 gX10_kindOf := xmet (by decide +kernel) (fun As F r F' hg => by obtain ⟨o, x1, res, rfl, ho, h, rfl, rfl⟩ := hg; exact Nat.le_of_ble_eq_true rfl) (fun As F r F' hg => by obtain ⟨o, x1, res, rfl, ho, h, rfl, rfl⟩ := hg; exact fX10_kindOf_ok o x1 _ _ ho h ⟨rfl, rfl⟩)
theorem mcX10_kindOf : Cond.code yX10_kindOf cX10_kindOf 2 (some FieldType.int) ∈ xw_T ∧ Cond.initialized yX10_kindOf.cls ∈ xw_T ∧ Cond.instanceMethod yX10_kindOf ∈ xw_T ∧ Cond.selects yX10_kindOf.cls yX10_kindOf yX10_kindOf ∈ xw_T := ⟨(xinT 1648 (by decide +kernel) (by decide +kernel)), (xinT 127 (by decide +kernel) (by decide +kernel)), (xinT 1647 (by decide +kernel) (by decide +kernel)), (xinT 68 (by decide +kernel) (by decide +kernel))⟩
theorem clX10_202 {fr lo : Nat} (h1 : 1 + 1 ≤ fr) (h2 : 8 + (2 + 11) + 22 ≤ lo) : xCall RX10 fr lo 0 202 10 1 gX10_kindOf := ⟨_, _, _, _, _, _, ctX10_kindOf, h1, h2, mcX10_kindOf.1, (xinT 1645 (by decide +kernel) (by decide +kernel)), mcX10_kindOf.2.1, ⟨by decide +kernel, by decide +kernel, by decide +kernel⟩, by rw [if_pos rfl]; exact ⟨mcX10_kindOf.2.2.1, mcX10_kindOf.2.2.2, _, _, rfl⟩⟩
theorem dX10_pace_0 : decode cX10_pace 0 = .ok (.aload_n 0, 1) := by decide +kernel
theorem dX10_pace_1 : decode cX10_pace 1 = .ok (.getfield 178, 3) := by decide +kernel
theorem dX10_pace_4 : decode cX10_pace 4 = .ok (.ifCond .le 10, 3) := by decide +kernel
theorem dX10_pace_7 : decode cX10_pace 7 = .ok (.aload_n 0, 1) := by decide +kernel
theorem dX10_pace_8 : decode cX10_pace 8 = .ok (.getfield 178, 3) := by decide +kernel
theorem dX10_pace_11 : decode cX10_pace 11 = .ok (.goto 8, 3) := by decide +kernel
theorem dX10_pace_14 : decode cX10_pace 14 = .ok (.aload_n 0, 1) := by decide +kernel
theorem dX10_pace_15 : decode cX10_pace 15 = .ok (.iconst 1, 1) := by decide +kernel
theorem dX10_pace_16 : decode cX10_pace 16 = .ok (.invokevirtual 181, 3) := by decide +kernel
theorem dX10_pace_19 : decode cX10_pace 19 = .ok (.ireturn, 1) := by decide +kernel
def zX10_pace (Qr : Option PV → Mem → Prop) : XZ := (RX10, 1, 21, 1, some FieldType.int, Qr)
noncomputable def fX10_pace (o : Nat) (F : Mem) : Option Int :=
  if (F o 12) ≤ 0 then
    (fX10_of o 1 F).bind fun r2 =>
    some r2
  else
    some (F o 12)
theorem fX10_pace_ok {Qr : Option PV → Mem → Prop} : ∀ (o : Nat) (F : Mem) (res : Int) (ho : isK o 10), fX10_pace o F = some res → Qr (some (vI res)) F → PR cX10_pace (zX10_pace Qr) 0 [(0, vR o)] [] F := by
  intro o F res ho h hq
  refine s_aload_n (j := 0) dX10_pace_0 rfl rfl ?_
  refine s_getI dX10_pace_1 flX10_178 ho ?_
  refine s_if_le (tgt := 14) dX10_pace_4 rfl (fun hc1 => ?_) (fun hc1 => ?_)
  · have h := ifp hc1 h
    refine s_aload_n (j := 0) dX10_pace_14 rfl rfl ?_
    refine s_iconst dX10_pace_15 (cin rfl) ?_
    obtain ⟨r2, hv3, h⟩ := bnd h
    refine s_callV (As := [vI 1]) (rest := []) (r := (some (vI r2))) (F' := F) dX10_pace_16 (clX10_181 (Nat.le_of_ble_eq_true rfl) (Nat.le_of_ble_eq_true rfl)) ho rfl ⟨_, _, _, rfl, ho, hv3, rfl, rfl⟩ rfl (Nat.le_of_ble_eq_true rfl) ?_
    have h := Option.some.inj h
    subst h
    exact s_ireturn dX10_pace_19 rfl hq
  · have h := ifn hc1 h
    refine s_aload_n (j := 0) dX10_pace_7 rfl rfl ?_
    refine s_getI dX10_pace_8 flX10_178 ho ?_
    refine s_goto (tgt := 19) dX10_pace_11 rfl ?_
    have h := Option.some.inj h
    subst h
    exact s_ireturn dX10_pace_19 rfl hq
def gX10_pace : XG := fun As F r F' => ∃ o : Nat, ∃ res : Int, As = [vR o] ∧ isK o 10 ∧ fX10_pace o F = some res ∧ r = some (vI res) ∧ F' = F
theorem ctX10_pace : xCT yX10_pace cX10_pace 1 (some FieldType.int) 1 21 gX10_pace := xmet (by decide +kernel) (fun As F r F' hg => by obtain ⟨o, res, rfl, ho, h, rfl, rfl⟩ := hg; exact Nat.le_of_ble_eq_true rfl) (fun As F r F' hg => by obtain ⟨o, res, rfl, ho, h, rfl, rfl⟩ := hg; exact fX10_pace_ok o _ _ ho h ⟨rfl, rfl⟩)
theorem mcX10_pace : Cond.code yX10_pace cX10_pace 1 (some FieldType.int) ∈ xw_T ∧ Cond.initialized yX10_pace.cls ∈ xw_T ∧ Cond.instanceMethod yX10_pace ∈ xw_T ∧ Cond.selects yX10_pace.cls yX10_pace yX10_pace ∈ xw_T := ⟨(xinT 1620 (by decide +kernel) (by decide +kernel)), (xinT 127 (by decide +kernel) (by decide +kernel)), (xinT 1619 (by decide +kernel) (by decide +kernel)), (xinT 63 (by decide +kernel) (by decide +kernel))⟩
theorem clX10_195 {fr lo : Nat} (h1 : 1 + 1 ≤ fr) (h2 : 8 + (1 + 11) + 21 ≤ lo) : xCall RX10 fr lo 0 195 10 0 gX10_pace := ⟨_, _, _, _, _, _, ctX10_pace, h1, h2, mcX10_pace.1, (xinT 1617 (by decide +kernel) (by decide +kernel)), mcX10_pace.2.1, ⟨by decide +kernel, by decide +kernel, by decide +kernel⟩, by rw [if_pos rfl]; exact ⟨mcX10_pace.2.2.1, mcX10_pace.2.2.2, _, _, rfl⟩⟩
theorem dX10_mustOf_0 : decode cX10_mustOf 0 = .ok (.aload_n 0, 1) := by decide +kernel
theorem dX10_mustOf_1 : decode cX10_mustOf 1 = .ok (.getfield 7, 3) := by decide +kernel
theorem dX10_mustOf_4 : decode cX10_mustOf 4 = .ok (.aload_n 0, 1) := by decide +kernel
theorem dX10_mustOf_5 : decode cX10_mustOf 5 = .ok (.getfield 172, 3) := by decide +kernel
theorem dX10_mustOf_8 : decode cX10_mustOf 8 = .ok (.bipush 40, 2) := by decide +kernel
theorem dX10_mustOf_10 : decode cX10_mustOf 10 = .ok (.iadd, 1) := by decide +kernel
theorem dX10_mustOf_11 : decode cX10_mustOf 11 = .ok (.iconst 3, 1) := by decide +kernel
theorem dX10_mustOf_12 : decode cX10_mustOf 12 = .ok (.iload_n 1, 1) := by decide +kernel
theorem dX10_mustOf_13 : decode cX10_mustOf 13 = .ok (.imul, 1) := by decide +kernel
theorem dX10_mustOf_14 : decode cX10_mustOf 14 = .ok (.iadd, 1) := by decide +kernel
theorem dX10_mustOf_15 : decode cX10_mustOf 15 = .ok (.iload_n 2, 1) := by decide +kernel
theorem dX10_mustOf_16 : decode cX10_mustOf 16 = .ok (.iadd, 1) := by decide +kernel
theorem dX10_mustOf_17 : decode cX10_mustOf 17 = .ok (.iaload, 1) := by decide +kernel
theorem dX10_mustOf_18 : decode cX10_mustOf 18 = .ok (.ireturn, 1) := by decide +kernel
def zX10_mustOf (Qr : Option PV → Mem → Prop) : XZ := (RX10, 0, 0, 3, some FieldType.int, Qr)
noncomputable def fX10_mustOf (o : Nat) (x1 : Int) (x2 : Int) (F : Mem) : Option Int :=
  if (0 : Int) ≤ (xw ((xw ((xw ((F o 10) + 40)) + (xw (3 * x1)))) + x2)) ∧ (xw ((xw ((xw ((F o 10) + 40)) + (xw (3 * x1)))) + x2)) < (alen (o + 1) : Int) then
    some (F (o + 1) (xw ((xw ((xw ((F o 10) + 40)) + (xw (3 * x1)))) + x2)).toNat)
  else none
theorem fX10_mustOf_ok {Qr : Option PV → Mem → Prop} : ∀ (o : Nat) (x1 : Int) (x2 : Int) (F : Mem) (res : Int) (ho : isK o 10), fX10_mustOf o x1 x2 F = some res → Qr (some (vI res)) F → PR cX10_mustOf (zX10_mustOf Qr) 0 [(0, vR o), (1, vI x1), (2, vI x2)] [] F := by
  intro o x1 x2 F res ho h hq
  refine s_aload_n (j := 0) dX10_mustOf_0 rfl rfl ?_
  refine s_getR dX10_mustOf_1 flX10_7 ho ?_
  refine s_aload_n (j := 0) dX10_mustOf_4 rfl rfl ?_
  refine s_getI dX10_mustOf_5 flX10_172 ho ?_
  refine s_bipush dX10_mustOf_8 rfl (cin rfl) ?_
  refine s_iadd dX10_mustOf_10 ?_
  refine s_iconst dX10_mustOf_11 (cin rfl) ?_
  refine s_iload_n (j := 1) dX10_mustOf_12 rfl rfl ?_
  refine s_imul dX10_mustOf_13 ?_
  refine s_iadd dX10_mustOf_14 ?_
  refine s_iload_n (j := 2) dX10_mustOf_15 rfl rfl ?_
  refine s_iadd dX10_mustOf_16 ?_
  obtain ⟨hb1, h⟩ := gd h
  refine s_iaload dX10_mustOf_17 (trX10_0 ho) hb1.1 hb1.2 ?_
  have h := Option.some.inj h
  subst h
  exact s_ireturn dX10_mustOf_18 rfl hq
def gX10_mustOf : XG := fun As F r F' => ∃ o : Nat, ∃ x1 : Int, ∃ x2 : Int, ∃ res : Int, As = [vR o, vI x1, vI x2] ∧ isK o 10 ∧ fX10_mustOf o x1 x2 F = some res ∧ r = some (vI res) ∧ F' = F
theorem ctX10_mustOf : xCT yX10_mustOf cX10_mustOf 3 (some FieldType.int) 0 0 gX10_mustOf := xmet (by decide +kernel) (fun As F r F' hg => by obtain ⟨o, x1, x2, res, rfl, ho, h, rfl, rfl⟩ := hg; exact Nat.le_of_ble_eq_true rfl) (fun As F r F' hg => by obtain ⟨o, x1, x2, res, rfl, ho, h, rfl, rfl⟩ := hg; exact fX10_mustOf_ok o x1 x2 _ _ ho h ⟨rfl, rfl⟩)
theorem mcX10_mustOf : Cond.code yX10_mustOf cX10_mustOf 3 (some FieldType.int) ∈ xw_T ∧ Cond.initialized yX10_mustOf.cls ∈ xw_T ∧ Cond.instanceMethod yX10_mustOf ∈ xw_T ∧ Cond.selects yX10_mustOf.cls yX10_mustOf yX10_mustOf ∈ xw_T := ⟨(xinT 1592 (by decide +kernel) (by decide +kernel)), (xinT 127 (by decide +kernel) (by decide +kernel)), (xinT 1591 (by decide +kernel) (by decide +kernel)), (xinT 58 (by decide +kernel) (by decide +kernel))⟩
theorem clX10_186 {fr lo : Nat} (h1 : 0 + 1 ≤ fr) (h2 : 8 + (3 + 11) + 0 ≤ lo) : xCall RX10 fr lo 0 186 10 2 gX10_mustOf := ⟨_, _, _, _, _, _, ctX10_mustOf, h1, h2, mcX10_mustOf.1, (xinT 1589 (by decide +kernel) (by decide +kernel)), mcX10_mustOf.2.1, ⟨by decide +kernel, by decide +kernel, by decide +kernel⟩, by rw [if_pos rfl]; exact ⟨mcX10_mustOf.2.2.1, mcX10_mustOf.2.2.2, _, _, rfl⟩⟩
theorem dX10_isHouse_0 : decode cX10_isHouse 0 = .ok (.iload_n 1, 1) := by decide +kernel
theorem dX10_isHouse_1 : decode cX10_isHouse 1 = .ok (.iconst 0, 1) := by decide +kernel
theorem dX10_isHouse_2 : decode cX10_isHouse 2 = .ok (.aload_n 0, 1) := by decide +kernel
theorem dX10_isHouse_3 : decode cX10_isHouse 3 = .ok (.iconst 5, 1) := by decide +kernel
theorem dX10_isHouse_4 : decode cX10_isHouse 4 = .ok (.invokevirtual 181, 3) := by decide +kernel
theorem dX10_isHouse_7 : decode cX10_isHouse 7 = .ok (.iconst 1, 1) := by decide +kernel
theorem dX10_isHouse_8 : decode cX10_isHouse 8 = .ok (.isub, 1) := by decide +kernel
theorem dX10_isHouse_9 : decode cX10_isHouse 9 = .ok (.invokestatic 115, 3) := by decide +kernel
theorem dX10_isHouse_12 : decode cX10_isHouse 12 = .ok (.ireturn, 1) := by decide +kernel
def zX10_isHouse (Qr : Option PV → Mem → Prop) : XZ := (RX10, 1, 22, 2, some FieldType.boolean, Qr)
noncomputable def fX10_isHouse (o : Nat) (x1 : Int) (F : Mem) : Option Int :=
  (fX10_of o 5 F).bind fun r1 =>
  if (fX10_isIn x1 0 (xw (r1 - 1))) = 0 ∨ (fX10_isIn x1 0 (xw (r1 - 1))) = 1 then
    some (fX10_isIn x1 0 (xw (r1 - 1)))
  else none
theorem fX10_isHouse_ok {Qr : Option PV → Mem → Prop} : ∀ (o : Nat) (x1 : Int) (F : Mem) (res : Int) (ho : isK o 10), fX10_isHouse o x1 F = some res → Qr (some (vI res)) F → PR cX10_isHouse (zX10_isHouse Qr) 0 [(0, vR o), (1, vI x1)] [] F := by
  intro o x1 F res ho h hq
  refine s_iload_n (j := 1) dX10_isHouse_0 rfl rfl ?_
  refine s_iconst dX10_isHouse_1 (cin rfl) ?_
  refine s_aload_n (j := 0) dX10_isHouse_2 rfl rfl ?_
  refine s_iconst dX10_isHouse_3 (cin rfl) ?_
  obtain ⟨r1, hv2, h⟩ := bnd h
  refine s_callV (As := [vI 5]) (rest := [vI 0, vI x1]) (r := (some (vI r1))) (F' := F) dX10_isHouse_4 (clX10_181 (Nat.le_of_ble_eq_true rfl) (Nat.le_of_ble_eq_true rfl)) ho rfl ⟨_, _, _, rfl, ho, hv2, rfl, rfl⟩ rfl (Nat.le_of_ble_eq_true rfl) ?_
  refine s_iconst dX10_isHouse_7 (cin rfl) ?_
  refine s_isub dX10_isHouse_8 ?_
  refine s_callS (As := [vI x1, vI 0, vI (xw (r1 - 1))]) (rest := []) (r := (some (vI (fX10_isIn x1 0 (xw (r1 - 1)))))) (F' := F) dX10_isHouse_9 (clX10_115 (Nat.le_of_ble_eq_true rfl) (Nat.le_of_ble_eq_true rfl)) rfl ⟨_, _, _, _, rfl, rfl, rfl, rfl⟩ rfl (Nat.le_of_ble_eq_true rfl) ?_
  obtain ⟨hb3, h⟩ := gd h
  have h := Option.some.inj h
  subst h
  exact s_zreturn dX10_isHouse_12 rfl hb3 hq
def gX10_isHouse : XG := fun As F r F' => ∃ o : Nat, ∃ x1 : Int, ∃ res : Int, As = [vR o, vI x1] ∧ isK o 10 ∧ fX10_isHouse o x1 F = some res ∧ r = some (vI res) ∧ F' = F
theorem ctX10_isHouse : xCT yX10_isHouse cX10_isHouse 2 (some FieldType.boolean) 1 22 gX10_isHouse := xmet (by decide +kernel) (fun As F r F' hg => by obtain ⟨o, x1, res, rfl, ho, h, rfl, rfl⟩ := hg; exact Nat.le_of_ble_eq_true rfl) (fun As F r F' hg => by obtain ⟨o, x1, res, rfl, ho, h, rfl, rfl⟩ := hg; exact fX10_isHouse_ok o x1 _ _ ho h ⟨rfl, rfl⟩)
theorem mcX10_isHouse : Cond.code yX10_isHouse cX10_isHouse 2 (some FieldType.boolean) ∈ xw_T ∧ Cond.initialized yX10_isHouse.cls ∈ xw_T ∧ Cond.instanceMethod yX10_isHouse ∈ xw_T ∧ Cond.selects yX10_isHouse.cls yX10_isHouse yX10_isHouse ∈ xw_T := ⟨(xinT 1600 (by decide +kernel) (by decide +kernel)), (xinT 127 (by decide +kernel) (by decide +kernel)), (xinT 1599 (by decide +kernel) (by decide +kernel)), (xinT 59 (by decide +kernel) (by decide +kernel))⟩
theorem clX10_189 {fr lo : Nat} (h1 : 1 + 1 ≤ fr) (h2 : 8 + (2 + 11) + 22 ≤ lo) : xCall RX10 fr lo 0 189 10 1 gX10_isHouse := ⟨_, _, _, _, _, _, ctX10_isHouse, h1, h2, mcX10_isHouse.1, (xinT 1597 (by decide +kernel) (by decide +kernel)), mcX10_isHouse.2.1, ⟨by decide +kernel, by decide +kernel, by decide +kernel⟩, by rw [if_pos rfl]; exact ⟨mcX10_isHouse.2.2.1, mcX10_isHouse.2.2.2, _, _, rfl⟩⟩
theorem dX10_isSlot_0 : decode cX10_isSlot 0 = .ok (.iload_n 1, 1) := by decide +kernel
theorem dX10_isSlot_1 : decode cX10_isSlot 1 = .ok (.iconst 0, 1) := by decide +kernel
theorem dX10_isSlot_2 : decode cX10_isSlot 2 = .ok (.aload_n 0, 1) := by decide +kernel
theorem dX10_isSlot_3 : decode cX10_isSlot 3 = .ok (.iconst 0, 1) := by decide +kernel
theorem dX10_isSlot_4 : decode cX10_isSlot 4 = .ok (.invokevirtual 181, 3) := by decide +kernel
theorem dX10_isSlot_7 : decode cX10_isSlot 7 = .ok (.iconst 1, 1) := by decide +kernel
theorem dX10_isSlot_8 : decode cX10_isSlot 8 = .ok (.isub, 1) := by decide +kernel
theorem dX10_isSlot_9 : decode cX10_isSlot 9 = .ok (.invokestatic 115, 3) := by decide +kernel
theorem dX10_isSlot_12 : decode cX10_isSlot 12 = .ok (.ireturn, 1) := by decide +kernel
def zX10_isSlot (Qr : Option PV → Mem → Prop) : XZ := (RX10, 1, 22, 2, some FieldType.boolean, Qr)
noncomputable def fX10_isSlot (o : Nat) (x1 : Int) (F : Mem) : Option Int :=
  (fX10_of o 0 F).bind fun r1 =>
  if (fX10_isIn x1 0 (xw (r1 - 1))) = 0 ∨ (fX10_isIn x1 0 (xw (r1 - 1))) = 1 then
    some (fX10_isIn x1 0 (xw (r1 - 1)))
  else none
theorem fX10_isSlot_ok {Qr : Option PV → Mem → Prop} : ∀ (o : Nat) (x1 : Int) (F : Mem) (res : Int) (ho : isK o 10), fX10_isSlot o x1 F = some res → Qr (some (vI res)) F → PR cX10_isSlot (zX10_isSlot Qr) 0 [(0, vR o), (1, vI x1)] [] F := by
  intro o x1 F res ho h hq
  refine s_iload_n (j := 1) dX10_isSlot_0 rfl rfl ?_
  refine s_iconst dX10_isSlot_1 (cin rfl) ?_
  refine s_aload_n (j := 0) dX10_isSlot_2 rfl rfl ?_
  refine s_iconst dX10_isSlot_3 (cin rfl) ?_
  obtain ⟨r1, hv2, h⟩ := bnd h
  refine s_callV (As := [vI 0]) (rest := [vI 0, vI x1]) (r := (some (vI r1))) (F' := F) dX10_isSlot_4 (clX10_181 (Nat.le_of_ble_eq_true rfl) (Nat.le_of_ble_eq_true rfl)) ho rfl ⟨_, _, _, rfl, ho, hv2, rfl, rfl⟩ rfl (Nat.le_of_ble_eq_true rfl) ?_
  refine s_iconst dX10_isSlot_7 (cin rfl) ?_
  refine s_isub dX10_isSlot_8 ?_
  refine s_callS (As := [vI x1, vI 0, vI (xw (r1 - 1))]) (rest := []) (r := (some (vI (fX10_isIn x1 0 (xw (r1 - 1)))))) (F' := F) dX10_isSlot_9 (clX10_115 (Nat.le_of_ble_eq_true rfl) (Nat.le_of_ble_eq_true rfl)) rfl ⟨_, _, _, _, rfl, rfl, rfl, rfl⟩ rfl (Nat.le_of_ble_eq_true rfl) ?_
  obtain ⟨hb3, h⟩ := gd h
  have h := Option.some.inj h
  subst h
  exact s_zreturn dX10_isSlot_12 rfl hb3 hq
def gX10_isSlot : XG := fun As F r F' => ∃ o : Nat, ∃ x1 : Int, ∃ res : Int, As = [vR o, vI x1] ∧ isK o 10 ∧ fX10_isSlot o x1 F = some res ∧ r = some (vI res) ∧ F' = F
theorem ctX10_isSlot : xCT yX10_isSlot cX10_isSlot 2 (some FieldType.boolean) 1 22 gX10_isSlot := xmet (by decide +kernel) (fun As F r F' hg => by obtain ⟨o, x1, res, rfl, ho, h, rfl, rfl⟩ := hg; exact Nat.le_of_ble_eq_true rfl) (fun As F r F' hg => by obtain ⟨o, x1, res, rfl, ho, h, rfl, rfl⟩ := hg; exact fX10_isSlot_ok o x1 _ _ ho h ⟨rfl, rfl⟩)
theorem mcX10_isSlot : Cond.code yX10_isSlot cX10_isSlot 2 (some FieldType.boolean) ∈ xw_T ∧ Cond.initialized yX10_isSlot.cls ∈ xw_T ∧ Cond.instanceMethod yX10_isSlot ∈ xw_T ∧ Cond.selects yX10_isSlot.cls yX10_isSlot yX10_isSlot ∈ xw_T := ⟨(xinT 1664 (by decide +kernel) (by decide +kernel)), (xinT 127 (by decide +kernel) (by decide +kernel)), (xinT 1663 (by decide +kernel) (by decide +kernel)), (xinT 71 (by decide +kernel) (by decide +kernel))⟩
theorem clX10_234 {fr lo : Nat} (h1 : 1 + 1 ≤ fr) (h2 : 8 + (2 + 11) + 22 ≤ lo) : xCall RX10 fr lo 0 234 10 1 gX10_isSlot := ⟨_, _, _, _, _, _, ctX10_isSlot, h1, h2, mcX10_isSlot.1, (xinT 1661 (by decide +kernel) (by decide +kernel)), mcX10_isSlot.2.1, ⟨by decide +kernel, by decide +kernel, by decide +kernel⟩, by rw [if_pos rfl]; exact ⟨mcX10_isSlot.2.2.1, mcX10_isSlot.2.2.2, _, _, rfl⟩⟩
theorem dX10_valley_0 : decode cX10_valley 0 = .ok (.aload_n 0, 1) := by decide +kernel
theorem dX10_valley_1 : decode cX10_valley 1 = .ok (.iload_n 1, 1) := by decide +kernel
theorem dX10_valley_2 : decode cX10_valley 2 = .ok (.invokevirtual 184, 3) := by decide +kernel
theorem dX10_valley_5 : decode cX10_valley 5 = .ok (.ifCond .ne 5, 3) := by decide +kernel
theorem dX10_valley_8 : decode cX10_valley 8 = .ok (.iconst (-1), 1) := by decide +kernel
theorem dX10_valley_9 : decode cX10_valley 9 = .ok (.ireturn, 1) := by decide +kernel
theorem dX10_valley_10 : decode cX10_valley 10 = .ok (.iload_n 2, 1) := by decide +kernel
theorem dX10_valley_11 : decode cX10_valley 11 = .ok (.iconst 0, 1) := by decide +kernel
theorem dX10_valley_12 : decode cX10_valley 12 = .ok (.bipush 6, 2) := by decide +kernel
theorem dX10_valley_14 : decode cX10_valley 14 = .ok (.invokestatic 115, 3) := by decide +kernel
theorem dX10_valley_17 : decode cX10_valley 17 = .ok (.ifCond .eq 9, 3) := by decide +kernel
theorem dX10_valley_20 : decode cX10_valley 20 = .ok (.aload_n 0, 1) := by decide +kernel
theorem dX10_valley_21 : decode cX10_valley 21 = .ok (.iload_n 2, 1) := by decide +kernel
theorem dX10_valley_22 : decode cX10_valley 22 = .ok (.invokevirtual 181, 3) := by decide +kernel
theorem dX10_valley_25 : decode cX10_valley 25 = .ok (.ireturn, 1) := by decide +kernel
theorem dX10_valley_26 : decode cX10_valley 26 = .ok (.iconst 0, 1) := by decide +kernel
theorem dX10_valley_27 : decode cX10_valley 27 = .ok (.istore_n 3, 1) := by decide +kernel
theorem dX10_valley_28 : decode cX10_valley 28 = .ok (.iload_n 3, 1) := by decide +kernel
theorem dX10_valley_29 : decode cX10_valley 29 = .ok (.iconst 3, 1) := by decide +kernel
theorem dX10_valley_30 : decode cX10_valley 30 = .ok (.if_icmp .ge 52, 3) := by decide +kernel
theorem dX10_valley_33 : decode cX10_valley 33 = .ok (.iload_n 2, 1) := by decide +kernel
theorem dX10_valley_34 : decode cX10_valley 34 = .ok (.bipush 10, 2) := by decide +kernel
theorem dX10_valley_36 : decode cX10_valley 36 = .ok (.bipush 10, 2) := by decide +kernel
theorem dX10_valley_38 : decode cX10_valley 38 = .ok (.iload_n 3, 1) := by decide +kernel
theorem dX10_valley_39 : decode cX10_valley 39 = .ok (.imul, 1) := by decide +kernel
theorem dX10_valley_40 : decode cX10_valley 40 = .ok (.iadd, 1) := by decide +kernel
theorem dX10_valley_41 : decode cX10_valley 41 = .ok (.bipush 9, 2) := by decide +kernel
theorem dX10_valley_43 : decode cX10_valley 43 = .ok (.bipush 10, 2) := by decide +kernel
theorem dX10_valley_45 : decode cX10_valley 45 = .ok (.iload_n 3, 1) := by decide +kernel
theorem dX10_valley_46 : decode cX10_valley 46 = .ok (.imul, 1) := by decide +kernel
theorem dX10_valley_47 : decode cX10_valley 47 = .ok (.iadd, 1) := by decide +kernel
theorem dX10_valley_48 : decode cX10_valley 48 = .ok (.aload_n 0, 1) := by decide +kernel
theorem dX10_valley_49 : decode cX10_valley 49 = .ok (.bipush 6, 2) := by decide +kernel
theorem dX10_valley_51 : decode cX10_valley 51 = .ok (.invokevirtual 181, 3) := by decide +kernel
theorem dX10_valley_54 : decode cX10_valley 54 = .ok (.iadd, 1) := by decide +kernel
theorem dX10_valley_55 : decode cX10_valley 55 = .ok (.invokestatic 115, 3) := by decide +kernel
theorem dX10_valley_58 : decode cX10_valley 58 = .ok (.ifCond .eq 18, 3) := by decide +kernel
theorem dX10_valley_61 : decode cX10_valley 61 = .ok (.aload_n 0, 1) := by decide +kernel
theorem dX10_valley_62 : decode cX10_valley 62 = .ok (.iload_n 2, 1) := by decide +kernel
theorem dX10_valley_63 : decode cX10_valley 63 = .ok (.bipush 10, 2) := by decide +kernel
theorem dX10_valley_65 : decode cX10_valley 65 = .ok (.isub, 1) := by decide +kernel
theorem dX10_valley_66 : decode cX10_valley 66 = .ok (.bipush 10, 2) := by decide +kernel
theorem dX10_valley_68 : decode cX10_valley 68 = .ok (.iload_n 3, 1) := by decide +kernel
theorem dX10_valley_69 : decode cX10_valley 69 = .ok (.imul, 1) := by decide +kernel
theorem dX10_valley_70 : decode cX10_valley 70 = .ok (.isub, 1) := by decide +kernel
theorem dX10_valley_71 : decode cX10_valley 71 = .ok (.iload_n 3, 1) := by decide +kernel
theorem dX10_valley_72 : decode cX10_valley 72 = .ok (.invokevirtual 186, 3) := by decide +kernel
theorem dX10_valley_75 : decode cX10_valley 75 = .ok (.ireturn, 1) := by decide +kernel
theorem dX10_valley_76 : decode cX10_valley 76 = .ok (.iinc 3 1, 3) := by decide +kernel
theorem dX10_valley_79 : decode cX10_valley 79 = .ok (.goto (-51), 3) := by decide +kernel
theorem dX10_valley_82 : decode cX10_valley 82 = .ok (.iconst (-1), 1) := by decide +kernel
theorem dX10_valley_83 : decode cX10_valley 83 = .ok (.ireturn, 1) := by decide +kernel
def zX10_valley (Qr : Option PV → Mem → Prop) : XZ := (RX10, 3, 65, 4, some FieldType.int, Qr)
noncomputable def fX10_valley_b28 : Nat → Nat → Int → Int → Mem → Option (Int × Mem)
  | 0, _, _, _, _ => none
  | n + 1, o, x2, x3, F =>
    if 3 ≤ x3 then
      some ((-1), F)
    else
      (fX10_of o 6 F).bind fun r2 =>
      if (fX10_isIn x2 (xw (10 + (xw (10 * x3)))) (xw ((xw (9 + (xw (10 * x3)))) + r2))) = 0 then
        fX10_valley_b28 n o x2 (xw (x3 + 1)) F
      else
        (fX10_mustOf o (xw ((xw (x2 - 10)) - (xw (10 * x3)))) x3 F).bind fun r5 =>
        some (r5, F)
noncomputable def fX10_valley (o : Nat) (x1 : Int) (x2 : Int) (F : Mem) : Option (Int × Mem) :=
  (fX10_isValley_ o x1 F).bind fun q1 =>
  if q1.1 ≠ 0 then
    if (fX10_isIn x2 0 6) = 0 then
      fX10_valley_b28 FU o x2 0 q1.2
    else
      (fX10_of o x2 q1.2).bind fun r5 =>
      some (r5, q1.2)
  else
    some ((-1), q1.2)
theorem fX10_valley_b28_ok {Qr : Option PV → Mem → Prop}  : ∀ (n : Nat) (o : Nat) (x2 : Int) (x3 : Int) (F : Mem) (res : (Int × Mem)) (ho : isK o 10), fX10_valley_b28 n o x2 x3 F = some res → Qr (some (vI res.1)) res.2 → PR cX10_valley (zX10_valley Qr) 28 [(0, vR o), (2, vI x2), (3, vI x3)] [] F := by
  intro n
  induction n with
  | zero => intro o x2 x3 F res ho h hq; exact nomatch (show (none : Option _) = some _ from h)
  | succ n ih =>
    intro o x2 x3 F res ho h hq
    refine s_iload_n (j := 2) dX10_valley_28 rfl rfl ?_
    refine s_iconst dX10_valley_29 (cin rfl) ?_
    refine s_icmp_ge (tgt := 82) dX10_valley_30 rfl (fun hc1 => ?_) (fun hc1 => ?_)
    · have h := ifp hc1 h
      refine s_iconst dX10_valley_82 (cin rfl) ?_
      have h := Option.some.inj h
      subst h
      exact s_ireturn dX10_valley_83 rfl hq
    · have h := ifn hc1 h
      refine s_iload_n (j := 1) dX10_valley_33 rfl rfl ?_
      refine s_bipush dX10_valley_34 rfl (cin rfl) ?_
      refine s_bipush dX10_valley_36 rfl (cin rfl) ?_
      refine s_iload_n (j := 2) dX10_valley_38 rfl rfl ?_
      refine s_imul dX10_valley_39 ?_
      refine s_iadd dX10_valley_40 ?_
      refine s_bipush dX10_valley_41 rfl (cin rfl) ?_
      refine s_bipush dX10_valley_43 rfl (cin rfl) ?_
      refine s_iload_n (j := 2) dX10_valley_45 rfl rfl ?_
      refine s_imul dX10_valley_46 ?_
      refine s_iadd dX10_valley_47 ?_
      refine s_aload_n (j := 0) dX10_valley_48 rfl rfl ?_
      refine s_bipush dX10_valley_49 rfl (cin rfl) ?_
      obtain ⟨r2, hv3, h⟩ := bnd h
      refine s_callV (As := [vI 6]) (rest := [vI (xw (9 + (xw (10 * x3)))), vI (xw (10 + (xw (10 * x3)))), vI x2]) (r := (some (vI r2))) (F' := F) dX10_valley_51 (clX10_181 (Nat.le_of_ble_eq_true rfl) (Nat.le_of_ble_eq_true rfl)) ho rfl ⟨_, _, _, rfl, ho, hv3, rfl, rfl⟩ rfl (Nat.le_of_ble_eq_true rfl) ?_
      refine s_iadd dX10_valley_54 ?_
      refine s_callS (As := [vI x2, vI (xw (10 + (xw (10 * x3)))), vI (xw ((xw (9 + (xw (10 * x3)))) + r2))]) (rest := []) (r := (some (vI (fX10_isIn x2 (xw (10 + (xw (10 * x3)))) (xw ((xw (9 + (xw (10 * x3)))) + r2)))))) (F' := F) dX10_valley_55 (clX10_115 (Nat.le_of_ble_eq_true rfl) (Nat.le_of_ble_eq_true rfl)) rfl ⟨_, _, _, _, rfl, rfl, rfl, rfl⟩ rfl (Nat.le_of_ble_eq_true rfl) ?_
      refine s_if_eq (tgt := 76) dX10_valley_58 rfl (fun hc4 => ?_) (fun hc4 => ?_)
      · have h := ifp hc4 h
        refine s_iinc (ls' := [(3, vI (xw (x3 + 1))), (0, vR o), (2, vI x2)]) (j := 2) dX10_valley_76 rfl (Nat.le_of_ble_eq_true rfl) rfl ?_
        refine s_goto (tgt := 28) dX10_valley_79 rfl ?_
        exact s_sub (ks := [1, 2, 0]) rfl (ih o x2 (xw (x3 + 1)) F _ ho h hq)
      · have h := ifn hc4 h
        refine s_aload_n (j := 0) dX10_valley_61 rfl rfl ?_
        refine s_iload_n (j := 1) dX10_valley_62 rfl rfl ?_
        refine s_bipush dX10_valley_63 rfl (cin rfl) ?_
        refine s_isub dX10_valley_65 ?_
        refine s_bipush dX10_valley_66 rfl (cin rfl) ?_
        refine s_iload_n (j := 2) dX10_valley_68 rfl rfl ?_
        refine s_imul dX10_valley_69 ?_
        refine s_isub dX10_valley_70 ?_
        refine s_iload_n (j := 2) dX10_valley_71 rfl rfl ?_
        obtain ⟨r5, hv6, h⟩ := bnd h
        refine s_callV (As := [vI (xw ((xw (x2 - 10)) - (xw (10 * x3)))), vI x3]) (rest := []) (r := (some (vI r5))) (F' := F) dX10_valley_72 (clX10_186 (Nat.le_of_ble_eq_true rfl) (Nat.le_of_ble_eq_true rfl)) ho rfl ⟨_, _, _, _, rfl, ho, hv6, rfl, rfl⟩ rfl (Nat.le_of_ble_eq_true rfl) ?_
        have h := Option.some.inj h
        subst h
        exact s_ireturn dX10_valley_75 rfl hq
theorem fX10_valley_ok {Qr : Option PV → Mem → Prop} : ∀ (o : Nat) (x1 : Int) (x2 : Int) (F : Mem) (res : (Int × Mem)) (ho : isK o 10), fX10_valley o x1 x2 F = some res → Qr (some (vI res.1)) res.2 → PR cX10_valley (zX10_valley Qr) 0 [(0, vR o), (1, vI x1), (2, vI x2)] [] F := by
  intro o x1 x2 F res ho h hq
  refine s_aload_n (j := 0) dX10_valley_0 rfl rfl ?_
  refine s_iload_n (j := 1) dX10_valley_1 rfl rfl ?_
  obtain ⟨q1, hv2, h⟩ := bnd h
  refine s_callV (As := [vI x1]) (rest := []) (r := (some (vI q1.1))) (F' := q1.2) dX10_valley_2 (clX10_184 (Nat.le_of_ble_eq_true rfl) (Nat.le_of_ble_eq_true rfl)) ho rfl ⟨_, _, _, rfl, ho, hv2, rfl, rfl⟩ rfl (Nat.le_of_ble_eq_true rfl) ?_
  refine s_if_ne (tgt := 10) dX10_valley_5 rfl (fun hc3 => ?_) (fun hc3 => ?_)
  · have h := ifp hc3 h
    refine s_iload_n (j := 2) dX10_valley_10 rfl rfl ?_
    refine s_iconst dX10_valley_11 (cin rfl) ?_
    refine s_bipush dX10_valley_12 rfl (cin rfl) ?_
    refine s_callS (As := [vI x2, vI 0, vI 6]) (rest := []) (r := (some (vI (fX10_isIn x2 0 6)))) (F' := q1.2) dX10_valley_14 (clX10_115 (Nat.le_of_ble_eq_true rfl) (Nat.le_of_ble_eq_true rfl)) rfl ⟨_, _, _, _, rfl, rfl, rfl, rfl⟩ rfl (Nat.le_of_ble_eq_true rfl) ?_
    refine s_if_eq (tgt := 26) dX10_valley_17 rfl (fun hc4 => ?_) (fun hc4 => ?_)
    · have h := ifp hc4 h
      refine s_iconst dX10_valley_26 (cin rfl) ?_
      refine s_istore_n (ls' := [(3, vI 0), (0, vR o), (1, vI x1), (2, vI x2)]) dX10_valley_27 rfl (Nat.le_of_ble_eq_true rfl) rfl ?_
      exact s_sub (ks := [1, 3, 0]) rfl (fX10_valley_b28_ok FU o x2 0 q1.2 _ ho h hq)
    · have h := ifn hc4 h
      refine s_aload_n (j := 0) dX10_valley_20 rfl rfl ?_
      refine s_iload_n (j := 2) dX10_valley_21 rfl rfl ?_
      obtain ⟨r5, hv6, h⟩ := bnd h
      refine s_callV (As := [vI x2]) (rest := []) (r := (some (vI r5))) (F' := q1.2) dX10_valley_22 (clX10_181 (Nat.le_of_ble_eq_true rfl) (Nat.le_of_ble_eq_true rfl)) ho rfl ⟨_, _, _, rfl, ho, hv6, rfl, rfl⟩ rfl (Nat.le_of_ble_eq_true rfl) ?_
      have h := Option.some.inj h
      subst h
      exact s_ireturn dX10_valley_25 rfl hq
  · have h := ifn hc3 h
    refine s_iconst dX10_valley_8 (cin rfl) ?_
    have h := Option.some.inj h
    subst h
    exact s_ireturn dX10_valley_9 rfl hq
def gX10_valley : XG := fun As F r F' => ∃ o : Nat, ∃ x1 : Int, ∃ x2 : Int, ∃ res : (Int × Mem), As = [vR o, vI x1, vI x2] ∧ isK o 10 ∧ fX10_valley o x1 x2 F = some res ∧ r = some (vI res.1) ∧ F' = res.2
theorem ctX10_valley : xCT yX10_valley cX10_valley 4 (some FieldType.int) 3 65 gX10_valley := xmet (by decide +kernel) (fun As F r F' hg => by obtain ⟨o, x1, x2, res, rfl, ho, h, rfl, rfl⟩ := hg; exact Nat.le_of_ble_eq_true rfl) (fun As F r F' hg => by obtain ⟨o, x1, x2, res, rfl, ho, h, rfl, rfl⟩ := hg; exact fX10_valley_ok o x1 x2 _ _ ho h ⟨rfl, rfl⟩)
theorem mcX10_valley : Cond.code yX10_valley cX10_valley 4 (some FieldType.int) ∈ xw_T ∧ Cond.initialized yX10_valley.cls ∈ xw_T ∧ Cond.instanceMethod yX10_valley ∈ xw_T ∧ Cond.selects yX10_valley.cls yX10_valley yX10_valley ∈ xw_T := ⟨(xinT 1580 (by decide +kernel) (by decide +kernel)), (xinT 127 (by decide +kernel) (by decide +kernel)), (xinT 1578 (by decide +kernel) (by decide +kernel)), (xinT 1579 (by decide +kernel) (by decide +kernel))⟩
theorem dX10_house_0 : decode cX10_house 0 = .ok (.aload_n 0, 1) := by decide +kernel
theorem dX10_house_1 : decode cX10_house 1 = .ok (.iload_n 1, 1) := by decide +kernel
theorem dX10_house_2 : decode cX10_house 2 = .ok (.invokevirtual 184, 3) := by decide +kernel
theorem dX10_house_5 : decode cX10_house 5 = .ok (.ifCond .eq 29, 3) := by decide +kernel
theorem dX10_house_8 : decode cX10_house 8 = .ok (.aload_n 0, 1) := by decide +kernel
theorem dX10_house_9 : decode cX10_house 9 = .ok (.iload_n 2, 1) := by decide +kernel
theorem dX10_house_10 : decode cX10_house 10 = .ok (.invokevirtual 189, 3) := by decide +kernel
theorem dX10_house_13 : decode cX10_house 13 = .ok (.ifCond .eq 21, 3) := by decide +kernel
theorem dX10_house_16 : decode cX10_house 16 = .ok (.iload_n 3, 1) := by decide +kernel
theorem dX10_house_17 : decode cX10_house 17 = .ok (.iconst 0, 1) := by decide +kernel
theorem dX10_house_18 : decode cX10_house 18 = .ok (.iconst 3, 1) := by decide +kernel
theorem dX10_house_19 : decode cX10_house 19 = .ok (.invokestatic 115, 3) := by decide +kernel
theorem dX10_house_22 : decode cX10_house 22 = .ok (.ifCond .eq 12, 3) := by decide +kernel
theorem dX10_house_25 : decode cX10_house 25 = .ok (.aload_n 0, 1) := by decide +kernel
theorem dX10_house_26 : decode cX10_house 26 = .ok (.iload_n 2, 1) := by decide +kernel
theorem dX10_house_27 : decode cX10_house 27 = .ok (.iload_n 3, 1) := by decide +kernel
theorem dX10_house_28 : decode cX10_house 28 = .ok (.invokevirtual 175, 3) := by decide +kernel
theorem dX10_house_31 : decode cX10_house 31 = .ok (.goto 4, 3) := by decide +kernel
theorem dX10_house_34 : decode cX10_house 34 = .ok (.iconst (-1), 1) := by decide +kernel
theorem dX10_house_35 : decode cX10_house 35 = .ok (.ireturn, 1) := by decide +kernel
def zX10_house (Qr : Option PV → Mem → Prop) : XZ := (RX10, 3, 65, 4, some FieldType.int, Qr)
noncomputable def fX10_house (o : Nat) (x1 : Int) (x2 : Int) (x3 : Int) (F : Mem) : Option (Int × Mem) :=
  (fX10_isValley_ o x1 F).bind fun q1 =>
  if q1.1 = 0 then
    some ((-1), q1.2)
  else
    (fX10_isHouse o x2 q1.2).bind fun r4 =>
    if r4 = 0 then
      some ((-1), q1.2)
    else
      if (fX10_isIn x3 0 3) = 0 then
        some ((-1), q1.2)
      else
        (fX10_houseOf o x2 x3 q1.2).bind fun r8 =>
        some (r8, q1.2)
theorem fX10_house_ok {Qr : Option PV → Mem → Prop} : ∀ (o : Nat) (x1 : Int) (x2 : Int) (x3 : Int) (F : Mem) (res : (Int × Mem)) (ho : isK o 10), fX10_house o x1 x2 x3 F = some res → Qr (some (vI res.1)) res.2 → PR cX10_house (zX10_house Qr) 0 [(0, vR o), (1, vI x1), (2, vI x2), (3, vI x3)] [] F := by
  intro o x1 x2 x3 F res ho h hq
  refine s_aload_n (j := 0) dX10_house_0 rfl rfl ?_
  refine s_iload_n (j := 1) dX10_house_1 rfl rfl ?_
  obtain ⟨q1, hv2, h⟩ := bnd h
  refine s_callV (As := [vI x1]) (rest := []) (r := (some (vI q1.1))) (F' := q1.2) dX10_house_2 (clX10_184 (Nat.le_of_ble_eq_true rfl) (Nat.le_of_ble_eq_true rfl)) ho rfl ⟨_, _, _, rfl, ho, hv2, rfl, rfl⟩ rfl (Nat.le_of_ble_eq_true rfl) ?_
  refine s_if_eq (tgt := 34) dX10_house_5 rfl (fun hc3 => ?_) (fun hc3 => ?_)
  · have h := ifp hc3 h
    refine s_iconst dX10_house_34 (cin rfl) ?_
    have h := Option.some.inj h
    subst h
    exact s_ireturn dX10_house_35 rfl hq
  · have h := ifn hc3 h
    refine s_aload_n (j := 0) dX10_house_8 rfl rfl ?_
    refine s_iload_n (j := 2) dX10_house_9 rfl rfl ?_
    obtain ⟨r4, hv5, h⟩ := bnd h
    refine s_callV (As := [vI x2]) (rest := []) (r := (some (vI r4))) (F' := q1.2) dX10_house_10 (clX10_189 (Nat.le_of_ble_eq_true rfl) (Nat.le_of_ble_eq_true rfl)) ho rfl ⟨_, _, _, rfl, ho, hv5, rfl, rfl⟩ rfl (Nat.le_of_ble_eq_true rfl) ?_
    refine s_if_eq (tgt := 34) dX10_house_13 rfl (fun hc6 => ?_) (fun hc6 => ?_)
    · have h := ifp hc6 h
      refine s_iconst dX10_house_34 (cin rfl) ?_
      have h := Option.some.inj h
      subst h
      exact s_ireturn dX10_house_35 rfl hq
    · have h := ifn hc6 h
      refine s_iload_n (j := 3) dX10_house_16 rfl rfl ?_
      refine s_iconst dX10_house_17 (cin rfl) ?_
      refine s_iconst dX10_house_18 (cin rfl) ?_
      refine s_callS (As := [vI x3, vI 0, vI 3]) (rest := []) (r := (some (vI (fX10_isIn x3 0 3)))) (F' := q1.2) dX10_house_19 (clX10_115 (Nat.le_of_ble_eq_true rfl) (Nat.le_of_ble_eq_true rfl)) rfl ⟨_, _, _, _, rfl, rfl, rfl, rfl⟩ rfl (Nat.le_of_ble_eq_true rfl) ?_
      refine s_if_eq (tgt := 34) dX10_house_22 rfl (fun hc7 => ?_) (fun hc7 => ?_)
      · have h := ifp hc7 h
        refine s_iconst dX10_house_34 (cin rfl) ?_
        have h := Option.some.inj h
        subst h
        exact s_ireturn dX10_house_35 rfl hq
      · have h := ifn hc7 h
        refine s_aload_n (j := 0) dX10_house_25 rfl rfl ?_
        refine s_iload_n (j := 2) dX10_house_26 rfl rfl ?_
        refine s_iload_n (j := 3) dX10_house_27 rfl rfl ?_
        obtain ⟨r8, hv9, h⟩ := bnd h
        refine s_callV (As := [vI x2, vI x3]) (rest := []) (r := (some (vI r8))) (F' := q1.2) dX10_house_28 (clX10_175 (Nat.le_of_ble_eq_true rfl) (Nat.le_of_ble_eq_true rfl)) ho rfl ⟨_, _, _, _, rfl, ho, hv9, rfl, rfl⟩ rfl (Nat.le_of_ble_eq_true rfl) ?_
        refine s_goto (tgt := 35) dX10_house_31 rfl ?_
        have h := Option.some.inj h
        subst h
        exact s_ireturn dX10_house_35 rfl hq
def gX10_house : XG := fun As F r F' => ∃ o : Nat, ∃ x1 : Int, ∃ x2 : Int, ∃ x3 : Int, ∃ res : (Int × Mem), As = [vR o, vI x1, vI x2, vI x3] ∧ isK o 10 ∧ fX10_house o x1 x2 x3 F = some res ∧ r = some (vI res.1) ∧ F' = res.2
theorem ctX10_house : xCT yX10_house cX10_house 4 (some FieldType.int) 3 65 gX10_house := xmet (by decide +kernel) (fun As F r F' hg => by obtain ⟨o, x1, x2, x3, res, rfl, ho, h, rfl, rfl⟩ := hg; exact Nat.le_of_ble_eq_true rfl) (fun As F r F' hg => by obtain ⟨o, x1, x2, x3, res, rfl, ho, h, rfl, rfl⟩ := hg; exact fX10_house_ok o x1 x2 x3 _ _ ho h ⟨rfl, rfl⟩)
theorem mcX10_house : Cond.code yX10_house cX10_house 4 (some FieldType.int) ∈ xw_T ∧ Cond.initialized yX10_house.cls ∈ xw_T ∧ Cond.instanceMethod yX10_house ∈ xw_T ∧ Cond.selects yX10_house.cls yX10_house yX10_house ∈ xw_T := ⟨(xinT 1596 (by decide +kernel) (by decide +kernel)), (xinT 127 (by decide +kernel) (by decide +kernel)), (xinT 1594 (by decide +kernel) (by decide +kernel)), (xinT 1595 (by decide +kernel) (by decide +kernel))⟩
theorem dX10_steps_0 : decode cX10_steps 0 = .ok (.aload_n 0, 1) := by decide +kernel
theorem dX10_steps_1 : decode cX10_steps 1 = .ok (.iload_n 1, 1) := by decide +kernel
theorem dX10_steps_2 : decode cX10_steps 2 = .ok (.iconst 0, 1) := by decide +kernel
theorem dX10_steps_3 : decode cX10_steps 3 = .ok (.invokevirtual 175, 3) := by decide +kernel
theorem dX10_steps_6 : decode cX10_steps 6 = .ok (.aload_n 0, 1) := by decide +kernel
theorem dX10_steps_7 : decode cX10_steps 7 = .ok (.iload_n 2, 1) := by decide +kernel
theorem dX10_steps_8 : decode cX10_steps 8 = .ok (.iconst 0, 1) := by decide +kernel
theorem dX10_steps_9 : decode cX10_steps 9 = .ok (.invokevirtual 175, 3) := by decide +kernel
theorem dX10_steps_12 : decode cX10_steps 12 = .ok (.isub, 1) := by decide +kernel
theorem dX10_steps_13 : decode cX10_steps 13 = .ok (.istore_n 3, 1) := by decide +kernel
theorem dX10_steps_14 : decode cX10_steps 14 = .ok (.iload_n 3, 1) := by decide +kernel
theorem dX10_steps_15 : decode cX10_steps 15 = .ok (.ifCond .ge 8, 3) := by decide +kernel
theorem dX10_steps_18 : decode cX10_steps 18 = .ok (.iload_n 3, 1) := by decide +kernel
theorem dX10_steps_19 : decode cX10_steps 19 = .ok (.ineg, 1) := by decide +kernel
theorem dX10_steps_20 : decode cX10_steps 20 = .ok (.goto 4, 3) := by decide +kernel
theorem dX10_steps_23 : decode cX10_steps 23 = .ok (.iload_n 3, 1) := by decide +kernel
theorem dX10_steps_24 : decode cX10_steps 24 = .ok (.ireturn, 1) := by decide +kernel
def zX10_steps (Qr : Option PV → Mem → Prop) : XZ := (RX10, 1, 22, 4, some FieldType.int, Qr)
noncomputable def fX10_steps (o : Nat) (x1 : Int) (x2 : Int) (F : Mem) : Option Int :=
  (fX10_houseOf o x1 0 F).bind fun r1 =>
  (fX10_houseOf o x2 0 F).bind fun r3 =>
  if 0 ≤ (xw (r1 - r3)) then
    some (xw (r1 - r3))
  else
    some (xw (-(xw (r1 - r3))))
theorem fX10_steps_ok {Qr : Option PV → Mem → Prop} : ∀ (o : Nat) (x1 : Int) (x2 : Int) (F : Mem) (res : Int) (ho : isK o 10), fX10_steps o x1 x2 F = some res → Qr (some (vI res)) F → PR cX10_steps (zX10_steps Qr) 0 [(0, vR o), (1, vI x1), (2, vI x2)] [] F := by
  intro o x1 x2 F res ho h hq
  refine s_aload_n (j := 0) dX10_steps_0 rfl rfl ?_
  refine s_iload_n (j := 1) dX10_steps_1 rfl rfl ?_
  refine s_iconst dX10_steps_2 (cin rfl) ?_
  obtain ⟨r1, hv2, h⟩ := bnd h
  refine s_callV (As := [vI x1, vI 0]) (rest := []) (r := (some (vI r1))) (F' := F) dX10_steps_3 (clX10_175 (Nat.le_of_ble_eq_true rfl) (Nat.le_of_ble_eq_true rfl)) ho rfl ⟨_, _, _, _, rfl, ho, hv2, rfl, rfl⟩ rfl (Nat.le_of_ble_eq_true rfl) ?_
  refine s_aload_n (j := 0) dX10_steps_6 rfl rfl ?_
  refine s_iload_n (j := 2) dX10_steps_7 rfl rfl ?_
  refine s_iconst dX10_steps_8 (cin rfl) ?_
  obtain ⟨r3, hv4, h⟩ := bnd h
  refine s_callV (As := [vI x2, vI 0]) (rest := [vI r1]) (r := (some (vI r3))) (F' := F) dX10_steps_9 (clX10_175 (Nat.le_of_ble_eq_true rfl) (Nat.le_of_ble_eq_true rfl)) ho rfl ⟨_, _, _, _, rfl, ho, hv4, rfl, rfl⟩ rfl (Nat.le_of_ble_eq_true rfl) ?_
  refine s_isub dX10_steps_12 ?_
  refine s_istore_n (ls' := [(3, vI (xw (r1 - r3))), (0, vR o), (1, vI x1), (2, vI x2)]) dX10_steps_13 rfl (Nat.le_of_ble_eq_true rfl) rfl ?_
  refine s_iload_n (j := 0) dX10_steps_14 rfl rfl ?_
  refine s_if_ge (tgt := 23) dX10_steps_15 rfl (fun hc5 => ?_) (fun hc5 => ?_)
  · have h := ifp hc5 h
    refine s_iload_n (j := 0) dX10_steps_23 rfl rfl ?_
    have h := Option.some.inj h
    subst h
    exact s_ireturn dX10_steps_24 rfl hq
  · have h := ifn hc5 h
    refine s_iload_n (j := 0) dX10_steps_18 rfl rfl ?_
    refine s_ineg dX10_steps_19 ?_
    refine s_goto (tgt := 24) dX10_steps_20 rfl ?_
    have h := Option.some.inj h
    subst h
    exact s_ireturn dX10_steps_24 rfl hq
def gX10_steps : XG := fun As F r F' => ∃ o : Nat, ∃ x1 : Int, ∃ x2 : Int, ∃ res : Int, As = [vR o, vI x1, vI x2] ∧ isK o 10 ∧ fX10_steps o x1 x2 F = some res ∧ r = some (vI res) ∧ F' = F
theorem ctX10_steps : xCT yX10_steps cX10_steps 4 (some FieldType.int) 1 22 gX10_steps := xmet (by decide +kernel) (fun As F r F' hg => by obtain ⟨o, x1, x2, res, rfl, ho, h, rfl, rfl⟩ := hg; exact Nat.le_of_ble_eq_true rfl) (fun As F r F' hg => by obtain ⟨o, x1, x2, res, rfl, ho, h, rfl, rfl⟩ := hg; exact fX10_steps_ok o x1 x2 _ _ ho h ⟨rfl, rfl⟩)
theorem mcX10_steps : Cond.code yX10_steps cX10_steps 4 (some FieldType.int) ∈ xw_T ∧ Cond.initialized yX10_steps.cls ∈ xw_T ∧ Cond.instanceMethod yX10_steps ∈ xw_T ∧ Cond.selects yX10_steps.cls yX10_steps yX10_steps ∈ xw_T := ⟨(xinT 1616 (by decide +kernel) (by decide +kernel)), (xinT 127 (by decide +kernel) (by decide +kernel)), (xinT 1615 (by decide +kernel) (by decide +kernel)), (xinT 62 (by decide +kernel) (by decide +kernel))⟩
theorem clX10_192 {fr lo : Nat} (h1 : 1 + 1 ≤ fr) (h2 : 8 + (4 + 11) + 22 ≤ lo) : xCall RX10 fr lo 0 192 10 2 gX10_steps := ⟨_, _, _, _, _, _, ctX10_steps, h1, h2, mcX10_steps.1, (xinT 1613 (by decide +kernel) (by decide +kernel)), mcX10_steps.2.1, ⟨by decide +kernel, by decide +kernel, by decide +kernel⟩, by rw [if_pos rfl]; exact ⟨mcX10_steps.2.2.1, mcX10_steps.2.2.2, _, _, rfl⟩⟩
theorem dX10_slotsOf_0 : decode cX10_slotsOf 0 = .ok (.iload_n 1, 1) := by decide +kernel
theorem dX10_slotsOf_1 : decode cX10_slotsOf 1 = .ok (.iload_n 2, 1) := by decide +kernel
theorem dX10_slotsOf_2 : decode cX10_slotsOf 2 = .ok (.if_icmp .ne 5, 3) := by decide +kernel
theorem dX10_slotsOf_5 : decode cX10_slotsOf 5 = .ok (.iconst 0, 1) := by decide +kernel
theorem dX10_slotsOf_6 : decode cX10_slotsOf 6 = .ok (.ireturn, 1) := by decide +kernel
theorem dX10_slotsOf_7 : decode cX10_slotsOf 7 = .ok (.aload_n 0, 1) := by decide +kernel
theorem dX10_slotsOf_8 : decode cX10_slotsOf 8 = .ok (.iload_n 1, 1) := by decide +kernel
theorem dX10_slotsOf_9 : decode cX10_slotsOf 9 = .ok (.iload_n 2, 1) := by decide +kernel
theorem dX10_slotsOf_10 : decode cX10_slotsOf 10 = .ok (.invokevirtual 192, 3) := by decide +kernel
theorem dX10_slotsOf_13 : decode cX10_slotsOf 13 = .ok (.aload_n 0, 1) := by decide +kernel
theorem dX10_slotsOf_14 : decode cX10_slotsOf 14 = .ok (.invokevirtual 195, 3) := by decide +kernel
theorem dX10_slotsOf_17 : decode cX10_slotsOf 17 = .ok (.iadd, 1) := by decide +kernel
theorem dX10_slotsOf_18 : decode cX10_slotsOf 18 = .ok (.iconst 1, 1) := by decide +kernel
theorem dX10_slotsOf_19 : decode cX10_slotsOf 19 = .ok (.isub, 1) := by decide +kernel
theorem dX10_slotsOf_20 : decode cX10_slotsOf 20 = .ok (.aload_n 0, 1) := by decide +kernel
theorem dX10_slotsOf_21 : decode cX10_slotsOf 21 = .ok (.invokevirtual 195, 3) := by decide +kernel
theorem dX10_slotsOf_24 : decode cX10_slotsOf 24 = .ok (.idiv, 1) := by decide +kernel
theorem dX10_slotsOf_25 : decode cX10_slotsOf 25 = .ok (.istore_n 3, 1) := by decide +kernel
theorem dX10_slotsOf_26 : decode cX10_slotsOf 26 = .ok (.iload_n 3, 1) := by decide +kernel
theorem dX10_slotsOf_27 : decode cX10_slotsOf 27 = .ok (.iconst 1, 1) := by decide +kernel
theorem dX10_slotsOf_28 : decode cX10_slotsOf 28 = .ok (.if_icmp .ge 7, 3) := by decide +kernel
theorem dX10_slotsOf_31 : decode cX10_slotsOf 31 = .ok (.iconst 1, 1) := by decide +kernel
theorem dX10_slotsOf_32 : decode cX10_slotsOf 32 = .ok (.goto 4, 3) := by decide +kernel
theorem dX10_slotsOf_35 : decode cX10_slotsOf 35 = .ok (.iload_n 3, 1) := by decide +kernel
theorem dX10_slotsOf_36 : decode cX10_slotsOf 36 = .ok (.ireturn, 1) := by decide +kernel
def zX10_slotsOf (Qr : Option PV → Mem → Prop) : XZ := (RX10, 2, 45, 4, some FieldType.int, Qr)
noncomputable def fX10_slotsOf (o : Nat) (x1 : Int) (x2 : Int) (F : Mem) : Option Int :=
  if x1 ≠ x2 then
    (fX10_steps o x1 x2 F).bind fun r2 =>
    (fX10_pace o F).bind fun r4 =>
    (fX10_pace o F).bind fun r6 =>
    if r6 = 0 then none else
    if 1 ≤ (xw (Int.tdiv (xw ((xw (r2 + r4)) - 1)) r6)) then
      some (xw (Int.tdiv (xw ((xw (r2 + r4)) - 1)) r6))
    else
      some 1
  else
    some 0
theorem fX10_slotsOf_ok {Qr : Option PV → Mem → Prop} : ∀ (o : Nat) (x1 : Int) (x2 : Int) (F : Mem) (res : Int) (ho : isK o 10), fX10_slotsOf o x1 x2 F = some res → Qr (some (vI res)) F → PR cX10_slotsOf (zX10_slotsOf Qr) 0 [(0, vR o), (1, vI x1), (2, vI x2)] [] F := by
  intro o x1 x2 F res ho h hq
  refine s_iload_n (j := 1) dX10_slotsOf_0 rfl rfl ?_
  refine s_iload_n (j := 2) dX10_slotsOf_1 rfl rfl ?_
  refine s_icmp_ne (tgt := 7) dX10_slotsOf_2 rfl (fun hc1 => ?_) (fun hc1 => ?_)
  · have h := ifp hc1 h
    refine s_aload_n (j := 0) dX10_slotsOf_7 rfl rfl ?_
    refine s_iload_n (j := 1) dX10_slotsOf_8 rfl rfl ?_
    refine s_iload_n (j := 2) dX10_slotsOf_9 rfl rfl ?_
    obtain ⟨r2, hv3, h⟩ := bnd h
    refine s_callV (As := [vI x1, vI x2]) (rest := []) (r := (some (vI r2))) (F' := F) dX10_slotsOf_10 (clX10_192 (Nat.le_of_ble_eq_true rfl) (Nat.le_of_ble_eq_true rfl)) ho rfl ⟨_, _, _, _, rfl, ho, hv3, rfl, rfl⟩ rfl (Nat.le_of_ble_eq_true rfl) ?_
    refine s_aload_n (j := 0) dX10_slotsOf_13 rfl rfl ?_
    obtain ⟨r4, hv5, h⟩ := bnd h
    refine s_callV (As := []) (rest := [vI r2]) (r := (some (vI r4))) (F' := F) dX10_slotsOf_14 (clX10_195 (Nat.le_of_ble_eq_true rfl) (Nat.le_of_ble_eq_true rfl)) ho rfl ⟨_, _, rfl, ho, hv5, rfl, rfl⟩ rfl (Nat.le_of_ble_eq_true rfl) ?_
    refine s_iadd dX10_slotsOf_17 ?_
    refine s_iconst dX10_slotsOf_18 (cin rfl) ?_
    refine s_isub dX10_slotsOf_19 ?_
    refine s_aload_n (j := 0) dX10_slotsOf_20 rfl rfl ?_
    obtain ⟨r6, hv7, h⟩ := bnd h
    refine s_callV (As := []) (rest := [vI (xw ((xw (r2 + r4)) - 1))]) (r := (some (vI r6))) (F' := F) dX10_slotsOf_21 (clX10_195 (Nat.le_of_ble_eq_true rfl) (Nat.le_of_ble_eq_true rfl)) ho rfl ⟨_, _, rfl, ho, hv7, rfl, rfl⟩ rfl (Nat.le_of_ble_eq_true rfl) ?_
    obtain ⟨hd8, h⟩ := gdn h
    refine s_idiv dX10_slotsOf_24 hd8 ?_
    refine s_istore_n (ls' := [(3, vI (xw (Int.tdiv (xw ((xw (r2 + r4)) - 1)) r6))), (0, vR o), (1, vI x1), (2, vI x2)]) dX10_slotsOf_25 rfl (Nat.le_of_ble_eq_true rfl) rfl ?_
    refine s_iload_n (j := 0) dX10_slotsOf_26 rfl rfl ?_
    refine s_iconst dX10_slotsOf_27 (cin rfl) ?_
    refine s_icmp_ge (tgt := 35) dX10_slotsOf_28 rfl (fun hc9 => ?_) (fun hc9 => ?_)
    · have h := ifp hc9 h
      refine s_iload_n (j := 0) dX10_slotsOf_35 rfl rfl ?_
      have h := Option.some.inj h
      subst h
      exact s_ireturn dX10_slotsOf_36 rfl hq
    · have h := ifn hc9 h
      refine s_iconst dX10_slotsOf_31 (cin rfl) ?_
      refine s_goto (tgt := 36) dX10_slotsOf_32 rfl ?_
      have h := Option.some.inj h
      subst h
      exact s_ireturn dX10_slotsOf_36 rfl hq
  · have h := ifn hc1 h
    refine s_iconst dX10_slotsOf_5 (cin rfl) ?_
    have h := Option.some.inj h
    subst h
    exact s_ireturn dX10_slotsOf_6 rfl hq
def gX10_slotsOf : XG := fun As F r F' => ∃ o : Nat, ∃ x1 : Int, ∃ x2 : Int, ∃ res : Int, As = [vR o, vI x1, vI x2] ∧ isK o 10 ∧ fX10_slotsOf o x1 x2 F = some res ∧ r = some (vI res) ∧ F' = F
theorem ctX10_slotsOf : xCT yX10_slotsOf cX10_slotsOf 4 (some FieldType.int) 2 45 gX10_slotsOf := xmet (by decide +kernel) (fun As F r F' hg => by obtain ⟨o, x1, x2, res, rfl, ho, h, rfl, rfl⟩ := hg; exact Nat.le_of_ble_eq_true rfl) (fun As F r F' hg => by obtain ⟨o, x1, x2, res, rfl, ho, h, rfl, rfl⟩ := hg; exact fX10_slotsOf_ok o x1 x2 _ _ ho h ⟨rfl, rfl⟩)
theorem mcX10_slotsOf : Cond.code yX10_slotsOf cX10_slotsOf 4 (some FieldType.int) ∈ xw_T ∧ Cond.initialized yX10_slotsOf.cls ∈ xw_T ∧ Cond.instanceMethod yX10_slotsOf ∈ xw_T ∧ Cond.selects yX10_slotsOf.cls yX10_slotsOf yX10_slotsOf ∈ xw_T := ⟨(xinT 1612 (by decide +kernel) (by decide +kernel)), (xinT 127 (by decide +kernel) (by decide +kernel)), (xinT 1611 (by decide +kernel) (by decide +kernel)), (xinT 61 (by decide +kernel) (by decide +kernel))⟩
theorem clX10_199 {fr lo : Nat} (h1 : 2 + 1 ≤ fr) (h2 : 8 + (4 + 11) + 45 ≤ lo) : xCall RX10 fr lo 0 199 10 2 gX10_slotsOf := ⟨_, _, _, _, _, _, ctX10_slotsOf, h1, h2, mcX10_slotsOf.1, (xinT 1609 (by decide +kernel) (by decide +kernel)), mcX10_slotsOf.2.1, ⟨by decide +kernel, by decide +kernel, by decide +kernel⟩, by rw [if_pos rfl]; exact ⟨mcX10_slotsOf.2.2.1, mcX10_slotsOf.2.2.2, _, _, rfl⟩⟩
theorem dX10_way_0 : decode cX10_way 0 = .ok (.aload_n 0, 1) := by decide +kernel
theorem dX10_way_1 : decode cX10_way 1 = .ok (.iload_n 1, 1) := by decide +kernel
theorem dX10_way_2 : decode cX10_way 2 = .ok (.invokevirtual 184, 3) := by decide +kernel
theorem dX10_way_5 : decode cX10_way 5 = .ok (.ifCond .eq 19, 3) := by decide +kernel
theorem dX10_way_8 : decode cX10_way 8 = .ok (.aload_n 0, 1) := by decide +kernel
theorem dX10_way_9 : decode cX10_way 9 = .ok (.iload_n 2, 1) := by decide +kernel
theorem dX10_way_10 : decode cX10_way 10 = .ok (.invokevirtual 189, 3) := by decide +kernel
theorem dX10_way_13 : decode cX10_way 13 = .ok (.ifCond .eq 11, 3) := by decide +kernel
theorem dX10_way_16 : decode cX10_way 16 = .ok (.aload_n 0, 1) := by decide +kernel
theorem dX10_way_17 : decode cX10_way 17 = .ok (.iload_n 3, 1) := by decide +kernel
theorem dX10_way_18 : decode cX10_way 18 = .ok (.invokevirtual 189, 3) := by decide +kernel
theorem dX10_way_21 : decode cX10_way 21 = .ok (.ifCond .ne 5, 3) := by decide +kernel
theorem dX10_way_24 : decode cX10_way 24 = .ok (.iconst (-1), 1) := by decide +kernel
theorem dX10_way_25 : decode cX10_way 25 = .ok (.ireturn, 1) := by decide +kernel
theorem dX10_way_26 : decode cX10_way 26 = .ok (.iload 4, 2) := by decide +kernel
theorem dX10_way_28 : decode cX10_way 28 = .ok (.ifCond .eq 12, 3) := by decide +kernel
theorem dX10_way_31 : decode cX10_way 31 = .ok (.aload_n 0, 1) := by decide +kernel
theorem dX10_way_32 : decode cX10_way 32 = .ok (.iload_n 2, 1) := by decide +kernel
theorem dX10_way_33 : decode cX10_way 33 = .ok (.iload_n 3, 1) := by decide +kernel
theorem dX10_way_34 : decode cX10_way 34 = .ok (.invokevirtual 199, 3) := by decide +kernel
theorem dX10_way_37 : decode cX10_way 37 = .ok (.goto 9, 3) := by decide +kernel
theorem dX10_way_40 : decode cX10_way 40 = .ok (.aload_n 0, 1) := by decide +kernel
theorem dX10_way_41 : decode cX10_way 41 = .ok (.iload_n 2, 1) := by decide +kernel
theorem dX10_way_42 : decode cX10_way 42 = .ok (.iload_n 3, 1) := by decide +kernel
theorem dX10_way_43 : decode cX10_way 43 = .ok (.invokevirtual 192, 3) := by decide +kernel
theorem dX10_way_46 : decode cX10_way 46 = .ok (.ireturn, 1) := by decide +kernel
def zX10_way (Qr : Option PV → Mem → Prop) : XZ := (RX10, 3, 68, 5, some FieldType.int, Qr)
noncomputable def fX10_way (o : Nat) (x1 : Int) (x2 : Int) (x3 : Int) (x4 : Int) (F : Mem) : Option (Int × Mem) :=
  (fX10_isValley_ o x1 F).bind fun q1 =>
  if q1.1 = 0 then
    some ((-1), q1.2)
  else
    (fX10_isHouse o x2 q1.2).bind fun r4 =>
    if r4 = 0 then
      some ((-1), q1.2)
    else
      (fX10_isHouse o x3 q1.2).bind fun r7 =>
      if r7 ≠ 0 then
        if x4 = 0 then
          (fX10_steps o x2 x3 q1.2).bind fun r11 =>
          some (r11, q1.2)
        else
          (fX10_slotsOf o x2 x3 q1.2).bind fun r13 =>
          some (r13, q1.2)
      else
        some ((-1), q1.2)
theorem fX10_way_ok {Qr : Option PV → Mem → Prop} : ∀ (o : Nat) (x1 : Int) (x2 : Int) (x3 : Int) (x4 : Int) (F : Mem) (res : (Int × Mem)) (ho : isK o 10), fX10_way o x1 x2 x3 x4 F = some res → Qr (some (vI res.1)) res.2 → PR cX10_way (zX10_way Qr) 0 [(0, vR o), (1, vI x1), (2, vI x2), (3, vI x3), (4, vI x4)] [] F := by
  intro o x1 x2 x3 x4 F res ho h hq
  refine s_aload_n (j := 0) dX10_way_0 rfl rfl ?_
  refine s_iload_n (j := 1) dX10_way_1 rfl rfl ?_
  obtain ⟨q1, hv2, h⟩ := bnd h
  refine s_callV (As := [vI x1]) (rest := []) (r := (some (vI q1.1))) (F' := q1.2) dX10_way_2 (clX10_184 (Nat.le_of_ble_eq_true rfl) (Nat.le_of_ble_eq_true rfl)) ho rfl ⟨_, _, _, rfl, ho, hv2, rfl, rfl⟩ rfl (Nat.le_of_ble_eq_true rfl) ?_
  refine s_if_eq (tgt := 24) dX10_way_5 rfl (fun hc3 => ?_) (fun hc3 => ?_)
  · have h := ifp hc3 h
    refine s_iconst dX10_way_24 (cin rfl) ?_
    have h := Option.some.inj h
    subst h
    exact s_ireturn dX10_way_25 rfl hq
  · have h := ifn hc3 h
    refine s_aload_n (j := 0) dX10_way_8 rfl rfl ?_
    refine s_iload_n (j := 2) dX10_way_9 rfl rfl ?_
    obtain ⟨r4, hv5, h⟩ := bnd h
    refine s_callV (As := [vI x2]) (rest := []) (r := (some (vI r4))) (F' := q1.2) dX10_way_10 (clX10_189 (Nat.le_of_ble_eq_true rfl) (Nat.le_of_ble_eq_true rfl)) ho rfl ⟨_, _, _, rfl, ho, hv5, rfl, rfl⟩ rfl (Nat.le_of_ble_eq_true rfl) ?_
    refine s_if_eq (tgt := 24) dX10_way_13 rfl (fun hc6 => ?_) (fun hc6 => ?_)
    · have h := ifp hc6 h
      refine s_iconst dX10_way_24 (cin rfl) ?_
      have h := Option.some.inj h
      subst h
      exact s_ireturn dX10_way_25 rfl hq
    · have h := ifn hc6 h
      refine s_aload_n (j := 0) dX10_way_16 rfl rfl ?_
      refine s_iload_n (j := 3) dX10_way_17 rfl rfl ?_
      obtain ⟨r7, hv8, h⟩ := bnd h
      refine s_callV (As := [vI x3]) (rest := []) (r := (some (vI r7))) (F' := q1.2) dX10_way_18 (clX10_189 (Nat.le_of_ble_eq_true rfl) (Nat.le_of_ble_eq_true rfl)) ho rfl ⟨_, _, _, rfl, ho, hv8, rfl, rfl⟩ rfl (Nat.le_of_ble_eq_true rfl) ?_
      refine s_if_ne (tgt := 26) dX10_way_21 rfl (fun hc9 => ?_) (fun hc9 => ?_)
      · have h := ifp hc9 h
        refine s_iload (j := 4) dX10_way_26 rfl ?_
        refine s_if_eq (tgt := 40) dX10_way_28 rfl (fun hc10 => ?_) (fun hc10 => ?_)
        · have h := ifp hc10 h
          refine s_aload_n (j := 0) dX10_way_40 rfl rfl ?_
          refine s_iload_n (j := 2) dX10_way_41 rfl rfl ?_
          refine s_iload_n (j := 3) dX10_way_42 rfl rfl ?_
          obtain ⟨r11, hv12, h⟩ := bnd h
          refine s_callV (As := [vI x2, vI x3]) (rest := []) (r := (some (vI r11))) (F' := q1.2) dX10_way_43 (clX10_192 (Nat.le_of_ble_eq_true rfl) (Nat.le_of_ble_eq_true rfl)) ho rfl ⟨_, _, _, _, rfl, ho, hv12, rfl, rfl⟩ rfl (Nat.le_of_ble_eq_true rfl) ?_
          have h := Option.some.inj h
          subst h
          exact s_ireturn dX10_way_46 rfl hq
        · have h := ifn hc10 h
          refine s_aload_n (j := 0) dX10_way_31 rfl rfl ?_
          refine s_iload_n (j := 2) dX10_way_32 rfl rfl ?_
          refine s_iload_n (j := 3) dX10_way_33 rfl rfl ?_
          obtain ⟨r13, hv14, h⟩ := bnd h
          refine s_callV (As := [vI x2, vI x3]) (rest := []) (r := (some (vI r13))) (F' := q1.2) dX10_way_34 (clX10_199 (Nat.le_of_ble_eq_true rfl) (Nat.le_of_ble_eq_true rfl)) ho rfl ⟨_, _, _, _, rfl, ho, hv14, rfl, rfl⟩ rfl (Nat.le_of_ble_eq_true rfl) ?_
          refine s_goto (tgt := 46) dX10_way_37 rfl ?_
          have h := Option.some.inj h
          subst h
          exact s_ireturn dX10_way_46 rfl hq
      · have h := ifn hc9 h
        refine s_iconst dX10_way_24 (cin rfl) ?_
        have h := Option.some.inj h
        subst h
        exact s_ireturn dX10_way_25 rfl hq
def gX10_way : XG := fun As F r F' => ∃ o : Nat, ∃ x1 : Int, ∃ x2 : Int, ∃ x3 : Int, ∃ x4 : Int, ∃ res : (Int × Mem), As = [vR o, vI x1, vI x2, vI x3, vI x4] ∧ isK o 10 ∧ fX10_way o x1 x2 x3 x4 F = some res ∧ r = some (vI res.1) ∧ F' = res.2
theorem ctX10_way : xCT yX10_way cX10_way 5 (some FieldType.int) 3 68 gX10_way := xmet (by decide +kernel) (fun As F r F' hg => by obtain ⟨o, x1, x2, x3, x4, res, rfl, ho, h, rfl, rfl⟩ := hg; exact Nat.le_of_ble_eq_true rfl) (fun As F r F' hg => by obtain ⟨o, x1, x2, x3, x4, res, rfl, ho, h, rfl, rfl⟩ := hg; exact fX10_way_ok o x1 x2 x3 x4 _ _ ho h ⟨rfl, rfl⟩)
theorem mcX10_way : Cond.code yX10_way cX10_way 5 (some FieldType.int) ∈ xw_T ∧ Cond.initialized yX10_way.cls ∈ xw_T ∧ Cond.instanceMethod yX10_way ∈ xw_T ∧ Cond.selects yX10_way.cls yX10_way yX10_way ∈ xw_T := ⟨(xinT 1608 (by decide +kernel) (by decide +kernel)), (xinT 127 (by decide +kernel) (by decide +kernel)), (xinT 1606 (by decide +kernel) (by decide +kernel)), (xinT 1607 (by decide +kernel) (by decide +kernel))⟩
theorem dX10_sees_0 : decode cX10_sees 0 = .ok (.aload_n 0, 1) := by decide +kernel
theorem dX10_sees_1 : decode cX10_sees 1 = .ok (.iload_n 1, 1) := by decide +kernel
theorem dX10_sees_2 : decode cX10_sees 2 = .ok (.invokevirtual 202, 3) := by decide +kernel
theorem dX10_sees_5 : decode cX10_sees 5 = .ok (.istore 4, 2) := by decide +kernel
theorem dX10_sees_7 : decode cX10_sees 7 = .ok (.iload 4, 2) := by decide +kernel
theorem dX10_sees_9 : decode cX10_sees 9 = .ok (.ifCond .eq 31, 3) := by decide +kernel
theorem dX10_sees_12 : decode cX10_sees 12 = .ok (.iload_n 2, 1) := by decide +kernel
theorem dX10_sees_13 : decode cX10_sees 13 = .ok (.ifCond .eq 31, 3) := by decide +kernel
theorem dX10_sees_16 : decode cX10_sees 16 = .ok (.iload 4, 2) := by decide +kernel
theorem dX10_sees_18 : decode cX10_sees 18 = .ok (.iconst 3, 1) := by decide +kernel
theorem dX10_sees_19 : decode cX10_sees 19 = .ok (.if_icmp .ne 21, 3) := by decide +kernel
theorem dX10_sees_22 : decode cX10_sees 22 = .ok (.iload_n 3, 1) := by decide +kernel
theorem dX10_sees_23 : decode cX10_sees 23 = .ok (.aload_n 0, 1) := by decide +kernel
theorem dX10_sees_24 : decode cX10_sees 24 = .ok (.iconst 2, 1) := by decide +kernel
theorem dX10_sees_25 : decode cX10_sees 25 = .ok (.invokevirtual 181, 3) := by decide +kernel
theorem dX10_sees_28 : decode cX10_sees 28 = .ok (.if_icmp .lt 16, 3) := by decide +kernel
theorem dX10_sees_31 : decode cX10_sees 31 = .ok (.iload_n 3, 1) := by decide +kernel
theorem dX10_sees_32 : decode cX10_sees 32 = .ok (.aload_n 0, 1) := by decide +kernel
theorem dX10_sees_33 : decode cX10_sees 33 = .ok (.iconst 3, 1) := by decide +kernel
theorem dX10_sees_34 : decode cX10_sees 34 = .ok (.invokevirtual 181, 3) := by decide +kernel
theorem dX10_sees_37 : decode cX10_sees 37 = .ok (.if_icmp .ge 7, 3) := by decide +kernel
theorem dX10_sees_40 : decode cX10_sees 40 = .ok (.iconst 1, 1) := by decide +kernel
theorem dX10_sees_41 : decode cX10_sees 41 = .ok (.goto 4, 3) := by decide +kernel
theorem dX10_sees_44 : decode cX10_sees 44 = .ok (.iconst 0, 1) := by decide +kernel
theorem dX10_sees_45 : decode cX10_sees 45 = .ok (.ireturn, 1) := by decide +kernel
def zX10_sees (Qr : Option PV → Mem → Prop) : XZ := (RX10, 2, 43, 5, some FieldType.boolean, Qr)
noncomputable def fX10_sees (o : Nat) (x1 : Int) (x2 : Int) (x3 : Int) (F : Mem) : Option Int :=
  (fX10_kindOf o x1 F).bind fun r1 =>
  if r1 = 0 then
    some 1
  else
    if x2 = 0 then
      some 0
    else
      if r1 ≠ 3 then
        some 1
      else
        (fX10_of o 2 F).bind fun r6 =>
        if x3 < r6 then
          some 0
        else
          (fX10_of o 3 F).bind fun r9 =>
          if r9 ≤ x3 then
            some 0
          else
            some 1
theorem fX10_sees_ok {Qr : Option PV → Mem → Prop} : ∀ (o : Nat) (x1 : Int) (x2 : Int) (x3 : Int) (F : Mem) (res : Int) (ho : isK o 10), fX10_sees o x1 x2 x3 F = some res → Qr (some (vI res)) F → PR cX10_sees (zX10_sees Qr) 0 [(0, vR o), (1, vI x1), (2, vI x2), (3, vI x3)] [] F := by
  intro o x1 x2 x3 F res ho h hq
  refine s_aload_n (j := 0) dX10_sees_0 rfl rfl ?_
  refine s_iload_n (j := 1) dX10_sees_1 rfl rfl ?_
  obtain ⟨r1, hv2, h⟩ := bnd h
  refine s_callV (As := [vI x1]) (rest := []) (r := (some (vI r1))) (F' := F) dX10_sees_2 (clX10_202 (Nat.le_of_ble_eq_true rfl) (Nat.le_of_ble_eq_true rfl)) ho rfl ⟨_, _, _, rfl, ho, hv2, rfl, rfl⟩ rfl (Nat.le_of_ble_eq_true rfl) ?_
  refine s_istore (ls' := [(4, vI r1), (0, vR o), (1, vI x1), (2, vI x2), (3, vI x3)]) dX10_sees_5 (Nat.le_of_ble_eq_true rfl) rfl ?_
  refine s_iload (j := 0) dX10_sees_7 rfl ?_
  refine s_if_eq (tgt := 40) dX10_sees_9 rfl (fun hc3 => ?_) (fun hc3 => ?_)
  · have h := ifp hc3 h
    refine s_iconst dX10_sees_40 (cin rfl) ?_
    refine s_goto (tgt := 45) dX10_sees_41 rfl ?_
    have h := Option.some.inj h
    subst h
    exact s_zreturn dX10_sees_45 rfl (Or.inr rfl) hq
  · have h := ifn hc3 h
    refine s_iload_n (j := 3) dX10_sees_12 rfl rfl ?_
    refine s_if_eq (tgt := 44) dX10_sees_13 rfl (fun hc4 => ?_) (fun hc4 => ?_)
    · have h := ifp hc4 h
      refine s_iconst dX10_sees_44 (cin rfl) ?_
      have h := Option.some.inj h
      subst h
      exact s_zreturn dX10_sees_45 rfl (Or.inl rfl) hq
    · have h := ifn hc4 h
      refine s_iload (j := 0) dX10_sees_16 rfl ?_
      refine s_iconst dX10_sees_18 (cin rfl) ?_
      refine s_icmp_ne (tgt := 40) dX10_sees_19 rfl (fun hc5 => ?_) (fun hc5 => ?_)
      · have h := ifp hc5 h
        refine s_iconst dX10_sees_40 (cin rfl) ?_
        refine s_goto (tgt := 45) dX10_sees_41 rfl ?_
        have h := Option.some.inj h
        subst h
        exact s_zreturn dX10_sees_45 rfl (Or.inr rfl) hq
      · have h := ifn hc5 h
        refine s_iload_n (j := 4) dX10_sees_22 rfl rfl ?_
        refine s_aload_n (j := 1) dX10_sees_23 rfl rfl ?_
        refine s_iconst dX10_sees_24 (cin rfl) ?_
        obtain ⟨r6, hv7, h⟩ := bnd h
        refine s_callV (As := [vI 2]) (rest := [vI x3]) (r := (some (vI r6))) (F' := F) dX10_sees_25 (clX10_181 (Nat.le_of_ble_eq_true rfl) (Nat.le_of_ble_eq_true rfl)) ho rfl ⟨_, _, _, rfl, ho, hv7, rfl, rfl⟩ rfl (Nat.le_of_ble_eq_true rfl) ?_
        refine s_icmp_lt (tgt := 44) dX10_sees_28 rfl (fun hc8 => ?_) (fun hc8 => ?_)
        · have h := ifp hc8 h
          refine s_iconst dX10_sees_44 (cin rfl) ?_
          have h := Option.some.inj h
          subst h
          exact s_zreturn dX10_sees_45 rfl (Or.inl rfl) hq
        · have h := ifn hc8 h
          refine s_iload_n (j := 4) dX10_sees_31 rfl rfl ?_
          refine s_aload_n (j := 1) dX10_sees_32 rfl rfl ?_
          refine s_iconst dX10_sees_33 (cin rfl) ?_
          obtain ⟨r9, hv10, h⟩ := bnd h
          refine s_callV (As := [vI 3]) (rest := [vI x3]) (r := (some (vI r9))) (F' := F) dX10_sees_34 (clX10_181 (Nat.le_of_ble_eq_true rfl) (Nat.le_of_ble_eq_true rfl)) ho rfl ⟨_, _, _, rfl, ho, hv10, rfl, rfl⟩ rfl (Nat.le_of_ble_eq_true rfl) ?_
          refine s_icmp_ge (tgt := 44) dX10_sees_37 rfl (fun hc11 => ?_) (fun hc11 => ?_)
          · have h := ifp hc11 h
            refine s_iconst dX10_sees_44 (cin rfl) ?_
            have h := Option.some.inj h
            subst h
            exact s_zreturn dX10_sees_45 rfl (Or.inl rfl) hq
          · have h := ifn hc11 h
            refine s_iconst dX10_sees_40 (cin rfl) ?_
            refine s_goto (tgt := 45) dX10_sees_41 rfl ?_
            have h := Option.some.inj h
            subst h
            exact s_zreturn dX10_sees_45 rfl (Or.inr rfl) hq
def gX10_sees : XG := fun As F r F' => ∃ o : Nat, ∃ x1 : Int, ∃ x2 : Int, ∃ x3 : Int, ∃ res : Int, As = [vR o, vI x1, vI x2, vI x3] ∧ isK o 10 ∧ fX10_sees o x1 x2 x3 F = some res ∧ r = some (vI res) ∧ F' = F
theorem ctX10_sees : xCT yX10_sees cX10_sees 5 (some FieldType.boolean) 2 43 gX10_sees := xmet (by decide +kernel) (fun As F r F' hg => by obtain ⟨o, x1, x2, x3, res, rfl, ho, h, rfl, rfl⟩ := hg; exact Nat.le_of_ble_eq_true rfl) (fun As F r F' hg => by obtain ⟨o, x1, x2, x3, res, rfl, ho, h, rfl, rfl⟩ := hg; exact fX10_sees_ok o x1 x2 x3 _ _ ho h ⟨rfl, rfl⟩)
theorem mcX10_sees : Cond.code yX10_sees cX10_sees 5 (some FieldType.boolean) ∈ xw_T ∧ Cond.initialized yX10_sees.cls ∈ xw_T ∧ Cond.instanceMethod yX10_sees ∈ xw_T ∧ Cond.selects yX10_sees.cls yX10_sees yX10_sees ∈ xw_T := ⟨(xinT 1644 (by decide +kernel) (by decide +kernel)), (xinT 127 (by decide +kernel) (by decide +kernel)), (xinT 1643 (by decide +kernel) (by decide +kernel)), (xinT 67 (by decide +kernel) (by decide +kernel))⟩
theorem clX10_215 {fr lo : Nat} (h1 : 2 + 1 ≤ fr) (h2 : 8 + (5 + 11) + 43 ≤ lo) : xCall RX10 fr lo 0 215 10 3 gX10_sees := ⟨_, _, _, _, _, _, ctX10_sees, h1, h2, mcX10_sees.1, (xinT 1641 (by decide +kernel) (by decide +kernel)), mcX10_sees.2.1, ⟨by decide +kernel, by decide +kernel, by decide +kernel⟩, by rw [if_pos rfl]; exact ⟨mcX10_sees.2.2.1, mcX10_sees.2.2.2, _, _, rfl⟩⟩
theorem dX10_rateOf_0 : decode cX10_rateOf 0 = .ok (.iload_n 2, 1) := by decide +kernel
theorem dX10_rateOf_1 : decode cX10_rateOf 1 = .ok (.ifCond .eq 24, 3) := by decide +kernel
theorem dX10_rateOf_4 : decode cX10_rateOf 4 = .ok (.aload_n 0, 1) := by decide +kernel
theorem dX10_rateOf_5 : decode cX10_rateOf 5 = .ok (.iload_n 1, 1) := by decide +kernel
theorem dX10_rateOf_6 : decode cX10_rateOf 6 = .ok (.iconst 1, 1) := by decide +kernel
theorem dX10_rateOf_7 : decode cX10_rateOf 7 = .ok (.invokevirtual 175, 3) := by decide +kernel
theorem dX10_rateOf_10 : decode cX10_rateOf 10 = .ok (.iconst 1, 1) := by decide +kernel
theorem dX10_rateOf_11 : decode cX10_rateOf 11 = .ok (.if_icmp .le 14, 3) := by decide +kernel
theorem dX10_rateOf_14 : decode cX10_rateOf 14 = .ok (.aload_n 0, 1) := by decide +kernel
theorem dX10_rateOf_15 : decode cX10_rateOf 15 = .ok (.iload_n 1, 1) := by decide +kernel
theorem dX10_rateOf_16 : decode cX10_rateOf 16 = .ok (.iconst 2, 1) := by decide +kernel
theorem dX10_rateOf_17 : decode cX10_rateOf 17 = .ok (.invokevirtual 175, 3) := by decide +kernel
theorem dX10_rateOf_20 : decode cX10_rateOf 20 = .ok (.iconst 2, 1) := by decide +kernel
theorem dX10_rateOf_21 : decode cX10_rateOf 21 = .ok (.idiv, 1) := by decide +kernel
theorem dX10_rateOf_22 : decode cX10_rateOf 22 = .ok (.goto 9, 3) := by decide +kernel
theorem dX10_rateOf_25 : decode cX10_rateOf 25 = .ok (.aload_n 0, 1) := by decide +kernel
theorem dX10_rateOf_26 : decode cX10_rateOf 26 = .ok (.iload_n 1, 1) := by decide +kernel
theorem dX10_rateOf_27 : decode cX10_rateOf 27 = .ok (.iconst 2, 1) := by decide +kernel
theorem dX10_rateOf_28 : decode cX10_rateOf 28 = .ok (.invokevirtual 175, 3) := by decide +kernel
theorem dX10_rateOf_31 : decode cX10_rateOf 31 = .ok (.ireturn, 1) := by decide +kernel
def zX10_rateOf (Qr : Option PV → Mem → Prop) : XZ := (RX10, 1, 22, 3, some FieldType.int, Qr)
noncomputable def fX10_rateOf_b25 (F : Mem) (o : Nat) (x1 : Int) : Option Int :=
  (fX10_houseOf o x1 2 F).bind fun r1 =>
  some r1
noncomputable def fX10_rateOf (o : Nat) (x1 : Int) (x2 : Int) (F : Mem) : Option Int :=
  if x2 = 0 then
    fX10_rateOf_b25 F o x1
  else
    (fX10_houseOf o x1 1 F).bind fun r2 =>
    if r2 ≤ 1 then
      fX10_rateOf_b25 F o x1
    else
      (fX10_houseOf o x1 2 F).bind fun r5 =>
      some (xw (Int.tdiv r5 2))
theorem fX10_rateOf_b25_ok {Qr : Option PV → Mem → Prop}  (F : Mem) : ∀ (o : Nat) (x1 : Int) (res : Int) (ho : isK o 10), fX10_rateOf_b25 F o x1 = some res → Qr (some (vI res)) F → PR cX10_rateOf (zX10_rateOf Qr) 25 [(0, vR o), (1, vI x1)] [] F := by
  intro o x1 res ho h hq
  refine s_aload_n (j := 0) dX10_rateOf_25 rfl rfl ?_
  refine s_iload_n (j := 1) dX10_rateOf_26 rfl rfl ?_
  refine s_iconst dX10_rateOf_27 (cin rfl) ?_
  obtain ⟨r1, hv2, h⟩ := bnd h
  refine s_callV (As := [vI x1, vI 2]) (rest := []) (r := (some (vI r1))) (F' := F) dX10_rateOf_28 (clX10_175 (Nat.le_of_ble_eq_true rfl) (Nat.le_of_ble_eq_true rfl)) ho rfl ⟨_, _, _, _, rfl, ho, hv2, rfl, rfl⟩ rfl (Nat.le_of_ble_eq_true rfl) ?_
  have h := Option.some.inj h
  subst h
  exact s_ireturn dX10_rateOf_31 rfl hq
theorem fX10_rateOf_ok {Qr : Option PV → Mem → Prop} : ∀ (o : Nat) (x1 : Int) (x2 : Int) (F : Mem) (res : Int) (ho : isK o 10), fX10_rateOf o x1 x2 F = some res → Qr (some (vI res)) F → PR cX10_rateOf (zX10_rateOf Qr) 0 [(0, vR o), (1, vI x1), (2, vI x2)] [] F := by
  intro o x1 x2 F res ho h hq
  refine s_iload_n (j := 2) dX10_rateOf_0 rfl rfl ?_
  refine s_if_eq (tgt := 25) dX10_rateOf_1 rfl (fun hc1 => ?_) (fun hc1 => ?_)
  · have h := ifp hc1 h
    exact s_sub (ks := [0, 1]) rfl (fX10_rateOf_b25_ok F o x1 _ ho h hq)
  · have h := ifn hc1 h
    refine s_aload_n (j := 0) dX10_rateOf_4 rfl rfl ?_
    refine s_iload_n (j := 1) dX10_rateOf_5 rfl rfl ?_
    refine s_iconst dX10_rateOf_6 (cin rfl) ?_
    obtain ⟨r2, hv3, h⟩ := bnd h
    refine s_callV (As := [vI x1, vI 1]) (rest := []) (r := (some (vI r2))) (F' := F) dX10_rateOf_7 (clX10_175 (Nat.le_of_ble_eq_true rfl) (Nat.le_of_ble_eq_true rfl)) ho rfl ⟨_, _, _, _, rfl, ho, hv3, rfl, rfl⟩ rfl (Nat.le_of_ble_eq_true rfl) ?_
    refine s_iconst dX10_rateOf_10 (cin rfl) ?_
    refine s_icmp_le (tgt := 25) dX10_rateOf_11 rfl (fun hc4 => ?_) (fun hc4 => ?_)
    · have h := ifp hc4 h
      exact s_sub (ks := [0, 1]) rfl (fX10_rateOf_b25_ok F o x1 _ ho h hq)
    · have h := ifn hc4 h
      refine s_aload_n (j := 0) dX10_rateOf_14 rfl rfl ?_
      refine s_iload_n (j := 1) dX10_rateOf_15 rfl rfl ?_
      refine s_iconst dX10_rateOf_16 (cin rfl) ?_
      obtain ⟨r5, hv6, h⟩ := bnd h
      refine s_callV (As := [vI x1, vI 2]) (rest := []) (r := (some (vI r5))) (F' := F) dX10_rateOf_17 (clX10_175 (Nat.le_of_ble_eq_true rfl) (Nat.le_of_ble_eq_true rfl)) ho rfl ⟨_, _, _, _, rfl, ho, hv6, rfl, rfl⟩ rfl (Nat.le_of_ble_eq_true rfl) ?_
      refine s_iconst dX10_rateOf_20 (cin rfl) ?_
      refine s_idiv dX10_rateOf_21 (by decide) ?_
      refine s_goto (tgt := 31) dX10_rateOf_22 rfl ?_
      have h := Option.some.inj h
      subst h
      exact s_ireturn dX10_rateOf_31 rfl hq
def gX10_rateOf : XG := fun As F r F' => ∃ o : Nat, ∃ x1 : Int, ∃ x2 : Int, ∃ res : Int, As = [vR o, vI x1, vI x2] ∧ isK o 10 ∧ fX10_rateOf o x1 x2 F = some res ∧ r = some (vI res) ∧ F' = F
theorem ctX10_rateOf : xCT yX10_rateOf cX10_rateOf 3 (some FieldType.int) 1 22 gX10_rateOf := xmet (by decide +kernel) (fun As F r F' hg => by obtain ⟨o, x1, x2, res, rfl, ho, h, rfl, rfl⟩ := hg; exact Nat.le_of_ble_eq_true rfl) (fun As F r F' hg => by obtain ⟨o, x1, x2, res, rfl, ho, h, rfl, rfl⟩ := hg; exact fX10_rateOf_ok o x1 x2 _ _ ho h ⟨rfl, rfl⟩)
theorem mcX10_rateOf : Cond.code yX10_rateOf cX10_rateOf 3 (some FieldType.int) ∈ xw_T ∧ Cond.initialized yX10_rateOf.cls ∈ xw_T ∧ Cond.instanceMethod yX10_rateOf ∈ xw_T ∧ Cond.selects yX10_rateOf.cls yX10_rateOf yX10_rateOf ∈ xw_T := ⟨(xinT 1656 (by decide +kernel) (by decide +kernel)), (xinT 127 (by decide +kernel) (by decide +kernel)), (xinT 1655 (by decide +kernel) (by decide +kernel)), (xinT 70 (by decide +kernel) (by decide +kernel))⟩
theorem clX10_219 {fr lo : Nat} (h1 : 1 + 1 ≤ fr) (h2 : 8 + (3 + 11) + 22 ≤ lo) : xCall RX10 fr lo 0 219 10 2 gX10_rateOf := ⟨_, _, _, _, _, _, ctX10_rateOf, h1, h2, mcX10_rateOf.1, (xinT 1653 (by decide +kernel) (by decide +kernel)), mcX10_rateOf.2.1, ⟨by decide +kernel, by decide +kernel, by decide +kernel⟩, by rw [if_pos rfl]; exact ⟨mcX10_rateOf.2.2.1, mcX10_rateOf.2.2.2, _, _, rfl⟩⟩
theorem dX10_leg_0 : decode cX10_leg 0 = .ok (.aload_n 0, 1) := by decide +kernel
theorem dX10_leg_1 : decode cX10_leg 1 = .ok (.iconst 1, 1) := by decide +kernel
theorem dX10_leg_2 : decode cX10_leg 2 = .ok (.iload_n 1, 1) := by decide +kernel
theorem dX10_leg_3 : decode cX10_leg 3 = .ok (.invokevirtual 146, 3) := by decide +kernel
theorem dX10_leg_6 : decode cX10_leg 6 = .ok (.ifCond .ne 6, 3) := by decide +kernel
theorem dX10_leg_9 : decode cX10_leg 9 = .ok (.bipush (-2), 2) := by decide +kernel
theorem dX10_leg_11 : decode cX10_leg 11 = .ok (.ireturn, 1) := by decide +kernel
theorem dX10_leg_12 : decode cX10_leg 12 = .ok (.iconst 1, 1) := by decide +kernel
theorem dX10_leg_13 : decode cX10_leg 13 = .ok (.iload_n 1, 1) := by decide +kernel
theorem dX10_leg_14 : decode cX10_leg 14 = .ok (.invokestatic 169, 3) := by decide +kernel
theorem dX10_leg_17 : decode cX10_leg 17 = .ok (.istore 4, 2) := by decide +kernel
theorem dX10_leg_19 : decode cX10_leg 19 = .ok (.iload_n 2, 1) := by decide +kernel
theorem dX10_leg_20 : decode cX10_leg 20 = .ok (.iconst (-1), 1) := by decide +kernel
theorem dX10_leg_21 : decode cX10_leg 21 = .ok (.if_icmp .ne 20, 3) := by decide +kernel
theorem dX10_leg_24 : decode cX10_leg 24 = .ok (.iload_n 3, 1) := by decide +kernel
theorem dX10_leg_25 : decode cX10_leg 25 = .ok (.ifCond .ne 13, 3) := by decide +kernel
theorem dX10_leg_28 : decode cX10_leg 28 = .ok (.aload_n 0, 1) := by decide +kernel
theorem dX10_leg_29 : decode cX10_leg 29 = .ok (.getfield 7, 3) := by decide +kernel
theorem dX10_leg_32 : decode cX10_leg 32 = .ok (.iload 4, 2) := by decide +kernel
theorem dX10_leg_34 : decode cX10_leg 34 = .ok (.iaload, 1) := by decide +kernel
theorem dX10_leg_35 : decode cX10_leg 35 = .ok (.goto 5, 3) := by decide +kernel
theorem dX10_leg_38 : decode cX10_leg 38 = .ok (.bipush (-2), 2) := by decide +kernel
theorem dX10_leg_40 : decode cX10_leg 40 = .ok (.ireturn, 1) := by decide +kernel
theorem dX10_leg_41 : decode cX10_leg 41 = .ok (.iload_n 2, 1) := by decide +kernel
theorem dX10_leg_42 : decode cX10_leg 42 = .ok (.iconst 0, 1) := by decide +kernel
theorem dX10_leg_43 : decode cX10_leg 43 = .ok (.aload_n 0, 1) := by decide +kernel
theorem dX10_leg_44 : decode cX10_leg 44 = .ok (.getfield 7, 3) := by decide +kernel
theorem dX10_leg_47 : decode cX10_leg 47 = .ok (.iload 4, 2) := by decide +kernel
theorem dX10_leg_49 : decode cX10_leg 49 = .ok (.iaload, 1) := by decide +kernel
theorem dX10_leg_50 : decode cX10_leg 50 = .ok (.iconst 1, 1) := by decide +kernel
theorem dX10_leg_51 : decode cX10_leg 51 = .ok (.isub, 1) := by decide +kernel
theorem dX10_leg_52 : decode cX10_leg 52 = .ok (.invokestatic 115, 3) := by decide +kernel
theorem dX10_leg_55 : decode cX10_leg 55 = .ok (.ifCond .eq 30, 3) := by decide +kernel
theorem dX10_leg_58 : decode cX10_leg 58 = .ok (.iload_n 3, 1) := by decide +kernel
theorem dX10_leg_59 : decode cX10_leg 59 = .ok (.iconst 0, 1) := by decide +kernel
theorem dX10_leg_60 : decode cX10_leg 60 = .ok (.iconst 2, 1) := by decide +kernel
theorem dX10_leg_61 : decode cX10_leg 61 = .ok (.invokestatic 115, 3) := by decide +kernel
theorem dX10_leg_64 : decode cX10_leg 64 = .ok (.ifCond .eq 21, 3) := by decide +kernel
theorem dX10_leg_67 : decode cX10_leg 67 = .ok (.aload_n 0, 1) := by decide +kernel
theorem dX10_leg_68 : decode cX10_leg 68 = .ok (.getfield 7, 3) := by decide +kernel
theorem dX10_leg_71 : decode cX10_leg 71 = .ok (.iload 4, 2) := by decide +kernel
theorem dX10_leg_73 : decode cX10_leg 73 = .ok (.iconst 1, 1) := by decide +kernel
theorem dX10_leg_74 : decode cX10_leg 74 = .ok (.iadd, 1) := by decide +kernel
theorem dX10_leg_75 : decode cX10_leg 75 = .ok (.iconst 3, 1) := by decide +kernel
theorem dX10_leg_76 : decode cX10_leg 76 = .ok (.iload_n 2, 1) := by decide +kernel
theorem dX10_leg_77 : decode cX10_leg 77 = .ok (.imul, 1) := by decide +kernel
theorem dX10_leg_78 : decode cX10_leg 78 = .ok (.iadd, 1) := by decide +kernel
theorem dX10_leg_79 : decode cX10_leg 79 = .ok (.iload_n 3, 1) := by decide +kernel
theorem dX10_leg_80 : decode cX10_leg 80 = .ok (.iadd, 1) := by decide +kernel
theorem dX10_leg_81 : decode cX10_leg 81 = .ok (.iaload, 1) := by decide +kernel
theorem dX10_leg_82 : decode cX10_leg 82 = .ok (.goto 5, 3) := by decide +kernel
theorem dX10_leg_85 : decode cX10_leg 85 = .ok (.bipush (-2), 2) := by decide +kernel
theorem dX10_leg_87 : decode cX10_leg 87 = .ok (.ireturn, 1) := by decide +kernel
def zX10_leg (Qr : Option PV → Mem → Prop) : XZ := (RX10, 2, 44, 5, some FieldType.int, Qr)
noncomputable def fX10_leg (o : Nat) (x1 : Int) (x2 : Int) (x3 : Int) (F : Mem) : Option Int :=
  (fX10_isOf o 1 x1 F).bind fun r1 =>
  if r1 ≠ 0 then
    if x2 ≠ (-1) then
      if (0 : Int) ≤ (fX10_placeOf 1 x1) ∧ (fX10_placeOf 1 x1) < (alen (o + 1) : Int) then
        if (fX10_isIn x2 0 (xw ((F (o + 1) (fX10_placeOf 1 x1).toNat) - 1))) = 0 then
          some (-2)
        else
          if (fX10_isIn x3 0 2) = 0 then
            some (-2)
          else
            if (0 : Int) ≤ (xw ((xw ((xw ((fX10_placeOf 1 x1) + 1)) + (xw (3 * x2)))) + x3)) ∧ (xw ((xw ((xw ((fX10_placeOf 1 x1) + 1)) + (xw (3 * x2)))) + x3)) < (alen (o + 1) : Int) then
              some (F (o + 1) (xw ((xw ((xw ((fX10_placeOf 1 x1) + 1)) + (xw (3 * x2)))) + x3)).toNat)
            else none
      else none
    else
      if x3 ≠ 0 then
        some (-2)
      else
        if (0 : Int) ≤ (fX10_placeOf 1 x1) ∧ (fX10_placeOf 1 x1) < (alen (o + 1) : Int) then
          some (F (o + 1) (fX10_placeOf 1 x1).toNat)
        else none
  else
    some (-2)
theorem fX10_leg_ok {Qr : Option PV → Mem → Prop} : ∀ (o : Nat) (x1 : Int) (x2 : Int) (x3 : Int) (F : Mem) (res : Int) (ho : isK o 10), fX10_leg o x1 x2 x3 F = some res → Qr (some (vI res)) F → PR cX10_leg (zX10_leg Qr) 0 [(0, vR o), (1, vI x1), (2, vI x2), (3, vI x3)] [] F := by
  intro o x1 x2 x3 F res ho h hq
  refine s_aload_n (j := 0) dX10_leg_0 rfl rfl ?_
  refine s_iconst dX10_leg_1 (cin rfl) ?_
  refine s_iload_n (j := 1) dX10_leg_2 rfl rfl ?_
  obtain ⟨r1, hv2, h⟩ := bnd h
  refine s_callV (As := [vI 1, vI x1]) (rest := []) (r := (some (vI r1))) (F' := F) dX10_leg_3 (clX10_146 (Nat.le_of_ble_eq_true rfl) (Nat.le_of_ble_eq_true rfl)) ho rfl ⟨_, _, _, _, rfl, ho, hv2, rfl, rfl⟩ rfl (Nat.le_of_ble_eq_true rfl) ?_
  refine s_if_ne (tgt := 12) dX10_leg_6 rfl (fun hc3 => ?_) (fun hc3 => ?_)
  · have h := ifp hc3 h
    refine s_iconst dX10_leg_12 (cin rfl) ?_
    refine s_iload_n (j := 1) dX10_leg_13 rfl rfl ?_
    refine s_callS (As := [vI 1, vI x1]) (rest := []) (r := (some (vI (fX10_placeOf 1 x1)))) (F' := F) dX10_leg_14 (clX10_169 (Nat.le_of_ble_eq_true rfl) (Nat.le_of_ble_eq_true rfl)) rfl ⟨_, _, _, rfl, rfl, rfl, rfl⟩ rfl (Nat.le_of_ble_eq_true rfl) ?_
    refine s_istore (ls' := [(4, vI (fX10_placeOf 1 x1)), (0, vR o), (1, vI x1), (2, vI x2), (3, vI x3)]) dX10_leg_17 (Nat.le_of_ble_eq_true rfl) rfl ?_
    refine s_iload_n (j := 3) dX10_leg_19 rfl rfl ?_
    refine s_iconst dX10_leg_20 (cin rfl) ?_
    refine s_icmp_ne (tgt := 41) dX10_leg_21 rfl (fun hc4 => ?_) (fun hc4 => ?_)
    · have h := ifp hc4 h
      refine s_iload_n (j := 3) dX10_leg_41 rfl rfl ?_
      refine s_iconst dX10_leg_42 (cin rfl) ?_
      refine s_aload_n (j := 1) dX10_leg_43 rfl rfl ?_
      refine s_getR dX10_leg_44 flX10_7 ho ?_
      refine s_iload (j := 0) dX10_leg_47 rfl ?_
      obtain ⟨hb5, h⟩ := gd h
      refine s_iaload dX10_leg_49 (trX10_0 ho) hb5.1 hb5.2 ?_
      refine s_iconst dX10_leg_50 (cin rfl) ?_
      refine s_isub dX10_leg_51 ?_
      refine s_callS (As := [vI x2, vI 0, vI (xw ((F (o + 1) (fX10_placeOf 1 x1).toNat) - 1))]) (rest := []) (r := (some (vI (fX10_isIn x2 0 (xw ((F (o + 1) (fX10_placeOf 1 x1).toNat) - 1)))))) (F' := F) dX10_leg_52 (clX10_115 (Nat.le_of_ble_eq_true rfl) (Nat.le_of_ble_eq_true rfl)) rfl ⟨_, _, _, _, rfl, rfl, rfl, rfl⟩ rfl (Nat.le_of_ble_eq_true rfl) ?_
      refine s_if_eq (tgt := 85) dX10_leg_55 rfl (fun hc6 => ?_) (fun hc6 => ?_)
      · have h := ifp hc6 h
        refine s_bipush dX10_leg_85 rfl (cin rfl) ?_
        have h := Option.some.inj h
        subst h
        exact s_ireturn dX10_leg_87 rfl hq
      · have h := ifn hc6 h
        refine s_iload_n (j := 4) dX10_leg_58 rfl rfl ?_
        refine s_iconst dX10_leg_59 (cin rfl) ?_
        refine s_iconst dX10_leg_60 (cin rfl) ?_
        refine s_callS (As := [vI x3, vI 0, vI 2]) (rest := []) (r := (some (vI (fX10_isIn x3 0 2)))) (F' := F) dX10_leg_61 (clX10_115 (Nat.le_of_ble_eq_true rfl) (Nat.le_of_ble_eq_true rfl)) rfl ⟨_, _, _, _, rfl, rfl, rfl, rfl⟩ rfl (Nat.le_of_ble_eq_true rfl) ?_
        refine s_if_eq (tgt := 85) dX10_leg_64 rfl (fun hc7 => ?_) (fun hc7 => ?_)
        · have h := ifp hc7 h
          refine s_bipush dX10_leg_85 rfl (cin rfl) ?_
          have h := Option.some.inj h
          subst h
          exact s_ireturn dX10_leg_87 rfl hq
        · have h := ifn hc7 h
          refine s_aload_n (j := 1) dX10_leg_67 rfl rfl ?_
          refine s_getR dX10_leg_68 flX10_7 ho ?_
          refine s_iload (j := 0) dX10_leg_71 rfl ?_
          refine s_iconst dX10_leg_73 (cin rfl) ?_
          refine s_iadd dX10_leg_74 ?_
          refine s_iconst dX10_leg_75 (cin rfl) ?_
          refine s_iload_n (j := 3) dX10_leg_76 rfl rfl ?_
          refine s_imul dX10_leg_77 ?_
          refine s_iadd dX10_leg_78 ?_
          refine s_iload_n (j := 4) dX10_leg_79 rfl rfl ?_
          refine s_iadd dX10_leg_80 ?_
          obtain ⟨hb8, h⟩ := gd h
          refine s_iaload dX10_leg_81 (trX10_0 ho) hb8.1 hb8.2 ?_
          refine s_goto (tgt := 87) dX10_leg_82 rfl ?_
          have h := Option.some.inj h
          subst h
          exact s_ireturn dX10_leg_87 rfl hq
    · have h := ifn hc4 h
      refine s_iload_n (j := 4) dX10_leg_24 rfl rfl ?_
      refine s_if_ne (tgt := 38) dX10_leg_25 rfl (fun hc9 => ?_) (fun hc9 => ?_)
      · have h := ifp hc9 h
        refine s_bipush dX10_leg_38 rfl (cin rfl) ?_
        have h := Option.some.inj h
        subst h
        exact s_ireturn dX10_leg_40 rfl hq
      · have h := ifn hc9 h
        refine s_aload_n (j := 1) dX10_leg_28 rfl rfl ?_
        refine s_getR dX10_leg_29 flX10_7 ho ?_
        refine s_iload (j := 0) dX10_leg_32 rfl ?_
        obtain ⟨hb10, h⟩ := gd h
        refine s_iaload dX10_leg_34 (trX10_0 ho) hb10.1 hb10.2 ?_
        refine s_goto (tgt := 40) dX10_leg_35 rfl ?_
        have h := Option.some.inj h
        subst h
        exact s_ireturn dX10_leg_40 rfl hq
  · have h := ifn hc3 h
    refine s_bipush dX10_leg_9 rfl (cin rfl) ?_
    have h := Option.some.inj h
    subst h
    exact s_ireturn dX10_leg_11 rfl hq
def gX10_leg : XG := fun As F r F' => ∃ o : Nat, ∃ x1 : Int, ∃ x2 : Int, ∃ x3 : Int, ∃ res : Int, As = [vR o, vI x1, vI x2, vI x3] ∧ isK o 10 ∧ fX10_leg o x1 x2 x3 F = some res ∧ r = some (vI res) ∧ F' = F
theorem ctX10_leg : xCT yX10_leg cX10_leg 5 (some FieldType.int) 2 44 gX10_leg := xmet (by decide +kernel) (fun As F r F' hg => by obtain ⟨o, x1, x2, x3, res, rfl, ho, h, rfl, rfl⟩ := hg; exact Nat.le_of_ble_eq_true rfl) (fun As F r F' hg => by obtain ⟨o, x1, x2, x3, res, rfl, ho, h, rfl, rfl⟩ := hg; exact fX10_leg_ok o x1 x2 x3 _ _ ho h ⟨rfl, rfl⟩)
theorem mcX10_leg : Cond.code yX10_leg cX10_leg 5 (some FieldType.int) ∈ xw_T ∧ Cond.initialized yX10_leg.cls ∈ xw_T ∧ Cond.instanceMethod yX10_leg ∈ xw_T ∧ Cond.selects yX10_leg.cls yX10_leg yX10_leg ∈ xw_T := ⟨(xinT 1624 (by decide +kernel) (by decide +kernel)), (xinT 127 (by decide +kernel) (by decide +kernel)), (xinT 1622 (by decide +kernel) (by decide +kernel)), (xinT 1623 (by decide +kernel) (by decide +kernel))⟩
theorem dX10_goes_0 : decode cX10_goes 0 = .ok (.iconst 1, 1) := by decide +kernel
theorem dX10_goes_1 : decode cX10_goes 1 = .ok (.iload_n 1, 1) := by decide +kernel
theorem dX10_goes_2 : decode cX10_goes 2 = .ok (.invokestatic 169, 3) := by decide +kernel
theorem dX10_goes_5 : decode cX10_goes 5 = .ok (.istore_n 2, 1) := by decide +kernel
theorem dX10_goes_6 : decode cX10_goes 6 = .ok (.aload_n 0, 1) := by decide +kernel
theorem dX10_goes_7 : decode cX10_goes 7 = .ok (.iconst 4, 1) := by decide +kernel
theorem dX10_goes_8 : decode cX10_goes 8 = .ok (.invokevirtual 181, 3) := by decide +kernel
theorem dX10_goes_11 : decode cX10_goes 11 = .ok (.istore_n 3, 1) := by decide +kernel
theorem dX10_goes_12 : decode cX10_goes 12 = .ok (.iconst 0, 1) := by decide +kernel
theorem dX10_goes_13 : decode cX10_goes 13 = .ok (.istore 4, 2) := by decide +kernel
theorem dX10_goes_15 : decode cX10_goes 15 = .ok (.aload_n 0, 1) := by decide +kernel
theorem dX10_goes_16 : decode cX10_goes 16 = .ok (.iconst 0, 1) := by decide +kernel
theorem dX10_goes_17 : decode cX10_goes 17 = .ok (.putfield 205, 3) := by decide +kernel
theorem dX10_goes_20 : decode cX10_goes 20 = .ok (.aload_n 0, 1) := by decide +kernel
theorem dX10_goes_21 : decode cX10_goes 21 = .ok (.iconst 0, 1) := by decide +kernel
theorem dX10_goes_22 : decode cX10_goes 22 = .ok (.putfield 208, 3) := by decide +kernel
theorem dX10_goes_25 : decode cX10_goes 25 = .ok (.iconst 0, 1) := by decide +kernel
theorem dX10_goes_26 : decode cX10_goes 26 = .ok (.istore 5, 2) := by decide +kernel
theorem dX10_goes_28 : decode cX10_goes 28 = .ok (.iload 5, 2) := by decide +kernel
theorem dX10_goes_30 : decode cX10_goes 30 = .ok (.bipush 48, 2) := by decide +kernel
theorem dX10_goes_32 : decode cX10_goes 32 = .ok (.if_icmp .ge 17, 3) := by decide +kernel
theorem dX10_goes_35 : decode cX10_goes 35 = .ok (.aload_n 0, 1) := by decide +kernel
theorem dX10_goes_36 : decode cX10_goes 36 = .ok (.getfield 27, 3) := by decide +kernel
theorem dX10_goes_39 : decode cX10_goes 39 = .ok (.iload 5, 2) := by decide +kernel
theorem dX10_goes_41 : decode cX10_goes 41 = .ok (.iload_n 3, 1) := by decide +kernel
theorem dX10_goes_42 : decode cX10_goes 42 = .ok (.iastore, 1) := by decide +kernel
theorem dX10_goes_43 : decode cX10_goes 43 = .ok (.iinc 5 1, 3) := by decide +kernel
theorem dX10_goes_46 : decode cX10_goes 46 = .ok (.goto (-18), 3) := by decide +kernel
theorem dX10_goes_49 : decode cX10_goes 49 = .ok (.iconst 1, 1) := by decide +kernel
theorem dX10_goes_50 : decode cX10_goes 50 = .ok (.istore 5, 2) := by decide +kernel
theorem dX10_goes_52 : decode cX10_goes 52 = .ok (.iload 5, 2) := by decide +kernel
theorem dX10_goes_54 : decode cX10_goes 54 = .ok (.ifCond .eq 202, 3) := by decide +kernel
theorem dX10_goes_57 : decode cX10_goes 57 = .ok (.aload_n 0, 1) := by decide +kernel
theorem dX10_goes_58 : decode cX10_goes 58 = .ok (.getfield 205, 3) := by decide +kernel
theorem dX10_goes_61 : decode cX10_goes 61 = .ok (.aload_n 0, 1) := by decide +kernel
theorem dX10_goes_62 : decode cX10_goes 62 = .ok (.getfield 7, 3) := by decide +kernel
theorem dX10_goes_65 : decode cX10_goes 65 = .ok (.iload_n 2, 1) := by decide +kernel
theorem dX10_goes_66 : decode cX10_goes 66 = .ok (.iaload, 1) := by decide +kernel
theorem dX10_goes_67 : decode cX10_goes 67 = .ok (.if_icmp .ge 189, 3) := by decide +kernel
theorem dX10_goes_70 : decode cX10_goes 70 = .ok (.iload_n 2, 1) := by decide +kernel
theorem dX10_goes_71 : decode cX10_goes 71 = .ok (.iconst 1, 1) := by decide +kernel
theorem dX10_goes_72 : decode cX10_goes 72 = .ok (.iadd, 1) := by decide +kernel
theorem dX10_goes_73 : decode cX10_goes 73 = .ok (.iconst 3, 1) := by decide +kernel
theorem dX10_goes_74 : decode cX10_goes 74 = .ok (.aload_n 0, 1) := by decide +kernel
theorem dX10_goes_75 : decode cX10_goes 75 = .ok (.getfield 205, 3) := by decide +kernel
theorem dX10_goes_78 : decode cX10_goes 78 = .ok (.imul, 1) := by decide +kernel
theorem dX10_goes_79 : decode cX10_goes 79 = .ok (.iadd, 1) := by decide +kernel
theorem dX10_goes_80 : decode cX10_goes 80 = .ok (.istore 6, 2) := by decide +kernel
theorem dX10_goes_82 : decode cX10_goes 82 = .ok (.aload_n 0, 1) := by decide +kernel
theorem dX10_goes_83 : decode cX10_goes 83 = .ok (.getfield 7, 3) := by decide +kernel
theorem dX10_goes_86 : decode cX10_goes 86 = .ok (.iload 6, 2) := by decide +kernel
theorem dX10_goes_88 : decode cX10_goes 88 = .ok (.iaload, 1) := by decide +kernel
theorem dX10_goes_89 : decode cX10_goes 89 = .ok (.istore 7, 2) := by decide +kernel
theorem dX10_goes_91 : decode cX10_goes 91 = .ok (.aload_n 0, 1) := by decide +kernel
theorem dX10_goes_92 : decode cX10_goes 92 = .ok (.iload 7, 2) := by decide +kernel
theorem dX10_goes_94 : decode cX10_goes 94 = .ok (.invokevirtual 189, 3) := by decide +kernel
theorem dX10_goes_97 : decode cX10_goes 97 = .ok (.ifCond .eq 46, 3) := by decide +kernel
theorem dX10_goes_100 : decode cX10_goes 100 = .ok (.aload_n 0, 1) := by decide +kernel
theorem dX10_goes_101 : decode cX10_goes 101 = .ok (.getfield 7, 3) := by decide +kernel
theorem dX10_goes_104 : decode cX10_goes 104 = .ok (.iload 6, 2) := by decide +kernel
theorem dX10_goes_106 : decode cX10_goes 106 = .ok (.iconst 2, 1) := by decide +kernel
theorem dX10_goes_107 : decode cX10_goes 107 = .ok (.iadd, 1) := by decide +kernel
theorem dX10_goes_108 : decode cX10_goes 108 = .ok (.iaload, 1) := by decide +kernel
theorem dX10_goes_109 : decode cX10_goes 109 = .ok (.aload_n 0, 1) := by decide +kernel
theorem dX10_goes_110 : decode cX10_goes 110 = .ok (.iconst 0, 1) := by decide +kernel
theorem dX10_goes_111 : decode cX10_goes 111 = .ok (.invokevirtual 181, 3) := by decide +kernel
theorem dX10_goes_114 : decode cX10_goes 114 = .ok (.if_icmp .gt 29, 3) := by decide +kernel
theorem dX10_goes_117 : decode cX10_goes 117 = .ok (.iload 4, 2) := by decide +kernel
theorem dX10_goes_119 : decode cX10_goes 119 = .ok (.aload_n 0, 1) := by decide +kernel
theorem dX10_goes_120 : decode cX10_goes 120 = .ok (.iload_n 3, 1) := by decide +kernel
theorem dX10_goes_121 : decode cX10_goes 121 = .ok (.iload 7, 2) := by decide +kernel
theorem dX10_goes_123 : decode cX10_goes 123 = .ok (.invokevirtual 199, 3) := by decide +kernel
theorem dX10_goes_126 : decode cX10_goes 126 = .ok (.iadd, 1) := by decide +kernel
theorem dX10_goes_127 : decode cX10_goes 127 = .ok (.aload_n 0, 1) := by decide +kernel
theorem dX10_goes_128 : decode cX10_goes 128 = .ok (.getfield 7, 3) := by decide +kernel
theorem dX10_goes_131 : decode cX10_goes 131 = .ok (.iload 6, 2) := by decide +kernel
theorem dX10_goes_133 : decode cX10_goes 133 = .ok (.iconst 1, 1) := by decide +kernel
theorem dX10_goes_134 : decode cX10_goes 134 = .ok (.iadd, 1) := by decide +kernel
theorem dX10_goes_135 : decode cX10_goes 135 = .ok (.iaload, 1) := by decide +kernel
theorem dX10_goes_136 : decode cX10_goes 136 = .ok (.if_icmp .gt 7, 3) := by decide +kernel
theorem dX10_goes_139 : decode cX10_goes 139 = .ok (.iconst 1, 1) := by decide +kernel
theorem dX10_goes_140 : decode cX10_goes 140 = .ok (.goto 4, 3) := by decide +kernel
theorem dX10_goes_143 : decode cX10_goes 143 = .ok (.iconst 0, 1) := by decide +kernel
theorem dX10_goes_144 : decode cX10_goes 144 = .ok (.istore 5, 2) := by decide +kernel
theorem dX10_goes_146 : decode cX10_goes 146 = .ok (.iload 5, 2) := by decide +kernel
theorem dX10_goes_148 : decode cX10_goes 148 = .ok (.ifCond .ne 6, 3) := by decide +kernel
theorem dX10_goes_151 : decode cX10_goes 151 = .ok (.goto (-99), 3) := by decide +kernel
theorem dX10_goes_154 : decode cX10_goes 154 = .ok (.aload_n 0, 1) := by decide +kernel
theorem dX10_goes_155 : decode cX10_goes 155 = .ok (.getfield 7, 3) := by decide +kernel
theorem dX10_goes_158 : decode cX10_goes 158 = .ok (.iload 6, 2) := by decide +kernel
theorem dX10_goes_160 : decode cX10_goes 160 = .ok (.iconst 1, 1) := by decide +kernel
theorem dX10_goes_161 : decode cX10_goes 161 = .ok (.iadd, 1) := by decide +kernel
theorem dX10_goes_162 : decode cX10_goes 162 = .ok (.iaload, 1) := by decide +kernel
theorem dX10_goes_163 : decode cX10_goes 163 = .ok (.aload_n 0, 1) := by decide +kernel
theorem dX10_goes_164 : decode cX10_goes 164 = .ok (.iload_n 3, 1) := by decide +kernel
theorem dX10_goes_165 : decode cX10_goes 165 = .ok (.iload 7, 2) := by decide +kernel
theorem dX10_goes_167 : decode cX10_goes 167 = .ok (.invokevirtual 199, 3) := by decide +kernel
theorem dX10_goes_170 : decode cX10_goes 170 = .ok (.isub, 1) := by decide +kernel
theorem dX10_goes_171 : decode cX10_goes 171 = .ok (.istore 8, 2) := by decide +kernel
theorem dX10_goes_173 : decode cX10_goes 173 = .ok (.iload 8, 2) := by decide +kernel
theorem dX10_goes_175 : decode cX10_goes 175 = .ok (.bipush 48, 2) := by decide +kernel
theorem dX10_goes_177 : decode cX10_goes 177 = .ok (.if_icmp .ge 36, 3) := by decide +kernel
theorem dX10_goes_180 : decode cX10_goes 180 = .ok (.aload_n 0, 1) := by decide +kernel
theorem dX10_goes_181 : decode cX10_goes 181 = .ok (.getfield 27, 3) := by decide +kernel
theorem dX10_goes_184 : decode cX10_goes 184 = .ok (.iload 8, 2) := by decide +kernel
theorem dX10_goes_186 : decode cX10_goes 186 = .ok (.iload 8, 2) := by decide +kernel
theorem dX10_goes_188 : decode cX10_goes 188 = .ok (.aload_n 0, 1) := by decide +kernel
theorem dX10_goes_189 : decode cX10_goes 189 = .ok (.getfield 7, 3) := by decide +kernel
theorem dX10_goes_192 : decode cX10_goes 192 = .ok (.iload 6, 2) := by decide +kernel
theorem dX10_goes_194 : decode cX10_goes 194 = .ok (.iconst 1, 1) := by decide +kernel
theorem dX10_goes_195 : decode cX10_goes 195 = .ok (.iadd, 1) := by decide +kernel
theorem dX10_goes_196 : decode cX10_goes 196 = .ok (.iaload, 1) := by decide +kernel
theorem dX10_goes_197 : decode cX10_goes 197 = .ok (.if_icmp .ge 7, 3) := by decide +kernel
theorem dX10_goes_200 : decode cX10_goes 200 = .ok (.iconst (-1), 1) := by decide +kernel
theorem dX10_goes_201 : decode cX10_goes 201 = .ok (.goto 5, 3) := by decide +kernel
theorem dX10_goes_204 : decode cX10_goes 204 = .ok (.iload 7, 2) := by decide +kernel
theorem dX10_goes_206 : decode cX10_goes 206 = .ok (.iastore, 1) := by decide +kernel
theorem dX10_goes_207 : decode cX10_goes 207 = .ok (.iinc 8 1, 3) := by decide +kernel
theorem dX10_goes_210 : decode cX10_goes 210 = .ok (.goto (-37), 3) := by decide +kernel
theorem dX10_goes_213 : decode cX10_goes 213 = .ok (.aload_n 0, 1) := by decide +kernel
theorem dX10_goes_214 : decode cX10_goes 214 = .ok (.dup, 1) := by decide +kernel
theorem dX10_goes_215 : decode cX10_goes 215 = .ok (.getfield 208, 3) := by decide +kernel
theorem dX10_goes_218 : decode cX10_goes 218 = .ok (.aload_n 0, 1) := by decide +kernel
theorem dX10_goes_219 : decode cX10_goes 219 = .ok (.iload_n 3, 1) := by decide +kernel
theorem dX10_goes_220 : decode cX10_goes 220 = .ok (.iload 7, 2) := by decide +kernel
theorem dX10_goes_222 : decode cX10_goes 222 = .ok (.invokevirtual 192, 3) := by decide +kernel
theorem dX10_goes_225 : decode cX10_goes 225 = .ok (.iadd, 1) := by decide +kernel
theorem dX10_goes_226 : decode cX10_goes 226 = .ok (.putfield 208, 3) := by decide +kernel
theorem dX10_goes_229 : decode cX10_goes 229 = .ok (.iload 7, 2) := by decide +kernel
theorem dX10_goes_231 : decode cX10_goes 231 = .ok (.istore_n 3, 1) := by decide +kernel
theorem dX10_goes_232 : decode cX10_goes 232 = .ok (.aload_n 0, 1) := by decide +kernel
theorem dX10_goes_233 : decode cX10_goes 233 = .ok (.getfield 7, 3) := by decide +kernel
theorem dX10_goes_236 : decode cX10_goes 236 = .ok (.iload 6, 2) := by decide +kernel
theorem dX10_goes_238 : decode cX10_goes 238 = .ok (.iconst 2, 1) := by decide +kernel
theorem dX10_goes_239 : decode cX10_goes 239 = .ok (.iadd, 1) := by decide +kernel
theorem dX10_goes_240 : decode cX10_goes 240 = .ok (.iaload, 1) := by decide +kernel
theorem dX10_goes_241 : decode cX10_goes 241 = .ok (.istore 4, 2) := by decide +kernel
theorem dX10_goes_243 : decode cX10_goes 243 = .ok (.aload_n 0, 1) := by decide +kernel
theorem dX10_goes_244 : decode cX10_goes 244 = .ok (.dup, 1) := by decide +kernel
theorem dX10_goes_245 : decode cX10_goes 245 = .ok (.getfield 205, 3) := by decide +kernel
theorem dX10_goes_248 : decode cX10_goes 248 = .ok (.iconst 1, 1) := by decide +kernel
theorem dX10_goes_249 : decode cX10_goes 249 = .ok (.iadd, 1) := by decide +kernel
theorem dX10_goes_250 : decode cX10_goes 250 = .ok (.putfield 205, 3) := by decide +kernel
theorem dX10_goes_253 : decode cX10_goes 253 = .ok (.goto (-201), 3) := by decide +kernel
theorem dX10_goes_256 : decode cX10_goes 256 = .ok (.return_, 1) := by decide +kernel
def zX10_goes (Qr : Option PV → Mem → Prop) : XZ := (RX10, 3, 68, 9, none, Qr)
noncomputable def fX10_goes_b173 (k52 : Nat → Int → Int → Int → Int → Mem → Option Mem) : Nat → Nat → Int → Int → Int → Int → Int → Int → Mem → Option Mem
  | 0, _, _, _, _, _, _, _, _ => none
  | n + 1, o, x2, x3, x5, x6, x7, x8, F =>
    if 48 ≤ x8 then
      (fX10_steps o x3 x7 F).bind fun r2 =>
      if (0 : Int) ≤ (xw (x6 + 2)) ∧ (xw (x6 + 2)) < (alen (o + 1) : Int) then
        k52 o x2 x7 ((mset F o 16 (xw ((F o 16) + r2))) (o + 1) (xw (x6 + 2)).toNat) x5 (mset (mset F o 16 (xw ((F o 16) + r2))) o 15 (xw (((mset F o 16 (xw ((F o 16) + r2))) o 15) + 1)))
      else none
    else
      if (0 : Int) ≤ (xw (x6 + 1)) ∧ (xw (x6 + 1)) < (alen (o + 1) : Int) then
        if (F (o + 1) (xw (x6 + 1)).toNat) ≤ x8 then
          if (0 : Int) ≤ x8 ∧ x8 < (alen (o + 4) : Int) then
            fX10_goes_b173 k52 n o x2 x3 x5 x6 x7 (xw (x8 + 1)) (mset F (o + 4) x8.toNat x7)
          else none
        else
          if (0 : Int) ≤ x8 ∧ x8 < (alen (o + 4) : Int) then
            fX10_goes_b173 k52 n o x2 x3 x5 x6 x7 (xw (x8 + 1)) (mset F (o + 4) x8.toNat (-1))
          else none
      else none
noncomputable def fX10_goes_b144 (k52 : Nat → Int → Int → Int → Int → Mem → Option Mem) (o : Nat) (x2 : Int) (x3 : Int) (x4 : Int) (x6 : Int) (x7 : Int) (s0 : Int) (F : Mem) : Option Mem :=
  if s0 ≠ 0 then
    if (0 : Int) ≤ (xw (x6 + 1)) ∧ (xw (x6 + 1)) < (alen (o + 1) : Int) then
      (fX10_slotsOf o x3 x7 F).bind fun r3 =>
      fX10_goes_b173 k52 FU o x2 x3 s0 x6 x7 (xw ((F (o + 1) (xw (x6 + 1)).toNat) - r3)) F
    else none
  else
    k52 o x2 x3 x4 s0 F
noncomputable def fX10_goes_b52 : Nat → Nat → Int → Int → Int → Int → Mem → Option Mem
  | 0, _, _, _, _, _, _ => none
  | n + 1, o, x2, x3, x4, x5, F =>
    if x5 = 0 then
      some F
    else
      if (0 : Int) ≤ x2 ∧ x2 < (alen (o + 1) : Int) then
        if (F (o + 1) x2.toNat) ≤ (F o 15) then
          some F
        else
          if (0 : Int) ≤ (xw ((xw (x2 + 1)) + (xw (3 * (F o 15))))) ∧ (xw ((xw (x2 + 1)) + (xw (3 * (F o 15))))) < (alen (o + 1) : Int) then
            (fX10_isHouse o (F (o + 1) (xw ((xw (x2 + 1)) + (xw (3 * (F o 15))))).toNat) F).bind fun r5 =>
            if r5 = 0 then
              fX10_goes_b144 (fX10_goes_b52 n) o x2 x3 x4 (xw ((xw (x2 + 1)) + (xw (3 * (F o 15))))) (F (o + 1) (xw ((xw (x2 + 1)) + (xw (3 * (F o 15))))).toNat) 0 F
            else
              if (0 : Int) ≤ (xw ((xw ((xw (x2 + 1)) + (xw (3 * (F o 15))))) + 2)) ∧ (xw ((xw ((xw (x2 + 1)) + (xw (3 * (F o 15))))) + 2)) < (alen (o + 1) : Int) then
                (fX10_of o 0 F).bind fun r9 =>
                if r9 < (F (o + 1) (xw ((xw ((xw (x2 + 1)) + (xw (3 * (F o 15))))) + 2)).toNat) then
                  fX10_goes_b144 (fX10_goes_b52 n) o x2 x3 x4 (xw ((xw (x2 + 1)) + (xw (3 * (F o 15))))) (F (o + 1) (xw ((xw (x2 + 1)) + (xw (3 * (F o 15))))).toNat) 0 F
                else
                  (fX10_slotsOf o x3 (F (o + 1) (xw ((xw (x2 + 1)) + (xw (3 * (F o 15))))).toNat) F).bind fun r12 =>
                  if (0 : Int) ≤ (xw ((xw ((xw (x2 + 1)) + (xw (3 * (F o 15))))) + 1)) ∧ (xw ((xw ((xw (x2 + 1)) + (xw (3 * (F o 15))))) + 1)) < (alen (o + 1) : Int) then
                    if (F (o + 1) (xw ((xw ((xw (x2 + 1)) + (xw (3 * (F o 15))))) + 1)).toNat) < (xw (x4 + r12)) then
                      fX10_goes_b144 (fX10_goes_b52 n) o x2 x3 x4 (xw ((xw (x2 + 1)) + (xw (3 * (F o 15))))) (F (o + 1) (xw ((xw (x2 + 1)) + (xw (3 * (F o 15))))).toNat) 0 F
                    else
                      fX10_goes_b144 (fX10_goes_b52 n) o x2 x3 x4 (xw ((xw (x2 + 1)) + (xw (3 * (F o 15))))) (F (o + 1) (xw ((xw (x2 + 1)) + (xw (3 * (F o 15))))).toNat) 1 F
                  else none
              else none
          else none
      else none
noncomputable def fX10_goes_b28 : Nat → Nat → Int → Int → Int → Int → Mem → Option Mem
  | 0, _, _, _, _, _, _ => none
  | n + 1, o, x2, x3, x4, x5, F =>
    if 48 ≤ x5 then
      fX10_goes_b52 FU o x2 x3 x4 1 F
    else
      if (0 : Int) ≤ x5 ∧ x5 < (alen (o + 4) : Int) then
        fX10_goes_b28 n o x2 x3 x4 (xw (x5 + 1)) (mset F (o + 4) x5.toNat x3)
      else none
noncomputable def fX10_goes (o : Nat) (x1 : Int) (F : Mem) : Option Mem :=
  (fX10_of o 4 F).bind fun r1 =>
  fX10_goes_b28 FU o (fX10_placeOf 1 x1) r1 0 0 (mset (mset F o 15 0) o 16 0)
theorem fX10_goes_b173_ok {Qr : Option PV → Mem → Prop}  (k52 : Nat → Int → Int → Int → Int → Mem → Option Mem) (hk52 : ∀ (o : Nat) (x2 : Int) (x3 : Int) (x4 : Int) (x5 : Int) (F : Mem) (res : Mem) (ho : isK o 10), k52 o x2 x3 x4 x5 F = some res → Qr none res → PR cX10_goes (zX10_goes Qr) 52 [(0, vR o), (2, vI x2), (3, vI x3), (4, vI x4), (5, vI x5)] [] F) : ∀ (n : Nat) (o : Nat) (x2 : Int) (x3 : Int) (x5 : Int) (x6 : Int) (x7 : Int) (x8 : Int) (F : Mem) (res : Mem) (ho : isK o 10), fX10_goes_b173 k52 n o x2 x3 x5 x6 x7 x8 F = some res → Qr none res → PR cX10_goes (zX10_goes Qr) 173 [(0, vR o), (2, vI x2), (3, vI x3), (5, vI x5), (6, vI x6), (7, vI x7), (8, vI x8)] [] F := by
  intro n
  induction n with
  | zero => intro o x2 x3 x5 x6 x7 x8 F res ho h hq; exact nomatch (show (none : Option _) = some _ from h)
  | succ n ih =>
    intro o x2 x3 x5 x6 x7 x8 F res ho h hq
    refine s_iload (j := 6) dX10_goes_173 rfl ?_
    refine s_bipush dX10_goes_175 rfl (cin rfl) ?_
    refine s_icmp_ge (tgt := 213) dX10_goes_177 rfl (fun hc1 => ?_) (fun hc1 => ?_)
    · have h := ifp hc1 h
      refine s_aload_n (j := 0) dX10_goes_213 rfl rfl ?_
      refine s_dup dX10_goes_214 rfl ?_
      refine s_getI dX10_goes_215 flX10_208 ho ?_
      refine s_aload_n (j := 0) dX10_goes_218 rfl rfl ?_
      refine s_iload_n (j := 2) dX10_goes_219 rfl rfl ?_
      refine s_iload (j := 5) dX10_goes_220 rfl ?_
      obtain ⟨r2, hv3, h⟩ := bnd h
      refine s_callV (As := [vI x3, vI x7]) (rest := [vI (F o 16), vR o]) (r := (some (vI r2))) (F' := F) dX10_goes_222 (clX10_192 (Nat.le_of_ble_eq_true rfl) (Nat.le_of_ble_eq_true rfl)) ho rfl ⟨_, _, _, _, rfl, ho, hv3, rfl, rfl⟩ rfl (Nat.le_of_ble_eq_true rfl) ?_
      refine s_iadd dX10_goes_225 ?_
      refine s_putI dX10_goes_226 flX10_208 fpX10_16 ho ?_
      refine s_iload (j := 5) dX10_goes_229 rfl ?_
      refine s_istore_n (ls' := [(3, vI x7), (0, vR o), (2, vI x2), (5, vI x5), (6, vI x6), (7, vI x7), (8, vI x8)]) dX10_goes_231 rfl (Nat.le_of_ble_eq_true rfl) rfl ?_
      refine s_aload_n (j := 1) dX10_goes_232 rfl rfl ?_
      refine s_getR dX10_goes_233 flX10_7 ho ?_
      refine s_iload (j := 4) dX10_goes_236 rfl ?_
      refine s_iconst dX10_goes_238 (cin rfl) ?_
      refine s_iadd dX10_goes_239 ?_
      obtain ⟨hb4, h⟩ := gd h
      refine s_iaload dX10_goes_240 (trX10_0 ho) hb4.1 hb4.2 ?_
      refine s_istore dX10_goes_241 (Nat.le_of_ble_eq_true rfl) rfl ?_
      refine s_aload_n (j := 2) dX10_goes_243 rfl rfl ?_
      refine s_dup dX10_goes_244 rfl ?_
      refine s_getI dX10_goes_245 flX10_205 ho ?_
      refine s_iconst dX10_goes_248 (cin rfl) ?_
      refine s_iadd dX10_goes_249 ?_
      refine s_putI dX10_goes_250 flX10_205 fpX10_15 ho ?_
      refine s_goto (tgt := 52) dX10_goes_253 rfl ?_
      exact s_sub (ks := [2, 3, 1, 0, 4]) rfl (hk52 o x2 x7 ((mset F o 16 (xw ((F o 16) + r2))) (o + 1) (xw (x6 + 2)).toNat) x5 (mset (mset F o 16 (xw ((F o 16) + r2))) o 15 (xw (((mset F o 16 (xw ((F o 16) + r2))) o 15) + 1))) _ ho h hq)
    · have h := ifn hc1 h
      refine s_aload_n (j := 0) dX10_goes_180 rfl rfl ?_
      refine s_getR dX10_goes_181 flX10_27 ho ?_
      refine s_iload (j := 6) dX10_goes_184 rfl ?_
      refine s_iload (j := 6) dX10_goes_186 rfl ?_
      refine s_aload_n (j := 0) dX10_goes_188 rfl rfl ?_
      refine s_getR dX10_goes_189 flX10_7 ho ?_
      refine s_iload (j := 4) dX10_goes_192 rfl ?_
      refine s_iconst dX10_goes_194 (cin rfl) ?_
      refine s_iadd dX10_goes_195 ?_
      obtain ⟨hb5, h⟩ := gd h
      refine s_iaload dX10_goes_196 (trX10_0 ho) hb5.1 hb5.2 ?_
      refine s_icmp_ge (tgt := 204) dX10_goes_197 rfl (fun hc6 => ?_) (fun hc6 => ?_)
      · have h := ifp hc6 h
        refine s_iload (j := 5) dX10_goes_204 rfl ?_
        obtain ⟨hb7, h⟩ := gd h
        refine s_iastore dX10_goes_206 (trX10_14 ho) hb7.1 hb7.2 ?_
        refine s_iinc (ls' := [(8, vI (xw (x8 + 1))), (0, vR o), (2, vI x2), (3, vI x3), (5, vI x5), (6, vI x6), (7, vI x7)]) (j := 6) dX10_goes_207 rfl (Nat.le_of_ble_eq_true rfl) rfl ?_
        refine s_goto (tgt := 173) dX10_goes_210 rfl ?_
        exact s_sub (ks := [1, 2, 3, 4, 5, 6, 0]) rfl (ih o x2 x3 x5 x6 x7 (xw (x8 + 1)) (mset F (o + 4) x8.toNat x7) _ ho h hq)
      · have h := ifn hc6 h
        refine s_iconst dX10_goes_200 (cin rfl) ?_
        refine s_goto (tgt := 206) dX10_goes_201 rfl ?_
        obtain ⟨hb8, h⟩ := gd h
        refine s_iastore dX10_goes_206 (trX10_14 ho) hb8.1 hb8.2 ?_
        refine s_iinc (ls' := [(8, vI (xw (x8 + 1))), (0, vR o), (2, vI x2), (3, vI x3), (5, vI x5), (6, vI x6), (7, vI x7)]) (j := 6) dX10_goes_207 rfl (Nat.le_of_ble_eq_true rfl) rfl ?_
        refine s_goto (tgt := 173) dX10_goes_210 rfl ?_
        exact s_sub (ks := [1, 2, 3, 4, 5, 6, 0]) rfl (ih o x2 x3 x5 x6 x7 (xw (x8 + 1)) (mset F (o + 4) x8.toNat (-1)) _ ho h hq)
theorem fX10_goes_b144_ok {Qr : Option PV → Mem → Prop}  (k52 : Nat → Int → Int → Int → Int → Mem → Option Mem) (hk52 : ∀ (o : Nat) (x2 : Int) (x3 : Int) (x4 : Int) (x5 : Int) (F : Mem) (res : Mem) (ho : isK o 10), k52 o x2 x3 x4 x5 F = some res → Qr none res → PR cX10_goes (zX10_goes Qr) 52 [(0, vR o), (2, vI x2), (3, vI x3), (4, vI x4), (5, vI x5)] [] F) : ∀ (o : Nat) (x2 : Int) (x3 : Int) (x4 : Int) (x6 : Int) (x7 : Int) (s0 : Int) (F : Mem) (res : Mem) (ho : isK o 10), fX10_goes_b144 k52 o x2 x3 x4 x6 x7 s0 F = some res → Qr none res → PR cX10_goes (zX10_goes Qr) 144 [(0, vR o), (2, vI x2), (3, vI x3), (4, vI x4), (6, vI x6), (7, vI x7)] [vI s0] F := by
  intro o x2 x3 x4 x6 x7 s0 F res ho h hq
  refine s_istore (ls' := [(5, vI s0), (0, vR o), (2, vI x2), (3, vI x3), (4, vI x4), (6, vI x6), (7, vI x7)]) dX10_goes_144 (Nat.le_of_ble_eq_true rfl) rfl ?_
  refine s_iload (j := 0) dX10_goes_146 rfl ?_
  refine s_if_ne (tgt := 154) dX10_goes_148 rfl (fun hc1 => ?_) (fun hc1 => ?_)
  · have h := ifp hc1 h
    refine s_aload_n (j := 1) dX10_goes_154 rfl rfl ?_
    refine s_getR dX10_goes_155 flX10_7 ho ?_
    refine s_iload (j := 5) dX10_goes_158 rfl ?_
    refine s_iconst dX10_goes_160 (cin rfl) ?_
    refine s_iadd dX10_goes_161 ?_
    obtain ⟨hb2, h⟩ := gd h
    refine s_iaload dX10_goes_162 (trX10_0 ho) hb2.1 hb2.2 ?_
    refine s_aload_n (j := 1) dX10_goes_163 rfl rfl ?_
    refine s_iload_n (j := 3) dX10_goes_164 rfl rfl ?_
    refine s_iload (j := 6) dX10_goes_165 rfl ?_
    obtain ⟨r3, hv4, h⟩ := bnd h
    refine s_callV (As := [vI x3, vI x7]) (rest := [vI (F (o + 1) (xw (x6 + 1)).toNat)]) (r := (some (vI r3))) (F' := F) dX10_goes_167 (clX10_199 (Nat.le_of_ble_eq_true rfl) (Nat.le_of_ble_eq_true rfl)) ho rfl ⟨_, _, _, _, rfl, ho, hv4, rfl, rfl⟩ rfl (Nat.le_of_ble_eq_true rfl) ?_
    refine s_isub dX10_goes_170 ?_
    refine s_istore (ls' := [(8, vI (xw ((F (o + 1) (xw (x6 + 1)).toNat) - r3))), (5, vI s0), (0, vR o), (2, vI x2), (3, vI x3), (4, vI x4), (6, vI x6), (7, vI x7)]) dX10_goes_171 (Nat.le_of_ble_eq_true rfl) rfl ?_
    exact s_sub (ks := [2, 3, 4, 1, 6, 7, 0]) rfl (fX10_goes_b173_ok k52 hk52 FU o x2 x3 s0 x6 x7 (xw ((F (o + 1) (xw (x6 + 1)).toNat) - r3)) F _ ho h hq)
  · have h := ifn hc1 h
    refine s_goto (tgt := 52) dX10_goes_151 rfl ?_
    exact s_sub (ks := [1, 2, 3, 4, 0]) rfl (hk52 o x2 x3 x4 s0 F _ ho h hq)
theorem fX10_goes_b52_ok {Qr : Option PV → Mem → Prop}  : ∀ (n : Nat) (o : Nat) (x2 : Int) (x3 : Int) (x4 : Int) (x5 : Int) (F : Mem) (res : Mem) (ho : isK o 10), fX10_goes_b52 n o x2 x3 x4 x5 F = some res → Qr none res → PR cX10_goes (zX10_goes Qr) 52 [(0, vR o), (2, vI x2), (3, vI x3), (4, vI x4), (5, vI x5)] [] F := by
  intro n
  induction n with
  | zero => intro o x2 x3 x4 x5 F res ho h hq; exact nomatch (show (none : Option _) = some _ from h)
  | succ n ih =>
    intro o x2 x3 x4 x5 F res ho h hq
    refine s_iload (j := 4) dX10_goes_52 rfl ?_
    refine s_if_eq (tgt := 256) dX10_goes_54 rfl (fun hc1 => ?_) (fun hc1 => ?_)
    · have h := ifp hc1 h
      have h := Option.some.inj h
      subst h
      exact s_return dX10_goes_256 rfl hq
    · have h := ifn hc1 h
      refine s_aload_n (j := 0) dX10_goes_57 rfl rfl ?_
      refine s_getI dX10_goes_58 flX10_205 ho ?_
      refine s_aload_n (j := 0) dX10_goes_61 rfl rfl ?_
      refine s_getR dX10_goes_62 flX10_7 ho ?_
      refine s_iload_n (j := 1) dX10_goes_65 rfl rfl ?_
      obtain ⟨hb2, h⟩ := gd h
      refine s_iaload dX10_goes_66 (trX10_0 ho) hb2.1 hb2.2 ?_
      refine s_icmp_ge (tgt := 256) dX10_goes_67 rfl (fun hc3 => ?_) (fun hc3 => ?_)
      · have h := ifp hc3 h
        have h := Option.some.inj h
        subst h
        exact s_return dX10_goes_256 rfl hq
      · have h := ifn hc3 h
        refine s_iload_n (j := 1) dX10_goes_70 rfl rfl ?_
        refine s_iconst dX10_goes_71 (cin rfl) ?_
        refine s_iadd dX10_goes_72 ?_
        refine s_iconst dX10_goes_73 (cin rfl) ?_
        refine s_aload_n (j := 0) dX10_goes_74 rfl rfl ?_
        refine s_getI dX10_goes_75 flX10_205 ho ?_
        refine s_imul dX10_goes_78 ?_
        refine s_iadd dX10_goes_79 ?_
        refine s_istore (ls' := [(6, vI (xw ((xw (x2 + 1)) + (xw (3 * (F o 15)))))), (0, vR o), (2, vI x2), (3, vI x3), (4, vI x4), (5, vI x5)]) dX10_goes_80 (Nat.le_of_ble_eq_true rfl) rfl ?_
        refine s_aload_n (j := 1) dX10_goes_82 rfl rfl ?_
        refine s_getR dX10_goes_83 flX10_7 ho ?_
        refine s_iload (j := 0) dX10_goes_86 rfl ?_
        obtain ⟨hb4, h⟩ := gd h
        refine s_iaload dX10_goes_88 (trX10_0 ho) hb4.1 hb4.2 ?_
        refine s_istore dX10_goes_89 (Nat.le_of_ble_eq_true rfl) rfl ?_
        refine s_aload_n (j := 2) dX10_goes_91 rfl rfl ?_
        refine s_iload (j := 0) dX10_goes_92 rfl ?_
        obtain ⟨r5, hv6, h⟩ := bnd h
        refine s_callV (As := [vI (F (o + 1) (xw ((xw (x2 + 1)) + (xw (3 * (F o 15))))).toNat)]) (rest := []) (r := (some (vI r5))) (F' := F) dX10_goes_94 (clX10_189 (Nat.le_of_ble_eq_true rfl) (Nat.le_of_ble_eq_true rfl)) ho rfl ⟨_, _, _, rfl, ho, hv6, rfl, rfl⟩ rfl (Nat.le_of_ble_eq_true rfl) ?_
        refine s_if_eq (tgt := 143) dX10_goes_97 rfl (fun hc7 => ?_) (fun hc7 => ?_)
        · have h := ifp hc7 h
          refine s_iconst dX10_goes_143 (cin rfl) ?_
          exact s_sub (ks := [2, 3, 4, 5, 1, 0]) rfl (fX10_goes_b144_ok (fX10_goes_b52 n) ih o x2 x3 x4 (xw ((xw (x2 + 1)) + (xw (3 * (F o 15))))) (F (o + 1) (xw ((xw (x2 + 1)) + (xw (3 * (F o 15))))).toNat) 0 F _ ho h hq)
        · have h := ifn hc7 h
          refine s_aload_n (j := 2) dX10_goes_100 rfl rfl ?_
          refine s_getR dX10_goes_101 flX10_7 ho ?_
          refine s_iload (j := 1) dX10_goes_104 rfl ?_
          refine s_iconst dX10_goes_106 (cin rfl) ?_
          refine s_iadd dX10_goes_107 ?_
          obtain ⟨hb8, h⟩ := gd h
          refine s_iaload dX10_goes_108 (trX10_0 ho) hb8.1 hb8.2 ?_
          refine s_aload_n (j := 2) dX10_goes_109 rfl rfl ?_
          refine s_iconst dX10_goes_110 (cin rfl) ?_
          obtain ⟨r9, hv10, h⟩ := bnd h
          refine s_callV (As := [vI 0]) (rest := [vI (F (o + 1) (xw ((xw ((xw (x2 + 1)) + (xw (3 * (F o 15))))) + 2)).toNat)]) (r := (some (vI r9))) (F' := F) dX10_goes_111 (clX10_181 (Nat.le_of_ble_eq_true rfl) (Nat.le_of_ble_eq_true rfl)) ho rfl ⟨_, _, _, rfl, ho, hv10, rfl, rfl⟩ rfl (Nat.le_of_ble_eq_true rfl) ?_
          refine s_icmp_gt (tgt := 143) dX10_goes_114 rfl (fun hc11 => ?_) (fun hc11 => ?_)
          · have h := ifp hc11 h
            refine s_iconst dX10_goes_143 (cin rfl) ?_
            exact s_sub (ks := [2, 3, 4, 5, 1, 0]) rfl (fX10_goes_b144_ok (fX10_goes_b52 n) ih o x2 x3 x4 (xw ((xw (x2 + 1)) + (xw (3 * (F o 15))))) (F (o + 1) (xw ((xw (x2 + 1)) + (xw (3 * (F o 15))))).toNat) 0 F _ ho h hq)
          · have h := ifn hc11 h
            refine s_iload (j := 5) dX10_goes_117 rfl ?_
            refine s_aload_n (j := 2) dX10_goes_119 rfl rfl ?_
            refine s_iload_n (j := 4) dX10_goes_120 rfl rfl ?_
            refine s_iload (j := 0) dX10_goes_121 rfl ?_
            obtain ⟨r12, hv13, h⟩ := bnd h
            refine s_callV (As := [vI x3, vI (F (o + 1) (xw ((xw (x2 + 1)) + (xw (3 * (F o 15))))).toNat)]) (rest := [vI x4]) (r := (some (vI r12))) (F' := F) dX10_goes_123 (clX10_199 (Nat.le_of_ble_eq_true rfl) (Nat.le_of_ble_eq_true rfl)) ho rfl ⟨_, _, _, _, rfl, ho, hv13, rfl, rfl⟩ rfl (Nat.le_of_ble_eq_true rfl) ?_
            refine s_iadd dX10_goes_126 ?_
            refine s_aload_n (j := 2) dX10_goes_127 rfl rfl ?_
            refine s_getR dX10_goes_128 flX10_7 ho ?_
            refine s_iload (j := 1) dX10_goes_131 rfl ?_
            refine s_iconst dX10_goes_133 (cin rfl) ?_
            refine s_iadd dX10_goes_134 ?_
            obtain ⟨hb14, h⟩ := gd h
            refine s_iaload dX10_goes_135 (trX10_0 ho) hb14.1 hb14.2 ?_
            refine s_icmp_gt (tgt := 143) dX10_goes_136 rfl (fun hc15 => ?_) (fun hc15 => ?_)
            · have h := ifp hc15 h
              refine s_iconst dX10_goes_143 (cin rfl) ?_
              exact s_sub (ks := [2, 3, 4, 5, 1, 0]) rfl (fX10_goes_b144_ok (fX10_goes_b52 n) ih o x2 x3 x4 (xw ((xw (x2 + 1)) + (xw (3 * (F o 15))))) (F (o + 1) (xw ((xw (x2 + 1)) + (xw (3 * (F o 15))))).toNat) 0 F _ ho h hq)
            · have h := ifn hc15 h
              refine s_iconst dX10_goes_139 (cin rfl) ?_
              refine s_goto (tgt := 144) dX10_goes_140 rfl ?_
              exact s_sub (ks := [2, 3, 4, 5, 1, 0]) rfl (fX10_goes_b144_ok (fX10_goes_b52 n) ih o x2 x3 x4 (xw ((xw (x2 + 1)) + (xw (3 * (F o 15))))) (F (o + 1) (xw ((xw (x2 + 1)) + (xw (3 * (F o 15))))).toNat) 1 F _ ho h hq)
theorem fX10_goes_b28_ok {Qr : Option PV → Mem → Prop}  : ∀ (n : Nat) (o : Nat) (x2 : Int) (x3 : Int) (x4 : Int) (x5 : Int) (F : Mem) (res : Mem) (ho : isK o 10), fX10_goes_b28 n o x2 x3 x4 x5 F = some res → Qr none res → PR cX10_goes (zX10_goes Qr) 28 [(0, vR o), (2, vI x2), (3, vI x3), (4, vI x4), (5, vI x5)] [] F := by
  intro n
  induction n with
  | zero => intro o x2 x3 x4 x5 F res ho h hq; exact nomatch (show (none : Option _) = some _ from h)
  | succ n ih =>
    intro o x2 x3 x4 x5 F res ho h hq
    refine s_iload (j := 4) dX10_goes_28 rfl ?_
    refine s_bipush dX10_goes_30 rfl (cin rfl) ?_
    refine s_icmp_ge (tgt := 49) dX10_goes_32 rfl (fun hc1 => ?_) (fun hc1 => ?_)
    · have h := ifp hc1 h
      refine s_iconst dX10_goes_49 (cin rfl) ?_
      refine s_istore (ls' := [(5, vI 1), (0, vR o), (2, vI x2), (3, vI x3), (4, vI x4)]) dX10_goes_50 (Nat.le_of_ble_eq_true rfl) rfl ?_
      exact s_sub (ks := [1, 2, 3, 4, 0]) rfl (fX10_goes_b52_ok FU o x2 x3 x4 1 F _ ho h hq)
    · have h := ifn hc1 h
      refine s_aload_n (j := 0) dX10_goes_35 rfl rfl ?_
      refine s_getR dX10_goes_36 flX10_27 ho ?_
      refine s_iload (j := 4) dX10_goes_39 rfl ?_
      refine s_iload_n (j := 2) dX10_goes_41 rfl rfl ?_
      obtain ⟨hb2, h⟩ := gd h
      refine s_iastore dX10_goes_42 (trX10_14 ho) hb2.1 hb2.2 ?_
      refine s_iinc (ls' := [(5, vI (xw (x5 + 1))), (0, vR o), (2, vI x2), (3, vI x3), (4, vI x4)]) (j := 4) dX10_goes_43 rfl (Nat.le_of_ble_eq_true rfl) rfl ?_
      refine s_goto (tgt := 28) dX10_goes_46 rfl ?_
      exact s_sub (ks := [1, 2, 3, 4, 0]) rfl (ih o x2 x3 x4 (xw (x5 + 1)) (mset F (o + 4) x5.toNat x3) _ ho h hq)
theorem fX10_goes_ok {Qr : Option PV → Mem → Prop} : ∀ (o : Nat) (x1 : Int) (F : Mem) (res : Mem) (ho : isK o 10), fX10_goes o x1 F = some res → Qr none res → PR cX10_goes (zX10_goes Qr) 0 [(0, vR o), (1, vI x1)] [] F := by
  intro o x1 F res ho h hq
  refine s_iconst dX10_goes_0 (cin rfl) ?_
  refine s_iload_n (j := 1) dX10_goes_1 rfl rfl ?_
  refine s_callS (As := [vI 1, vI x1]) (rest := []) (r := (some (vI (fX10_placeOf 1 x1)))) (F' := F) dX10_goes_2 (clX10_169 (Nat.le_of_ble_eq_true rfl) (Nat.le_of_ble_eq_true rfl)) rfl ⟨_, _, _, rfl, rfl, rfl, rfl⟩ rfl (Nat.le_of_ble_eq_true rfl) ?_
  refine s_istore_n (ls' := [(2, vI (fX10_placeOf 1 x1)), (0, vR o), (1, vI x1)]) dX10_goes_5 rfl (Nat.le_of_ble_eq_true rfl) rfl ?_
  refine s_aload_n (j := 1) dX10_goes_6 rfl rfl ?_
  refine s_iconst dX10_goes_7 (cin rfl) ?_
  obtain ⟨r1, hv2, h⟩ := bnd h
  refine s_callV (As := [vI 4]) (rest := []) (r := (some (vI r1))) (F' := F) dX10_goes_8 (clX10_181 (Nat.le_of_ble_eq_true rfl) (Nat.le_of_ble_eq_true rfl)) ho rfl ⟨_, _, _, rfl, ho, hv2, rfl, rfl⟩ rfl (Nat.le_of_ble_eq_true rfl) ?_
  refine s_istore_n dX10_goes_11 rfl (Nat.le_of_ble_eq_true rfl) rfl ?_
  refine s_iconst dX10_goes_12 (cin rfl) ?_
  refine s_istore (ls' := [(4, vI 0), (3, vI r1), (2, vI (fX10_placeOf 1 x1)), (0, vR o), (1, vI x1)]) dX10_goes_13 (Nat.le_of_ble_eq_true rfl) rfl ?_
  refine s_aload_n (j := 3) dX10_goes_15 rfl rfl ?_
  refine s_iconst dX10_goes_16 (cin rfl) ?_
  refine s_putI dX10_goes_17 flX10_205 fpX10_15 ho ?_
  refine s_aload_n (j := 3) dX10_goes_20 rfl rfl ?_
  refine s_iconst dX10_goes_21 (cin rfl) ?_
  refine s_putI dX10_goes_22 flX10_208 fpX10_16 ho ?_
  refine s_iconst dX10_goes_25 (cin rfl) ?_
  refine s_istore dX10_goes_26 (Nat.le_of_ble_eq_true rfl) rfl ?_
  exact s_sub (ks := [4, 3, 2, 1, 0]) rfl (fX10_goes_b28_ok FU o (fX10_placeOf 1 x1) r1 0 0 (mset (mset F o 15 0) o 16 0) _ ho h hq)
def gX10_goes : XG := fun As F r F' => ∃ o : Nat, ∃ x1 : Int, ∃ res : Mem, As = [vR o, vI x1] ∧ isK o 10 ∧ fX10_goes o x1 F = some res ∧ r = none ∧ F' = res
theorem ctX10_goes : xCT yX10_goes cX10_goes 9 (none) 3 68 gX10_goes := xmet (by decide +kernel) (fun As F r F' hg => by obtain ⟨o, x1, res, rfl, ho, h, rfl, rfl⟩ := hg; exact Nat.le_of_ble_eq_true rfl) (fun As F r F' hg => by obtain ⟨o, x1, res, rfl, ho, h, rfl, rfl⟩ := hg; exact fX10_goes_ok o x1 _ _ ho h ⟨rfl, rfl⟩)
theorem mcX10_goes : Cond.code yX10_goes cX10_goes 9 (none) ∈ xw_T ∧ Cond.initialized yX10_goes.cls ∈ xw_T ∧ Cond.instanceMethod yX10_goes ∈ xw_T ∧ Cond.selects yX10_goes.cls yX10_goes yX10_goes ∈ xw_T := ⟨(xinT 1636 (by decide +kernel) (by decide +kernel)), (xinT 127 (by decide +kernel) (by decide +kernel)), (xinT 1635 (by decide +kernel) (by decide +kernel)), (xinT 65 (by decide +kernel) (by decide +kernel))⟩
theorem clX10_211 {fr lo : Nat} (h1 : 3 + 1 ≤ fr) (h2 : 8 + (9 + 11) + 68 ≤ lo) : xCall RX10 fr lo 0 211 10 1 gX10_goes := ⟨_, _, _, _, _, _, ctX10_goes, h1, h2, mcX10_goes.1, (xinT 1633 (by decide +kernel) (by decide +kernel)), mcX10_goes.2.1, ⟨by decide +kernel, by decide +kernel, by decide +kernel⟩, by rw [if_pos rfl]; exact ⟨mcX10_goes.2.2.1, mcX10_goes.2.2.2, _, _, rfl⟩⟩
theorem dX10_isRound_0 : decode cX10_isRound 0 = .ok (.aload_n 0, 1) := by decide +kernel
theorem dX10_isRound_1 : decode cX10_isRound 1 = .ok (.iload_n 1, 1) := by decide +kernel
theorem dX10_isRound_2 : decode cX10_isRound 2 = .ok (.invokevirtual 184, 3) := by decide +kernel
theorem dX10_isRound_5 : decode cX10_isRound 5 = .ok (.ifCond .eq 12, 3) := by decide +kernel
theorem dX10_isRound_8 : decode cX10_isRound 8 = .ok (.aload_n 0, 1) := by decide +kernel
theorem dX10_isRound_9 : decode cX10_isRound 9 = .ok (.iconst 1, 1) := by decide +kernel
theorem dX10_isRound_10 : decode cX10_isRound 10 = .ok (.iload_n 2, 1) := by decide +kernel
theorem dX10_isRound_11 : decode cX10_isRound 11 = .ok (.invokevirtual 146, 3) := by decide +kernel
theorem dX10_isRound_14 : decode cX10_isRound 14 = .ok (.ifCond .ne 5, 3) := by decide +kernel
theorem dX10_isRound_17 : decode cX10_isRound 17 = .ok (.iconst 0, 1) := by decide +kernel
theorem dX10_isRound_18 : decode cX10_isRound 18 = .ok (.ireturn, 1) := by decide +kernel
theorem dX10_isRound_19 : decode cX10_isRound 19 = .ok (.aload_n 0, 1) := by decide +kernel
theorem dX10_isRound_20 : decode cX10_isRound 20 = .ok (.iload_n 2, 1) := by decide +kernel
theorem dX10_isRound_21 : decode cX10_isRound 21 = .ok (.invokevirtual 211, 3) := by decide +kernel
theorem dX10_isRound_24 : decode cX10_isRound 24 = .ok (.iconst 1, 1) := by decide +kernel
theorem dX10_isRound_25 : decode cX10_isRound 25 = .ok (.ireturn, 1) := by decide +kernel
def zX10_isRound (Qr : Option PV → Mem → Prop) : XZ := (RX10, 4, 96, 3, some FieldType.boolean, Qr)
noncomputable def fX10_isRound (o : Nat) (x1 : Int) (x2 : Int) (F : Mem) : Option (Int × Mem) :=
  (fX10_isValley_ o x1 F).bind fun q1 =>
  if q1.1 = 0 then
    some (0, q1.2)
  else
    (fX10_isOf o 1 x2 q1.2).bind fun r4 =>
    if r4 ≠ 0 then
      (fX10_goes o x2 q1.2).bind fun q7 =>
      some (1, q7)
    else
      some (0, q1.2)
theorem fX10_isRound_ok {Qr : Option PV → Mem → Prop} : ∀ (o : Nat) (x1 : Int) (x2 : Int) (F : Mem) (res : (Int × Mem)) (ho : isK o 10), fX10_isRound o x1 x2 F = some res → Qr (some (vI res.1)) res.2 → PR cX10_isRound (zX10_isRound Qr) 0 [(0, vR o), (1, vI x1), (2, vI x2)] [] F := by
  intro o x1 x2 F res ho h hq
  refine s_aload_n (j := 0) dX10_isRound_0 rfl rfl ?_
  refine s_iload_n (j := 1) dX10_isRound_1 rfl rfl ?_
  obtain ⟨q1, hv2, h⟩ := bnd h
  refine s_callV (As := [vI x1]) (rest := []) (r := (some (vI q1.1))) (F' := q1.2) dX10_isRound_2 (clX10_184 (Nat.le_of_ble_eq_true rfl) (Nat.le_of_ble_eq_true rfl)) ho rfl ⟨_, _, _, rfl, ho, hv2, rfl, rfl⟩ rfl (Nat.le_of_ble_eq_true rfl) ?_
  refine s_if_eq (tgt := 17) dX10_isRound_5 rfl (fun hc3 => ?_) (fun hc3 => ?_)
  · have h := ifp hc3 h
    refine s_iconst dX10_isRound_17 (cin rfl) ?_
    have h := Option.some.inj h
    subst h
    exact s_zreturn dX10_isRound_18 rfl (Or.inl rfl) hq
  · have h := ifn hc3 h
    refine s_aload_n (j := 0) dX10_isRound_8 rfl rfl ?_
    refine s_iconst dX10_isRound_9 (cin rfl) ?_
    refine s_iload_n (j := 2) dX10_isRound_10 rfl rfl ?_
    obtain ⟨r4, hv5, h⟩ := bnd h
    refine s_callV (As := [vI 1, vI x2]) (rest := []) (r := (some (vI r4))) (F' := q1.2) dX10_isRound_11 (clX10_146 (Nat.le_of_ble_eq_true rfl) (Nat.le_of_ble_eq_true rfl)) ho rfl ⟨_, _, _, _, rfl, ho, hv5, rfl, rfl⟩ rfl (Nat.le_of_ble_eq_true rfl) ?_
    refine s_if_ne (tgt := 19) dX10_isRound_14 rfl (fun hc6 => ?_) (fun hc6 => ?_)
    · have h := ifp hc6 h
      refine s_aload_n (j := 0) dX10_isRound_19 rfl rfl ?_
      refine s_iload_n (j := 2) dX10_isRound_20 rfl rfl ?_
      obtain ⟨q7, hv8, h⟩ := bnd h
      refine s_callV (As := [vI x2]) (rest := []) (r := none) (F' := q7) dX10_isRound_21 (clX10_211 (Nat.le_of_ble_eq_true rfl) (Nat.le_of_ble_eq_true rfl)) ho rfl ⟨_, _, _, rfl, ho, hv8, rfl, rfl⟩ rfl (Nat.le_of_ble_eq_true rfl) ?_
      refine s_iconst dX10_isRound_24 (cin rfl) ?_
      have h := Option.some.inj h
      subst h
      exact s_zreturn dX10_isRound_25 rfl (Or.inr rfl) hq
    · have h := ifn hc6 h
      refine s_iconst dX10_isRound_17 (cin rfl) ?_
      have h := Option.some.inj h
      subst h
      exact s_zreturn dX10_isRound_18 rfl (Or.inl rfl) hq
def gX10_isRound : XG := fun As F r F' => ∃ o : Nat, ∃ x1 : Int, ∃ x2 : Int, ∃ res : (Int × Mem), As = [vR o, vI x1, vI x2] ∧ isK o 10 ∧ fX10_isRound o x1 x2 F = some res ∧ r = some (vI res.1) ∧ F' = res.2
theorem ctX10_isRound : xCT yX10_isRound cX10_isRound 3 (some FieldType.boolean) 4 96 gX10_isRound := xmet (by decide +kernel) (fun As F r F' hg => by obtain ⟨o, x1, x2, res, rfl, ho, h, rfl, rfl⟩ := hg; exact Nat.le_of_ble_eq_true rfl) (fun As F r F' hg => by obtain ⟨o, x1, x2, res, rfl, ho, h, rfl, rfl⟩ := hg; exact fX10_isRound_ok o x1 x2 _ _ ho h ⟨rfl, rfl⟩)
theorem mcX10_isRound : Cond.code yX10_isRound cX10_isRound 3 (some FieldType.boolean) ∈ xw_T ∧ Cond.initialized yX10_isRound.cls ∈ xw_T ∧ Cond.instanceMethod yX10_isRound ∈ xw_T ∧ Cond.selects yX10_isRound.cls yX10_isRound yX10_isRound ∈ xw_T := ⟨(xinT 1632 (by decide +kernel) (by decide +kernel)), (xinT 127 (by decide +kernel) (by decide +kernel)), (xinT 1631 (by decide +kernel) (by decide +kernel)), (xinT 64 (by decide +kernel) (by decide +kernel))⟩
theorem clX10_227 {fr lo : Nat} (h1 : 4 + 1 ≤ fr) (h2 : 8 + (3 + 11) + 96 ≤ lo) : xCall RX10 fr lo 0 227 10 2 gX10_isRound := ⟨_, _, _, _, _, _, ctX10_isRound, h1, h2, mcX10_isRound.1, (xinT 1629 (by decide +kernel) (by decide +kernel)), mcX10_isRound.2.1, ⟨by decide +kernel, by decide +kernel, by decide +kernel⟩, by rw [if_pos rfl]; exact ⟨mcX10_isRound.2.2.1, mcX10_isRound.2.2.2, _, _, rfl⟩⟩
theorem dX10_rowsIn_0 : decode cX10_rowsIn 0 = .ok (.aload_n 0, 1) := by decide +kernel
theorem dX10_rowsIn_1 : decode cX10_rowsIn 1 = .ok (.iload_n 1, 1) := by decide +kernel
theorem dX10_rowsIn_2 : decode cX10_rowsIn 2 = .ok (.aload_n 0, 1) := by decide +kernel
theorem dX10_rowsIn_3 : decode cX10_rowsIn 3 = .ok (.getfield 27, 3) := by decide +kernel
theorem dX10_rowsIn_6 : decode cX10_rowsIn 6 = .ok (.iload_n 2, 1) := by decide +kernel
theorem dX10_rowsIn_7 : decode cX10_rowsIn 7 = .ok (.iaload, 1) := by decide +kernel
theorem dX10_rowsIn_8 : decode cX10_rowsIn 8 = .ok (.iload_n 1, 1) := by decide +kernel
theorem dX10_rowsIn_9 : decode cX10_rowsIn 9 = .ok (.if_icmp .ne 7, 3) := by decide +kernel
theorem dX10_rowsIn_12 : decode cX10_rowsIn 12 = .ok (.iconst 1, 1) := by decide +kernel
theorem dX10_rowsIn_13 : decode cX10_rowsIn 13 = .ok (.goto 4, 3) := by decide +kernel
theorem dX10_rowsIn_16 : decode cX10_rowsIn 16 = .ok (.iconst 0, 1) := by decide +kernel
theorem dX10_rowsIn_17 : decode cX10_rowsIn 17 = .ok (.iload_n 2, 1) := by decide +kernel
theorem dX10_rowsIn_18 : decode cX10_rowsIn 18 = .ok (.invokevirtual 215, 3) := by decide +kernel
theorem dX10_rowsIn_21 : decode cX10_rowsIn 21 = .ok (.ifCond .eq 12, 3) := by decide +kernel
theorem dX10_rowsIn_24 : decode cX10_rowsIn 24 = .ok (.aload_n 0, 1) := by decide +kernel
theorem dX10_rowsIn_25 : decode cX10_rowsIn 25 = .ok (.iload_n 1, 1) := by decide +kernel
theorem dX10_rowsIn_26 : decode cX10_rowsIn 26 = .ok (.iload_n 3, 1) := by decide +kernel
theorem dX10_rowsIn_27 : decode cX10_rowsIn 27 = .ok (.invokevirtual 219, 3) := by decide +kernel
theorem dX10_rowsIn_30 : decode cX10_rowsIn 30 = .ok (.goto 9, 3) := by decide +kernel
theorem dX10_rowsIn_33 : decode cX10_rowsIn 33 = .ok (.aload_n 0, 1) := by decide +kernel
theorem dX10_rowsIn_34 : decode cX10_rowsIn 34 = .ok (.iload_n 1, 1) := by decide +kernel
theorem dX10_rowsIn_35 : decode cX10_rowsIn 35 = .ok (.iconst 3, 1) := by decide +kernel
theorem dX10_rowsIn_36 : decode cX10_rowsIn 36 = .ok (.invokevirtual 175, 3) := by decide +kernel
theorem dX10_rowsIn_39 : decode cX10_rowsIn 39 = .ok (.ireturn, 1) := by decide +kernel
def zX10_rowsIn (Qr : Option PV → Mem → Prop) : XZ := (RX10, 3, 67, 4, some FieldType.int, Qr)
noncomputable def fX10_rowsIn_b17 (F : Mem) (o : Nat) (x1 : Int) (x2 : Int) (x3 : Int) (s0 : Nat) (s1 : Int) (s2 : Int) : Option Int :=
  (fX10_sees s0 s1 s2 x2 F).bind fun r1 =>
  if r1 = 0 then
    (fX10_houseOf o x1 3 F).bind fun r4 =>
    some r4
  else
    (fX10_rateOf o x1 x3 F).bind fun r6 =>
    some r6
noncomputable def fX10_rowsIn (o : Nat) (x1 : Int) (x2 : Int) (x3 : Int) (F : Mem) : Option Int :=
  if (0 : Int) ≤ x2 ∧ x2 < (alen (o + 4) : Int) then
    if (F (o + 4) x2.toNat) ≠ x1 then
      fX10_rowsIn_b17 F o x1 x2 x3 o x1 0
    else
      fX10_rowsIn_b17 F o x1 x2 x3 o x1 1
  else none
theorem fX10_rowsIn_b17_ok {Qr : Option PV → Mem → Prop}  (F : Mem) : ∀ (o : Nat) (x1 : Int) (x2 : Int) (x3 : Int) (s0 : Nat) (s1 : Int) (s2 : Int) (res : Int) (ho : isK o 10) (hs0 : isK s0 10), fX10_rowsIn_b17 F o x1 x2 x3 s0 s1 s2 = some res → Qr (some (vI res)) F → PR cX10_rowsIn (zX10_rowsIn Qr) 17 [(0, vR o), (1, vI x1), (2, vI x2), (3, vI x3)] [vI s2, vI s1, vR s0] F := by
  intro o x1 x2 x3 s0 s1 s2 res ho hs0 h hq
  refine s_iload_n (j := 2) dX10_rowsIn_17 rfl rfl ?_
  obtain ⟨r1, hv2, h⟩ := bnd h
  refine s_callV (As := [vI s1, vI s2, vI x2]) (rest := []) (r := (some (vI r1))) (F' := F) dX10_rowsIn_18 (clX10_215 (Nat.le_of_ble_eq_true rfl) (Nat.le_of_ble_eq_true rfl)) hs0 rfl ⟨_, _, _, _, _, rfl, hs0, hv2, rfl, rfl⟩ rfl (Nat.le_of_ble_eq_true rfl) ?_
  refine s_if_eq (tgt := 33) dX10_rowsIn_21 rfl (fun hc3 => ?_) (fun hc3 => ?_)
  · have h := ifp hc3 h
    refine s_aload_n (j := 0) dX10_rowsIn_33 rfl rfl ?_
    refine s_iload_n (j := 1) dX10_rowsIn_34 rfl rfl ?_
    refine s_iconst dX10_rowsIn_35 (cin rfl) ?_
    obtain ⟨r4, hv5, h⟩ := bnd h
    refine s_callV (As := [vI x1, vI 3]) (rest := []) (r := (some (vI r4))) (F' := F) dX10_rowsIn_36 (clX10_175 (Nat.le_of_ble_eq_true rfl) (Nat.le_of_ble_eq_true rfl)) ho rfl ⟨_, _, _, _, rfl, ho, hv5, rfl, rfl⟩ rfl (Nat.le_of_ble_eq_true rfl) ?_
    have h := Option.some.inj h
    subst h
    exact s_ireturn dX10_rowsIn_39 rfl hq
  · have h := ifn hc3 h
    refine s_aload_n (j := 0) dX10_rowsIn_24 rfl rfl ?_
    refine s_iload_n (j := 1) dX10_rowsIn_25 rfl rfl ?_
    refine s_iload_n (j := 3) dX10_rowsIn_26 rfl rfl ?_
    obtain ⟨r6, hv7, h⟩ := bnd h
    refine s_callV (As := [vI x1, vI x3]) (rest := []) (r := (some (vI r6))) (F' := F) dX10_rowsIn_27 (clX10_219 (Nat.le_of_ble_eq_true rfl) (Nat.le_of_ble_eq_true rfl)) ho rfl ⟨_, _, _, _, rfl, ho, hv7, rfl, rfl⟩ rfl (Nat.le_of_ble_eq_true rfl) ?_
    refine s_goto (tgt := 39) dX10_rowsIn_30 rfl ?_
    have h := Option.some.inj h
    subst h
    exact s_ireturn dX10_rowsIn_39 rfl hq
theorem fX10_rowsIn_ok {Qr : Option PV → Mem → Prop} : ∀ (o : Nat) (x1 : Int) (x2 : Int) (x3 : Int) (F : Mem) (res : Int) (ho : isK o 10), fX10_rowsIn o x1 x2 x3 F = some res → Qr (some (vI res)) F → PR cX10_rowsIn (zX10_rowsIn Qr) 0 [(0, vR o), (1, vI x1), (2, vI x2), (3, vI x3)] [] F := by
  intro o x1 x2 x3 F res ho h hq
  refine s_aload_n (j := 0) dX10_rowsIn_0 rfl rfl ?_
  refine s_iload_n (j := 1) dX10_rowsIn_1 rfl rfl ?_
  refine s_aload_n (j := 0) dX10_rowsIn_2 rfl rfl ?_
  refine s_getR dX10_rowsIn_3 flX10_27 ho ?_
  refine s_iload_n (j := 2) dX10_rowsIn_6 rfl rfl ?_
  obtain ⟨hb1, h⟩ := gd h
  refine s_iaload dX10_rowsIn_7 (trX10_14 ho) hb1.1 hb1.2 ?_
  refine s_iload_n (j := 1) dX10_rowsIn_8 rfl rfl ?_
  refine s_icmp_ne (tgt := 16) dX10_rowsIn_9 rfl (fun hc2 => ?_) (fun hc2 => ?_)
  · have h := ifp hc2 h
    refine s_iconst dX10_rowsIn_16 (cin rfl) ?_
    exact s_sub (ks := [0, 1, 2, 3]) rfl (fX10_rowsIn_b17_ok F o x1 x2 x3 o x1 0 _ ho ho h hq)
  · have h := ifn hc2 h
    refine s_iconst dX10_rowsIn_12 (cin rfl) ?_
    refine s_goto (tgt := 17) dX10_rowsIn_13 rfl ?_
    exact s_sub (ks := [0, 1, 2, 3]) rfl (fX10_rowsIn_b17_ok F o x1 x2 x3 o x1 1 _ ho ho h hq)
def gX10_rowsIn : XG := fun As F r F' => ∃ o : Nat, ∃ x1 : Int, ∃ x2 : Int, ∃ x3 : Int, ∃ res : Int, As = [vR o, vI x1, vI x2, vI x3] ∧ isK o 10 ∧ fX10_rowsIn o x1 x2 x3 F = some res ∧ r = some (vI res) ∧ F' = F
theorem ctX10_rowsIn : xCT yX10_rowsIn cX10_rowsIn 4 (some FieldType.int) 3 67 gX10_rowsIn := xmet (by decide +kernel) (fun As F r F' hg => by obtain ⟨o, x1, x2, x3, res, rfl, ho, h, rfl, rfl⟩ := hg; exact Nat.le_of_ble_eq_true rfl) (fun As F r F' hg => by obtain ⟨o, x1, x2, x3, res, rfl, ho, h, rfl, rfl⟩ := hg; exact fX10_rowsIn_ok o x1 x2 x3 _ _ ho h ⟨rfl, rfl⟩)
theorem mcX10_rowsIn : Cond.code yX10_rowsIn cX10_rowsIn 4 (some FieldType.int) ∈ xw_T ∧ Cond.initialized yX10_rowsIn.cls ∈ xw_T ∧ Cond.instanceMethod yX10_rowsIn ∈ xw_T ∧ Cond.selects yX10_rowsIn.cls yX10_rowsIn yX10_rowsIn ∈ xw_T := ⟨(xinT 1652 (by decide +kernel) (by decide +kernel)), (xinT 127 (by decide +kernel) (by decide +kernel)), (xinT 1651 (by decide +kernel) (by decide +kernel)), (xinT 69 (by decide +kernel) (by decide +kernel))⟩
theorem clX10_223 {fr lo : Nat} (h1 : 3 + 1 ≤ fr) (h2 : 8 + (4 + 11) + 67 ≤ lo) : xCall RX10 fr lo 0 223 10 3 gX10_rowsIn := ⟨_, _, _, _, _, _, ctX10_rowsIn, h1, h2, mcX10_rowsIn.1, (xinT 1649 (by decide +kernel) (by decide +kernel)), mcX10_rowsIn.2.1, ⟨by decide +kernel, by decide +kernel, by decide +kernel⟩, by rw [if_pos rfl]; exact ⟨mcX10_rowsIn.2.2.1, mcX10_rowsIn.2.2.2, _, _, rfl⟩⟩
theorem dX10_rows_0 : decode cX10_rows 0 = .ok (.iconst 0, 1) := by decide +kernel
theorem dX10_rows_1 : decode cX10_rows 1 = .ok (.istore_n 3, 1) := by decide +kernel
theorem dX10_rows_2 : decode cX10_rows 2 = .ok (.iconst 0, 1) := by decide +kernel
theorem dX10_rows_3 : decode cX10_rows 3 = .ok (.istore 4, 2) := by decide +kernel
theorem dX10_rows_5 : decode cX10_rows 5 = .ok (.iload 4, 2) := by decide +kernel
theorem dX10_rows_7 : decode cX10_rows 7 = .ok (.aload_n 0, 1) := by decide +kernel
theorem dX10_rows_8 : decode cX10_rows 8 = .ok (.iconst 5, 1) := by decide +kernel
theorem dX10_rows_9 : decode cX10_rows 9 = .ok (.invokevirtual 181, 3) := by decide +kernel
theorem dX10_rows_12 : decode cX10_rows 12 = .ok (.if_icmp .ge 73, 3) := by decide +kernel
theorem dX10_rows_15 : decode cX10_rows 15 = .ok (.iconst 0, 1) := by decide +kernel
theorem dX10_rows_16 : decode cX10_rows 16 = .ok (.istore 5, 2) := by decide +kernel
theorem dX10_rows_18 : decode cX10_rows 18 = .ok (.iload 5, 2) := by decide +kernel
theorem dX10_rows_20 : decode cX10_rows 20 = .ok (.aload_n 0, 1) := by decide +kernel
theorem dX10_rows_21 : decode cX10_rows 21 = .ok (.iconst 0, 1) := by decide +kernel
theorem dX10_rows_22 : decode cX10_rows 22 = .ok (.invokevirtual 181, 3) := by decide +kernel
theorem dX10_rows_25 : decode cX10_rows 25 = .ok (.if_icmp .ge 54, 3) := by decide +kernel
theorem dX10_rows_28 : decode cX10_rows 28 = .ok (.iload_n 3, 1) := by decide +kernel
theorem dX10_rows_29 : decode cX10_rows 29 = .ok (.aload_n 0, 1) := by decide +kernel
theorem dX10_rows_30 : decode cX10_rows 30 = .ok (.iload 4, 2) := by decide +kernel
theorem dX10_rows_32 : decode cX10_rows 32 = .ok (.aload_n 0, 1) := by decide +kernel
theorem dX10_rows_33 : decode cX10_rows 33 = .ok (.getfield 27, 3) := by decide +kernel
theorem dX10_rows_36 : decode cX10_rows 36 = .ok (.iload 5, 2) := by decide +kernel
theorem dX10_rows_38 : decode cX10_rows 38 = .ok (.iaload, 1) := by decide +kernel
theorem dX10_rows_39 : decode cX10_rows 39 = .ok (.iload 4, 2) := by decide +kernel
theorem dX10_rows_41 : decode cX10_rows 41 = .ok (.if_icmp .ne 7, 3) := by decide +kernel
theorem dX10_rows_44 : decode cX10_rows 44 = .ok (.iconst 1, 1) := by decide +kernel
theorem dX10_rows_45 : decode cX10_rows 45 = .ok (.goto 4, 3) := by decide +kernel
theorem dX10_rows_48 : decode cX10_rows 48 = .ok (.iconst 0, 1) := by decide +kernel
theorem dX10_rows_49 : decode cX10_rows 49 = .ok (.iload 5, 2) := by decide +kernel
theorem dX10_rows_51 : decode cX10_rows 51 = .ok (.invokevirtual 215, 3) := by decide +kernel
theorem dX10_rows_54 : decode cX10_rows 54 = .ok (.iload_n 1, 1) := by decide +kernel
theorem dX10_rows_55 : decode cX10_rows 55 = .ok (.if_icmp .ne 15, 3) := by decide +kernel
theorem dX10_rows_58 : decode cX10_rows 58 = .ok (.aload_n 0, 1) := by decide +kernel
theorem dX10_rows_59 : decode cX10_rows 59 = .ok (.iload 4, 2) := by decide +kernel
theorem dX10_rows_61 : decode cX10_rows 61 = .ok (.iload 5, 2) := by decide +kernel
theorem dX10_rows_63 : decode cX10_rows 63 = .ok (.iload_n 2, 1) := by decide +kernel
theorem dX10_rows_64 : decode cX10_rows 64 = .ok (.invokevirtual 223, 3) := by decide +kernel
theorem dX10_rows_67 : decode cX10_rows 67 = .ok (.goto 4, 3) := by decide +kernel
theorem dX10_rows_70 : decode cX10_rows 70 = .ok (.iconst 0, 1) := by decide +kernel
theorem dX10_rows_71 : decode cX10_rows 71 = .ok (.iadd, 1) := by decide +kernel
theorem dX10_rows_72 : decode cX10_rows 72 = .ok (.istore_n 3, 1) := by decide +kernel
theorem dX10_rows_73 : decode cX10_rows 73 = .ok (.iinc 5 1, 3) := by decide +kernel
theorem dX10_rows_76 : decode cX10_rows 76 = .ok (.goto (-58), 3) := by decide +kernel
theorem dX10_rows_79 : decode cX10_rows 79 = .ok (.iinc 4 1, 3) := by decide +kernel
theorem dX10_rows_82 : decode cX10_rows 82 = .ok (.goto (-77), 3) := by decide +kernel
theorem dX10_rows_85 : decode cX10_rows 85 = .ok (.iload_n 3, 1) := by decide +kernel
theorem dX10_rows_86 : decode cX10_rows 86 = .ok (.ireturn, 1) := by decide +kernel
def zX10_rows (Qr : Option PV → Mem → Prop) : XZ := (RX10, 4, 90, 6, some FieldType.int, Qr)
noncomputable def fX10_rows_b49 (F : Mem) (k5 : Nat → Int → Int → Int → Int → Option Int) (k18 : Nat → Int → Int → Int → Int → Int → Option Int) (o : Nat) (x1 : Int) (x2 : Int) (x4 : Int) (x5 : Int) (s0 : Int) (s1 : Nat) (s2 : Int) (s3 : Int) : Option Int :=
  (fX10_sees s1 s2 s3 x5 F).bind fun r1 =>
  if r1 ≠ x1 then
    k18 o x1 x2 (xw (s0 + 0)) x4 (xw (x5 + 1))
  else
    (fX10_rowsIn o x4 x5 x2 F).bind fun r4 =>
    k18 o x1 x2 (xw (s0 + r4)) x4 (xw (x5 + 1))
noncomputable def fX10_rows_b18 (F : Mem) (k5 : Nat → Int → Int → Int → Int → Option Int) : Nat → Nat → Int → Int → Int → Int → Int → Option Int
  | 0, _, _, _, _, _, _ => none
  | n + 1, o, x1, x2, x3, x4, x5 =>
    (fX10_of o 0 F).bind fun r1 =>
    if r1 ≤ x5 then
      k5 o x1 x2 x3 (xw (x4 + 1))
    else
      if (0 : Int) ≤ x5 ∧ x5 < (alen (o + 4) : Int) then
        if (F (o + 4) x5.toNat) ≠ x4 then
          fX10_rows_b49 F k5 (fX10_rows_b18 F k5 n) o x1 x2 x4 x5 x3 o x4 0
        else
          fX10_rows_b49 F k5 (fX10_rows_b18 F k5 n) o x1 x2 x4 x5 x3 o x4 1
      else none
noncomputable def fX10_rows_b5 (F : Mem) : Nat → Nat → Int → Int → Int → Int → Option Int
  | 0, _, _, _, _, _ => none
  | n + 1, o, x1, x2, x3, x4 =>
    (fX10_of o 5 F).bind fun r1 =>
    if r1 ≤ x4 then
      some x3
    else
      fX10_rows_b18 F (fX10_rows_b5 F n) FU o x1 x2 x3 x4 0
noncomputable def fX10_rows (o : Nat) (x1 : Int) (x2 : Int) (F : Mem) : Option Int :=
  fX10_rows_b5 F FU o x1 x2 0 0
theorem fX10_rows_b49_ok {Qr : Option PV → Mem → Prop}  (F : Mem) (k5 : Nat → Int → Int → Int → Int → Option Int) (k18 : Nat → Int → Int → Int → Int → Int → Option Int) (hk5 : ∀ (o : Nat) (x1 : Int) (x2 : Int) (x3 : Int) (x4 : Int) (res : Int) (ho : isK o 10), k5 o x1 x2 x3 x4 = some res → Qr (some (vI res)) F → PR cX10_rows (zX10_rows Qr) 5 [(0, vR o), (1, vI x1), (2, vI x2), (3, vI x3), (4, vI x4)] [] F) (hk18 : ∀ (o : Nat) (x1 : Int) (x2 : Int) (x3 : Int) (x4 : Int) (x5 : Int) (res : Int) (ho : isK o 10), k18 o x1 x2 x3 x4 x5 = some res → Qr (some (vI res)) F → PR cX10_rows (zX10_rows Qr) 18 [(0, vR o), (1, vI x1), (2, vI x2), (3, vI x3), (4, vI x4), (5, vI x5)] [] F) : ∀ (o : Nat) (x1 : Int) (x2 : Int) (x4 : Int) (x5 : Int) (s0 : Int) (s1 : Nat) (s2 : Int) (s3 : Int) (res : Int) (ho : isK o 10) (hs1 : isK s1 10), fX10_rows_b49 F k5 k18 o x1 x2 x4 x5 s0 s1 s2 s3 = some res → Qr (some (vI res)) F → PR cX10_rows (zX10_rows Qr) 49 [(0, vR o), (1, vI x1), (2, vI x2), (4, vI x4), (5, vI x5)] [vI s3, vI s2, vR s1, vI s0] F := by
  intro o x1 x2 x4 x5 s0 s1 s2 s3 res ho hs1 h hq
  refine s_iload (j := 4) dX10_rows_49 rfl ?_
  obtain ⟨r1, hv2, h⟩ := bnd h
  refine s_callV (As := [vI s2, vI s3, vI x5]) (rest := [vI s0]) (r := (some (vI r1))) (F' := F) dX10_rows_51 (clX10_215 (Nat.le_of_ble_eq_true rfl) (Nat.le_of_ble_eq_true rfl)) hs1 rfl ⟨_, _, _, _, _, rfl, hs1, hv2, rfl, rfl⟩ rfl (Nat.le_of_ble_eq_true rfl) ?_
  refine s_iload_n (j := 1) dX10_rows_54 rfl rfl ?_
  refine s_icmp_ne (tgt := 70) dX10_rows_55 rfl (fun hc3 => ?_) (fun hc3 => ?_)
  · have h := ifp hc3 h
    refine s_iconst dX10_rows_70 (cin rfl) ?_
    refine s_iadd dX10_rows_71 ?_
    refine s_istore_n (ls' := [(3, vI (xw (s0 + 0))), (0, vR o), (1, vI x1), (2, vI x2), (4, vI x4), (5, vI x5)]) dX10_rows_72 rfl (Nat.le_of_ble_eq_true rfl) rfl ?_
    refine s_iinc (j := 5) dX10_rows_73 rfl (Nat.le_of_ble_eq_true rfl) rfl ?_
    refine s_goto (tgt := 18) dX10_rows_76 rfl ?_
    exact s_sub (ks := [2, 3, 4, 1, 5, 0]) rfl (hk18 o x1 x2 (xw (s0 + 0)) x4 (xw (x5 + 1)) _ ho h hq)
  · have h := ifn hc3 h
    refine s_aload_n (j := 0) dX10_rows_58 rfl rfl ?_
    refine s_iload (j := 3) dX10_rows_59 rfl ?_
    refine s_iload (j := 4) dX10_rows_61 rfl ?_
    refine s_iload_n (j := 2) dX10_rows_63 rfl rfl ?_
    obtain ⟨r4, hv5, h⟩ := bnd h
    refine s_callV (As := [vI x4, vI x5, vI x2]) (rest := [vI s0]) (r := (some (vI r4))) (F' := F) dX10_rows_64 (clX10_223 (Nat.le_of_ble_eq_true rfl) (Nat.le_of_ble_eq_true rfl)) ho rfl ⟨_, _, _, _, _, rfl, ho, hv5, rfl, rfl⟩ rfl (Nat.le_of_ble_eq_true rfl) ?_
    refine s_goto (tgt := 71) dX10_rows_67 rfl ?_
    refine s_iadd dX10_rows_71 ?_
    refine s_istore_n (ls' := [(3, vI (xw (s0 + r4))), (0, vR o), (1, vI x1), (2, vI x2), (4, vI x4), (5, vI x5)]) dX10_rows_72 rfl (Nat.le_of_ble_eq_true rfl) rfl ?_
    refine s_iinc (j := 5) dX10_rows_73 rfl (Nat.le_of_ble_eq_true rfl) rfl ?_
    refine s_goto (tgt := 18) dX10_rows_76 rfl ?_
    exact s_sub (ks := [2, 3, 4, 1, 5, 0]) rfl (hk18 o x1 x2 (xw (s0 + r4)) x4 (xw (x5 + 1)) _ ho h hq)
theorem fX10_rows_b18_ok {Qr : Option PV → Mem → Prop}  (F : Mem) (k5 : Nat → Int → Int → Int → Int → Option Int) (hk5 : ∀ (o : Nat) (x1 : Int) (x2 : Int) (x3 : Int) (x4 : Int) (res : Int) (ho : isK o 10), k5 o x1 x2 x3 x4 = some res → Qr (some (vI res)) F → PR cX10_rows (zX10_rows Qr) 5 [(0, vR o), (1, vI x1), (2, vI x2), (3, vI x3), (4, vI x4)] [] F) : ∀ (n : Nat) (o : Nat) (x1 : Int) (x2 : Int) (x3 : Int) (x4 : Int) (x5 : Int) (res : Int) (ho : isK o 10), fX10_rows_b18 F k5 n o x1 x2 x3 x4 x5 = some res → Qr (some (vI res)) F → PR cX10_rows (zX10_rows Qr) 18 [(0, vR o), (1, vI x1), (2, vI x2), (3, vI x3), (4, vI x4), (5, vI x5)] [] F := by
  intro n
  induction n with
  | zero => intro o x1 x2 x3 x4 x5 res ho h hq; exact nomatch (show (none : Option _) = some _ from h)
  | succ n ih =>
    intro o x1 x2 x3 x4 x5 res ho h hq
    refine s_iload (j := 5) dX10_rows_18 rfl ?_
    refine s_aload_n (j := 0) dX10_rows_20 rfl rfl ?_
    refine s_iconst dX10_rows_21 (cin rfl) ?_
    obtain ⟨r1, hv2, h⟩ := bnd h
    refine s_callV (As := [vI 0]) (rest := [vI x5]) (r := (some (vI r1))) (F' := F) dX10_rows_22 (clX10_181 (Nat.le_of_ble_eq_true rfl) (Nat.le_of_ble_eq_true rfl)) ho rfl ⟨_, _, _, rfl, ho, hv2, rfl, rfl⟩ rfl (Nat.le_of_ble_eq_true rfl) ?_
    refine s_icmp_ge (tgt := 79) dX10_rows_25 rfl (fun hc3 => ?_) (fun hc3 => ?_)
    · have h := ifp hc3 h
      refine s_iinc (ls' := [(4, vI (xw (x4 + 1))), (0, vR o), (1, vI x1), (2, vI x2), (3, vI x3), (5, vI x5)]) (j := 4) dX10_rows_79 rfl (Nat.le_of_ble_eq_true rfl) rfl ?_
      refine s_goto (tgt := 5) dX10_rows_82 rfl ?_
      exact s_sub (ks := [1, 2, 3, 4, 0]) rfl (hk5 o x1 x2 x3 (xw (x4 + 1)) _ ho h hq)
    · have h := ifn hc3 h
      refine s_iload_n (j := 3) dX10_rows_28 rfl rfl ?_
      refine s_aload_n (j := 0) dX10_rows_29 rfl rfl ?_
      refine s_iload (j := 4) dX10_rows_30 rfl ?_
      refine s_aload_n (j := 0) dX10_rows_32 rfl rfl ?_
      refine s_getR dX10_rows_33 flX10_27 ho ?_
      refine s_iload (j := 5) dX10_rows_36 rfl ?_
      obtain ⟨hb4, h⟩ := gd h
      refine s_iaload dX10_rows_38 (trX10_14 ho) hb4.1 hb4.2 ?_
      refine s_iload (j := 4) dX10_rows_39 rfl ?_
      refine s_icmp_ne (tgt := 48) dX10_rows_41 rfl (fun hc5 => ?_) (fun hc5 => ?_)
      · have h := ifp hc5 h
        refine s_iconst dX10_rows_48 (cin rfl) ?_
        exact s_sub (ks := [0, 1, 2, 4, 5]) rfl (fX10_rows_b49_ok F k5 (fX10_rows_b18 F k5 n) hk5 ih o x1 x2 x4 x5 x3 o x4 0 _ ho ho h hq)
      · have h := ifn hc5 h
        refine s_iconst dX10_rows_44 (cin rfl) ?_
        refine s_goto (tgt := 49) dX10_rows_45 rfl ?_
        exact s_sub (ks := [0, 1, 2, 4, 5]) rfl (fX10_rows_b49_ok F k5 (fX10_rows_b18 F k5 n) hk5 ih o x1 x2 x4 x5 x3 o x4 1 _ ho ho h hq)
theorem fX10_rows_b5_ok {Qr : Option PV → Mem → Prop}  (F : Mem) : ∀ (n : Nat) (o : Nat) (x1 : Int) (x2 : Int) (x3 : Int) (x4 : Int) (res : Int) (ho : isK o 10), fX10_rows_b5 F n o x1 x2 x3 x4 = some res → Qr (some (vI res)) F → PR cX10_rows (zX10_rows Qr) 5 [(0, vR o), (1, vI x1), (2, vI x2), (3, vI x3), (4, vI x4)] [] F := by
  intro n
  induction n with
  | zero => intro o x1 x2 x3 x4 res ho h hq; exact nomatch (show (none : Option _) = some _ from h)
  | succ n ih =>
    intro o x1 x2 x3 x4 res ho h hq
    refine s_iload (j := 4) dX10_rows_5 rfl ?_
    refine s_aload_n (j := 0) dX10_rows_7 rfl rfl ?_
    refine s_iconst dX10_rows_8 (cin rfl) ?_
    obtain ⟨r1, hv2, h⟩ := bnd h
    refine s_callV (As := [vI 5]) (rest := [vI x4]) (r := (some (vI r1))) (F' := F) dX10_rows_9 (clX10_181 (Nat.le_of_ble_eq_true rfl) (Nat.le_of_ble_eq_true rfl)) ho rfl ⟨_, _, _, rfl, ho, hv2, rfl, rfl⟩ rfl (Nat.le_of_ble_eq_true rfl) ?_
    refine s_icmp_ge (tgt := 85) dX10_rows_12 rfl (fun hc3 => ?_) (fun hc3 => ?_)
    · have h := ifp hc3 h
      refine s_iload_n (j := 3) dX10_rows_85 rfl rfl ?_
      have h := Option.some.inj h
      subst h
      exact s_ireturn dX10_rows_86 rfl hq
    · have h := ifn hc3 h
      refine s_iconst dX10_rows_15 (cin rfl) ?_
      refine s_istore (ls' := [(5, vI 0), (0, vR o), (1, vI x1), (2, vI x2), (3, vI x3), (4, vI x4)]) dX10_rows_16 (Nat.le_of_ble_eq_true rfl) rfl ?_
      exact s_sub (ks := [1, 2, 3, 4, 5, 0]) rfl (fX10_rows_b18_ok F (fX10_rows_b5 F n) ih FU o x1 x2 x3 x4 0 _ ho h hq)
theorem fX10_rows_ok {Qr : Option PV → Mem → Prop} : ∀ (o : Nat) (x1 : Int) (x2 : Int) (F : Mem) (res : Int) (ho : isK o 10), fX10_rows o x1 x2 F = some res → Qr (some (vI res)) F → PR cX10_rows (zX10_rows Qr) 0 [(0, vR o), (1, vI x1), (2, vI x2)] [] F := by
  intro o x1 x2 F res ho h hq
  refine s_iconst dX10_rows_0 (cin rfl) ?_
  refine s_istore_n (ls' := [(3, vI 0), (0, vR o), (1, vI x1), (2, vI x2)]) dX10_rows_1 rfl (Nat.le_of_ble_eq_true rfl) rfl ?_
  refine s_iconst dX10_rows_2 (cin rfl) ?_
  refine s_istore dX10_rows_3 (Nat.le_of_ble_eq_true rfl) rfl ?_
  exact s_sub (ks := [2, 3, 4, 1, 0]) rfl (fX10_rows_b5_ok F FU o x1 x2 0 0 _ ho h hq)
def gX10_rows : XG := fun As F r F' => ∃ o : Nat, ∃ x1 : Int, ∃ x2 : Int, ∃ res : Int, As = [vR o, vI x1, vI x2] ∧ isK o 10 ∧ fX10_rows o x1 x2 F = some res ∧ r = some (vI res) ∧ F' = F
theorem ctX10_rows : xCT yX10_rows cX10_rows 6 (some FieldType.int) 4 90 gX10_rows := xmet (by decide +kernel) (fun As F r F' hg => by obtain ⟨o, x1, x2, res, rfl, ho, h, rfl, rfl⟩ := hg; exact Nat.le_of_ble_eq_true rfl) (fun As F r F' hg => by obtain ⟨o, x1, x2, res, rfl, ho, h, rfl, rfl⟩ := hg; exact fX10_rows_ok o x1 x2 _ _ ho h ⟨rfl, rfl⟩)
theorem mcX10_rows : Cond.code yX10_rows cX10_rows 6 (some FieldType.int) ∈ xw_T ∧ Cond.initialized yX10_rows.cls ∈ xw_T ∧ Cond.instanceMethod yX10_rows ∈ xw_T ∧ Cond.selects yX10_rows.cls yX10_rows yX10_rows ∈ xw_T := ⟨(xinT 1640 (by decide +kernel) (by decide +kernel)), (xinT 127 (by decide +kernel) (by decide +kernel)), (xinT 1639 (by decide +kernel) (by decide +kernel)), (xinT 66 (by decide +kernel) (by decide +kernel))⟩
theorem clX10_230 {fr lo : Nat} (h1 : 4 + 1 ≤ fr) (h2 : 8 + (6 + 11) + 90 ≤ lo) : xCall RX10 fr lo 0 230 10 2 gX10_rows := ⟨_, _, _, _, _, _, ctX10_rows, h1, h2, mcX10_rows.1, (xinT 1637 (by decide +kernel) (by decide +kernel)), mcX10_rows.2.1, ⟨by decide +kernel, by decide +kernel, by decide +kernel⟩, by rw [if_pos rfl]; exact ⟨mcX10_rows.2.2.1, mcX10_rows.2.2.2, _, _, rfl⟩⟩
theorem dX10_play_0 : decode cX10_play 0 = .ok (.aload_n 0, 1) := by decide +kernel
theorem dX10_play_1 : decode cX10_play 1 = .ok (.iload_n 1, 1) := by decide +kernel
theorem dX10_play_2 : decode cX10_play 2 = .ok (.iload_n 2, 1) := by decide +kernel
theorem dX10_play_3 : decode cX10_play 3 = .ok (.invokevirtual 227, 3) := by decide +kernel
theorem dX10_play_6 : decode cX10_play 6 = .ok (.ifCond .ne 5, 3) := by decide +kernel
theorem dX10_play_9 : decode cX10_play 9 = .ok (.iconst (-1), 1) := by decide +kernel
theorem dX10_play_10 : decode cX10_play 10 = .ok (.ireturn, 1) := by decide +kernel
theorem dX10_play_11 : decode cX10_play 11 = .ok (.iload_n 3, 1) := by decide +kernel
theorem dX10_play_12 : decode cX10_play 12 = .ok (.tableswitch 78 0 5 #[40, 45, 52, 59, 64, 71], 40) := by decide +kernel
theorem dX10_play_52 : decode cX10_play 52 = .ok (.aload_n 0, 1) := by decide +kernel
theorem dX10_play_53 : decode cX10_play 53 = .ok (.getfield 205, 3) := by decide +kernel
theorem dX10_play_56 : decode cX10_play 56 = .ok (.ireturn, 1) := by decide +kernel
theorem dX10_play_57 : decode cX10_play 57 = .ok (.aload_n 0, 1) := by decide +kernel
theorem dX10_play_58 : decode cX10_play 58 = .ok (.iconst 1, 1) := by decide +kernel
theorem dX10_play_59 : decode cX10_play 59 = .ok (.iconst 0, 1) := by decide +kernel
theorem dX10_play_60 : decode cX10_play 60 = .ok (.invokevirtual 230, 3) := by decide +kernel
theorem dX10_play_63 : decode cX10_play 63 = .ok (.ireturn, 1) := by decide +kernel
theorem dX10_play_64 : decode cX10_play 64 = .ok (.aload_n 0, 1) := by decide +kernel
theorem dX10_play_65 : decode cX10_play 65 = .ok (.iconst 0, 1) := by decide +kernel
theorem dX10_play_66 : decode cX10_play 66 = .ok (.iconst 0, 1) := by decide +kernel
theorem dX10_play_67 : decode cX10_play 67 = .ok (.invokevirtual 230, 3) := by decide +kernel
theorem dX10_play_70 : decode cX10_play 70 = .ok (.ireturn, 1) := by decide +kernel
theorem dX10_play_71 : decode cX10_play 71 = .ok (.aload_n 0, 1) := by decide +kernel
theorem dX10_play_72 : decode cX10_play 72 = .ok (.getfield 208, 3) := by decide +kernel
theorem dX10_play_75 : decode cX10_play 75 = .ok (.ireturn, 1) := by decide +kernel
theorem dX10_play_76 : decode cX10_play 76 = .ok (.aload_n 0, 1) := by decide +kernel
theorem dX10_play_77 : decode cX10_play 77 = .ok (.iconst 1, 1) := by decide +kernel
theorem dX10_play_78 : decode cX10_play 78 = .ok (.iconst 1, 1) := by decide +kernel
theorem dX10_play_79 : decode cX10_play 79 = .ok (.invokevirtual 230, 3) := by decide +kernel
theorem dX10_play_82 : decode cX10_play 82 = .ok (.ireturn, 1) := by decide +kernel
theorem dX10_play_83 : decode cX10_play 83 = .ok (.aload_n 0, 1) := by decide +kernel
theorem dX10_play_84 : decode cX10_play 84 = .ok (.iconst 0, 1) := by decide +kernel
theorem dX10_play_85 : decode cX10_play 85 = .ok (.iconst 1, 1) := by decide +kernel
theorem dX10_play_86 : decode cX10_play 86 = .ok (.invokevirtual 230, 3) := by decide +kernel
theorem dX10_play_89 : decode cX10_play 89 = .ok (.ireturn, 1) := by decide +kernel
theorem dX10_play_90 : decode cX10_play 90 = .ok (.iconst (-1), 1) := by decide +kernel
theorem dX10_play_91 : decode cX10_play 91 = .ok (.ireturn, 1) := by decide +kernel
def zX10_play (Qr : Option PV → Mem → Prop) : XZ := (RX10, 5, 118, 4, some FieldType.int, Qr)
noncomputable def fX10_play (o : Nat) (x1 : Int) (x2 : Int) (x3 : Int) (F : Mem) : Option (Int × Mem) :=
  (fX10_isRound o x1 x2 F).bind fun q1 =>
  if q1.1 ≠ 0 then
    if x3 = 0 then
      some (q1.2 o 15, q1.2)
    else
    if x3 = 1 then
      (fX10_rows o 1 0 q1.2).bind fun r6 =>
      some (r6, q1.2)
    else
    if x3 = 2 then
      (fX10_rows o 0 0 q1.2).bind fun r9 =>
      some (r9, q1.2)
    else
    if x3 = 3 then
      some (q1.2 o 16, q1.2)
    else
    if x3 = 4 then
      (fX10_rows o 1 1 q1.2).bind fun r13 =>
      some (r13, q1.2)
    else
    if x3 = 5 then
      (fX10_rows o 0 1 q1.2).bind fun r16 =>
      some (r16, q1.2)
    else
    some ((-1), q1.2)
  else
    some ((-1), q1.2)
theorem fX10_play_ok {Qr : Option PV → Mem → Prop} : ∀ (o : Nat) (x1 : Int) (x2 : Int) (x3 : Int) (F : Mem) (res : (Int × Mem)) (ho : isK o 10), fX10_play o x1 x2 x3 F = some res → Qr (some (vI res.1)) res.2 → PR cX10_play (zX10_play Qr) 0 [(0, vR o), (1, vI x1), (2, vI x2), (3, vI x3)] [] F := by
  intro o x1 x2 x3 F res ho h hq
  refine s_aload_n (j := 0) dX10_play_0 rfl rfl ?_
  refine s_iload_n (j := 1) dX10_play_1 rfl rfl ?_
  refine s_iload_n (j := 2) dX10_play_2 rfl rfl ?_
  obtain ⟨q1, hv2, h⟩ := bnd h
  refine s_callV (As := [vI x1, vI x2]) (rest := []) (r := (some (vI q1.1))) (F' := q1.2) dX10_play_3 (clX10_227 (Nat.le_of_ble_eq_true rfl) (Nat.le_of_ble_eq_true rfl)) ho rfl ⟨_, _, _, _, rfl, ho, hv2, rfl, rfl⟩ rfl (Nat.le_of_ble_eq_true rfl) ?_
  refine s_if_ne (tgt := 11) dX10_play_6 rfl (fun hc3 => ?_) (fun hc3 => ?_)
  · have h := ifp hc3 h
    refine s_iload_n (j := 3) dX10_play_11 rfl rfl ?_
    by_cases hc4 : x3 = 0
    · have h := ifp hc4 h
      refine s_tabIn (tgt := 52) (off := 40) dX10_play_12 (by omega) (by omega) (by rw [hc4]; rfl) rfl ?_
      refine s_aload_n (j := 0) dX10_play_52 rfl rfl ?_
      refine s_getI dX10_play_53 flX10_205 ho ?_
      have h := Option.some.inj h
      subst h
      exact s_ireturn dX10_play_56 rfl hq
    have h := ifn hc4 h
    by_cases hc5 : x3 = 1
    · have h := ifp hc5 h
      refine s_tabIn (tgt := 57) (off := 45) dX10_play_12 (by omega) (by omega) (by rw [hc5]; rfl) rfl ?_
      refine s_aload_n (j := 0) dX10_play_57 rfl rfl ?_
      refine s_iconst dX10_play_58 (cin rfl) ?_
      refine s_iconst dX10_play_59 (cin rfl) ?_
      obtain ⟨r6, hv7, h⟩ := bnd h
      refine s_callV (As := [vI 1, vI 0]) (rest := []) (r := (some (vI r6))) (F' := q1.2) dX10_play_60 (clX10_230 (Nat.le_of_ble_eq_true rfl) (Nat.le_of_ble_eq_true rfl)) ho rfl ⟨_, _, _, _, rfl, ho, hv7, rfl, rfl⟩ rfl (Nat.le_of_ble_eq_true rfl) ?_
      have h := Option.some.inj h
      subst h
      exact s_ireturn dX10_play_63 rfl hq
    have h := ifn hc5 h
    by_cases hc8 : x3 = 2
    · have h := ifp hc8 h
      refine s_tabIn (tgt := 64) (off := 52) dX10_play_12 (by omega) (by omega) (by rw [hc8]; rfl) rfl ?_
      refine s_aload_n (j := 0) dX10_play_64 rfl rfl ?_
      refine s_iconst dX10_play_65 (cin rfl) ?_
      refine s_iconst dX10_play_66 (cin rfl) ?_
      obtain ⟨r9, hv10, h⟩ := bnd h
      refine s_callV (As := [vI 0, vI 0]) (rest := []) (r := (some (vI r9))) (F' := q1.2) dX10_play_67 (clX10_230 (Nat.le_of_ble_eq_true rfl) (Nat.le_of_ble_eq_true rfl)) ho rfl ⟨_, _, _, _, rfl, ho, hv10, rfl, rfl⟩ rfl (Nat.le_of_ble_eq_true rfl) ?_
      have h := Option.some.inj h
      subst h
      exact s_ireturn dX10_play_70 rfl hq
    have h := ifn hc8 h
    by_cases hc11 : x3 = 3
    · have h := ifp hc11 h
      refine s_tabIn (tgt := 71) (off := 59) dX10_play_12 (by omega) (by omega) (by rw [hc11]; rfl) rfl ?_
      refine s_aload_n (j := 0) dX10_play_71 rfl rfl ?_
      refine s_getI dX10_play_72 flX10_208 ho ?_
      have h := Option.some.inj h
      subst h
      exact s_ireturn dX10_play_75 rfl hq
    have h := ifn hc11 h
    by_cases hc12 : x3 = 4
    · have h := ifp hc12 h
      refine s_tabIn (tgt := 76) (off := 64) dX10_play_12 (by omega) (by omega) (by rw [hc12]; rfl) rfl ?_
      refine s_aload_n (j := 0) dX10_play_76 rfl rfl ?_
      refine s_iconst dX10_play_77 (cin rfl) ?_
      refine s_iconst dX10_play_78 (cin rfl) ?_
      obtain ⟨r13, hv14, h⟩ := bnd h
      refine s_callV (As := [vI 1, vI 1]) (rest := []) (r := (some (vI r13))) (F' := q1.2) dX10_play_79 (clX10_230 (Nat.le_of_ble_eq_true rfl) (Nat.le_of_ble_eq_true rfl)) ho rfl ⟨_, _, _, _, rfl, ho, hv14, rfl, rfl⟩ rfl (Nat.le_of_ble_eq_true rfl) ?_
      have h := Option.some.inj h
      subst h
      exact s_ireturn dX10_play_82 rfl hq
    have h := ifn hc12 h
    by_cases hc15 : x3 = 5
    · have h := ifp hc15 h
      refine s_tabIn (tgt := 83) (off := 71) dX10_play_12 (by omega) (by omega) (by rw [hc15]; rfl) rfl ?_
      refine s_aload_n (j := 0) dX10_play_83 rfl rfl ?_
      refine s_iconst dX10_play_84 (cin rfl) ?_
      refine s_iconst dX10_play_85 (cin rfl) ?_
      obtain ⟨r16, hv17, h⟩ := bnd h
      refine s_callV (As := [vI 0, vI 1]) (rest := []) (r := (some (vI r16))) (F' := q1.2) dX10_play_86 (clX10_230 (Nat.le_of_ble_eq_true rfl) (Nat.le_of_ble_eq_true rfl)) ho rfl ⟨_, _, _, _, rfl, ho, hv17, rfl, rfl⟩ rfl (Nat.le_of_ble_eq_true rfl) ?_
      have h := Option.some.inj h
      subst h
      exact s_ireturn dX10_play_89 rfl hq
    have h := ifn hc15 h
    refine s_tabOut (tgt := 90) dX10_play_12 (by omega) rfl ?_
    refine s_iconst dX10_play_90 (cin rfl) ?_
    have h := Option.some.inj h
    subst h
    exact s_ireturn dX10_play_91 rfl hq
  · have h := ifn hc3 h
    refine s_iconst dX10_play_9 (cin rfl) ?_
    have h := Option.some.inj h
    subst h
    exact s_ireturn dX10_play_10 rfl hq
def gX10_play : XG := fun As F r F' => ∃ o : Nat, ∃ x1 : Int, ∃ x2 : Int, ∃ x3 : Int, ∃ res : (Int × Mem), As = [vR o, vI x1, vI x2, vI x3] ∧ isK o 10 ∧ fX10_play o x1 x2 x3 F = some res ∧ r = some (vI res.1) ∧ F' = res.2
theorem ctX10_play : xCT yX10_play cX10_play 4 (some FieldType.int) 5 118 gX10_play := xmet (by decide +kernel) (fun As F r F' hg => by obtain ⟨o, x1, x2, x3, res, rfl, ho, h, rfl, rfl⟩ := hg; exact Nat.le_of_ble_eq_true rfl) (fun As F r F' hg => by obtain ⟨o, x1, x2, x3, res, rfl, ho, h, rfl, rfl⟩ := hg; exact fX10_play_ok o x1 x2 x3 _ _ ho h ⟨rfl, rfl⟩)
theorem mcX10_play : Cond.code yX10_play cX10_play 4 (some FieldType.int) ∈ xw_T ∧ Cond.initialized yX10_play.cls ∈ xw_T ∧ Cond.instanceMethod yX10_play ∈ xw_T ∧ Cond.selects yX10_play.cls yX10_play yX10_play ∈ xw_T := ⟨(xinT 1628 (by decide +kernel) (by decide +kernel)), (xinT 127 (by decide +kernel) (by decide +kernel)), (xinT 1626 (by decide +kernel) (by decide +kernel)), (xinT 1627 (by decide +kernel) (by decide +kernel))⟩
theorem dX10_where_0 : decode cX10_where 0 = .ok (.aload_n 0, 1) := by decide +kernel
theorem dX10_where_1 : decode cX10_where 1 = .ok (.iload_n 1, 1) := by decide +kernel
theorem dX10_where_2 : decode cX10_where 2 = .ok (.iload_n 2, 1) := by decide +kernel
theorem dX10_where_3 : decode cX10_where 3 = .ok (.invokevirtual 227, 3) := by decide +kernel
theorem dX10_where_6 : decode cX10_where 6 = .ok (.ifCond .eq 20, 3) := by decide +kernel
theorem dX10_where_9 : decode cX10_where 9 = .ok (.aload_n 0, 1) := by decide +kernel
theorem dX10_where_10 : decode cX10_where 10 = .ok (.iload_n 3, 1) := by decide +kernel
theorem dX10_where_11 : decode cX10_where 11 = .ok (.invokevirtual 234, 3) := by decide +kernel
theorem dX10_where_14 : decode cX10_where 14 = .ok (.ifCond .eq 12, 3) := by decide +kernel
theorem dX10_where_17 : decode cX10_where 17 = .ok (.aload_n 0, 1) := by decide +kernel
theorem dX10_where_18 : decode cX10_where 18 = .ok (.getfield 27, 3) := by decide +kernel
theorem dX10_where_21 : decode cX10_where 21 = .ok (.iload_n 3, 1) := by decide +kernel
theorem dX10_where_22 : decode cX10_where 22 = .ok (.iaload, 1) := by decide +kernel
theorem dX10_where_23 : decode cX10_where 23 = .ok (.goto 5, 3) := by decide +kernel
theorem dX10_where_26 : decode cX10_where 26 = .ok (.bipush (-2), 2) := by decide +kernel
theorem dX10_where_28 : decode cX10_where 28 = .ok (.ireturn, 1) := by decide +kernel
def zX10_where (Qr : Option PV → Mem → Prop) : XZ := (RX10, 5, 118, 4, some FieldType.int, Qr)
noncomputable def fX10_where (o : Nat) (x1 : Int) (x2 : Int) (x3 : Int) (F : Mem) : Option (Int × Mem) :=
  (fX10_isRound o x1 x2 F).bind fun q1 =>
  if q1.1 = 0 then
    some ((-2), q1.2)
  else
    (fX10_isSlot o x3 q1.2).bind fun r4 =>
    if r4 = 0 then
      some ((-2), q1.2)
    else
      if (0 : Int) ≤ x3 ∧ x3 < (alen (o + 4) : Int) then
        some (q1.2 (o + 4) x3.toNat, q1.2)
      else none
theorem fX10_where_ok {Qr : Option PV → Mem → Prop} : ∀ (o : Nat) (x1 : Int) (x2 : Int) (x3 : Int) (F : Mem) (res : (Int × Mem)) (ho : isK o 10), fX10_where o x1 x2 x3 F = some res → Qr (some (vI res.1)) res.2 → PR cX10_where (zX10_where Qr) 0 [(0, vR o), (1, vI x1), (2, vI x2), (3, vI x3)] [] F := by
  intro o x1 x2 x3 F res ho h hq
  refine s_aload_n (j := 0) dX10_where_0 rfl rfl ?_
  refine s_iload_n (j := 1) dX10_where_1 rfl rfl ?_
  refine s_iload_n (j := 2) dX10_where_2 rfl rfl ?_
  obtain ⟨q1, hv2, h⟩ := bnd h
  refine s_callV (As := [vI x1, vI x2]) (rest := []) (r := (some (vI q1.1))) (F' := q1.2) dX10_where_3 (clX10_227 (Nat.le_of_ble_eq_true rfl) (Nat.le_of_ble_eq_true rfl)) ho rfl ⟨_, _, _, _, rfl, ho, hv2, rfl, rfl⟩ rfl (Nat.le_of_ble_eq_true rfl) ?_
  refine s_if_eq (tgt := 26) dX10_where_6 rfl (fun hc3 => ?_) (fun hc3 => ?_)
  · have h := ifp hc3 h
    refine s_bipush dX10_where_26 rfl (cin rfl) ?_
    have h := Option.some.inj h
    subst h
    exact s_ireturn dX10_where_28 rfl hq
  · have h := ifn hc3 h
    refine s_aload_n (j := 0) dX10_where_9 rfl rfl ?_
    refine s_iload_n (j := 3) dX10_where_10 rfl rfl ?_
    obtain ⟨r4, hv5, h⟩ := bnd h
    refine s_callV (As := [vI x3]) (rest := []) (r := (some (vI r4))) (F' := q1.2) dX10_where_11 (clX10_234 (Nat.le_of_ble_eq_true rfl) (Nat.le_of_ble_eq_true rfl)) ho rfl ⟨_, _, _, rfl, ho, hv5, rfl, rfl⟩ rfl (Nat.le_of_ble_eq_true rfl) ?_
    refine s_if_eq (tgt := 26) dX10_where_14 rfl (fun hc6 => ?_) (fun hc6 => ?_)
    · have h := ifp hc6 h
      refine s_bipush dX10_where_26 rfl (cin rfl) ?_
      have h := Option.some.inj h
      subst h
      exact s_ireturn dX10_where_28 rfl hq
    · have h := ifn hc6 h
      refine s_aload_n (j := 0) dX10_where_17 rfl rfl ?_
      refine s_getR dX10_where_18 flX10_27 ho ?_
      refine s_iload_n (j := 3) dX10_where_21 rfl rfl ?_
      obtain ⟨hb7, h⟩ := gd h
      refine s_iaload dX10_where_22 (trX10_14 ho) hb7.1 hb7.2 ?_
      refine s_goto (tgt := 28) dX10_where_23 rfl ?_
      have h := Option.some.inj h
      subst h
      exact s_ireturn dX10_where_28 rfl hq
def gX10_where : XG := fun As F r F' => ∃ o : Nat, ∃ x1 : Int, ∃ x2 : Int, ∃ x3 : Int, ∃ res : (Int × Mem), As = [vR o, vI x1, vI x2, vI x3] ∧ isK o 10 ∧ fX10_where o x1 x2 x3 F = some res ∧ r = some (vI res.1) ∧ F' = res.2
theorem ctX10_where : xCT yX10_where cX10_where 4 (some FieldType.int) 5 118 gX10_where := xmet (by decide +kernel) (fun As F r F' hg => by obtain ⟨o, x1, x2, x3, res, rfl, ho, h, rfl, rfl⟩ := hg; exact Nat.le_of_ble_eq_true rfl) (fun As F r F' hg => by obtain ⟨o, x1, x2, x3, res, rfl, ho, h, rfl, rfl⟩ := hg; exact fX10_where_ok o x1 x2 x3 _ _ ho h ⟨rfl, rfl⟩)
theorem mcX10_where : Cond.code yX10_where cX10_where 4 (some FieldType.int) ∈ xw_T ∧ Cond.initialized yX10_where.cls ∈ xw_T ∧ Cond.instanceMethod yX10_where ∈ xw_T ∧ Cond.selects yX10_where.cls yX10_where yX10_where ∈ xw_T := ⟨(xinT 1660 (by decide +kernel) (by decide +kernel)), (xinT 127 (by decide +kernel) (by decide +kernel)), (xinT 1658 (by decide +kernel) (by decide +kernel)), (xinT 1659 (by decide +kernel) (by decide +kernel))⟩
theorem dX10_row_0 : decode cX10_row 0 = .ok (.aload_n 0, 1) := by decide +kernel
theorem dX10_row_1 : decode cX10_row 1 = .ok (.iload_n 1, 1) := by decide +kernel
theorem dX10_row_2 : decode cX10_row 2 = .ok (.iload_n 2, 1) := by decide +kernel
theorem dX10_row_3 : decode cX10_row 3 = .ok (.invokevirtual 227, 3) := by decide +kernel
theorem dX10_row_6 : decode cX10_row 6 = .ok (.ifCond .eq 26, 3) := by decide +kernel
theorem dX10_row_9 : decode cX10_row 9 = .ok (.aload_n 0, 1) := by decide +kernel
theorem dX10_row_10 : decode cX10_row 10 = .ok (.iload_n 3, 1) := by decide +kernel
theorem dX10_row_11 : decode cX10_row 11 = .ok (.invokevirtual 189, 3) := by decide +kernel
theorem dX10_row_14 : decode cX10_row 14 = .ok (.ifCond .eq 18, 3) := by decide +kernel
theorem dX10_row_17 : decode cX10_row 17 = .ok (.iload 4, 2) := by decide +kernel
theorem dX10_row_19 : decode cX10_row 19 = .ok (.ifCond .lt 13, 3) := by decide +kernel
theorem dX10_row_22 : decode cX10_row 22 = .ok (.iload 5, 2) := by decide +kernel
theorem dX10_row_24 : decode cX10_row 24 = .ok (.iconst 0, 1) := by decide +kernel
theorem dX10_row_25 : decode cX10_row 25 = .ok (.iconst 2, 1) := by decide +kernel
theorem dX10_row_26 : decode cX10_row 26 = .ok (.invokestatic 115, 3) := by decide +kernel
theorem dX10_row_29 : decode cX10_row 29 = .ok (.ifCond .ne 6, 3) := by decide +kernel
theorem dX10_row_32 : decode cX10_row 32 = .ok (.bipush (-2), 2) := by decide +kernel
theorem dX10_row_34 : decode cX10_row 34 = .ok (.ireturn, 1) := by decide +kernel
theorem dX10_row_35 : decode cX10_row 35 = .ok (.iload 4, 2) := by decide +kernel
theorem dX10_row_37 : decode cX10_row 37 = .ok (.istore 6, 2) := by decide +kernel
theorem dX10_row_39 : decode cX10_row 39 = .ok (.iconst 0, 1) := by decide +kernel
theorem dX10_row_40 : decode cX10_row 40 = .ok (.istore 7, 2) := by decide +kernel
theorem dX10_row_42 : decode cX10_row 42 = .ok (.iload 7, 2) := by decide +kernel
theorem dX10_row_44 : decode cX10_row 44 = .ok (.aload_n 0, 1) := by decide +kernel
theorem dX10_row_45 : decode cX10_row 45 = .ok (.iconst 0, 1) := by decide +kernel
theorem dX10_row_46 : decode cX10_row 46 = .ok (.invokevirtual 181, 3) := by decide +kernel
theorem dX10_row_49 : decode cX10_row 49 = .ok (.if_icmp .ge 91, 3) := by decide +kernel
theorem dX10_row_52 : decode cX10_row 52 = .ok (.aload_n 0, 1) := by decide +kernel
theorem dX10_row_53 : decode cX10_row 53 = .ok (.iload_n 3, 1) := by decide +kernel
theorem dX10_row_54 : decode cX10_row 54 = .ok (.iload 7, 2) := by decide +kernel
theorem dX10_row_56 : decode cX10_row 56 = .ok (.iconst 0, 1) := by decide +kernel
theorem dX10_row_57 : decode cX10_row 57 = .ok (.invokevirtual 223, 3) := by decide +kernel
theorem dX10_row_60 : decode cX10_row 60 = .ok (.istore 8, 2) := by decide +kernel
theorem dX10_row_62 : decode cX10_row 62 = .ok (.iload 6, 2) := by decide +kernel
theorem dX10_row_64 : decode cX10_row 64 = .ok (.iload 8, 2) := by decide +kernel
theorem dX10_row_66 : decode cX10_row 66 = .ok (.if_icmp .ge 61, 3) := by decide +kernel
theorem dX10_row_69 : decode cX10_row 69 = .ok (.iload 5, 2) := by decide +kernel
theorem dX10_row_71 : decode cX10_row 71 = .ok (.ifCond .ne 8, 3) := by decide +kernel
theorem dX10_row_74 : decode cX10_row 74 = .ok (.iload 7, 2) := by decide +kernel
theorem dX10_row_76 : decode cX10_row 76 = .ok (.goto 50, 3) := by decide +kernel
theorem dX10_row_79 : decode cX10_row 79 = .ok (.iload 5, 2) := by decide +kernel
theorem dX10_row_81 : decode cX10_row 81 = .ok (.iconst 2, 1) := by decide +kernel
theorem dX10_row_82 : decode cX10_row 82 = .ok (.if_icmp .ne 13, 3) := by decide +kernel
theorem dX10_row_85 : decode cX10_row 85 = .ok (.aload_n 0, 1) := by decide +kernel
theorem dX10_row_86 : decode cX10_row 86 = .ok (.getfield 27, 3) := by decide +kernel
theorem dX10_row_89 : decode cX10_row 89 = .ok (.iload 7, 2) := by decide +kernel
theorem dX10_row_91 : decode cX10_row 91 = .ok (.iaload, 1) := by decide +kernel
theorem dX10_row_92 : decode cX10_row 92 = .ok (.goto 34, 3) := by decide +kernel
theorem dX10_row_95 : decode cX10_row 95 = .ok (.aload_n 0, 1) := by decide +kernel
theorem dX10_row_96 : decode cX10_row 96 = .ok (.iload_n 3, 1) := by decide +kernel
theorem dX10_row_97 : decode cX10_row 97 = .ok (.aload_n 0, 1) := by decide +kernel
theorem dX10_row_98 : decode cX10_row 98 = .ok (.getfield 27, 3) := by decide +kernel
theorem dX10_row_101 : decode cX10_row 101 = .ok (.iload 7, 2) := by decide +kernel
theorem dX10_row_103 : decode cX10_row 103 = .ok (.iaload, 1) := by decide +kernel
theorem dX10_row_104 : decode cX10_row 104 = .ok (.iload_n 3, 1) := by decide +kernel
theorem dX10_row_105 : decode cX10_row 105 = .ok (.if_icmp .ne 7, 3) := by decide +kernel
theorem dX10_row_108 : decode cX10_row 108 = .ok (.iconst 1, 1) := by decide +kernel
theorem dX10_row_109 : decode cX10_row 109 = .ok (.goto 4, 3) := by decide +kernel
theorem dX10_row_112 : decode cX10_row 112 = .ok (.iconst 0, 1) := by decide +kernel
theorem dX10_row_113 : decode cX10_row 113 = .ok (.iload 7, 2) := by decide +kernel
theorem dX10_row_115 : decode cX10_row 115 = .ok (.invokevirtual 215, 3) := by decide +kernel
theorem dX10_row_118 : decode cX10_row 118 = .ok (.ifCond .eq 7, 3) := by decide +kernel
theorem dX10_row_121 : decode cX10_row 121 = .ok (.iconst 0, 1) := by decide +kernel
theorem dX10_row_122 : decode cX10_row 122 = .ok (.goto 4, 3) := by decide +kernel
theorem dX10_row_125 : decode cX10_row 125 = .ok (.iconst 1, 1) := by decide +kernel
theorem dX10_row_126 : decode cX10_row 126 = .ok (.ireturn, 1) := by decide +kernel
theorem dX10_row_127 : decode cX10_row 127 = .ok (.iload 6, 2) := by decide +kernel
theorem dX10_row_129 : decode cX10_row 129 = .ok (.iload 8, 2) := by decide +kernel
theorem dX10_row_131 : decode cX10_row 131 = .ok (.isub, 1) := by decide +kernel
theorem dX10_row_132 : decode cX10_row 132 = .ok (.istore 6, 2) := by decide +kernel
theorem dX10_row_134 : decode cX10_row 134 = .ok (.iinc 7 1, 3) := by decide +kernel
theorem dX10_row_137 : decode cX10_row 137 = .ok (.goto (-95), 3) := by decide +kernel
theorem dX10_row_140 : decode cX10_row 140 = .ok (.bipush (-2), 2) := by decide +kernel
theorem dX10_row_142 : decode cX10_row 142 = .ok (.ireturn, 1) := by decide +kernel
def zX10_row (Qr : Option PV → Mem → Prop) : XZ := (RX10, 5, 118, 9, some FieldType.int, Qr)
noncomputable def fX10_row_b113 (x7 : Int) (s0 : Nat) (s1 : Int) (s2 : Int) (F : Mem) : Option (Int × Mem) :=
  (fX10_sees s0 s1 s2 x7 F).bind fun r1 =>
  if r1 = 0 then
    some (1, F)
  else
    some (0, F)
noncomputable def fX10_row_b42 : Nat → Nat → Int → Int → Int → Int → Mem → Option (Int × Mem)
  | 0, _, _, _, _, _, _ => none
  | n + 1, o, x3, x5, x6, x7, F =>
    (fX10_of o 0 F).bind fun r1 =>
    if r1 ≤ x7 then
      some ((-2), F)
    else
      (fX10_rowsIn o x3 x7 0 F).bind fun r4 =>
      if r4 ≤ x6 then
        fX10_row_b42 n o x3 x5 (xw (x6 - r4)) (xw (x7 + 1)) F
      else
        if x5 ≠ 0 then
          if x5 ≠ 2 then
            if (0 : Int) ≤ x7 ∧ x7 < (alen (o + 4) : Int) then
              if (F (o + 4) x7.toNat) ≠ x3 then
                fX10_row_b113 x7 o x3 0 F
              else
                fX10_row_b113 x7 o x3 1 F
            else none
          else
            if (0 : Int) ≤ x7 ∧ x7 < (alen (o + 4) : Int) then
              some (F (o + 4) x7.toNat, F)
            else none
        else
          some (x7, F)
noncomputable def fX10_row (o : Nat) (x1 : Int) (x2 : Int) (x3 : Int) (x4 : Int) (x5 : Int) (F : Mem) : Option (Int × Mem) :=
  (fX10_isRound o x1 x2 F).bind fun q1 =>
  if q1.1 = 0 then
    some ((-2), q1.2)
  else
    (fX10_isHouse o x3 q1.2).bind fun r4 =>
    if r4 = 0 then
      some ((-2), q1.2)
    else
      if x4 < 0 then
        some ((-2), q1.2)
      else
        if (fX10_isIn x5 0 2) ≠ 0 then
          fX10_row_b42 FU o x3 x5 x4 0 q1.2
        else
          some ((-2), q1.2)
theorem fX10_row_b113_ok {Qr : Option PV → Mem → Prop}  : ∀ (x7 : Int) (s0 : Nat) (s1 : Int) (s2 : Int) (F : Mem) (res : (Int × Mem)) (hs0 : isK s0 10), fX10_row_b113 x7 s0 s1 s2 F = some res → Qr (some (vI res.1)) res.2 → PR cX10_row (zX10_row Qr) 113 [(7, vI x7)] [vI s2, vI s1, vR s0] F := by
  intro x7 s0 s1 s2 F res hs0 h hq
  refine s_iload (j := 0) dX10_row_113 rfl ?_
  obtain ⟨r1, hv2, h⟩ := bnd h
  refine s_callV (As := [vI s1, vI s2, vI x7]) (rest := []) (r := (some (vI r1))) (F' := F) dX10_row_115 (clX10_215 (Nat.le_of_ble_eq_true rfl) (Nat.le_of_ble_eq_true rfl)) hs0 rfl ⟨_, _, _, _, _, rfl, hs0, hv2, rfl, rfl⟩ rfl (Nat.le_of_ble_eq_true rfl) ?_
  refine s_if_eq (tgt := 125) dX10_row_118 rfl (fun hc3 => ?_) (fun hc3 => ?_)
  · have h := ifp hc3 h
    refine s_iconst dX10_row_125 (cin rfl) ?_
    have h := Option.some.inj h
    subst h
    exact s_ireturn dX10_row_126 rfl hq
  · have h := ifn hc3 h
    refine s_iconst dX10_row_121 (cin rfl) ?_
    refine s_goto (tgt := 126) dX10_row_122 rfl ?_
    have h := Option.some.inj h
    subst h
    exact s_ireturn dX10_row_126 rfl hq
theorem fX10_row_b42_ok {Qr : Option PV → Mem → Prop}  : ∀ (n : Nat) (o : Nat) (x3 : Int) (x5 : Int) (x6 : Int) (x7 : Int) (F : Mem) (res : (Int × Mem)) (ho : isK o 10), fX10_row_b42 n o x3 x5 x6 x7 F = some res → Qr (some (vI res.1)) res.2 → PR cX10_row (zX10_row Qr) 42 [(0, vR o), (3, vI x3), (5, vI x5), (6, vI x6), (7, vI x7)] [] F := by
  intro n
  induction n with
  | zero => intro o x3 x5 x6 x7 F res ho h hq; exact nomatch (show (none : Option _) = some _ from h)
  | succ n ih =>
    intro o x3 x5 x6 x7 F res ho h hq
    refine s_iload (j := 4) dX10_row_42 rfl ?_
    refine s_aload_n (j := 0) dX10_row_44 rfl rfl ?_
    refine s_iconst dX10_row_45 (cin rfl) ?_
    obtain ⟨r1, hv2, h⟩ := bnd h
    refine s_callV (As := [vI 0]) (rest := [vI x7]) (r := (some (vI r1))) (F' := F) dX10_row_46 (clX10_181 (Nat.le_of_ble_eq_true rfl) (Nat.le_of_ble_eq_true rfl)) ho rfl ⟨_, _, _, rfl, ho, hv2, rfl, rfl⟩ rfl (Nat.le_of_ble_eq_true rfl) ?_
    refine s_icmp_ge (tgt := 140) dX10_row_49 rfl (fun hc3 => ?_) (fun hc3 => ?_)
    · have h := ifp hc3 h
      refine s_bipush dX10_row_140 rfl (cin rfl) ?_
      have h := Option.some.inj h
      subst h
      exact s_ireturn dX10_row_142 rfl hq
    · have h := ifn hc3 h
      refine s_aload_n (j := 0) dX10_row_52 rfl rfl ?_
      refine s_iload_n (j := 1) dX10_row_53 rfl rfl ?_
      refine s_iload (j := 4) dX10_row_54 rfl ?_
      refine s_iconst dX10_row_56 (cin rfl) ?_
      obtain ⟨r4, hv5, h⟩ := bnd h
      refine s_callV (As := [vI x3, vI x7, vI 0]) (rest := []) (r := (some (vI r4))) (F' := F) dX10_row_57 (clX10_223 (Nat.le_of_ble_eq_true rfl) (Nat.le_of_ble_eq_true rfl)) ho rfl ⟨_, _, _, _, _, rfl, ho, hv5, rfl, rfl⟩ rfl (Nat.le_of_ble_eq_true rfl) ?_
      refine s_istore (ls' := [(8, vI r4), (0, vR o), (3, vI x3), (5, vI x5), (6, vI x6), (7, vI x7)]) dX10_row_60 (Nat.le_of_ble_eq_true rfl) rfl ?_
      refine s_iload (j := 4) dX10_row_62 rfl ?_
      refine s_iload (j := 0) dX10_row_64 rfl ?_
      refine s_icmp_ge (tgt := 127) dX10_row_66 rfl (fun hc6 => ?_) (fun hc6 => ?_)
      · have h := ifp hc6 h
        refine s_iload (j := 4) dX10_row_127 rfl ?_
        refine s_iload (j := 0) dX10_row_129 rfl ?_
        refine s_isub dX10_row_131 ?_
        refine s_istore (ls' := [(6, vI (xw (x6 - r4))), (8, vI r4), (0, vR o), (3, vI x3), (5, vI x5), (7, vI x7)]) dX10_row_132 (Nat.le_of_ble_eq_true rfl) rfl ?_
        refine s_iinc (j := 5) dX10_row_134 rfl (Nat.le_of_ble_eq_true rfl) rfl ?_
        refine s_goto (tgt := 42) dX10_row_137 rfl ?_
        exact s_sub (ks := [3, 4, 5, 1, 0]) rfl (ih o x3 x5 (xw (x6 - r4)) (xw (x7 + 1)) F _ ho h hq)
      · have h := ifn hc6 h
        refine s_iload (j := 3) dX10_row_69 rfl ?_
        refine s_if_ne (tgt := 79) dX10_row_71 rfl (fun hc7 => ?_) (fun hc7 => ?_)
        · have h := ifp hc7 h
          refine s_iload (j := 3) dX10_row_79 rfl ?_
          refine s_iconst dX10_row_81 (cin rfl) ?_
          refine s_icmp_ne (tgt := 95) dX10_row_82 rfl (fun hc8 => ?_) (fun hc8 => ?_)
          · have h := ifp hc8 h
            refine s_aload_n (j := 1) dX10_row_95 rfl rfl ?_
            refine s_iload_n (j := 2) dX10_row_96 rfl rfl ?_
            refine s_aload_n (j := 1) dX10_row_97 rfl rfl ?_
            refine s_getR dX10_row_98 flX10_27 ho ?_
            refine s_iload (j := 5) dX10_row_101 rfl ?_
            obtain ⟨hb9, h⟩ := gd h
            refine s_iaload dX10_row_103 (trX10_14 ho) hb9.1 hb9.2 ?_
            refine s_iload_n (j := 2) dX10_row_104 rfl rfl ?_
            refine s_icmp_ne (tgt := 112) dX10_row_105 rfl (fun hc10 => ?_) (fun hc10 => ?_)
            · have h := ifp hc10 h
              refine s_iconst dX10_row_112 (cin rfl) ?_
              exact s_sub (ks := [5]) rfl (fX10_row_b113_ok x7 o x3 0 F _ ho h hq)
            · have h := ifn hc10 h
              refine s_iconst dX10_row_108 (cin rfl) ?_
              refine s_goto (tgt := 113) dX10_row_109 rfl ?_
              exact s_sub (ks := [5]) rfl (fX10_row_b113_ok x7 o x3 1 F _ ho h hq)
          · have h := ifn hc8 h
            refine s_aload_n (j := 1) dX10_row_85 rfl rfl ?_
            refine s_getR dX10_row_86 flX10_27 ho ?_
            refine s_iload (j := 5) dX10_row_89 rfl ?_
            obtain ⟨hb11, h⟩ := gd h
            refine s_iaload dX10_row_91 (trX10_14 ho) hb11.1 hb11.2 ?_
            refine s_goto (tgt := 126) dX10_row_92 rfl ?_
            have h := Option.some.inj h
            subst h
            exact s_ireturn dX10_row_126 rfl hq
        · have h := ifn hc7 h
          refine s_iload (j := 5) dX10_row_74 rfl ?_
          refine s_goto (tgt := 126) dX10_row_76 rfl ?_
          have h := Option.some.inj h
          subst h
          exact s_ireturn dX10_row_126 rfl hq
theorem fX10_row_ok {Qr : Option PV → Mem → Prop} : ∀ (o : Nat) (x1 : Int) (x2 : Int) (x3 : Int) (x4 : Int) (x5 : Int) (F : Mem) (res : (Int × Mem)) (ho : isK o 10), fX10_row o x1 x2 x3 x4 x5 F = some res → Qr (some (vI res.1)) res.2 → PR cX10_row (zX10_row Qr) 0 [(0, vR o), (1, vI x1), (2, vI x2), (3, vI x3), (4, vI x4), (5, vI x5)] [] F := by
  intro o x1 x2 x3 x4 x5 F res ho h hq
  refine s_aload_n (j := 0) dX10_row_0 rfl rfl ?_
  refine s_iload_n (j := 1) dX10_row_1 rfl rfl ?_
  refine s_iload_n (j := 2) dX10_row_2 rfl rfl ?_
  obtain ⟨q1, hv2, h⟩ := bnd h
  refine s_callV (As := [vI x1, vI x2]) (rest := []) (r := (some (vI q1.1))) (F' := q1.2) dX10_row_3 (clX10_227 (Nat.le_of_ble_eq_true rfl) (Nat.le_of_ble_eq_true rfl)) ho rfl ⟨_, _, _, _, rfl, ho, hv2, rfl, rfl⟩ rfl (Nat.le_of_ble_eq_true rfl) ?_
  refine s_if_eq (tgt := 32) dX10_row_6 rfl (fun hc3 => ?_) (fun hc3 => ?_)
  · have h := ifp hc3 h
    refine s_bipush dX10_row_32 rfl (cin rfl) ?_
    have h := Option.some.inj h
    subst h
    exact s_ireturn dX10_row_34 rfl hq
  · have h := ifn hc3 h
    refine s_aload_n (j := 0) dX10_row_9 rfl rfl ?_
    refine s_iload_n (j := 3) dX10_row_10 rfl rfl ?_
    obtain ⟨r4, hv5, h⟩ := bnd h
    refine s_callV (As := [vI x3]) (rest := []) (r := (some (vI r4))) (F' := q1.2) dX10_row_11 (clX10_189 (Nat.le_of_ble_eq_true rfl) (Nat.le_of_ble_eq_true rfl)) ho rfl ⟨_, _, _, rfl, ho, hv5, rfl, rfl⟩ rfl (Nat.le_of_ble_eq_true rfl) ?_
    refine s_if_eq (tgt := 32) dX10_row_14 rfl (fun hc6 => ?_) (fun hc6 => ?_)
    · have h := ifp hc6 h
      refine s_bipush dX10_row_32 rfl (cin rfl) ?_
      have h := Option.some.inj h
      subst h
      exact s_ireturn dX10_row_34 rfl hq
    · have h := ifn hc6 h
      refine s_iload (j := 4) dX10_row_17 rfl ?_
      refine s_if_lt (tgt := 32) dX10_row_19 rfl (fun hc7 => ?_) (fun hc7 => ?_)
      · have h := ifp hc7 h
        refine s_bipush dX10_row_32 rfl (cin rfl) ?_
        have h := Option.some.inj h
        subst h
        exact s_ireturn dX10_row_34 rfl hq
      · have h := ifn hc7 h
        refine s_iload (j := 5) dX10_row_22 rfl ?_
        refine s_iconst dX10_row_24 (cin rfl) ?_
        refine s_iconst dX10_row_25 (cin rfl) ?_
        refine s_callS (As := [vI x5, vI 0, vI 2]) (rest := []) (r := (some (vI (fX10_isIn x5 0 2)))) (F' := q1.2) dX10_row_26 (clX10_115 (Nat.le_of_ble_eq_true rfl) (Nat.le_of_ble_eq_true rfl)) rfl ⟨_, _, _, _, rfl, rfl, rfl, rfl⟩ rfl (Nat.le_of_ble_eq_true rfl) ?_
        refine s_if_ne (tgt := 35) dX10_row_29 rfl (fun hc8 => ?_) (fun hc8 => ?_)
        · have h := ifp hc8 h
          refine s_iload (j := 4) dX10_row_35 rfl ?_
          refine s_istore (ls' := [(6, vI x4), (0, vR o), (1, vI x1), (2, vI x2), (3, vI x3), (4, vI x4), (5, vI x5)]) dX10_row_37 (Nat.le_of_ble_eq_true rfl) rfl ?_
          refine s_iconst dX10_row_39 (cin rfl) ?_
          refine s_istore dX10_row_40 (Nat.le_of_ble_eq_true rfl) rfl ?_
          exact s_sub (ks := [2, 5, 7, 1, 0]) rfl (fX10_row_b42_ok FU o x3 x5 x4 0 q1.2 _ ho h hq)
        · have h := ifn hc8 h
          refine s_bipush dX10_row_32 rfl (cin rfl) ?_
          have h := Option.some.inj h
          subst h
          exact s_ireturn dX10_row_34 rfl hq
def gX10_row : XG := fun As F r F' => ∃ o : Nat, ∃ x1 : Int, ∃ x2 : Int, ∃ x3 : Int, ∃ x4 : Int, ∃ x5 : Int, ∃ res : (Int × Mem), As = [vR o, vI x1, vI x2, vI x3, vI x4, vI x5] ∧ isK o 10 ∧ fX10_row o x1 x2 x3 x4 x5 F = some res ∧ r = some (vI res.1) ∧ F' = res.2
theorem ctX10_row : xCT yX10_row cX10_row 9 (some FieldType.int) 5 118 gX10_row := xmet (by decide +kernel) (fun As F r F' hg => by obtain ⟨o, x1, x2, x3, x4, x5, res, rfl, ho, h, rfl, rfl⟩ := hg; exact Nat.le_of_ble_eq_true rfl) (fun As F r F' hg => by obtain ⟨o, x1, x2, x3, x4, x5, res, rfl, ho, h, rfl, rfl⟩ := hg; exact fX10_row_ok o x1 x2 x3 x4 x5 _ _ ho h ⟨rfl, rfl⟩)
theorem mcX10_row : Cond.code yX10_row cX10_row 9 (some FieldType.int) ∈ xw_T ∧ Cond.initialized yX10_row.cls ∈ xw_T ∧ Cond.instanceMethod yX10_row ∈ xw_T ∧ Cond.selects yX10_row.cls yX10_row yX10_row ∈ xw_T := ⟨(xinT 1668 (by decide +kernel) (by decide +kernel)), (xinT 127 (by decide +kernel) (by decide +kernel)), (xinT 1666 (by decide +kernel) (by decide +kernel)), (xinT 1667 (by decide +kernel) (by decide +kernel))⟩
theorem dX10_rows__0 : decode cX10_rows_ 0 = .ok (.aload_n 0, 1) := by decide +kernel
theorem dX10_rows__1 : decode cX10_rows_ 1 = .ok (.iload_n 1, 1) := by decide +kernel
theorem dX10_rows__2 : decode cX10_rows_ 2 = .ok (.iload_n 2, 1) := by decide +kernel
theorem dX10_rows__3 : decode cX10_rows_ 3 = .ok (.invokevirtual 227, 3) := by decide +kernel
theorem dX10_rows__6 : decode cX10_rows_ 6 = .ok (.ifCond .eq 21, 3) := by decide +kernel
theorem dX10_rows__9 : decode cX10_rows_ 9 = .ok (.aload_n 0, 1) := by decide +kernel
theorem dX10_rows__10 : decode cX10_rows_ 10 = .ok (.iload_n 3, 1) := by decide +kernel
theorem dX10_rows__11 : decode cX10_rows_ 11 = .ok (.invokevirtual 189, 3) := by decide +kernel
theorem dX10_rows__14 : decode cX10_rows_ 14 = .ok (.ifCond .eq 13, 3) := by decide +kernel
theorem dX10_rows__17 : decode cX10_rows_ 17 = .ok (.iload 4, 2) := by decide +kernel
theorem dX10_rows__19 : decode cX10_rows_ 19 = .ok (.iconst 0, 1) := by decide +kernel
theorem dX10_rows__20 : decode cX10_rows_ 20 = .ok (.iconst 3, 1) := by decide +kernel
theorem dX10_rows__21 : decode cX10_rows_ 21 = .ok (.invokestatic 115, 3) := by decide +kernel
theorem dX10_rows__24 : decode cX10_rows_ 24 = .ok (.ifCond .ne 6, 3) := by decide +kernel
theorem dX10_rows__27 : decode cX10_rows_ 27 = .ok (.bipush (-2), 2) := by decide +kernel
theorem dX10_rows__29 : decode cX10_rows_ 29 = .ok (.ireturn, 1) := by decide +kernel
theorem dX10_rows__30 : decode cX10_rows_ 30 = .ok (.iconst 0, 1) := by decide +kernel
theorem dX10_rows__31 : decode cX10_rows_ 31 = .ok (.istore 5, 2) := by decide +kernel
theorem dX10_rows__33 : decode cX10_rows_ 33 = .ok (.iconst 0, 1) := by decide +kernel
theorem dX10_rows__34 : decode cX10_rows_ 34 = .ok (.istore 6, 2) := by decide +kernel
theorem dX10_rows__36 : decode cX10_rows_ 36 = .ok (.iconst (-1), 1) := by decide +kernel
theorem dX10_rows__37 : decode cX10_rows_ 37 = .ok (.istore 7, 2) := by decide +kernel
theorem dX10_rows__39 : decode cX10_rows_ 39 = .ok (.iconst 0, 1) := by decide +kernel
theorem dX10_rows__40 : decode cX10_rows_ 40 = .ok (.istore 8, 2) := by decide +kernel
theorem dX10_rows__42 : decode cX10_rows_ 42 = .ok (.iconst 0, 1) := by decide +kernel
theorem dX10_rows__43 : decode cX10_rows_ 43 = .ok (.istore 9, 2) := by decide +kernel
theorem dX10_rows__45 : decode cX10_rows_ 45 = .ok (.iload 9, 2) := by decide +kernel
theorem dX10_rows__47 : decode cX10_rows_ 47 = .ok (.aload_n 0, 1) := by decide +kernel
theorem dX10_rows__48 : decode cX10_rows_ 48 = .ok (.iconst 0, 1) := by decide +kernel
theorem dX10_rows__49 : decode cX10_rows_ 49 = .ok (.invokevirtual 181, 3) := by decide +kernel
theorem dX10_rows__52 : decode cX10_rows_ 52 = .ok (.if_icmp .ge 93, 3) := by decide +kernel
theorem dX10_rows__55 : decode cX10_rows_ 55 = .ok (.aload_n 0, 1) := by decide +kernel
theorem dX10_rows__56 : decode cX10_rows_ 56 = .ok (.iload_n 3, 1) := by decide +kernel
theorem dX10_rows__57 : decode cX10_rows_ 57 = .ok (.iload 9, 2) := by decide +kernel
theorem dX10_rows__59 : decode cX10_rows_ 59 = .ok (.iconst 0, 1) := by decide +kernel
theorem dX10_rows__60 : decode cX10_rows_ 60 = .ok (.invokevirtual 223, 3) := by decide +kernel
theorem dX10_rows__63 : decode cX10_rows_ 63 = .ok (.istore 10, 2) := by decide +kernel
theorem dX10_rows__65 : decode cX10_rows_ 65 = .ok (.aload_n 0, 1) := by decide +kernel
theorem dX10_rows__66 : decode cX10_rows_ 66 = .ok (.iload_n 3, 1) := by decide +kernel
theorem dX10_rows__67 : decode cX10_rows_ 67 = .ok (.aload_n 0, 1) := by decide +kernel
theorem dX10_rows__68 : decode cX10_rows_ 68 = .ok (.getfield 27, 3) := by decide +kernel
theorem dX10_rows__71 : decode cX10_rows_ 71 = .ok (.iload 9, 2) := by decide +kernel
theorem dX10_rows__73 : decode cX10_rows_ 73 = .ok (.iaload, 1) := by decide +kernel
theorem dX10_rows__74 : decode cX10_rows_ 74 = .ok (.iload_n 3, 1) := by decide +kernel
theorem dX10_rows__75 : decode cX10_rows_ 75 = .ok (.if_icmp .ne 7, 3) := by decide +kernel
theorem dX10_rows__78 : decode cX10_rows_ 78 = .ok (.iconst 1, 1) := by decide +kernel
theorem dX10_rows__79 : decode cX10_rows_ 79 = .ok (.goto 4, 3) := by decide +kernel
theorem dX10_rows__82 : decode cX10_rows_ 82 = .ok (.iconst 0, 1) := by decide +kernel
theorem dX10_rows__83 : decode cX10_rows_ 83 = .ok (.iload 9, 2) := by decide +kernel
theorem dX10_rows__85 : decode cX10_rows_ 85 = .ok (.invokevirtual 215, 3) := by decide +kernel
theorem dX10_rows__88 : decode cX10_rows_ 88 = .ok (.ifCond .ne 7, 3) := by decide +kernel
theorem dX10_rows__91 : decode cX10_rows_ 91 = .ok (.iconst 1, 1) := by decide +kernel
theorem dX10_rows__92 : decode cX10_rows_ 92 = .ok (.goto 4, 3) := by decide +kernel
theorem dX10_rows__95 : decode cX10_rows_ 95 = .ok (.iconst 0, 1) := by decide +kernel
theorem dX10_rows__96 : decode cX10_rows_ 96 = .ok (.istore 11, 2) := by decide +kernel
theorem dX10_rows__98 : decode cX10_rows_ 98 = .ok (.iload 11, 2) := by decide +kernel
theorem dX10_rows__100 : decode cX10_rows_ 100 = .ok (.ifCond .eq 32, 3) := by decide +kernel
theorem dX10_rows__103 : decode cX10_rows_ 103 = .ok (.iload 10, 2) := by decide +kernel
theorem dX10_rows__105 : decode cX10_rows_ 105 = .ok (.ifCond .le 27, 3) := by decide +kernel
theorem dX10_rows__108 : decode cX10_rows_ 108 = .ok (.iload 7, 2) := by decide +kernel
theorem dX10_rows__110 : decode cX10_rows_ 110 = .ok (.ifCond .ge 8, 3) := by decide +kernel
theorem dX10_rows__113 : decode cX10_rows_ 113 = .ok (.iload 5, 2) := by decide +kernel
theorem dX10_rows__115 : decode cX10_rows_ 115 = .ok (.goto 5, 3) := by decide +kernel
theorem dX10_rows__118 : decode cX10_rows_ 118 = .ok (.iload 7, 2) := by decide +kernel
theorem dX10_rows__120 : decode cX10_rows_ 120 = .ok (.istore 7, 2) := by decide +kernel
theorem dX10_rows__122 : decode cX10_rows_ 122 = .ok (.iload 6, 2) := by decide +kernel
theorem dX10_rows__124 : decode cX10_rows_ 124 = .ok (.iload 10, 2) := by decide +kernel
theorem dX10_rows__126 : decode cX10_rows_ 126 = .ok (.iadd, 1) := by decide +kernel
theorem dX10_rows__127 : decode cX10_rows_ 127 = .ok (.istore 6, 2) := by decide +kernel
theorem dX10_rows__129 : decode cX10_rows_ 129 = .ok (.iinc 8 1, 3) := by decide +kernel
theorem dX10_rows__132 : decode cX10_rows_ 132 = .ok (.iload 5, 2) := by decide +kernel
theorem dX10_rows__134 : decode cX10_rows_ 134 = .ok (.iload 10, 2) := by decide +kernel
theorem dX10_rows__136 : decode cX10_rows_ 136 = .ok (.iadd, 1) := by decide +kernel
theorem dX10_rows__137 : decode cX10_rows_ 137 = .ok (.istore 5, 2) := by decide +kernel
theorem dX10_rows__139 : decode cX10_rows_ 139 = .ok (.iinc 9 1, 3) := by decide +kernel
theorem dX10_rows__142 : decode cX10_rows_ 142 = .ok (.goto (-97), 3) := by decide +kernel
theorem dX10_rows__145 : decode cX10_rows_ 145 = .ok (.iload 4, 2) := by decide +kernel
theorem dX10_rows__147 : decode cX10_rows_ 147 = .ok (.ifCond .ne 8, 3) := by decide +kernel
theorem dX10_rows__150 : decode cX10_rows_ 150 = .ok (.iload 5, 2) := by decide +kernel
theorem dX10_rows__152 : decode cX10_rows_ 152 = .ok (.goto 27, 3) := by decide +kernel
theorem dX10_rows__155 : decode cX10_rows_ 155 = .ok (.iload 4, 2) := by decide +kernel
theorem dX10_rows__157 : decode cX10_rows_ 157 = .ok (.iconst 1, 1) := by decide +kernel
theorem dX10_rows__158 : decode cX10_rows_ 158 = .ok (.if_icmp .ne 8, 3) := by decide +kernel
theorem dX10_rows__161 : decode cX10_rows_ 161 = .ok (.iload 6, 2) := by decide +kernel
theorem dX10_rows__163 : decode cX10_rows_ 163 = .ok (.goto 16, 3) := by decide +kernel
theorem dX10_rows__166 : decode cX10_rows_ 166 = .ok (.iload 4, 2) := by decide +kernel
theorem dX10_rows__168 : decode cX10_rows_ 168 = .ok (.iconst 2, 1) := by decide +kernel
theorem dX10_rows__169 : decode cX10_rows_ 169 = .ok (.if_icmp .ne 8, 3) := by decide +kernel
theorem dX10_rows__172 : decode cX10_rows_ 172 = .ok (.iload 7, 2) := by decide +kernel
theorem dX10_rows__174 : decode cX10_rows_ 174 = .ok (.goto 5, 3) := by decide +kernel
theorem dX10_rows__177 : decode cX10_rows_ 177 = .ok (.iload 8, 2) := by decide +kernel
theorem dX10_rows__179 : decode cX10_rows_ 179 = .ok (.ireturn, 1) := by decide +kernel
def zX10_rows_ (Qr : Option PV → Mem → Prop) : XZ := (RX10, 5, 118, 12, some FieldType.int, Qr)
noncomputable def fX10_rows__b96 (k45 : Nat → Int → Int → Int → Int → Int → Int → Int → Mem → Option (Int × Mem)) (o : Nat) (x3 : Int) (x4 : Int) (x5 : Int) (x6 : Int) (x7 : Int) (x8 : Int) (x9 : Int) (x10 : Int) (s0 : Int) (F : Mem) : Option (Int × Mem) :=
  if s0 = 0 then
    k45 o x3 x4 (xw (x5 + x10)) x6 x7 x8 (xw (x9 + 1)) F
  else
    if x10 ≤ 0 then
      k45 o x3 x4 (xw (x5 + x10)) x6 x7 x8 (xw (x9 + 1)) F
    else
      if 0 ≤ x7 then
        k45 o x3 x4 (xw (x5 + x10)) (xw (x6 + x10)) x7 (xw (x8 + 1)) (xw (x9 + 1)) F
      else
        k45 o x3 x4 (xw (x5 + x10)) (xw (x6 + x10)) x5 (xw (x8 + 1)) (xw (x9 + 1)) F
noncomputable def fX10_rows__b83 (k45 : Nat → Int → Int → Int → Int → Int → Int → Int → Mem → Option (Int × Mem)) (o : Nat) (x3 : Int) (x4 : Int) (x5 : Int) (x6 : Int) (x7 : Int) (x8 : Int) (x9 : Int) (x10 : Int) (s0 : Nat) (s1 : Int) (s2 : Int) (F : Mem) : Option (Int × Mem) :=
  (fX10_sees s0 s1 s2 x9 F).bind fun r1 =>
  if r1 ≠ 0 then
    fX10_rows__b96 k45 o x3 x4 x5 x6 x7 x8 x9 x10 0 F
  else
    fX10_rows__b96 k45 o x3 x4 x5 x6 x7 x8 x9 x10 1 F
noncomputable def fX10_rows__b45 : Nat → Nat → Int → Int → Int → Int → Int → Int → Int → Mem → Option (Int × Mem)
  | 0, _, _, _, _, _, _, _, _, _ => none
  | n + 1, o, x3, x4, x5, x6, x7, x8, x9, F =>
    (fX10_of o 0 F).bind fun r1 =>
    if r1 ≤ x9 then
      if x4 ≠ 0 then
        if x4 ≠ 1 then
          if x4 ≠ 2 then
            some (x8, F)
          else
            some (x7, F)
        else
          some (x6, F)
      else
        some (x5, F)
    else
      (fX10_rowsIn o x3 x9 0 F).bind fun r7 =>
      if (0 : Int) ≤ x9 ∧ x9 < (alen (o + 4) : Int) then
        if (F (o + 4) x9.toNat) ≠ x3 then
          fX10_rows__b83 (fX10_rows__b45 n) o x3 x4 x5 x6 x7 x8 x9 r7 o x3 0 F
        else
          fX10_rows__b83 (fX10_rows__b45 n) o x3 x4 x5 x6 x7 x8 x9 r7 o x3 1 F
      else none
noncomputable def fX10_rows_ (o : Nat) (x1 : Int) (x2 : Int) (x3 : Int) (x4 : Int) (F : Mem) : Option (Int × Mem) :=
  (fX10_isRound o x1 x2 F).bind fun q1 =>
  if q1.1 = 0 then
    some ((-2), q1.2)
  else
    (fX10_isHouse o x3 q1.2).bind fun r4 =>
    if r4 = 0 then
      some ((-2), q1.2)
    else
      if (fX10_isIn x4 0 3) ≠ 0 then
        fX10_rows__b45 FU o x3 x4 0 0 (-1) 0 0 q1.2
      else
        some ((-2), q1.2)
theorem fX10_rows__b96_ok {Qr : Option PV → Mem → Prop}  (k45 : Nat → Int → Int → Int → Int → Int → Int → Int → Mem → Option (Int × Mem)) (hk45 : ∀ (o : Nat) (x3 : Int) (x4 : Int) (x5 : Int) (x6 : Int) (x7 : Int) (x8 : Int) (x9 : Int) (F : Mem) (res : (Int × Mem)) (ho : isK o 10), k45 o x3 x4 x5 x6 x7 x8 x9 F = some res → Qr (some (vI res.1)) res.2 → PR cX10_rows_ (zX10_rows_ Qr) 45 [(0, vR o), (3, vI x3), (4, vI x4), (5, vI x5), (6, vI x6), (7, vI x7), (8, vI x8), (9, vI x9)] [] F) : ∀ (o : Nat) (x3 : Int) (x4 : Int) (x5 : Int) (x6 : Int) (x7 : Int) (x8 : Int) (x9 : Int) (x10 : Int) (s0 : Int) (F : Mem) (res : (Int × Mem)) (ho : isK o 10), fX10_rows__b96 k45 o x3 x4 x5 x6 x7 x8 x9 x10 s0 F = some res → Qr (some (vI res.1)) res.2 → PR cX10_rows_ (zX10_rows_ Qr) 96 [(0, vR o), (3, vI x3), (4, vI x4), (5, vI x5), (6, vI x6), (7, vI x7), (8, vI x8), (9, vI x9), (10, vI x10)] [vI s0] F := by
  intro o x3 x4 x5 x6 x7 x8 x9 x10 s0 F res ho h hq
  refine s_istore (ls' := [(11, vI s0), (0, vR o), (3, vI x3), (4, vI x4), (5, vI x5), (6, vI x6), (7, vI x7), (8, vI x8), (9, vI x9), (10, vI x10)]) dX10_rows__96 (Nat.le_of_ble_eq_true rfl) rfl ?_
  refine s_iload (j := 0) dX10_rows__98 rfl ?_
  refine s_if_eq (tgt := 132) dX10_rows__100 rfl (fun hc1 => ?_) (fun hc1 => ?_)
  · have h := ifp hc1 h
    refine s_iload (j := 4) dX10_rows__132 rfl ?_
    refine s_iload (j := 9) dX10_rows__134 rfl ?_
    refine s_iadd dX10_rows__136 ?_
    refine s_istore (ls' := [(5, vI (xw (x5 + x10))), (11, vI s0), (0, vR o), (3, vI x3), (4, vI x4), (6, vI x6), (7, vI x7), (8, vI x8), (9, vI x9), (10, vI x10)]) dX10_rows__137 (Nat.le_of_ble_eq_true rfl) rfl ?_
    refine s_iinc (j := 8) dX10_rows__139 rfl (Nat.le_of_ble_eq_true rfl) rfl ?_
    refine s_goto (tgt := 45) dX10_rows__142 rfl ?_
    exact s_sub (ks := [3, 4, 5, 1, 6, 7, 8, 0]) rfl (hk45 o x3 x4 (xw (x5 + x10)) x6 x7 x8 (xw (x9 + 1)) F _ ho h hq)
  · have h := ifn hc1 h
    refine s_iload (j := 9) dX10_rows__103 rfl ?_
    refine s_if_le (tgt := 132) dX10_rows__105 rfl (fun hc2 => ?_) (fun hc2 => ?_)
    · have h := ifp hc2 h
      refine s_iload (j := 4) dX10_rows__132 rfl ?_
      refine s_iload (j := 9) dX10_rows__134 rfl ?_
      refine s_iadd dX10_rows__136 ?_
      refine s_istore (ls' := [(5, vI (xw (x5 + x10))), (11, vI s0), (0, vR o), (3, vI x3), (4, vI x4), (6, vI x6), (7, vI x7), (8, vI x8), (9, vI x9), (10, vI x10)]) dX10_rows__137 (Nat.le_of_ble_eq_true rfl) rfl ?_
      refine s_iinc (j := 8) dX10_rows__139 rfl (Nat.le_of_ble_eq_true rfl) rfl ?_
      refine s_goto (tgt := 45) dX10_rows__142 rfl ?_
      exact s_sub (ks := [3, 4, 5, 1, 6, 7, 8, 0]) rfl (hk45 o x3 x4 (xw (x5 + x10)) x6 x7 x8 (xw (x9 + 1)) F _ ho h hq)
    · have h := ifn hc2 h
      refine s_iload (j := 6) dX10_rows__108 rfl ?_
      refine s_if_ge (tgt := 118) dX10_rows__110 rfl (fun hc3 => ?_) (fun hc3 => ?_)
      · have h := ifp hc3 h
        refine s_iload (j := 6) dX10_rows__118 rfl ?_
        refine s_istore (ls' := [(7, vI x7), (11, vI s0), (0, vR o), (3, vI x3), (4, vI x4), (5, vI x5), (6, vI x6), (8, vI x8), (9, vI x9), (10, vI x10)]) dX10_rows__120 (Nat.le_of_ble_eq_true rfl) rfl ?_
        refine s_iload (j := 6) dX10_rows__122 rfl ?_
        refine s_iload (j := 9) dX10_rows__124 rfl ?_
        refine s_iadd dX10_rows__126 ?_
        refine s_istore dX10_rows__127 (Nat.le_of_ble_eq_true rfl) rfl ?_
        refine s_iinc (ls' := [(8, vI (xw (x8 + 1))), (6, vI (xw (x6 + x10))), (7, vI x7), (11, vI s0), (0, vR o), (3, vI x3), (4, vI x4), (5, vI x5), (9, vI x9), (10, vI x10)]) (j := 7) dX10_rows__129 rfl (Nat.le_of_ble_eq_true rfl) rfl ?_
        refine s_iload (j := 7) dX10_rows__132 rfl ?_
        refine s_iload (j := 9) dX10_rows__134 rfl ?_
        refine s_iadd dX10_rows__136 ?_
        refine s_istore dX10_rows__137 (Nat.le_of_ble_eq_true rfl) rfl ?_
        refine s_iinc (ls' := [(9, vI (xw (x9 + 1))), (5, vI (xw (x5 + x10))), (8, vI (xw (x8 + 1))), (6, vI (xw (x6 + x10))), (7, vI x7), (11, vI s0), (0, vR o), (3, vI x3), (4, vI x4), (10, vI x10)]) (j := 8) dX10_rows__139 rfl (Nat.le_of_ble_eq_true rfl) rfl ?_
        refine s_goto (tgt := 45) dX10_rows__142 rfl ?_
        exact s_sub (ks := [6, 7, 8, 1, 3, 4, 2, 0]) rfl (hk45 o x3 x4 (xw (x5 + x10)) (xw (x6 + x10)) x7 (xw (x8 + 1)) (xw (x9 + 1)) F _ ho h hq)
      · have h := ifn hc3 h
        refine s_iload (j := 4) dX10_rows__113 rfl ?_
        refine s_goto (tgt := 120) dX10_rows__115 rfl ?_
        refine s_istore (ls' := [(7, vI x5), (11, vI s0), (0, vR o), (3, vI x3), (4, vI x4), (5, vI x5), (6, vI x6), (8, vI x8), (9, vI x9), (10, vI x10)]) dX10_rows__120 (Nat.le_of_ble_eq_true rfl) rfl ?_
        refine s_iload (j := 6) dX10_rows__122 rfl ?_
        refine s_iload (j := 9) dX10_rows__124 rfl ?_
        refine s_iadd dX10_rows__126 ?_
        refine s_istore dX10_rows__127 (Nat.le_of_ble_eq_true rfl) rfl ?_
        refine s_iinc (ls' := [(8, vI (xw (x8 + 1))), (6, vI (xw (x6 + x10))), (7, vI x5), (11, vI s0), (0, vR o), (3, vI x3), (4, vI x4), (5, vI x5), (9, vI x9), (10, vI x10)]) (j := 7) dX10_rows__129 rfl (Nat.le_of_ble_eq_true rfl) rfl ?_
        refine s_iload (j := 7) dX10_rows__132 rfl ?_
        refine s_iload (j := 9) dX10_rows__134 rfl ?_
        refine s_iadd dX10_rows__136 ?_
        refine s_istore dX10_rows__137 (Nat.le_of_ble_eq_true rfl) rfl ?_
        refine s_iinc (ls' := [(9, vI (xw (x9 + 1))), (5, vI (xw (x5 + x10))), (8, vI (xw (x8 + 1))), (6, vI (xw (x6 + x10))), (7, vI x5), (11, vI s0), (0, vR o), (3, vI x3), (4, vI x4), (10, vI x10)]) (j := 8) dX10_rows__139 rfl (Nat.le_of_ble_eq_true rfl) rfl ?_
        refine s_goto (tgt := 45) dX10_rows__142 rfl ?_
        exact s_sub (ks := [6, 7, 8, 1, 3, 4, 2, 0]) rfl (hk45 o x3 x4 (xw (x5 + x10)) (xw (x6 + x10)) x5 (xw (x8 + 1)) (xw (x9 + 1)) F _ ho h hq)
theorem fX10_rows__b83_ok {Qr : Option PV → Mem → Prop}  (k45 : Nat → Int → Int → Int → Int → Int → Int → Int → Mem → Option (Int × Mem)) (hk45 : ∀ (o : Nat) (x3 : Int) (x4 : Int) (x5 : Int) (x6 : Int) (x7 : Int) (x8 : Int) (x9 : Int) (F : Mem) (res : (Int × Mem)) (ho : isK o 10), k45 o x3 x4 x5 x6 x7 x8 x9 F = some res → Qr (some (vI res.1)) res.2 → PR cX10_rows_ (zX10_rows_ Qr) 45 [(0, vR o), (3, vI x3), (4, vI x4), (5, vI x5), (6, vI x6), (7, vI x7), (8, vI x8), (9, vI x9)] [] F) : ∀ (o : Nat) (x3 : Int) (x4 : Int) (x5 : Int) (x6 : Int) (x7 : Int) (x8 : Int) (x9 : Int) (x10 : Int) (s0 : Nat) (s1 : Int) (s2 : Int) (F : Mem) (res : (Int × Mem)) (ho : isK o 10) (hs0 : isK s0 10), fX10_rows__b83 k45 o x3 x4 x5 x6 x7 x8 x9 x10 s0 s1 s2 F = some res → Qr (some (vI res.1)) res.2 → PR cX10_rows_ (zX10_rows_ Qr) 83 [(0, vR o), (3, vI x3), (4, vI x4), (5, vI x5), (6, vI x6), (7, vI x7), (8, vI x8), (9, vI x9), (10, vI x10)] [vI s2, vI s1, vR s0] F := by
  intro o x3 x4 x5 x6 x7 x8 x9 x10 s0 s1 s2 F res ho hs0 h hq
  refine s_iload (j := 7) dX10_rows__83 rfl ?_
  obtain ⟨r1, hv2, h⟩ := bnd h
  refine s_callV (As := [vI s1, vI s2, vI x9]) (rest := []) (r := (some (vI r1))) (F' := F) dX10_rows__85 (clX10_215 (Nat.le_of_ble_eq_true rfl) (Nat.le_of_ble_eq_true rfl)) hs0 rfl ⟨_, _, _, _, _, rfl, hs0, hv2, rfl, rfl⟩ rfl (Nat.le_of_ble_eq_true rfl) ?_
  refine s_if_ne (tgt := 95) dX10_rows__88 rfl (fun hc3 => ?_) (fun hc3 => ?_)
  · have h := ifp hc3 h
    refine s_iconst dX10_rows__95 (cin rfl) ?_
    exact s_sub (ks := [0, 1, 2, 3, 4, 5, 6, 7, 8]) rfl (fX10_rows__b96_ok k45 hk45 o x3 x4 x5 x6 x7 x8 x9 x10 0 F _ ho h hq)
  · have h := ifn hc3 h
    refine s_iconst dX10_rows__91 (cin rfl) ?_
    refine s_goto (tgt := 96) dX10_rows__92 rfl ?_
    exact s_sub (ks := [0, 1, 2, 3, 4, 5, 6, 7, 8]) rfl (fX10_rows__b96_ok k45 hk45 o x3 x4 x5 x6 x7 x8 x9 x10 1 F _ ho h hq)
theorem fX10_rows__b45_ok {Qr : Option PV → Mem → Prop}  : ∀ (n : Nat) (o : Nat) (x3 : Int) (x4 : Int) (x5 : Int) (x6 : Int) (x7 : Int) (x8 : Int) (x9 : Int) (F : Mem) (res : (Int × Mem)) (ho : isK o 10), fX10_rows__b45 n o x3 x4 x5 x6 x7 x8 x9 F = some res → Qr (some (vI res.1)) res.2 → PR cX10_rows_ (zX10_rows_ Qr) 45 [(0, vR o), (3, vI x3), (4, vI x4), (5, vI x5), (6, vI x6), (7, vI x7), (8, vI x8), (9, vI x9)] [] F := by
  intro n
  induction n with
  | zero => intro o x3 x4 x5 x6 x7 x8 x9 F res ho h hq; exact nomatch (show (none : Option _) = some _ from h)
  | succ n ih =>
    intro o x3 x4 x5 x6 x7 x8 x9 F res ho h hq
    refine s_iload (j := 7) dX10_rows__45 rfl ?_
    refine s_aload_n (j := 0) dX10_rows__47 rfl rfl ?_
    refine s_iconst dX10_rows__48 (cin rfl) ?_
    obtain ⟨r1, hv2, h⟩ := bnd h
    refine s_callV (As := [vI 0]) (rest := [vI x9]) (r := (some (vI r1))) (F' := F) dX10_rows__49 (clX10_181 (Nat.le_of_ble_eq_true rfl) (Nat.le_of_ble_eq_true rfl)) ho rfl ⟨_, _, _, rfl, ho, hv2, rfl, rfl⟩ rfl (Nat.le_of_ble_eq_true rfl) ?_
    refine s_icmp_ge (tgt := 145) dX10_rows__52 rfl (fun hc3 => ?_) (fun hc3 => ?_)
    · have h := ifp hc3 h
      refine s_iload (j := 2) dX10_rows__145 rfl ?_
      refine s_if_ne (tgt := 155) dX10_rows__147 rfl (fun hc4 => ?_) (fun hc4 => ?_)
      · have h := ifp hc4 h
        refine s_iload (j := 2) dX10_rows__155 rfl ?_
        refine s_iconst dX10_rows__157 (cin rfl) ?_
        refine s_icmp_ne (tgt := 166) dX10_rows__158 rfl (fun hc5 => ?_) (fun hc5 => ?_)
        · have h := ifp hc5 h
          refine s_iload (j := 2) dX10_rows__166 rfl ?_
          refine s_iconst dX10_rows__168 (cin rfl) ?_
          refine s_icmp_ne (tgt := 177) dX10_rows__169 rfl (fun hc6 => ?_) (fun hc6 => ?_)
          · have h := ifp hc6 h
            refine s_iload (j := 6) dX10_rows__177 rfl ?_
            have h := Option.some.inj h
            subst h
            exact s_ireturn dX10_rows__179 rfl hq
          · have h := ifn hc6 h
            refine s_iload (j := 5) dX10_rows__172 rfl ?_
            refine s_goto (tgt := 179) dX10_rows__174 rfl ?_
            have h := Option.some.inj h
            subst h
            exact s_ireturn dX10_rows__179 rfl hq
        · have h := ifn hc5 h
          refine s_iload (j := 4) dX10_rows__161 rfl ?_
          refine s_goto (tgt := 179) dX10_rows__163 rfl ?_
          have h := Option.some.inj h
          subst h
          exact s_ireturn dX10_rows__179 rfl hq
      · have h := ifn hc4 h
        refine s_iload (j := 3) dX10_rows__150 rfl ?_
        refine s_goto (tgt := 179) dX10_rows__152 rfl ?_
        have h := Option.some.inj h
        subst h
        exact s_ireturn dX10_rows__179 rfl hq
    · have h := ifn hc3 h
      refine s_aload_n (j := 0) dX10_rows__55 rfl rfl ?_
      refine s_iload_n (j := 1) dX10_rows__56 rfl rfl ?_
      refine s_iload (j := 7) dX10_rows__57 rfl ?_
      refine s_iconst dX10_rows__59 (cin rfl) ?_
      obtain ⟨r7, hv8, h⟩ := bnd h
      refine s_callV (As := [vI x3, vI x9, vI 0]) (rest := []) (r := (some (vI r7))) (F' := F) dX10_rows__60 (clX10_223 (Nat.le_of_ble_eq_true rfl) (Nat.le_of_ble_eq_true rfl)) ho rfl ⟨_, _, _, _, _, rfl, ho, hv8, rfl, rfl⟩ rfl (Nat.le_of_ble_eq_true rfl) ?_
      refine s_istore (ls' := [(10, vI r7), (0, vR o), (3, vI x3), (4, vI x4), (5, vI x5), (6, vI x6), (7, vI x7), (8, vI x8), (9, vI x9)]) dX10_rows__63 (Nat.le_of_ble_eq_true rfl) rfl ?_
      refine s_aload_n (j := 1) dX10_rows__65 rfl rfl ?_
      refine s_iload_n (j := 2) dX10_rows__66 rfl rfl ?_
      refine s_aload_n (j := 1) dX10_rows__67 rfl rfl ?_
      refine s_getR dX10_rows__68 flX10_27 ho ?_
      refine s_iload (j := 8) dX10_rows__71 rfl ?_
      obtain ⟨hb9, h⟩ := gd h
      refine s_iaload dX10_rows__73 (trX10_14 ho) hb9.1 hb9.2 ?_
      refine s_iload_n (j := 2) dX10_rows__74 rfl rfl ?_
      refine s_icmp_ne (tgt := 82) dX10_rows__75 rfl (fun hc10 => ?_) (fun hc10 => ?_)
      · have h := ifp hc10 h
        refine s_iconst dX10_rows__82 (cin rfl) ?_
        exact s_sub (ks := [1, 2, 3, 4, 5, 6, 7, 8, 0]) rfl (fX10_rows__b83_ok (fX10_rows__b45 n) ih o x3 x4 x5 x6 x7 x8 x9 r7 o x3 0 F _ ho ho h hq)
      · have h := ifn hc10 h
        refine s_iconst dX10_rows__78 (cin rfl) ?_
        refine s_goto (tgt := 83) dX10_rows__79 rfl ?_
        exact s_sub (ks := [1, 2, 3, 4, 5, 6, 7, 8, 0]) rfl (fX10_rows__b83_ok (fX10_rows__b45 n) ih o x3 x4 x5 x6 x7 x8 x9 r7 o x3 1 F _ ho ho h hq)
theorem fX10_rows__ok {Qr : Option PV → Mem → Prop} : ∀ (o : Nat) (x1 : Int) (x2 : Int) (x3 : Int) (x4 : Int) (F : Mem) (res : (Int × Mem)) (ho : isK o 10), fX10_rows_ o x1 x2 x3 x4 F = some res → Qr (some (vI res.1)) res.2 → PR cX10_rows_ (zX10_rows_ Qr) 0 [(0, vR o), (1, vI x1), (2, vI x2), (3, vI x3), (4, vI x4)] [] F := by
  intro o x1 x2 x3 x4 F res ho h hq
  refine s_aload_n (j := 0) dX10_rows__0 rfl rfl ?_
  refine s_iload_n (j := 1) dX10_rows__1 rfl rfl ?_
  refine s_iload_n (j := 2) dX10_rows__2 rfl rfl ?_
  obtain ⟨q1, hv2, h⟩ := bnd h
  refine s_callV (As := [vI x1, vI x2]) (rest := []) (r := (some (vI q1.1))) (F' := q1.2) dX10_rows__3 (clX10_227 (Nat.le_of_ble_eq_true rfl) (Nat.le_of_ble_eq_true rfl)) ho rfl ⟨_, _, _, _, rfl, ho, hv2, rfl, rfl⟩ rfl (Nat.le_of_ble_eq_true rfl) ?_
  refine s_if_eq (tgt := 27) dX10_rows__6 rfl (fun hc3 => ?_) (fun hc3 => ?_)
  · have h := ifp hc3 h
    refine s_bipush dX10_rows__27 rfl (cin rfl) ?_
    have h := Option.some.inj h
    subst h
    exact s_ireturn dX10_rows__29 rfl hq
  · have h := ifn hc3 h
    refine s_aload_n (j := 0) dX10_rows__9 rfl rfl ?_
    refine s_iload_n (j := 3) dX10_rows__10 rfl rfl ?_
    obtain ⟨r4, hv5, h⟩ := bnd h
    refine s_callV (As := [vI x3]) (rest := []) (r := (some (vI r4))) (F' := q1.2) dX10_rows__11 (clX10_189 (Nat.le_of_ble_eq_true rfl) (Nat.le_of_ble_eq_true rfl)) ho rfl ⟨_, _, _, rfl, ho, hv5, rfl, rfl⟩ rfl (Nat.le_of_ble_eq_true rfl) ?_
    refine s_if_eq (tgt := 27) dX10_rows__14 rfl (fun hc6 => ?_) (fun hc6 => ?_)
    · have h := ifp hc6 h
      refine s_bipush dX10_rows__27 rfl (cin rfl) ?_
      have h := Option.some.inj h
      subst h
      exact s_ireturn dX10_rows__29 rfl hq
    · have h := ifn hc6 h
      refine s_iload (j := 4) dX10_rows__17 rfl ?_
      refine s_iconst dX10_rows__19 (cin rfl) ?_
      refine s_iconst dX10_rows__20 (cin rfl) ?_
      refine s_callS (As := [vI x4, vI 0, vI 3]) (rest := []) (r := (some (vI (fX10_isIn x4 0 3)))) (F' := q1.2) dX10_rows__21 (clX10_115 (Nat.le_of_ble_eq_true rfl) (Nat.le_of_ble_eq_true rfl)) rfl ⟨_, _, _, _, rfl, rfl, rfl, rfl⟩ rfl (Nat.le_of_ble_eq_true rfl) ?_
      refine s_if_ne (tgt := 30) dX10_rows__24 rfl (fun hc7 => ?_) (fun hc7 => ?_)
      · have h := ifp hc7 h
        refine s_iconst dX10_rows__30 (cin rfl) ?_
        refine s_istore (ls' := [(5, vI 0), (0, vR o), (1, vI x1), (2, vI x2), (3, vI x3), (4, vI x4)]) dX10_rows__31 (Nat.le_of_ble_eq_true rfl) rfl ?_
        refine s_iconst dX10_rows__33 (cin rfl) ?_
        refine s_istore dX10_rows__34 (Nat.le_of_ble_eq_true rfl) rfl ?_
        refine s_iconst dX10_rows__36 (cin rfl) ?_
        refine s_istore (ls' := [(7, vI (-1)), (6, vI 0), (5, vI 0), (0, vR o), (1, vI x1), (2, vI x2), (3, vI x3), (4, vI x4)]) dX10_rows__37 (Nat.le_of_ble_eq_true rfl) rfl ?_
        refine s_iconst dX10_rows__39 (cin rfl) ?_
        refine s_istore dX10_rows__40 (Nat.le_of_ble_eq_true rfl) rfl ?_
        refine s_iconst dX10_rows__42 (cin rfl) ?_
        refine s_istore (ls' := [(9, vI 0), (8, vI 0), (7, vI (-1)), (6, vI 0), (5, vI 0), (0, vR o), (1, vI x1), (2, vI x2), (3, vI x3), (4, vI x4)]) dX10_rows__43 (Nat.le_of_ble_eq_true rfl) rfl ?_
        exact s_sub (ks := [5, 8, 9, 4, 3, 2, 1, 0]) rfl (fX10_rows__b45_ok FU o x3 x4 0 0 (-1) 0 0 q1.2 _ ho h hq)
      · have h := ifn hc7 h
        refine s_bipush dX10_rows__27 rfl (cin rfl) ?_
        have h := Option.some.inj h
        subst h
        exact s_ireturn dX10_rows__29 rfl hq
def gX10_rows_ : XG := fun As F r F' => ∃ o : Nat, ∃ x1 : Int, ∃ x2 : Int, ∃ x3 : Int, ∃ x4 : Int, ∃ res : (Int × Mem), As = [vR o, vI x1, vI x2, vI x3, vI x4] ∧ isK o 10 ∧ fX10_rows_ o x1 x2 x3 x4 F = some res ∧ r = some (vI res.1) ∧ F' = res.2
theorem ctX10_rows_ : xCT yX10_rows_ cX10_rows_ 12 (some FieldType.int) 5 118 gX10_rows_ := xmet (by decide +kernel) (fun As F r F' hg => by obtain ⟨o, x1, x2, x3, x4, res, rfl, ho, h, rfl, rfl⟩ := hg; exact Nat.le_of_ble_eq_true rfl) (fun As F r F' hg => by obtain ⟨o, x1, x2, x3, x4, res, rfl, ho, h, rfl, rfl⟩ := hg; exact fX10_rows__ok o x1 x2 x3 x4 _ _ ho h ⟨rfl, rfl⟩)
theorem mcX10_rows_ : Cond.code yX10_rows_ cX10_rows_ 12 (some FieldType.int) ∈ xw_T ∧ Cond.initialized yX10_rows_.cls ∈ xw_T ∧ Cond.instanceMethod yX10_rows_ ∈ xw_T ∧ Cond.selects yX10_rows_.cls yX10_rows_ yX10_rows_ ∈ xw_T := ⟨(xinT 1672 (by decide +kernel) (by decide +kernel)), (xinT 127 (by decide +kernel) (by decide +kernel)), (xinT 1670 (by decide +kernel) (by decide +kernel)), (xinT 1671 (by decide +kernel) (by decide +kernel))⟩
theorem dX10_deed_0 : decode cX10_deed 0 = .ok (.aload_n 0, 1) := by decide +kernel
theorem dX10_deed_1 : decode cX10_deed 1 = .ok (.iconst 2, 1) := by decide +kernel
theorem dX10_deed_2 : decode cX10_deed 2 = .ok (.iload_n 1, 1) := by decide +kernel
theorem dX10_deed_3 : decode cX10_deed 3 = .ok (.invokevirtual 146, 3) := by decide +kernel
theorem dX10_deed_6 : decode cX10_deed 6 = .ok (.ifCond .ne 6, 3) := by decide +kernel
theorem dX10_deed_9 : decode cX10_deed 9 = .ok (.bipush (-2), 2) := by decide +kernel
theorem dX10_deed_11 : decode cX10_deed 11 = .ok (.ireturn, 1) := by decide +kernel
theorem dX10_deed_12 : decode cX10_deed 12 = .ok (.iconst 2, 1) := by decide +kernel
theorem dX10_deed_13 : decode cX10_deed 13 = .ok (.iload_n 1, 1) := by decide +kernel
theorem dX10_deed_14 : decode cX10_deed 14 = .ok (.invokestatic 169, 3) := by decide +kernel
theorem dX10_deed_17 : decode cX10_deed 17 = .ok (.istore 4, 2) := by decide +kernel
theorem dX10_deed_19 : decode cX10_deed 19 = .ok (.iload_n 2, 1) := by decide +kernel
theorem dX10_deed_20 : decode cX10_deed 20 = .ok (.iconst (-1), 1) := by decide +kernel
theorem dX10_deed_21 : decode cX10_deed 21 = .ok (.if_icmp .ne 20, 3) := by decide +kernel
theorem dX10_deed_24 : decode cX10_deed 24 = .ok (.iload_n 3, 1) := by decide +kernel
theorem dX10_deed_25 : decode cX10_deed 25 = .ok (.ifCond .ne 13, 3) := by decide +kernel
theorem dX10_deed_28 : decode cX10_deed 28 = .ok (.aload_n 0, 1) := by decide +kernel
theorem dX10_deed_29 : decode cX10_deed 29 = .ok (.getfield 7, 3) := by decide +kernel
theorem dX10_deed_32 : decode cX10_deed 32 = .ok (.iload 4, 2) := by decide +kernel
theorem dX10_deed_34 : decode cX10_deed 34 = .ok (.iaload, 1) := by decide +kernel
theorem dX10_deed_35 : decode cX10_deed 35 = .ok (.goto 5, 3) := by decide +kernel
theorem dX10_deed_38 : decode cX10_deed 38 = .ok (.bipush (-2), 2) := by decide +kernel
theorem dX10_deed_40 : decode cX10_deed 40 = .ok (.ireturn, 1) := by decide +kernel
theorem dX10_deed_41 : decode cX10_deed 41 = .ok (.iload_n 2, 1) := by decide +kernel
theorem dX10_deed_42 : decode cX10_deed 42 = .ok (.iconst 0, 1) := by decide +kernel
theorem dX10_deed_43 : decode cX10_deed 43 = .ok (.aload_n 0, 1) := by decide +kernel
theorem dX10_deed_44 : decode cX10_deed 44 = .ok (.getfield 7, 3) := by decide +kernel
theorem dX10_deed_47 : decode cX10_deed 47 = .ok (.iload 4, 2) := by decide +kernel
theorem dX10_deed_49 : decode cX10_deed 49 = .ok (.iaload, 1) := by decide +kernel
theorem dX10_deed_50 : decode cX10_deed 50 = .ok (.iconst 1, 1) := by decide +kernel
theorem dX10_deed_51 : decode cX10_deed 51 = .ok (.isub, 1) := by decide +kernel
theorem dX10_deed_52 : decode cX10_deed 52 = .ok (.invokestatic 115, 3) := by decide +kernel
theorem dX10_deed_55 : decode cX10_deed 55 = .ok (.ifCond .eq 31, 3) := by decide +kernel
theorem dX10_deed_58 : decode cX10_deed 58 = .ok (.iload_n 3, 1) := by decide +kernel
theorem dX10_deed_59 : decode cX10_deed 59 = .ok (.iconst 0, 1) := by decide +kernel
theorem dX10_deed_60 : decode cX10_deed 60 = .ok (.iconst 5, 1) := by decide +kernel
theorem dX10_deed_61 : decode cX10_deed 61 = .ok (.invokestatic 115, 3) := by decide +kernel
theorem dX10_deed_64 : decode cX10_deed 64 = .ok (.ifCond .eq 22, 3) := by decide +kernel
theorem dX10_deed_67 : decode cX10_deed 67 = .ok (.aload_n 0, 1) := by decide +kernel
theorem dX10_deed_68 : decode cX10_deed 68 = .ok (.getfield 7, 3) := by decide +kernel
theorem dX10_deed_71 : decode cX10_deed 71 = .ok (.iload 4, 2) := by decide +kernel
theorem dX10_deed_73 : decode cX10_deed 73 = .ok (.iconst 1, 1) := by decide +kernel
theorem dX10_deed_74 : decode cX10_deed 74 = .ok (.iadd, 1) := by decide +kernel
theorem dX10_deed_75 : decode cX10_deed 75 = .ok (.bipush 6, 2) := by decide +kernel
theorem dX10_deed_77 : decode cX10_deed 77 = .ok (.iload_n 2, 1) := by decide +kernel
theorem dX10_deed_78 : decode cX10_deed 78 = .ok (.imul, 1) := by decide +kernel
theorem dX10_deed_79 : decode cX10_deed 79 = .ok (.iadd, 1) := by decide +kernel
theorem dX10_deed_80 : decode cX10_deed 80 = .ok (.iload_n 3, 1) := by decide +kernel
theorem dX10_deed_81 : decode cX10_deed 81 = .ok (.iadd, 1) := by decide +kernel
theorem dX10_deed_82 : decode cX10_deed 82 = .ok (.iaload, 1) := by decide +kernel
theorem dX10_deed_83 : decode cX10_deed 83 = .ok (.goto 5, 3) := by decide +kernel
theorem dX10_deed_86 : decode cX10_deed 86 = .ok (.bipush (-2), 2) := by decide +kernel
theorem dX10_deed_88 : decode cX10_deed 88 = .ok (.ireturn, 1) := by decide +kernel
def zX10_deed (Qr : Option PV → Mem → Prop) : XZ := (RX10, 2, 44, 5, some FieldType.int, Qr)
noncomputable def fX10_deed (o : Nat) (x1 : Int) (x2 : Int) (x3 : Int) (F : Mem) : Option Int :=
  (fX10_isOf o 2 x1 F).bind fun r1 =>
  if r1 ≠ 0 then
    if x2 ≠ (-1) then
      if (0 : Int) ≤ (fX10_placeOf 2 x1) ∧ (fX10_placeOf 2 x1) < (alen (o + 1) : Int) then
        if (fX10_isIn x2 0 (xw ((F (o + 1) (fX10_placeOf 2 x1).toNat) - 1))) = 0 then
          some (-2)
        else
          if (fX10_isIn x3 0 5) = 0 then
            some (-2)
          else
            if (0 : Int) ≤ (xw ((xw ((xw ((fX10_placeOf 2 x1) + 1)) + (xw (6 * x2)))) + x3)) ∧ (xw ((xw ((xw ((fX10_placeOf 2 x1) + 1)) + (xw (6 * x2)))) + x3)) < (alen (o + 1) : Int) then
              some (F (o + 1) (xw ((xw ((xw ((fX10_placeOf 2 x1) + 1)) + (xw (6 * x2)))) + x3)).toNat)
            else none
      else none
    else
      if x3 ≠ 0 then
        some (-2)
      else
        if (0 : Int) ≤ (fX10_placeOf 2 x1) ∧ (fX10_placeOf 2 x1) < (alen (o + 1) : Int) then
          some (F (o + 1) (fX10_placeOf 2 x1).toNat)
        else none
  else
    some (-2)
theorem fX10_deed_ok {Qr : Option PV → Mem → Prop} : ∀ (o : Nat) (x1 : Int) (x2 : Int) (x3 : Int) (F : Mem) (res : Int) (ho : isK o 10), fX10_deed o x1 x2 x3 F = some res → Qr (some (vI res)) F → PR cX10_deed (zX10_deed Qr) 0 [(0, vR o), (1, vI x1), (2, vI x2), (3, vI x3)] [] F := by
  intro o x1 x2 x3 F res ho h hq
  refine s_aload_n (j := 0) dX10_deed_0 rfl rfl ?_
  refine s_iconst dX10_deed_1 (cin rfl) ?_
  refine s_iload_n (j := 1) dX10_deed_2 rfl rfl ?_
  obtain ⟨r1, hv2, h⟩ := bnd h
  refine s_callV (As := [vI 2, vI x1]) (rest := []) (r := (some (vI r1))) (F' := F) dX10_deed_3 (clX10_146 (Nat.le_of_ble_eq_true rfl) (Nat.le_of_ble_eq_true rfl)) ho rfl ⟨_, _, _, _, rfl, ho, hv2, rfl, rfl⟩ rfl (Nat.le_of_ble_eq_true rfl) ?_
  refine s_if_ne (tgt := 12) dX10_deed_6 rfl (fun hc3 => ?_) (fun hc3 => ?_)
  · have h := ifp hc3 h
    refine s_iconst dX10_deed_12 (cin rfl) ?_
    refine s_iload_n (j := 1) dX10_deed_13 rfl rfl ?_
    refine s_callS (As := [vI 2, vI x1]) (rest := []) (r := (some (vI (fX10_placeOf 2 x1)))) (F' := F) dX10_deed_14 (clX10_169 (Nat.le_of_ble_eq_true rfl) (Nat.le_of_ble_eq_true rfl)) rfl ⟨_, _, _, rfl, rfl, rfl, rfl⟩ rfl (Nat.le_of_ble_eq_true rfl) ?_
    refine s_istore (ls' := [(4, vI (fX10_placeOf 2 x1)), (0, vR o), (1, vI x1), (2, vI x2), (3, vI x3)]) dX10_deed_17 (Nat.le_of_ble_eq_true rfl) rfl ?_
    refine s_iload_n (j := 3) dX10_deed_19 rfl rfl ?_
    refine s_iconst dX10_deed_20 (cin rfl) ?_
    refine s_icmp_ne (tgt := 41) dX10_deed_21 rfl (fun hc4 => ?_) (fun hc4 => ?_)
    · have h := ifp hc4 h
      refine s_iload_n (j := 3) dX10_deed_41 rfl rfl ?_
      refine s_iconst dX10_deed_42 (cin rfl) ?_
      refine s_aload_n (j := 1) dX10_deed_43 rfl rfl ?_
      refine s_getR dX10_deed_44 flX10_7 ho ?_
      refine s_iload (j := 0) dX10_deed_47 rfl ?_
      obtain ⟨hb5, h⟩ := gd h
      refine s_iaload dX10_deed_49 (trX10_0 ho) hb5.1 hb5.2 ?_
      refine s_iconst dX10_deed_50 (cin rfl) ?_
      refine s_isub dX10_deed_51 ?_
      refine s_callS (As := [vI x2, vI 0, vI (xw ((F (o + 1) (fX10_placeOf 2 x1).toNat) - 1))]) (rest := []) (r := (some (vI (fX10_isIn x2 0 (xw ((F (o + 1) (fX10_placeOf 2 x1).toNat) - 1)))))) (F' := F) dX10_deed_52 (clX10_115 (Nat.le_of_ble_eq_true rfl) (Nat.le_of_ble_eq_true rfl)) rfl ⟨_, _, _, _, rfl, rfl, rfl, rfl⟩ rfl (Nat.le_of_ble_eq_true rfl) ?_
      refine s_if_eq (tgt := 86) dX10_deed_55 rfl (fun hc6 => ?_) (fun hc6 => ?_)
      · have h := ifp hc6 h
        refine s_bipush dX10_deed_86 rfl (cin rfl) ?_
        have h := Option.some.inj h
        subst h
        exact s_ireturn dX10_deed_88 rfl hq
      · have h := ifn hc6 h
        refine s_iload_n (j := 4) dX10_deed_58 rfl rfl ?_
        refine s_iconst dX10_deed_59 (cin rfl) ?_
        refine s_iconst dX10_deed_60 (cin rfl) ?_
        refine s_callS (As := [vI x3, vI 0, vI 5]) (rest := []) (r := (some (vI (fX10_isIn x3 0 5)))) (F' := F) dX10_deed_61 (clX10_115 (Nat.le_of_ble_eq_true rfl) (Nat.le_of_ble_eq_true rfl)) rfl ⟨_, _, _, _, rfl, rfl, rfl, rfl⟩ rfl (Nat.le_of_ble_eq_true rfl) ?_
        refine s_if_eq (tgt := 86) dX10_deed_64 rfl (fun hc7 => ?_) (fun hc7 => ?_)
        · have h := ifp hc7 h
          refine s_bipush dX10_deed_86 rfl (cin rfl) ?_
          have h := Option.some.inj h
          subst h
          exact s_ireturn dX10_deed_88 rfl hq
        · have h := ifn hc7 h
          refine s_aload_n (j := 1) dX10_deed_67 rfl rfl ?_
          refine s_getR dX10_deed_68 flX10_7 ho ?_
          refine s_iload (j := 0) dX10_deed_71 rfl ?_
          refine s_iconst dX10_deed_73 (cin rfl) ?_
          refine s_iadd dX10_deed_74 ?_
          refine s_bipush dX10_deed_75 rfl (cin rfl) ?_
          refine s_iload_n (j := 3) dX10_deed_77 rfl rfl ?_
          refine s_imul dX10_deed_78 ?_
          refine s_iadd dX10_deed_79 ?_
          refine s_iload_n (j := 4) dX10_deed_80 rfl rfl ?_
          refine s_iadd dX10_deed_81 ?_
          obtain ⟨hb8, h⟩ := gd h
          refine s_iaload dX10_deed_82 (trX10_0 ho) hb8.1 hb8.2 ?_
          refine s_goto (tgt := 88) dX10_deed_83 rfl ?_
          have h := Option.some.inj h
          subst h
          exact s_ireturn dX10_deed_88 rfl hq
    · have h := ifn hc4 h
      refine s_iload_n (j := 4) dX10_deed_24 rfl rfl ?_
      refine s_if_ne (tgt := 38) dX10_deed_25 rfl (fun hc9 => ?_) (fun hc9 => ?_)
      · have h := ifp hc9 h
        refine s_bipush dX10_deed_38 rfl (cin rfl) ?_
        have h := Option.some.inj h
        subst h
        exact s_ireturn dX10_deed_40 rfl hq
      · have h := ifn hc9 h
        refine s_aload_n (j := 1) dX10_deed_28 rfl rfl ?_
        refine s_getR dX10_deed_29 flX10_7 ho ?_
        refine s_iload (j := 0) dX10_deed_32 rfl ?_
        obtain ⟨hb10, h⟩ := gd h
        refine s_iaload dX10_deed_34 (trX10_0 ho) hb10.1 hb10.2 ?_
        refine s_goto (tgt := 40) dX10_deed_35 rfl ?_
        have h := Option.some.inj h
        subst h
        exact s_ireturn dX10_deed_40 rfl hq
  · have h := ifn hc3 h
    refine s_bipush dX10_deed_9 rfl (cin rfl) ?_
    have h := Option.some.inj h
    subst h
    exact s_ireturn dX10_deed_11 rfl hq
def gX10_deed : XG := fun As F r F' => ∃ o : Nat, ∃ x1 : Int, ∃ x2 : Int, ∃ x3 : Int, ∃ res : Int, As = [vR o, vI x1, vI x2, vI x3] ∧ isK o 10 ∧ fX10_deed o x1 x2 x3 F = some res ∧ r = some (vI res) ∧ F' = F
theorem ctX10_deed : xCT yX10_deed cX10_deed 5 (some FieldType.int) 2 44 gX10_deed := xmet (by decide +kernel) (fun As F r F' hg => by obtain ⟨o, x1, x2, x3, res, rfl, ho, h, rfl, rfl⟩ := hg; exact Nat.le_of_ble_eq_true rfl) (fun As F r F' hg => by obtain ⟨o, x1, x2, x3, res, rfl, ho, h, rfl, rfl⟩ := hg; exact fX10_deed_ok o x1 x2 x3 _ _ ho h ⟨rfl, rfl⟩)
theorem mcX10_deed : Cond.code yX10_deed cX10_deed 5 (some FieldType.int) ∈ xw_T ∧ Cond.initialized yX10_deed.cls ∈ xw_T ∧ Cond.instanceMethod yX10_deed ∈ xw_T ∧ Cond.selects yX10_deed.cls yX10_deed yX10_deed ∈ xw_T := ⟨(xinT 1676 (by decide +kernel) (by decide +kernel)), (xinT 127 (by decide +kernel) (by decide +kernel)), (xinT 1674 (by decide +kernel) (by decide +kernel)), (xinT 1675 (by decide +kernel) (by decide +kernel))⟩
theorem dX10_deedOf_0 : decode cX10_deedOf 0 = .ok (.aload_n 0, 1) := by decide +kernel
theorem dX10_deedOf_1 : decode cX10_deedOf 1 = .ok (.getfield 7, 3) := by decide +kernel
theorem dX10_deedOf_4 : decode cX10_deedOf 4 = .ok (.aload_n 0, 1) := by decide +kernel
theorem dX10_deedOf_5 : decode cX10_deedOf 5 = .ok (.getfield 237, 3) := by decide +kernel
theorem dX10_deedOf_8 : decode cX10_deedOf 8 = .ok (.iconst 1, 1) := by decide +kernel
theorem dX10_deedOf_9 : decode cX10_deedOf 9 = .ok (.iadd, 1) := by decide +kernel
theorem dX10_deedOf_10 : decode cX10_deedOf 10 = .ok (.bipush 6, 2) := by decide +kernel
theorem dX10_deedOf_12 : decode cX10_deedOf 12 = .ok (.iload_n 1, 1) := by decide +kernel
theorem dX10_deedOf_13 : decode cX10_deedOf 13 = .ok (.imul, 1) := by decide +kernel
theorem dX10_deedOf_14 : decode cX10_deedOf 14 = .ok (.iadd, 1) := by decide +kernel
theorem dX10_deedOf_15 : decode cX10_deedOf 15 = .ok (.iload_n 2, 1) := by decide +kernel
theorem dX10_deedOf_16 : decode cX10_deedOf 16 = .ok (.iadd, 1) := by decide +kernel
theorem dX10_deedOf_17 : decode cX10_deedOf 17 = .ok (.iaload, 1) := by decide +kernel
theorem dX10_deedOf_18 : decode cX10_deedOf 18 = .ok (.ireturn, 1) := by decide +kernel
def zX10_deedOf (Qr : Option PV → Mem → Prop) : XZ := (RX10, 0, 0, 3, some FieldType.int, Qr)
noncomputable def fX10_deedOf (o : Nat) (x1 : Int) (x2 : Int) (F : Mem) : Option Int :=
  if (0 : Int) ≤ (xw ((xw ((xw ((F o 22) + 1)) + (xw (6 * x1)))) + x2)) ∧ (xw ((xw ((xw ((F o 22) + 1)) + (xw (6 * x1)))) + x2)) < (alen (o + 1) : Int) then
    some (F (o + 1) (xw ((xw ((xw ((F o 22) + 1)) + (xw (6 * x1)))) + x2)).toNat)
  else none
theorem fX10_deedOf_ok {Qr : Option PV → Mem → Prop} : ∀ (o : Nat) (x1 : Int) (x2 : Int) (F : Mem) (res : Int) (ho : isK o 10), fX10_deedOf o x1 x2 F = some res → Qr (some (vI res)) F → PR cX10_deedOf (zX10_deedOf Qr) 0 [(0, vR o), (1, vI x1), (2, vI x2)] [] F := by
  intro o x1 x2 F res ho h hq
  refine s_aload_n (j := 0) dX10_deedOf_0 rfl rfl ?_
  refine s_getR dX10_deedOf_1 flX10_7 ho ?_
  refine s_aload_n (j := 0) dX10_deedOf_4 rfl rfl ?_
  refine s_getI dX10_deedOf_5 flX10_237 ho ?_
  refine s_iconst dX10_deedOf_8 (cin rfl) ?_
  refine s_iadd dX10_deedOf_9 ?_
  refine s_bipush dX10_deedOf_10 rfl (cin rfl) ?_
  refine s_iload_n (j := 1) dX10_deedOf_12 rfl rfl ?_
  refine s_imul dX10_deedOf_13 ?_
  refine s_iadd dX10_deedOf_14 ?_
  refine s_iload_n (j := 2) dX10_deedOf_15 rfl rfl ?_
  refine s_iadd dX10_deedOf_16 ?_
  obtain ⟨hb1, h⟩ := gd h
  refine s_iaload dX10_deedOf_17 (trX10_0 ho) hb1.1 hb1.2 ?_
  have h := Option.some.inj h
  subst h
  exact s_ireturn dX10_deedOf_18 rfl hq
def gX10_deedOf : XG := fun As F r F' => ∃ o : Nat, ∃ x1 : Int, ∃ x2 : Int, ∃ res : Int, As = [vR o, vI x1, vI x2] ∧ isK o 10 ∧ fX10_deedOf o x1 x2 F = some res ∧ r = some (vI res) ∧ F' = F
theorem ctX10_deedOf : xCT yX10_deedOf cX10_deedOf 3 (some FieldType.int) 0 0 gX10_deedOf := xmet (by decide +kernel) (fun As F r F' hg => by obtain ⟨o, x1, x2, res, rfl, ho, h, rfl, rfl⟩ := hg; exact Nat.le_of_ble_eq_true rfl) (fun As F r F' hg => by obtain ⟨o, x1, x2, res, rfl, ho, h, rfl, rfl⟩ := hg; exact fX10_deedOf_ok o x1 x2 _ _ ho h ⟨rfl, rfl⟩)
theorem mcX10_deedOf : Cond.code yX10_deedOf cX10_deedOf 3 (some FieldType.int) ∈ xw_T ∧ Cond.initialized yX10_deedOf.cls ∈ xw_T ∧ Cond.instanceMethod yX10_deedOf ∈ xw_T ∧ Cond.selects yX10_deedOf.cls yX10_deedOf yX10_deedOf ∈ xw_T := ⟨(xinT 1696 (by decide +kernel) (by decide +kernel)), (xinT 127 (by decide +kernel) (by decide +kernel)), (xinT 1695 (by decide +kernel) (by decide +kernel)), (xinT 75 (by decide +kernel) (by decide +kernel))⟩
theorem clX10_243 {fr lo : Nat} (h1 : 0 + 1 ≤ fr) (h2 : 8 + (3 + 11) + 0 ≤ lo) : xCall RX10 fr lo 0 243 10 2 gX10_deedOf := ⟨_, _, _, _, _, _, ctX10_deedOf, h1, h2, mcX10_deedOf.1, (xinT 1693 (by decide +kernel) (by decide +kernel)), mcX10_deedOf.2.1, ⟨by decide +kernel, by decide +kernel, by decide +kernel⟩, by rw [if_pos rfl]; exact ⟨mcX10_deedOf.2.2.1, mcX10_deedOf.2.2.2, _, _, rfl⟩⟩
theorem dX10_begins_0 : decode cX10_begins 0 = .ok (.iconst 0, 1) := by decide +kernel
theorem dX10_begins_1 : decode cX10_begins 1 = .ok (.istore_n 1, 1) := by decide +kernel
theorem dX10_begins_2 : decode cX10_begins 2 = .ok (.iload_n 1, 1) := by decide +kernel
theorem dX10_begins_3 : decode cX10_begins 3 = .ok (.sipush 336, 3) := by decide +kernel
theorem dX10_begins_6 : decode cX10_begins 6 = .ok (.if_icmp .ge 23, 3) := by decide +kernel
theorem dX10_begins_9 : decode cX10_begins 9 = .ok (.aload_n 0, 1) := by decide +kernel
theorem dX10_begins_10 : decode cX10_begins 10 = .ok (.getfield 30, 3) := by decide +kernel
theorem dX10_begins_13 : decode cX10_begins 13 = .ok (.iload_n 1, 1) := by decide +kernel
theorem dX10_begins_14 : decode cX10_begins 14 = .ok (.iconst (-1), 1) := by decide +kernel
theorem dX10_begins_15 : decode cX10_begins 15 = .ok (.iastore, 1) := by decide +kernel
theorem dX10_begins_16 : decode cX10_begins 16 = .ok (.aload_n 0, 1) := by decide +kernel
theorem dX10_begins_17 : decode cX10_begins 17 = .ok (.getfield 33, 3) := by decide +kernel
theorem dX10_begins_20 : decode cX10_begins 20 = .ok (.iload_n 1, 1) := by decide +kernel
theorem dX10_begins_21 : decode cX10_begins 21 = .ok (.iconst (-1), 1) := by decide +kernel
theorem dX10_begins_22 : decode cX10_begins 22 = .ok (.iastore, 1) := by decide +kernel
theorem dX10_begins_23 : decode cX10_begins 23 = .ok (.iinc 1 1, 3) := by decide +kernel
theorem dX10_begins_26 : decode cX10_begins 26 = .ok (.goto (-24), 3) := by decide +kernel
theorem dX10_begins_29 : decode cX10_begins 29 = .ok (.iconst 0, 1) := by decide +kernel
theorem dX10_begins_30 : decode cX10_begins 30 = .ok (.istore_n 1, 1) := by decide +kernel
theorem dX10_begins_31 : decode cX10_begins 31 = .ok (.iload_n 1, 1) := by decide +kernel
theorem dX10_begins_32 : decode cX10_begins 32 = .ok (.bipush 8, 2) := by decide +kernel
theorem dX10_begins_34 : decode cX10_begins 34 = .ok (.if_icmp .ge 23, 3) := by decide +kernel
theorem dX10_begins_37 : decode cX10_begins 37 = .ok (.aload_n 0, 1) := by decide +kernel
theorem dX10_begins_38 : decode cX10_begins 38 = .ok (.getfield 36, 3) := by decide +kernel
theorem dX10_begins_41 : decode cX10_begins 41 = .ok (.iload_n 1, 1) := by decide +kernel
theorem dX10_begins_42 : decode cX10_begins 42 = .ok (.iconst (-1), 1) := by decide +kernel
theorem dX10_begins_43 : decode cX10_begins 43 = .ok (.iastore, 1) := by decide +kernel
theorem dX10_begins_44 : decode cX10_begins 44 = .ok (.aload_n 0, 1) := by decide +kernel
theorem dX10_begins_45 : decode cX10_begins 45 = .ok (.getfield 39, 3) := by decide +kernel
theorem dX10_begins_48 : decode cX10_begins 48 = .ok (.iload_n 1, 1) := by decide +kernel
theorem dX10_begins_49 : decode cX10_begins 49 = .ok (.iconst 0, 1) := by decide +kernel
theorem dX10_begins_50 : decode cX10_begins 50 = .ok (.bastore, 1) := by decide +kernel
theorem dX10_begins_51 : decode cX10_begins 51 = .ok (.iinc 1 1, 3) := by decide +kernel
theorem dX10_begins_54 : decode cX10_begins 54 = .ok (.goto (-23), 3) := by decide +kernel
theorem dX10_begins_57 : decode cX10_begins 57 = .ok (.iconst 0, 1) := by decide +kernel
theorem dX10_begins_58 : decode cX10_begins 58 = .ok (.istore_n 1, 1) := by decide +kernel
theorem dX10_begins_59 : decode cX10_begins 59 = .ok (.iload_n 1, 1) := by decide +kernel
theorem dX10_begins_60 : decode cX10_begins 60 = .ok (.bipush 30, 2) := by decide +kernel
theorem dX10_begins_62 : decode cX10_begins 62 = .ok (.if_icmp .ge 16, 3) := by decide +kernel
theorem dX10_begins_65 : decode cX10_begins 65 = .ok (.aload_n 0, 1) := by decide +kernel
theorem dX10_begins_66 : decode cX10_begins 66 = .ok (.getfield 42, 3) := by decide +kernel
theorem dX10_begins_69 : decode cX10_begins 69 = .ok (.iload_n 1, 1) := by decide +kernel
theorem dX10_begins_70 : decode cX10_begins 70 = .ok (.iconst 0, 1) := by decide +kernel
theorem dX10_begins_71 : decode cX10_begins 71 = .ok (.bastore, 1) := by decide +kernel
theorem dX10_begins_72 : decode cX10_begins 72 = .ok (.iinc 1 1, 3) := by decide +kernel
theorem dX10_begins_75 : decode cX10_begins 75 = .ok (.goto (-16), 3) := by decide +kernel
theorem dX10_begins_78 : decode cX10_begins 78 = .ok (.aload_n 0, 1) := by decide +kernel
theorem dX10_begins_79 : decode cX10_begins 79 = .ok (.iconst 0, 1) := by decide +kernel
theorem dX10_begins_80 : decode cX10_begins 80 = .ok (.putfield 240, 3) := by decide +kernel
theorem dX10_begins_83 : decode cX10_begins 83 = .ok (.return_, 1) := by decide +kernel
def zX10_begins (Qr : Option PV → Mem → Prop) : XZ := (RX10, 0, 0, 2, none, Qr)
noncomputable def fX10_begins_b59 : Nat → Nat → Int → Mem → Option Mem
  | 0, _, _, _ => none
  | n + 1, o, x1, F =>
    if 30 ≤ x1 then
      some (mset F o 23 0)
    else
      if (0 : Int) ≤ x1 ∧ x1 < (alen (o + 9) : Int) then
        fX10_begins_b59 n o (xw (x1 + 1)) (mset F (o + 9) x1.toNat 0)
      else none
noncomputable def fX10_begins_b31 : Nat → Nat → Int → Mem → Option Mem
  | 0, _, _, _ => none
  | n + 1, o, x1, F =>
    if 8 ≤ x1 then
      fX10_begins_b59 FU o 0 F
    else
      if (0 : Int) ≤ x1 ∧ x1 < (alen (o + 7) : Int) then
        if (0 : Int) ≤ x1 ∧ x1 < (alen (o + 8) : Int) then
          fX10_begins_b31 n o (xw (x1 + 1)) (mset (mset F (o + 7) x1.toNat (-1)) (o + 8) x1.toNat 0)
        else none
      else none
noncomputable def fX10_begins_b2 : Nat → Nat → Int → Mem → Option Mem
  | 0, _, _, _ => none
  | n + 1, o, x1, F =>
    if 336 ≤ x1 then
      fX10_begins_b31 FU o 0 F
    else
      if (0 : Int) ≤ x1 ∧ x1 < (alen (o + 5) : Int) then
        if (0 : Int) ≤ x1 ∧ x1 < (alen (o + 6) : Int) then
          fX10_begins_b2 n o (xw (x1 + 1)) (mset (mset F (o + 5) x1.toNat (-1)) (o + 6) x1.toNat (-1))
        else none
      else none
noncomputable def fX10_begins (o : Nat) (F : Mem) : Option Mem :=
  fX10_begins_b2 FU o 0 F
theorem fX10_begins_b59_ok {Qr : Option PV → Mem → Prop}  : ∀ (n : Nat) (o : Nat) (x1 : Int) (F : Mem) (res : Mem) (ho : isK o 10), fX10_begins_b59 n o x1 F = some res → Qr none res → PR cX10_begins (zX10_begins Qr) 59 [(0, vR o), (1, vI x1)] [] F := by
  intro n
  induction n with
  | zero => intro o x1 F res ho h hq; exact nomatch (show (none : Option _) = some _ from h)
  | succ n ih =>
    intro o x1 F res ho h hq
    refine s_iload_n (j := 1) dX10_begins_59 rfl rfl ?_
    refine s_bipush dX10_begins_60 rfl (cin rfl) ?_
    refine s_icmp_ge (tgt := 78) dX10_begins_62 rfl (fun hc1 => ?_) (fun hc1 => ?_)
    · have h := ifp hc1 h
      refine s_aload_n (j := 0) dX10_begins_78 rfl rfl ?_
      refine s_iconst dX10_begins_79 (cin rfl) ?_
      refine s_putI dX10_begins_80 flX10_240 fpX10_23 ho ?_
      have h := Option.some.inj h
      subst h
      exact s_return dX10_begins_83 rfl hq
    · have h := ifn hc1 h
      refine s_aload_n (j := 0) dX10_begins_65 rfl rfl ?_
      refine s_getR dX10_begins_66 flX10_42 ho ?_
      refine s_iload_n (j := 1) dX10_begins_69 rfl rfl ?_
      refine s_iconst dX10_begins_70 (cin rfl) ?_
      obtain ⟨hb2, h⟩ := gd h
      refine s_zastore dX10_begins_71 (trX10_21 ho) hb2.1 hb2.2 (Or.inl rfl) ?_
      refine s_iinc (ls' := [(1, vI (xw (x1 + 1))), (0, vR o)]) (j := 1) dX10_begins_72 rfl (Nat.le_of_ble_eq_true rfl) rfl ?_
      refine s_goto (tgt := 59) dX10_begins_75 rfl ?_
      exact s_sub (ks := [1, 0]) rfl (ih o (xw (x1 + 1)) (mset F (o + 9) x1.toNat 0) _ ho h hq)
theorem fX10_begins_b31_ok {Qr : Option PV → Mem → Prop}  : ∀ (n : Nat) (o : Nat) (x1 : Int) (F : Mem) (res : Mem) (ho : isK o 10), fX10_begins_b31 n o x1 F = some res → Qr none res → PR cX10_begins (zX10_begins Qr) 31 [(0, vR o), (1, vI x1)] [] F := by
  intro n
  induction n with
  | zero => intro o x1 F res ho h hq; exact nomatch (show (none : Option _) = some _ from h)
  | succ n ih =>
    intro o x1 F res ho h hq
    refine s_iload_n (j := 1) dX10_begins_31 rfl rfl ?_
    refine s_bipush dX10_begins_32 rfl (cin rfl) ?_
    refine s_icmp_ge (tgt := 57) dX10_begins_34 rfl (fun hc1 => ?_) (fun hc1 => ?_)
    · have h := ifp hc1 h
      refine s_iconst dX10_begins_57 (cin rfl) ?_
      refine s_istore_n (ls' := [(1, vI 0), (0, vR o)]) dX10_begins_58 rfl (Nat.le_of_ble_eq_true rfl) rfl ?_
      exact s_sub (ks := [1, 0]) rfl (fX10_begins_b59_ok FU o 0 F _ ho h hq)
    · have h := ifn hc1 h
      refine s_aload_n (j := 0) dX10_begins_37 rfl rfl ?_
      refine s_getR dX10_begins_38 flX10_36 ho ?_
      refine s_iload_n (j := 1) dX10_begins_41 rfl rfl ?_
      refine s_iconst dX10_begins_42 (cin rfl) ?_
      obtain ⟨hb2, h⟩ := gd h
      refine s_iastore dX10_begins_43 (trX10_19 ho) hb2.1 hb2.2 ?_
      refine s_aload_n (j := 0) dX10_begins_44 rfl rfl ?_
      refine s_getR dX10_begins_45 flX10_39 ho ?_
      refine s_iload_n (j := 1) dX10_begins_48 rfl rfl ?_
      refine s_iconst dX10_begins_49 (cin rfl) ?_
      obtain ⟨hb3, h⟩ := gd h
      refine s_zastore dX10_begins_50 (trX10_20 ho) hb3.1 hb3.2 (Or.inl rfl) ?_
      refine s_iinc (ls' := [(1, vI (xw (x1 + 1))), (0, vR o)]) (j := 1) dX10_begins_51 rfl (Nat.le_of_ble_eq_true rfl) rfl ?_
      refine s_goto (tgt := 31) dX10_begins_54 rfl ?_
      exact s_sub (ks := [1, 0]) rfl (ih o (xw (x1 + 1)) (mset (mset F (o + 7) x1.toNat (-1)) (o + 8) x1.toNat 0) _ ho h hq)
theorem fX10_begins_b2_ok {Qr : Option PV → Mem → Prop}  : ∀ (n : Nat) (o : Nat) (x1 : Int) (F : Mem) (res : Mem) (ho : isK o 10), fX10_begins_b2 n o x1 F = some res → Qr none res → PR cX10_begins (zX10_begins Qr) 2 [(0, vR o), (1, vI x1)] [] F := by
  intro n
  induction n with
  | zero => intro o x1 F res ho h hq; exact nomatch (show (none : Option _) = some _ from h)
  | succ n ih =>
    intro o x1 F res ho h hq
    refine s_iload_n (j := 1) dX10_begins_2 rfl rfl ?_
    refine s_sipush dX10_begins_3 rfl (cin rfl) ?_
    refine s_icmp_ge (tgt := 29) dX10_begins_6 rfl (fun hc1 => ?_) (fun hc1 => ?_)
    · have h := ifp hc1 h
      refine s_iconst dX10_begins_29 (cin rfl) ?_
      refine s_istore_n (ls' := [(1, vI 0), (0, vR o)]) dX10_begins_30 rfl (Nat.le_of_ble_eq_true rfl) rfl ?_
      exact s_sub (ks := [1, 0]) rfl (fX10_begins_b31_ok FU o 0 F _ ho h hq)
    · have h := ifn hc1 h
      refine s_aload_n (j := 0) dX10_begins_9 rfl rfl ?_
      refine s_getR dX10_begins_10 flX10_30 ho ?_
      refine s_iload_n (j := 1) dX10_begins_13 rfl rfl ?_
      refine s_iconst dX10_begins_14 (cin rfl) ?_
      obtain ⟨hb2, h⟩ := gd h
      refine s_iastore dX10_begins_15 (trX10_17 ho) hb2.1 hb2.2 ?_
      refine s_aload_n (j := 0) dX10_begins_16 rfl rfl ?_
      refine s_getR dX10_begins_17 flX10_33 ho ?_
      refine s_iload_n (j := 1) dX10_begins_20 rfl rfl ?_
      refine s_iconst dX10_begins_21 (cin rfl) ?_
      obtain ⟨hb3, h⟩ := gd h
      refine s_iastore dX10_begins_22 (trX10_18 ho) hb3.1 hb3.2 ?_
      refine s_iinc (ls' := [(1, vI (xw (x1 + 1))), (0, vR o)]) (j := 1) dX10_begins_23 rfl (Nat.le_of_ble_eq_true rfl) rfl ?_
      refine s_goto (tgt := 2) dX10_begins_26 rfl ?_
      exact s_sub (ks := [1, 0]) rfl (ih o (xw (x1 + 1)) (mset (mset F (o + 5) x1.toNat (-1)) (o + 6) x1.toNat (-1)) _ ho h hq)
theorem fX10_begins_ok {Qr : Option PV → Mem → Prop} : ∀ (o : Nat) (F : Mem) (res : Mem) (ho : isK o 10), fX10_begins o F = some res → Qr none res → PR cX10_begins (zX10_begins Qr) 0 [(0, vR o)] [] F := by
  intro o F res ho h hq
  refine s_iconst dX10_begins_0 (cin rfl) ?_
  refine s_istore_n (ls' := [(1, vI 0), (0, vR o)]) dX10_begins_1 rfl (Nat.le_of_ble_eq_true rfl) rfl ?_
  exact s_sub (ks := [1, 0]) rfl (fX10_begins_b2_ok FU o 0 F _ ho h hq)
def gX10_begins : XG := fun As F r F' => ∃ o : Nat, ∃ res : Mem, As = [vR o] ∧ isK o 10 ∧ fX10_begins o F = some res ∧ r = none ∧ F' = res
theorem ctX10_begins : xCT yX10_begins cX10_begins 2 (none) 0 0 gX10_begins := xmet (by decide +kernel) (fun As F r F' hg => by obtain ⟨o, res, rfl, ho, h, rfl, rfl⟩ := hg; exact Nat.le_of_ble_eq_true rfl) (fun As F r F' hg => by obtain ⟨o, res, rfl, ho, h, rfl, rfl⟩ := hg; exact fX10_begins_ok o _ _ ho h ⟨rfl, rfl⟩)
theorem mcX10_begins : Cond.code yX10_begins cX10_begins 2 (none) ∈ xw_T ∧ Cond.initialized yX10_begins.cls ∈ xw_T ∧ Cond.instanceMethod yX10_begins ∈ xw_T ∧ Cond.selects yX10_begins.cls yX10_begins yX10_begins ∈ xw_T := ⟨(xinT 1688 (by decide +kernel) (by decide +kernel)), (xinT 127 (by decide +kernel) (by decide +kernel)), (xinT 1687 (by decide +kernel) (by decide +kernel)), (xinT 73 (by decide +kernel) (by decide +kernel))⟩
theorem clX10_264 {fr lo : Nat} (h1 : 0 + 1 ≤ fr) (h2 : 8 + (2 + 11) + 0 ≤ lo) : xCall RX10 fr lo 0 264 10 0 gX10_begins := ⟨_, _, _, _, _, _, ctX10_begins, h1, h2, mcX10_begins.1, (xinT 1685 (by decide +kernel) (by decide +kernel)), mcX10_begins.2.1, ⟨by decide +kernel, by decide +kernel, by decide +kernel⟩, by rw [if_pos rfl]; exact ⟨mcX10_begins.2.2.1, mcX10_begins.2.2.2, _, _, rfl⟩⟩
theorem dX10_fromOf_0 : decode cX10_fromOf 0 = .ok (.aload_n 0, 1) := by decide +kernel
theorem dX10_fromOf_1 : decode cX10_fromOf 1 = .ok (.iload_n 1, 1) := by decide +kernel
theorem dX10_fromOf_2 : decode cX10_fromOf 2 = .ok (.iconst 0, 1) := by decide +kernel
theorem dX10_fromOf_3 : decode cX10_fromOf 3 = .ok (.invokevirtual 243, 3) := by decide +kernel
theorem dX10_fromOf_6 : decode cX10_fromOf 6 = .ok (.ifCond .ne 22, 3) := by decide +kernel
theorem dX10_fromOf_9 : decode cX10_fromOf 9 = .ok (.bipush 48, 2) := by decide +kernel
theorem dX10_fromOf_11 : decode cX10_fromOf 11 = .ok (.aload_n 0, 1) := by decide +kernel
theorem dX10_fromOf_12 : decode cX10_fromOf 12 = .ok (.iload_n 1, 1) := by decide +kernel
theorem dX10_fromOf_13 : decode cX10_fromOf 13 = .ok (.iconst 2, 1) := by decide +kernel
theorem dX10_fromOf_14 : decode cX10_fromOf 14 = .ok (.invokevirtual 243, 3) := by decide +kernel
theorem dX10_fromOf_17 : decode cX10_fromOf 17 = .ok (.imul, 1) := by decide +kernel
theorem dX10_fromOf_18 : decode cX10_fromOf 18 = .ok (.aload_n 0, 1) := by decide +kernel
theorem dX10_fromOf_19 : decode cX10_fromOf 19 = .ok (.iload_n 1, 1) := by decide +kernel
theorem dX10_fromOf_20 : decode cX10_fromOf 20 = .ok (.iconst 3, 1) := by decide +kernel
theorem dX10_fromOf_21 : decode cX10_fromOf 21 = .ok (.invokevirtual 243, 3) := by decide +kernel
theorem dX10_fromOf_24 : decode cX10_fromOf 24 = .ok (.iadd, 1) := by decide +kernel
theorem dX10_fromOf_25 : decode cX10_fromOf 25 = .ok (.goto 19, 3) := by decide +kernel
theorem dX10_fromOf_28 : decode cX10_fromOf 28 = .ok (.bipush 48, 2) := by decide +kernel
theorem dX10_fromOf_30 : decode cX10_fromOf 30 = .ok (.aload_n 0, 1) := by decide +kernel
theorem dX10_fromOf_31 : decode cX10_fromOf 31 = .ok (.iload_n 1, 1) := by decide +kernel
theorem dX10_fromOf_32 : decode cX10_fromOf 32 = .ok (.iconst 3, 1) := by decide +kernel
theorem dX10_fromOf_33 : decode cX10_fromOf 33 = .ok (.invokevirtual 243, 3) := by decide +kernel
theorem dX10_fromOf_36 : decode cX10_fromOf 36 = .ok (.imul, 1) := by decide +kernel
theorem dX10_fromOf_37 : decode cX10_fromOf 37 = .ok (.aload_n 0, 1) := by decide +kernel
theorem dX10_fromOf_38 : decode cX10_fromOf 38 = .ok (.iload_n 1, 1) := by decide +kernel
theorem dX10_fromOf_39 : decode cX10_fromOf 39 = .ok (.iconst 4, 1) := by decide +kernel
theorem dX10_fromOf_40 : decode cX10_fromOf 40 = .ok (.invokevirtual 243, 3) := by decide +kernel
theorem dX10_fromOf_43 : decode cX10_fromOf 43 = .ok (.iadd, 1) := by decide +kernel
theorem dX10_fromOf_44 : decode cX10_fromOf 44 = .ok (.ireturn, 1) := by decide +kernel
def zX10_fromOf (Qr : Option PV → Mem → Prop) : XZ := (RX10, 1, 22, 2, some FieldType.int, Qr)
noncomputable def fX10_fromOf (o : Nat) (x1 : Int) (F : Mem) : Option Int :=
  (fX10_deedOf o x1 0 F).bind fun r1 =>
  if r1 ≠ 0 then
    (fX10_deedOf o x1 3 F).bind fun r4 =>
    (fX10_deedOf o x1 4 F).bind fun r6 =>
    some (xw ((xw (48 * r4)) + r6))
  else
    (fX10_deedOf o x1 2 F).bind fun r8 =>
    (fX10_deedOf o x1 3 F).bind fun r10 =>
    some (xw ((xw (48 * r8)) + r10))
theorem fX10_fromOf_ok {Qr : Option PV → Mem → Prop} : ∀ (o : Nat) (x1 : Int) (F : Mem) (res : Int) (ho : isK o 10), fX10_fromOf o x1 F = some res → Qr (some (vI res)) F → PR cX10_fromOf (zX10_fromOf Qr) 0 [(0, vR o), (1, vI x1)] [] F := by
  intro o x1 F res ho h hq
  refine s_aload_n (j := 0) dX10_fromOf_0 rfl rfl ?_
  refine s_iload_n (j := 1) dX10_fromOf_1 rfl rfl ?_
  refine s_iconst dX10_fromOf_2 (cin rfl) ?_
  obtain ⟨r1, hv2, h⟩ := bnd h
  refine s_callV (As := [vI x1, vI 0]) (rest := []) (r := (some (vI r1))) (F' := F) dX10_fromOf_3 (clX10_243 (Nat.le_of_ble_eq_true rfl) (Nat.le_of_ble_eq_true rfl)) ho rfl ⟨_, _, _, _, rfl, ho, hv2, rfl, rfl⟩ rfl (Nat.le_of_ble_eq_true rfl) ?_
  refine s_if_ne (tgt := 28) dX10_fromOf_6 rfl (fun hc3 => ?_) (fun hc3 => ?_)
  · have h := ifp hc3 h
    refine s_bipush dX10_fromOf_28 rfl (cin rfl) ?_
    refine s_aload_n (j := 0) dX10_fromOf_30 rfl rfl ?_
    refine s_iload_n (j := 1) dX10_fromOf_31 rfl rfl ?_
    refine s_iconst dX10_fromOf_32 (cin rfl) ?_
    obtain ⟨r4, hv5, h⟩ := bnd h
    refine s_callV (As := [vI x1, vI 3]) (rest := [vI 48]) (r := (some (vI r4))) (F' := F) dX10_fromOf_33 (clX10_243 (Nat.le_of_ble_eq_true rfl) (Nat.le_of_ble_eq_true rfl)) ho rfl ⟨_, _, _, _, rfl, ho, hv5, rfl, rfl⟩ rfl (Nat.le_of_ble_eq_true rfl) ?_
    refine s_imul dX10_fromOf_36 ?_
    refine s_aload_n (j := 0) dX10_fromOf_37 rfl rfl ?_
    refine s_iload_n (j := 1) dX10_fromOf_38 rfl rfl ?_
    refine s_iconst dX10_fromOf_39 (cin rfl) ?_
    obtain ⟨r6, hv7, h⟩ := bnd h
    refine s_callV (As := [vI x1, vI 4]) (rest := [vI (xw (48 * r4))]) (r := (some (vI r6))) (F' := F) dX10_fromOf_40 (clX10_243 (Nat.le_of_ble_eq_true rfl) (Nat.le_of_ble_eq_true rfl)) ho rfl ⟨_, _, _, _, rfl, ho, hv7, rfl, rfl⟩ rfl (Nat.le_of_ble_eq_true rfl) ?_
    refine s_iadd dX10_fromOf_43 ?_
    have h := Option.some.inj h
    subst h
    exact s_ireturn dX10_fromOf_44 rfl hq
  · have h := ifn hc3 h
    refine s_bipush dX10_fromOf_9 rfl (cin rfl) ?_
    refine s_aload_n (j := 0) dX10_fromOf_11 rfl rfl ?_
    refine s_iload_n (j := 1) dX10_fromOf_12 rfl rfl ?_
    refine s_iconst dX10_fromOf_13 (cin rfl) ?_
    obtain ⟨r8, hv9, h⟩ := bnd h
    refine s_callV (As := [vI x1, vI 2]) (rest := [vI 48]) (r := (some (vI r8))) (F' := F) dX10_fromOf_14 (clX10_243 (Nat.le_of_ble_eq_true rfl) (Nat.le_of_ble_eq_true rfl)) ho rfl ⟨_, _, _, _, rfl, ho, hv9, rfl, rfl⟩ rfl (Nat.le_of_ble_eq_true rfl) ?_
    refine s_imul dX10_fromOf_17 ?_
    refine s_aload_n (j := 0) dX10_fromOf_18 rfl rfl ?_
    refine s_iload_n (j := 1) dX10_fromOf_19 rfl rfl ?_
    refine s_iconst dX10_fromOf_20 (cin rfl) ?_
    obtain ⟨r10, hv11, h⟩ := bnd h
    refine s_callV (As := [vI x1, vI 3]) (rest := [vI (xw (48 * r8))]) (r := (some (vI r10))) (F' := F) dX10_fromOf_21 (clX10_243 (Nat.le_of_ble_eq_true rfl) (Nat.le_of_ble_eq_true rfl)) ho rfl ⟨_, _, _, _, rfl, ho, hv11, rfl, rfl⟩ rfl (Nat.le_of_ble_eq_true rfl) ?_
    refine s_iadd dX10_fromOf_24 ?_
    refine s_goto (tgt := 44) dX10_fromOf_25 rfl ?_
    have h := Option.some.inj h
    subst h
    exact s_ireturn dX10_fromOf_44 rfl hq
def gX10_fromOf : XG := fun As F r F' => ∃ o : Nat, ∃ x1 : Int, ∃ res : Int, As = [vR o, vI x1] ∧ isK o 10 ∧ fX10_fromOf o x1 F = some res ∧ r = some (vI res) ∧ F' = F
theorem ctX10_fromOf : xCT yX10_fromOf cX10_fromOf 2 (some FieldType.int) 1 22 gX10_fromOf := xmet (by decide +kernel) (fun As F r F' hg => by obtain ⟨o, x1, res, rfl, ho, h, rfl, rfl⟩ := hg; exact Nat.le_of_ble_eq_true rfl) (fun As F r F' hg => by obtain ⟨o, x1, res, rfl, ho, h, rfl, rfl⟩ := hg; exact fX10_fromOf_ok o x1 _ _ ho h ⟨rfl, rfl⟩)
theorem mcX10_fromOf : Cond.code yX10_fromOf cX10_fromOf 2 (some FieldType.int) ∈ xw_T ∧ Cond.initialized yX10_fromOf.cls ∈ xw_T ∧ Cond.instanceMethod yX10_fromOf ∈ xw_T ∧ Cond.selects yX10_fromOf.cls yX10_fromOf yX10_fromOf ∈ xw_T := ⟨(xinT 1704 (by decide +kernel) (by decide +kernel)), (xinT 127 (by decide +kernel) (by decide +kernel)), (xinT 1703 (by decide +kernel) (by decide +kernel)), (xinT 77 (by decide +kernel) (by decide +kernel))⟩
theorem clX10_246 {fr lo : Nat} (h1 : 1 + 1 ≤ fr) (h2 : 8 + (2 + 11) + 22 ≤ lo) : xCall RX10 fr lo 0 246 10 1 gX10_fromOf := ⟨_, _, _, _, _, _, ctX10_fromOf, h1, h2, mcX10_fromOf.1, (xinT 1701 (by decide +kernel) (by decide +kernel)), mcX10_fromOf.2.1, ⟨by decide +kernel, by decide +kernel, by decide +kernel⟩, by rw [if_pos rfl]; exact ⟨mcX10_fromOf.2.2.1, mcX10_fromOf.2.2.2, _, _, rfl⟩⟩
theorem dX10_toOf_0 : decode cX10_toOf 0 = .ok (.aload_n 0, 1) := by decide +kernel
theorem dX10_toOf_1 : decode cX10_toOf 1 = .ok (.iload_n 1, 1) := by decide +kernel
theorem dX10_toOf_2 : decode cX10_toOf 2 = .ok (.iconst 0, 1) := by decide +kernel
theorem dX10_toOf_3 : decode cX10_toOf 3 = .ok (.invokevirtual 243, 3) := by decide +kernel
theorem dX10_toOf_6 : decode cX10_toOf 6 = .ok (.ifCond .ne 22, 3) := by decide +kernel
theorem dX10_toOf_9 : decode cX10_toOf 9 = .ok (.bipush 48, 2) := by decide +kernel
theorem dX10_toOf_11 : decode cX10_toOf 11 = .ok (.aload_n 0, 1) := by decide +kernel
theorem dX10_toOf_12 : decode cX10_toOf 12 = .ok (.iload_n 1, 1) := by decide +kernel
theorem dX10_toOf_13 : decode cX10_toOf 13 = .ok (.iconst 2, 1) := by decide +kernel
theorem dX10_toOf_14 : decode cX10_toOf 14 = .ok (.invokevirtual 243, 3) := by decide +kernel
theorem dX10_toOf_17 : decode cX10_toOf 17 = .ok (.imul, 1) := by decide +kernel
theorem dX10_toOf_18 : decode cX10_toOf 18 = .ok (.aload_n 0, 1) := by decide +kernel
theorem dX10_toOf_19 : decode cX10_toOf 19 = .ok (.iload_n 1, 1) := by decide +kernel
theorem dX10_toOf_20 : decode cX10_toOf 20 = .ok (.iconst 4, 1) := by decide +kernel
theorem dX10_toOf_21 : decode cX10_toOf 21 = .ok (.invokevirtual 243, 3) := by decide +kernel
theorem dX10_toOf_24 : decode cX10_toOf 24 = .ok (.iadd, 1) := by decide +kernel
theorem dX10_toOf_25 : decode cX10_toOf 25 = .ok (.goto 19, 3) := by decide +kernel
theorem dX10_toOf_28 : decode cX10_toOf 28 = .ok (.bipush 48, 2) := by decide +kernel
theorem dX10_toOf_30 : decode cX10_toOf 30 = .ok (.aload_n 0, 1) := by decide +kernel
theorem dX10_toOf_31 : decode cX10_toOf 31 = .ok (.iload_n 1, 1) := by decide +kernel
theorem dX10_toOf_32 : decode cX10_toOf 32 = .ok (.iconst 3, 1) := by decide +kernel
theorem dX10_toOf_33 : decode cX10_toOf 33 = .ok (.invokevirtual 243, 3) := by decide +kernel
theorem dX10_toOf_36 : decode cX10_toOf 36 = .ok (.imul, 1) := by decide +kernel
theorem dX10_toOf_37 : decode cX10_toOf 37 = .ok (.aload_n 0, 1) := by decide +kernel
theorem dX10_toOf_38 : decode cX10_toOf 38 = .ok (.iload_n 1, 1) := by decide +kernel
theorem dX10_toOf_39 : decode cX10_toOf 39 = .ok (.iconst 5, 1) := by decide +kernel
theorem dX10_toOf_40 : decode cX10_toOf 40 = .ok (.invokevirtual 243, 3) := by decide +kernel
theorem dX10_toOf_43 : decode cX10_toOf 43 = .ok (.iadd, 1) := by decide +kernel
theorem dX10_toOf_44 : decode cX10_toOf 44 = .ok (.ireturn, 1) := by decide +kernel
def zX10_toOf (Qr : Option PV → Mem → Prop) : XZ := (RX10, 1, 22, 2, some FieldType.int, Qr)
noncomputable def fX10_toOf (o : Nat) (x1 : Int) (F : Mem) : Option Int :=
  (fX10_deedOf o x1 0 F).bind fun r1 =>
  if r1 ≠ 0 then
    (fX10_deedOf o x1 3 F).bind fun r4 =>
    (fX10_deedOf o x1 5 F).bind fun r6 =>
    some (xw ((xw (48 * r4)) + r6))
  else
    (fX10_deedOf o x1 2 F).bind fun r8 =>
    (fX10_deedOf o x1 4 F).bind fun r10 =>
    some (xw ((xw (48 * r8)) + r10))
theorem fX10_toOf_ok {Qr : Option PV → Mem → Prop} : ∀ (o : Nat) (x1 : Int) (F : Mem) (res : Int) (ho : isK o 10), fX10_toOf o x1 F = some res → Qr (some (vI res)) F → PR cX10_toOf (zX10_toOf Qr) 0 [(0, vR o), (1, vI x1)] [] F := by
  intro o x1 F res ho h hq
  refine s_aload_n (j := 0) dX10_toOf_0 rfl rfl ?_
  refine s_iload_n (j := 1) dX10_toOf_1 rfl rfl ?_
  refine s_iconst dX10_toOf_2 (cin rfl) ?_
  obtain ⟨r1, hv2, h⟩ := bnd h
  refine s_callV (As := [vI x1, vI 0]) (rest := []) (r := (some (vI r1))) (F' := F) dX10_toOf_3 (clX10_243 (Nat.le_of_ble_eq_true rfl) (Nat.le_of_ble_eq_true rfl)) ho rfl ⟨_, _, _, _, rfl, ho, hv2, rfl, rfl⟩ rfl (Nat.le_of_ble_eq_true rfl) ?_
  refine s_if_ne (tgt := 28) dX10_toOf_6 rfl (fun hc3 => ?_) (fun hc3 => ?_)
  · have h := ifp hc3 h
    refine s_bipush dX10_toOf_28 rfl (cin rfl) ?_
    refine s_aload_n (j := 0) dX10_toOf_30 rfl rfl ?_
    refine s_iload_n (j := 1) dX10_toOf_31 rfl rfl ?_
    refine s_iconst dX10_toOf_32 (cin rfl) ?_
    obtain ⟨r4, hv5, h⟩ := bnd h
    refine s_callV (As := [vI x1, vI 3]) (rest := [vI 48]) (r := (some (vI r4))) (F' := F) dX10_toOf_33 (clX10_243 (Nat.le_of_ble_eq_true rfl) (Nat.le_of_ble_eq_true rfl)) ho rfl ⟨_, _, _, _, rfl, ho, hv5, rfl, rfl⟩ rfl (Nat.le_of_ble_eq_true rfl) ?_
    refine s_imul dX10_toOf_36 ?_
    refine s_aload_n (j := 0) dX10_toOf_37 rfl rfl ?_
    refine s_iload_n (j := 1) dX10_toOf_38 rfl rfl ?_
    refine s_iconst dX10_toOf_39 (cin rfl) ?_
    obtain ⟨r6, hv7, h⟩ := bnd h
    refine s_callV (As := [vI x1, vI 5]) (rest := [vI (xw (48 * r4))]) (r := (some (vI r6))) (F' := F) dX10_toOf_40 (clX10_243 (Nat.le_of_ble_eq_true rfl) (Nat.le_of_ble_eq_true rfl)) ho rfl ⟨_, _, _, _, rfl, ho, hv7, rfl, rfl⟩ rfl (Nat.le_of_ble_eq_true rfl) ?_
    refine s_iadd dX10_toOf_43 ?_
    have h := Option.some.inj h
    subst h
    exact s_ireturn dX10_toOf_44 rfl hq
  · have h := ifn hc3 h
    refine s_bipush dX10_toOf_9 rfl (cin rfl) ?_
    refine s_aload_n (j := 0) dX10_toOf_11 rfl rfl ?_
    refine s_iload_n (j := 1) dX10_toOf_12 rfl rfl ?_
    refine s_iconst dX10_toOf_13 (cin rfl) ?_
    obtain ⟨r8, hv9, h⟩ := bnd h
    refine s_callV (As := [vI x1, vI 2]) (rest := [vI 48]) (r := (some (vI r8))) (F' := F) dX10_toOf_14 (clX10_243 (Nat.le_of_ble_eq_true rfl) (Nat.le_of_ble_eq_true rfl)) ho rfl ⟨_, _, _, _, rfl, ho, hv9, rfl, rfl⟩ rfl (Nat.le_of_ble_eq_true rfl) ?_
    refine s_imul dX10_toOf_17 ?_
    refine s_aload_n (j := 0) dX10_toOf_18 rfl rfl ?_
    refine s_iload_n (j := 1) dX10_toOf_19 rfl rfl ?_
    refine s_iconst dX10_toOf_20 (cin rfl) ?_
    obtain ⟨r10, hv11, h⟩ := bnd h
    refine s_callV (As := [vI x1, vI 4]) (rest := [vI (xw (48 * r8))]) (r := (some (vI r10))) (F' := F) dX10_toOf_21 (clX10_243 (Nat.le_of_ble_eq_true rfl) (Nat.le_of_ble_eq_true rfl)) ho rfl ⟨_, _, _, _, rfl, ho, hv11, rfl, rfl⟩ rfl (Nat.le_of_ble_eq_true rfl) ?_
    refine s_iadd dX10_toOf_24 ?_
    refine s_goto (tgt := 44) dX10_toOf_25 rfl ?_
    have h := Option.some.inj h
    subst h
    exact s_ireturn dX10_toOf_44 rfl hq
def gX10_toOf : XG := fun As F r F' => ∃ o : Nat, ∃ x1 : Int, ∃ res : Int, As = [vR o, vI x1] ∧ isK o 10 ∧ fX10_toOf o x1 F = some res ∧ r = some (vI res) ∧ F' = F
theorem ctX10_toOf : xCT yX10_toOf cX10_toOf 2 (some FieldType.int) 1 22 gX10_toOf := xmet (by decide +kernel) (fun As F r F' hg => by obtain ⟨o, x1, res, rfl, ho, h, rfl, rfl⟩ := hg; exact Nat.le_of_ble_eq_true rfl) (fun As F r F' hg => by obtain ⟨o, x1, res, rfl, ho, h, rfl, rfl⟩ := hg; exact fX10_toOf_ok o x1 _ _ ho h ⟨rfl, rfl⟩)
theorem mcX10_toOf : Cond.code yX10_toOf cX10_toOf 2 (some FieldType.int) ∈ xw_T ∧ Cond.initialized yX10_toOf.cls ∈ xw_T ∧ Cond.instanceMethod yX10_toOf ∈ xw_T ∧ Cond.selects yX10_toOf.cls yX10_toOf yX10_toOf ∈ xw_T := ⟨(xinT 1708 (by decide +kernel) (by decide +kernel)), (xinT 127 (by decide +kernel) (by decide +kernel)), (xinT 1707 (by decide +kernel) (by decide +kernel)), (xinT 78 (by decide +kernel) (by decide +kernel))⟩
theorem clX10_249 {fr lo : Nat} (h1 : 1 + 1 ≤ fr) (h2 : 8 + (2 + 11) + 22 ≤ lo) : xCall RX10 fr lo 0 249 10 1 gX10_toOf := ⟨_, _, _, _, _, _, ctX10_toOf, h1, h2, mcX10_toOf.1, (xinT 1705 (by decide +kernel) (by decide +kernel)), mcX10_toOf.2.1, ⟨by decide +kernel, by decide +kernel, by decide +kernel⟩, by rw [if_pos rfl]; exact ⟨mcX10_toOf.2.2.1, mcX10_toOf.2.2.2, _, _, rfl⟩⟩
theorem dX10_areOwn_0 : decode cX10_areOwn 0 = .ok (.iconst 1, 1) := by decide +kernel
theorem dX10_areOwn_1 : decode cX10_areOwn 1 = .ok (.istore_n 2, 1) := by decide +kernel
theorem dX10_areOwn_2 : decode cX10_areOwn 2 = .ok (.aload_n 0, 1) := by decide +kernel
theorem dX10_areOwn_3 : decode cX10_areOwn 3 = .ok (.iload_n 1, 1) := by decide +kernel
theorem dX10_areOwn_4 : decode cX10_areOwn 4 = .ok (.invokevirtual 246, 3) := by decide +kernel
theorem dX10_areOwn_7 : decode cX10_areOwn 7 = .ok (.istore_n 3, 1) := by decide +kernel
theorem dX10_areOwn_8 : decode cX10_areOwn 8 = .ok (.iload_n 3, 1) := by decide +kernel
theorem dX10_areOwn_9 : decode cX10_areOwn 9 = .ok (.aload_n 0, 1) := by decide +kernel
theorem dX10_areOwn_10 : decode cX10_areOwn 10 = .ok (.iload_n 1, 1) := by decide +kernel
theorem dX10_areOwn_11 : decode cX10_areOwn 11 = .ok (.invokevirtual 249, 3) := by decide +kernel
theorem dX10_areOwn_14 : decode cX10_areOwn 14 = .ok (.if_icmp .ge 49, 3) := by decide +kernel
theorem dX10_areOwn_17 : decode cX10_areOwn 17 = .ok (.iload_n 2, 1) := by decide +kernel
theorem dX10_areOwn_18 : decode cX10_areOwn 18 = .ok (.ifCond .eq 37, 3) := by decide +kernel
theorem dX10_areOwn_21 : decode cX10_areOwn 21 = .ok (.aload_n 0, 1) := by decide +kernel
theorem dX10_areOwn_22 : decode cX10_areOwn 22 = .ok (.getfield 30, 3) := by decide +kernel
theorem dX10_areOwn_25 : decode cX10_areOwn 25 = .ok (.iload_n 3, 1) := by decide +kernel
theorem dX10_areOwn_26 : decode cX10_areOwn 26 = .ok (.iaload, 1) := by decide +kernel
theorem dX10_areOwn_27 : decode cX10_areOwn 27 = .ok (.aload_n 0, 1) := by decide +kernel
theorem dX10_areOwn_28 : decode cX10_areOwn 28 = .ok (.iload_n 1, 1) := by decide +kernel
theorem dX10_areOwn_29 : decode cX10_areOwn 29 = .ok (.iconst 1, 1) := by decide +kernel
theorem dX10_areOwn_30 : decode cX10_areOwn 30 = .ok (.invokevirtual 243, 3) := by decide +kernel
theorem dX10_areOwn_33 : decode cX10_areOwn 33 = .ok (.if_icmp .ne 22, 3) := by decide +kernel
theorem dX10_areOwn_36 : decode cX10_areOwn 36 = .ok (.aload_n 0, 1) := by decide +kernel
theorem dX10_areOwn_37 : decode cX10_areOwn 37 = .ok (.getfield 33, 3) := by decide +kernel
theorem dX10_areOwn_40 : decode cX10_areOwn 40 = .ok (.iload_n 3, 1) := by decide +kernel
theorem dX10_areOwn_41 : decode cX10_areOwn 41 = .ok (.iaload, 1) := by decide +kernel
theorem dX10_areOwn_42 : decode cX10_areOwn 42 = .ok (.aload_n 0, 1) := by decide +kernel
theorem dX10_areOwn_43 : decode cX10_areOwn 43 = .ok (.iload_n 1, 1) := by decide +kernel
theorem dX10_areOwn_44 : decode cX10_areOwn 44 = .ok (.iconst 1, 1) := by decide +kernel
theorem dX10_areOwn_45 : decode cX10_areOwn 45 = .ok (.invokevirtual 243, 3) := by decide +kernel
theorem dX10_areOwn_48 : decode cX10_areOwn 48 = .ok (.if_icmp .ne 7, 3) := by decide +kernel
theorem dX10_areOwn_51 : decode cX10_areOwn 51 = .ok (.iconst 1, 1) := by decide +kernel
theorem dX10_areOwn_52 : decode cX10_areOwn 52 = .ok (.goto 4, 3) := by decide +kernel
theorem dX10_areOwn_55 : decode cX10_areOwn 55 = .ok (.iconst 0, 1) := by decide +kernel
theorem dX10_areOwn_56 : decode cX10_areOwn 56 = .ok (.istore_n 2, 1) := by decide +kernel
theorem dX10_areOwn_57 : decode cX10_areOwn 57 = .ok (.iinc 3 1, 3) := by decide +kernel
theorem dX10_areOwn_60 : decode cX10_areOwn 60 = .ok (.goto (-52), 3) := by decide +kernel
theorem dX10_areOwn_63 : decode cX10_areOwn 63 = .ok (.iload_n 2, 1) := by decide +kernel
theorem dX10_areOwn_64 : decode cX10_areOwn 64 = .ok (.ireturn, 1) := by decide +kernel
def zX10_areOwn (Qr : Option PV → Mem → Prop) : XZ := (RX10, 2, 43, 4, some FieldType.boolean, Qr)
noncomputable def fX10_areOwn_b8 (F : Mem) : Nat → Nat → Int → Int → Int → Option Int
  | 0, _, _, _, _ => none
  | n + 1, o, x1, x2, x3 =>
    (fX10_toOf o x1 F).bind fun r1 =>
    if r1 ≤ x3 then
      if x2 = 0 ∨ x2 = 1 then
        some x2
      else none
    else
      if x2 = 0 then
        fX10_areOwn_b8 F n o x1 0 (xw (x3 + 1))
      else
        if (0 : Int) ≤ x3 ∧ x3 < (alen (o + 5) : Int) then
          (fX10_deedOf o x1 1 F).bind fun r7 =>
          if (F (o + 5) x3.toNat) ≠ r7 then
            fX10_areOwn_b8 F n o x1 0 (xw (x3 + 1))
          else
            if (0 : Int) ≤ x3 ∧ x3 < (alen (o + 6) : Int) then
              (fX10_deedOf o x1 1 F).bind fun r11 =>
              if (F (o + 6) x3.toNat) ≠ r11 then
                fX10_areOwn_b8 F n o x1 0 (xw (x3 + 1))
              else
                fX10_areOwn_b8 F n o x1 1 (xw (x3 + 1))
            else none
        else none
noncomputable def fX10_areOwn (o : Nat) (x1 : Int) (F : Mem) : Option Int :=
  (fX10_fromOf o x1 F).bind fun r1 =>
  fX10_areOwn_b8 F FU o x1 1 r1
theorem fX10_areOwn_b8_ok {Qr : Option PV → Mem → Prop}  (F : Mem) : ∀ (n : Nat) (o : Nat) (x1 : Int) (x2 : Int) (x3 : Int) (res : Int) (ho : isK o 10), fX10_areOwn_b8 F n o x1 x2 x3 = some res → Qr (some (vI res)) F → PR cX10_areOwn (zX10_areOwn Qr) 8 [(0, vR o), (1, vI x1), (2, vI x2), (3, vI x3)] [] F := by
  intro n
  induction n with
  | zero => intro o x1 x2 x3 res ho h hq; exact nomatch (show (none : Option _) = some _ from h)
  | succ n ih =>
    intro o x1 x2 x3 res ho h hq
    refine s_iload_n (j := 3) dX10_areOwn_8 rfl rfl ?_
    refine s_aload_n (j := 0) dX10_areOwn_9 rfl rfl ?_
    refine s_iload_n (j := 1) dX10_areOwn_10 rfl rfl ?_
    obtain ⟨r1, hv2, h⟩ := bnd h
    refine s_callV (As := [vI x1]) (rest := [vI x3]) (r := (some (vI r1))) (F' := F) dX10_areOwn_11 (clX10_249 (Nat.le_of_ble_eq_true rfl) (Nat.le_of_ble_eq_true rfl)) ho rfl ⟨_, _, _, rfl, ho, hv2, rfl, rfl⟩ rfl (Nat.le_of_ble_eq_true rfl) ?_
    refine s_icmp_ge (tgt := 63) dX10_areOwn_14 rfl (fun hc3 => ?_) (fun hc3 => ?_)
    · have h := ifp hc3 h
      refine s_iload_n (j := 2) dX10_areOwn_63 rfl rfl ?_
      obtain ⟨hb4, h⟩ := gd h
      have h := Option.some.inj h
      subst h
      exact s_zreturn dX10_areOwn_64 rfl hb4 hq
    · have h := ifn hc3 h
      refine s_iload_n (j := 2) dX10_areOwn_17 rfl rfl ?_
      refine s_if_eq (tgt := 55) dX10_areOwn_18 rfl (fun hc5 => ?_) (fun hc5 => ?_)
      · have h := ifp hc5 h
        refine s_iconst dX10_areOwn_55 (cin rfl) ?_
        refine s_istore_n (ls' := [(2, vI 0), (0, vR o), (1, vI x1), (3, vI x3)]) dX10_areOwn_56 rfl (Nat.le_of_ble_eq_true rfl) rfl ?_
        refine s_iinc (j := 3) dX10_areOwn_57 rfl (Nat.le_of_ble_eq_true rfl) rfl ?_
        refine s_goto (tgt := 8) dX10_areOwn_60 rfl ?_
        exact s_sub (ks := [2, 3, 1, 0]) rfl (ih o x1 0 (xw (x3 + 1)) _ ho h hq)
      · have h := ifn hc5 h
        refine s_aload_n (j := 0) dX10_areOwn_21 rfl rfl ?_
        refine s_getR dX10_areOwn_22 flX10_30 ho ?_
        refine s_iload_n (j := 3) dX10_areOwn_25 rfl rfl ?_
        obtain ⟨hb6, h⟩ := gd h
        refine s_iaload dX10_areOwn_26 (trX10_17 ho) hb6.1 hb6.2 ?_
        refine s_aload_n (j := 0) dX10_areOwn_27 rfl rfl ?_
        refine s_iload_n (j := 1) dX10_areOwn_28 rfl rfl ?_
        refine s_iconst dX10_areOwn_29 (cin rfl) ?_
        obtain ⟨r7, hv8, h⟩ := bnd h
        refine s_callV (As := [vI x1, vI 1]) (rest := [vI (F (o + 5) x3.toNat)]) (r := (some (vI r7))) (F' := F) dX10_areOwn_30 (clX10_243 (Nat.le_of_ble_eq_true rfl) (Nat.le_of_ble_eq_true rfl)) ho rfl ⟨_, _, _, _, rfl, ho, hv8, rfl, rfl⟩ rfl (Nat.le_of_ble_eq_true rfl) ?_
        refine s_icmp_ne (tgt := 55) dX10_areOwn_33 rfl (fun hc9 => ?_) (fun hc9 => ?_)
        · have h := ifp hc9 h
          refine s_iconst dX10_areOwn_55 (cin rfl) ?_
          refine s_istore_n (ls' := [(2, vI 0), (0, vR o), (1, vI x1), (3, vI x3)]) dX10_areOwn_56 rfl (Nat.le_of_ble_eq_true rfl) rfl ?_
          refine s_iinc (j := 3) dX10_areOwn_57 rfl (Nat.le_of_ble_eq_true rfl) rfl ?_
          refine s_goto (tgt := 8) dX10_areOwn_60 rfl ?_
          exact s_sub (ks := [2, 3, 1, 0]) rfl (ih o x1 0 (xw (x3 + 1)) _ ho h hq)
        · have h := ifn hc9 h
          refine s_aload_n (j := 0) dX10_areOwn_36 rfl rfl ?_
          refine s_getR dX10_areOwn_37 flX10_33 ho ?_
          refine s_iload_n (j := 3) dX10_areOwn_40 rfl rfl ?_
          obtain ⟨hb10, h⟩ := gd h
          refine s_iaload dX10_areOwn_41 (trX10_18 ho) hb10.1 hb10.2 ?_
          refine s_aload_n (j := 0) dX10_areOwn_42 rfl rfl ?_
          refine s_iload_n (j := 1) dX10_areOwn_43 rfl rfl ?_
          refine s_iconst dX10_areOwn_44 (cin rfl) ?_
          obtain ⟨r11, hv12, h⟩ := bnd h
          refine s_callV (As := [vI x1, vI 1]) (rest := [vI (F (o + 6) x3.toNat)]) (r := (some (vI r11))) (F' := F) dX10_areOwn_45 (clX10_243 (Nat.le_of_ble_eq_true rfl) (Nat.le_of_ble_eq_true rfl)) ho rfl ⟨_, _, _, _, rfl, ho, hv12, rfl, rfl⟩ rfl (Nat.le_of_ble_eq_true rfl) ?_
          refine s_icmp_ne (tgt := 55) dX10_areOwn_48 rfl (fun hc13 => ?_) (fun hc13 => ?_)
          · have h := ifp hc13 h
            refine s_iconst dX10_areOwn_55 (cin rfl) ?_
            refine s_istore_n (ls' := [(2, vI 0), (0, vR o), (1, vI x1), (3, vI x3)]) dX10_areOwn_56 rfl (Nat.le_of_ble_eq_true rfl) rfl ?_
            refine s_iinc (j := 3) dX10_areOwn_57 rfl (Nat.le_of_ble_eq_true rfl) rfl ?_
            refine s_goto (tgt := 8) dX10_areOwn_60 rfl ?_
            exact s_sub (ks := [2, 3, 1, 0]) rfl (ih o x1 0 (xw (x3 + 1)) _ ho h hq)
          · have h := ifn hc13 h
            refine s_iconst dX10_areOwn_51 (cin rfl) ?_
            refine s_goto (tgt := 56) dX10_areOwn_52 rfl ?_
            refine s_istore_n (ls' := [(2, vI 1), (0, vR o), (1, vI x1), (3, vI x3)]) dX10_areOwn_56 rfl (Nat.le_of_ble_eq_true rfl) rfl ?_
            refine s_iinc (j := 3) dX10_areOwn_57 rfl (Nat.le_of_ble_eq_true rfl) rfl ?_
            refine s_goto (tgt := 8) dX10_areOwn_60 rfl ?_
            exact s_sub (ks := [2, 3, 1, 0]) rfl (ih o x1 1 (xw (x3 + 1)) _ ho h hq)
theorem fX10_areOwn_ok {Qr : Option PV → Mem → Prop} : ∀ (o : Nat) (x1 : Int) (F : Mem) (res : Int) (ho : isK o 10), fX10_areOwn o x1 F = some res → Qr (some (vI res)) F → PR cX10_areOwn (zX10_areOwn Qr) 0 [(0, vR o), (1, vI x1)] [] F := by
  intro o x1 F res ho h hq
  refine s_iconst dX10_areOwn_0 (cin rfl) ?_
  refine s_istore_n (ls' := [(2, vI 1), (0, vR o), (1, vI x1)]) dX10_areOwn_1 rfl (Nat.le_of_ble_eq_true rfl) rfl ?_
  refine s_aload_n (j := 1) dX10_areOwn_2 rfl rfl ?_
  refine s_iload_n (j := 2) dX10_areOwn_3 rfl rfl ?_
  obtain ⟨r1, hv2, h⟩ := bnd h
  refine s_callV (As := [vI x1]) (rest := []) (r := (some (vI r1))) (F' := F) dX10_areOwn_4 (clX10_246 (Nat.le_of_ble_eq_true rfl) (Nat.le_of_ble_eq_true rfl)) ho rfl ⟨_, _, _, rfl, ho, hv2, rfl, rfl⟩ rfl (Nat.le_of_ble_eq_true rfl) ?_
  refine s_istore_n dX10_areOwn_7 rfl (Nat.le_of_ble_eq_true rfl) rfl ?_
  exact s_sub (ks := [2, 3, 1, 0]) rfl (fX10_areOwn_b8_ok F FU o x1 1 r1 _ ho h hq)
def gX10_areOwn : XG := fun As F r F' => ∃ o : Nat, ∃ x1 : Int, ∃ res : Int, As = [vR o, vI x1] ∧ isK o 10 ∧ fX10_areOwn o x1 F = some res ∧ r = some (vI res) ∧ F' = F
theorem ctX10_areOwn : xCT yX10_areOwn cX10_areOwn 4 (some FieldType.boolean) 2 43 gX10_areOwn := xmet (by decide +kernel) (fun As F r F' hg => by obtain ⟨o, x1, res, rfl, ho, h, rfl, rfl⟩ := hg; exact Nat.le_of_ble_eq_true rfl) (fun As F r F' hg => by obtain ⟨o, x1, res, rfl, ho, h, rfl, rfl⟩ := hg; exact fX10_areOwn_ok o x1 _ _ ho h ⟨rfl, rfl⟩)
theorem mcX10_areOwn : Cond.code yX10_areOwn cX10_areOwn 4 (some FieldType.boolean) ∈ xw_T ∧ Cond.initialized yX10_areOwn.cls ∈ xw_T ∧ Cond.instanceMethod yX10_areOwn ∈ xw_T ∧ Cond.selects yX10_areOwn.cls yX10_areOwn yX10_areOwn ∈ xw_T := ⟨(xinT 1712 (by decide +kernel) (by decide +kernel)), (xinT 127 (by decide +kernel) (by decide +kernel)), (xinT 1711 (by decide +kernel) (by decide +kernel)), (xinT 79 (by decide +kernel) (by decide +kernel))⟩
theorem clX10_255 {fr lo : Nat} (h1 : 2 + 1 ≤ fr) (h2 : 8 + (4 + 11) + 43 ≤ lo) : xCall RX10 fr lo 0 255 10 1 gX10_areOwn := ⟨_, _, _, _, _, _, ctX10_areOwn, h1, h2, mcX10_areOwn.1, (xinT 1709 (by decide +kernel) (by decide +kernel)), mcX10_areOwn.2.1, ⟨by decide +kernel, by decide +kernel, by decide +kernel⟩, by rw [if_pos rfl]; exact ⟨mcX10_areOwn.2.2.1, mcX10_areOwn.2.2.2, _, _, rfl⟩⟩
theorem dX10_areFree_0 : decode cX10_areFree 0 = .ok (.iconst 1, 1) := by decide +kernel
theorem dX10_areFree_1 : decode cX10_areFree 1 = .ok (.istore_n 2, 1) := by decide +kernel
theorem dX10_areFree_2 : decode cX10_areFree 2 = .ok (.aload_n 0, 1) := by decide +kernel
theorem dX10_areFree_3 : decode cX10_areFree 3 = .ok (.iload_n 1, 1) := by decide +kernel
theorem dX10_areFree_4 : decode cX10_areFree 4 = .ok (.invokevirtual 246, 3) := by decide +kernel
theorem dX10_areFree_7 : decode cX10_areFree 7 = .ok (.istore_n 3, 1) := by decide +kernel
theorem dX10_areFree_8 : decode cX10_areFree 8 = .ok (.iload_n 3, 1) := by decide +kernel
theorem dX10_areFree_9 : decode cX10_areFree 9 = .ok (.aload_n 0, 1) := by decide +kernel
theorem dX10_areFree_10 : decode cX10_areFree 10 = .ok (.iload_n 1, 1) := by decide +kernel
theorem dX10_areFree_11 : decode cX10_areFree 11 = .ok (.invokevirtual 249, 3) := by decide +kernel
theorem dX10_areFree_14 : decode cX10_areFree 14 = .ok (.if_icmp .ge 29, 3) := by decide +kernel
theorem dX10_areFree_17 : decode cX10_areFree 17 = .ok (.iload_n 2, 1) := by decide +kernel
theorem dX10_areFree_18 : decode cX10_areFree 18 = .ok (.ifCond .eq 17, 3) := by decide +kernel
theorem dX10_areFree_21 : decode cX10_areFree 21 = .ok (.aload_n 0, 1) := by decide +kernel
theorem dX10_areFree_22 : decode cX10_areFree 22 = .ok (.getfield 30, 3) := by decide +kernel
theorem dX10_areFree_25 : decode cX10_areFree 25 = .ok (.iload_n 3, 1) := by decide +kernel
theorem dX10_areFree_26 : decode cX10_areFree 26 = .ok (.iaload, 1) := by decide +kernel
theorem dX10_areFree_27 : decode cX10_areFree 27 = .ok (.iconst (-1), 1) := by decide +kernel
theorem dX10_areFree_28 : decode cX10_areFree 28 = .ok (.if_icmp .ne 7, 3) := by decide +kernel
theorem dX10_areFree_31 : decode cX10_areFree 31 = .ok (.iconst 1, 1) := by decide +kernel
theorem dX10_areFree_32 : decode cX10_areFree 32 = .ok (.goto 4, 3) := by decide +kernel
theorem dX10_areFree_35 : decode cX10_areFree 35 = .ok (.iconst 0, 1) := by decide +kernel
theorem dX10_areFree_36 : decode cX10_areFree 36 = .ok (.istore_n 2, 1) := by decide +kernel
theorem dX10_areFree_37 : decode cX10_areFree 37 = .ok (.iinc 3 1, 3) := by decide +kernel
theorem dX10_areFree_40 : decode cX10_areFree 40 = .ok (.goto (-32), 3) := by decide +kernel
theorem dX10_areFree_43 : decode cX10_areFree 43 = .ok (.iload_n 2, 1) := by decide +kernel
theorem dX10_areFree_44 : decode cX10_areFree 44 = .ok (.ireturn, 1) := by decide +kernel
def zX10_areFree (Qr : Option PV → Mem → Prop) : XZ := (RX10, 2, 43, 4, some FieldType.boolean, Qr)
noncomputable def fX10_areFree_b8 (F : Mem) : Nat → Nat → Int → Int → Int → Option Int
  | 0, _, _, _, _ => none
  | n + 1, o, x1, x2, x3 =>
    (fX10_toOf o x1 F).bind fun r1 =>
    if r1 ≤ x3 then
      if x2 = 0 ∨ x2 = 1 then
        some x2
      else none
    else
      if x2 = 0 then
        fX10_areFree_b8 F n o x1 0 (xw (x3 + 1))
      else
        if (0 : Int) ≤ x3 ∧ x3 < (alen (o + 5) : Int) then
          if (F (o + 5) x3.toNat) ≠ (-1) then
            fX10_areFree_b8 F n o x1 0 (xw (x3 + 1))
          else
            fX10_areFree_b8 F n o x1 1 (xw (x3 + 1))
        else none
noncomputable def fX10_areFree (o : Nat) (x1 : Int) (F : Mem) : Option Int :=
  (fX10_fromOf o x1 F).bind fun r1 =>
  fX10_areFree_b8 F FU o x1 1 r1
theorem fX10_areFree_b8_ok {Qr : Option PV → Mem → Prop}  (F : Mem) : ∀ (n : Nat) (o : Nat) (x1 : Int) (x2 : Int) (x3 : Int) (res : Int) (ho : isK o 10), fX10_areFree_b8 F n o x1 x2 x3 = some res → Qr (some (vI res)) F → PR cX10_areFree (zX10_areFree Qr) 8 [(0, vR o), (1, vI x1), (2, vI x2), (3, vI x3)] [] F := by
  intro n
  induction n with
  | zero => intro o x1 x2 x3 res ho h hq; exact nomatch (show (none : Option _) = some _ from h)
  | succ n ih =>
    intro o x1 x2 x3 res ho h hq
    refine s_iload_n (j := 3) dX10_areFree_8 rfl rfl ?_
    refine s_aload_n (j := 0) dX10_areFree_9 rfl rfl ?_
    refine s_iload_n (j := 1) dX10_areFree_10 rfl rfl ?_
    obtain ⟨r1, hv2, h⟩ := bnd h
    refine s_callV (As := [vI x1]) (rest := [vI x3]) (r := (some (vI r1))) (F' := F) dX10_areFree_11 (clX10_249 (Nat.le_of_ble_eq_true rfl) (Nat.le_of_ble_eq_true rfl)) ho rfl ⟨_, _, _, rfl, ho, hv2, rfl, rfl⟩ rfl (Nat.le_of_ble_eq_true rfl) ?_
    refine s_icmp_ge (tgt := 43) dX10_areFree_14 rfl (fun hc3 => ?_) (fun hc3 => ?_)
    · have h := ifp hc3 h
      refine s_iload_n (j := 2) dX10_areFree_43 rfl rfl ?_
      obtain ⟨hb4, h⟩ := gd h
      have h := Option.some.inj h
      subst h
      exact s_zreturn dX10_areFree_44 rfl hb4 hq
    · have h := ifn hc3 h
      refine s_iload_n (j := 2) dX10_areFree_17 rfl rfl ?_
      refine s_if_eq (tgt := 35) dX10_areFree_18 rfl (fun hc5 => ?_) (fun hc5 => ?_)
      · have h := ifp hc5 h
        refine s_iconst dX10_areFree_35 (cin rfl) ?_
        refine s_istore_n (ls' := [(2, vI 0), (0, vR o), (1, vI x1), (3, vI x3)]) dX10_areFree_36 rfl (Nat.le_of_ble_eq_true rfl) rfl ?_
        refine s_iinc (j := 3) dX10_areFree_37 rfl (Nat.le_of_ble_eq_true rfl) rfl ?_
        refine s_goto (tgt := 8) dX10_areFree_40 rfl ?_
        exact s_sub (ks := [2, 3, 1, 0]) rfl (ih o x1 0 (xw (x3 + 1)) _ ho h hq)
      · have h := ifn hc5 h
        refine s_aload_n (j := 0) dX10_areFree_21 rfl rfl ?_
        refine s_getR dX10_areFree_22 flX10_30 ho ?_
        refine s_iload_n (j := 3) dX10_areFree_25 rfl rfl ?_
        obtain ⟨hb6, h⟩ := gd h
        refine s_iaload dX10_areFree_26 (trX10_17 ho) hb6.1 hb6.2 ?_
        refine s_iconst dX10_areFree_27 (cin rfl) ?_
        refine s_icmp_ne (tgt := 35) dX10_areFree_28 rfl (fun hc7 => ?_) (fun hc7 => ?_)
        · have h := ifp hc7 h
          refine s_iconst dX10_areFree_35 (cin rfl) ?_
          refine s_istore_n (ls' := [(2, vI 0), (0, vR o), (1, vI x1), (3, vI x3)]) dX10_areFree_36 rfl (Nat.le_of_ble_eq_true rfl) rfl ?_
          refine s_iinc (j := 3) dX10_areFree_37 rfl (Nat.le_of_ble_eq_true rfl) rfl ?_
          refine s_goto (tgt := 8) dX10_areFree_40 rfl ?_
          exact s_sub (ks := [2, 3, 1, 0]) rfl (ih o x1 0 (xw (x3 + 1)) _ ho h hq)
        · have h := ifn hc7 h
          refine s_iconst dX10_areFree_31 (cin rfl) ?_
          refine s_goto (tgt := 36) dX10_areFree_32 rfl ?_
          refine s_istore_n (ls' := [(2, vI 1), (0, vR o), (1, vI x1), (3, vI x3)]) dX10_areFree_36 rfl (Nat.le_of_ble_eq_true rfl) rfl ?_
          refine s_iinc (j := 3) dX10_areFree_37 rfl (Nat.le_of_ble_eq_true rfl) rfl ?_
          refine s_goto (tgt := 8) dX10_areFree_40 rfl ?_
          exact s_sub (ks := [2, 3, 1, 0]) rfl (ih o x1 1 (xw (x3 + 1)) _ ho h hq)
theorem fX10_areFree_ok {Qr : Option PV → Mem → Prop} : ∀ (o : Nat) (x1 : Int) (F : Mem) (res : Int) (ho : isK o 10), fX10_areFree o x1 F = some res → Qr (some (vI res)) F → PR cX10_areFree (zX10_areFree Qr) 0 [(0, vR o), (1, vI x1)] [] F := by
  intro o x1 F res ho h hq
  refine s_iconst dX10_areFree_0 (cin rfl) ?_
  refine s_istore_n (ls' := [(2, vI 1), (0, vR o), (1, vI x1)]) dX10_areFree_1 rfl (Nat.le_of_ble_eq_true rfl) rfl ?_
  refine s_aload_n (j := 1) dX10_areFree_2 rfl rfl ?_
  refine s_iload_n (j := 2) dX10_areFree_3 rfl rfl ?_
  obtain ⟨r1, hv2, h⟩ := bnd h
  refine s_callV (As := [vI x1]) (rest := []) (r := (some (vI r1))) (F' := F) dX10_areFree_4 (clX10_246 (Nat.le_of_ble_eq_true rfl) (Nat.le_of_ble_eq_true rfl)) ho rfl ⟨_, _, _, rfl, ho, hv2, rfl, rfl⟩ rfl (Nat.le_of_ble_eq_true rfl) ?_
  refine s_istore_n dX10_areFree_7 rfl (Nat.le_of_ble_eq_true rfl) rfl ?_
  exact s_sub (ks := [2, 3, 1, 0]) rfl (fX10_areFree_b8_ok F FU o x1 1 r1 _ ho h hq)
def gX10_areFree : XG := fun As F r F' => ∃ o : Nat, ∃ x1 : Int, ∃ res : Int, As = [vR o, vI x1] ∧ isK o 10 ∧ fX10_areFree o x1 F = some res ∧ r = some (vI res) ∧ F' = F
theorem ctX10_areFree : xCT yX10_areFree cX10_areFree 4 (some FieldType.boolean) 2 43 gX10_areFree := xmet (by decide +kernel) (fun As F r F' hg => by obtain ⟨o, x1, res, rfl, ho, h, rfl, rfl⟩ := hg; exact Nat.le_of_ble_eq_true rfl) (fun As F r F' hg => by obtain ⟨o, x1, res, rfl, ho, h, rfl, rfl⟩ := hg; exact fX10_areFree_ok o x1 _ _ ho h ⟨rfl, rfl⟩)
theorem mcX10_areFree : Cond.code yX10_areFree cX10_areFree 4 (some FieldType.boolean) ∈ xw_T ∧ Cond.initialized yX10_areFree.cls ∈ xw_T ∧ Cond.instanceMethod yX10_areFree ∈ xw_T ∧ Cond.selects yX10_areFree.cls yX10_areFree yX10_areFree ∈ xw_T := ⟨(xinT 1700 (by decide +kernel) (by decide +kernel)), (xinT 127 (by decide +kernel) (by decide +kernel)), (xinT 1699 (by decide +kernel) (by decide +kernel)), (xinT 76 (by decide +kernel) (by decide +kernel))⟩
theorem clX10_252 {fr lo : Nat} (h1 : 2 + 1 ≤ fr) (h2 : 8 + (4 + 11) + 43 ≤ lo) : xCall RX10 fr lo 0 252 10 1 gX10_areFree := ⟨_, _, _, _, _, _, ctX10_areFree, h1, h2, mcX10_areFree.1, (xinT 1697 (by decide +kernel) (by decide +kernel)), mcX10_areFree.2.1, ⟨by decide +kernel, by decide +kernel, by decide +kernel⟩, by rw [if_pos rfl]; exact ⟨mcX10_areFree.2.2.1, mcX10_areFree.2.2.2, _, _, rfl⟩⟩
theorem dX10_can_0 : decode cX10_can 0 = .ok (.aload_n 0, 1) := by decide +kernel
theorem dX10_can_1 : decode cX10_can 1 = .ok (.iload_n 1, 1) := by decide +kernel
theorem dX10_can_2 : decode cX10_can 2 = .ok (.iconst 0, 1) := by decide +kernel
theorem dX10_can_3 : decode cX10_can 3 = .ok (.invokevirtual 243, 3) := by decide +kernel
theorem dX10_can_6 : decode cX10_can 6 = .ok (.istore_n 2, 1) := by decide +kernel
theorem dX10_can_7 : decode cX10_can 7 = .ok (.aload_n 0, 1) := by decide +kernel
theorem dX10_can_8 : decode cX10_can 8 = .ok (.iload_n 1, 1) := by decide +kernel
theorem dX10_can_9 : decode cX10_can 9 = .ok (.iconst 1, 1) := by decide +kernel
theorem dX10_can_10 : decode cX10_can 10 = .ok (.invokevirtual 243, 3) := by decide +kernel
theorem dX10_can_13 : decode cX10_can 13 = .ok (.istore_n 3, 1) := by decide +kernel
theorem dX10_can_14 : decode cX10_can 14 = .ok (.iload_n 2, 1) := by decide +kernel
theorem dX10_can_15 : decode cX10_can 15 = .ok (.iconst 3, 1) := by decide +kernel
theorem dX10_can_16 : decode cX10_can 16 = .ok (.if_icmp .ne 33, 3) := by decide +kernel
theorem dX10_can_19 : decode cX10_can 19 = .ok (.iload_n 3, 1) := by decide +kernel
theorem dX10_can_20 : decode cX10_can 20 = .ok (.iload_n 1, 1) := by decide +kernel
theorem dX10_can_21 : decode cX10_can 21 = .ok (.if_icmp .ge 26, 3) := by decide +kernel
theorem dX10_can_24 : decode cX10_can 24 = .ok (.aload_n 0, 1) := by decide +kernel
theorem dX10_can_25 : decode cX10_can 25 = .ok (.iload_n 3, 1) := by decide +kernel
theorem dX10_can_26 : decode cX10_can 26 = .ok (.iconst 0, 1) := by decide +kernel
theorem dX10_can_27 : decode cX10_can 27 = .ok (.invokevirtual 243, 3) := by decide +kernel
theorem dX10_can_30 : decode cX10_can 30 = .ok (.iconst 2, 1) := by decide +kernel
theorem dX10_can_31 : decode cX10_can 31 = .ok (.if_icmp .ne 16, 3) := by decide +kernel
theorem dX10_can_34 : decode cX10_can 34 = .ok (.aload_n 0, 1) := by decide +kernel
theorem dX10_can_35 : decode cX10_can 35 = .ok (.getfield 42, 3) := by decide +kernel
theorem dX10_can_38 : decode cX10_can 38 = .ok (.iload_n 3, 1) := by decide +kernel
theorem dX10_can_39 : decode cX10_can 39 = .ok (.baload, 1) := by decide +kernel
theorem dX10_can_40 : decode cX10_can 40 = .ok (.ifCond .ne 7, 3) := by decide +kernel
theorem dX10_can_43 : decode cX10_can 43 = .ok (.iconst 1, 1) := by decide +kernel
theorem dX10_can_44 : decode cX10_can 44 = .ok (.goto 4, 3) := by decide +kernel
theorem dX10_can_47 : decode cX10_can 47 = .ok (.iconst 0, 1) := by decide +kernel
theorem dX10_can_48 : decode cX10_can 48 = .ok (.ireturn, 1) := by decide +kernel
theorem dX10_can_49 : decode cX10_can 49 = .ok (.aload_n 0, 1) := by decide +kernel
theorem dX10_can_50 : decode cX10_can 50 = .ok (.getfield 39, 3) := by decide +kernel
theorem dX10_can_53 : decode cX10_can 53 = .ok (.iload_n 3, 1) := by decide +kernel
theorem dX10_can_54 : decode cX10_can 54 = .ok (.baload, 1) := by decide +kernel
theorem dX10_can_55 : decode cX10_can 55 = .ok (.ifCond .ne 32, 3) := by decide +kernel
theorem dX10_can_58 : decode cX10_can 58 = .ok (.iload_n 2, 1) := by decide +kernel
theorem dX10_can_59 : decode cX10_can 59 = .ok (.iconst 1, 1) := by decide +kernel
theorem dX10_can_60 : decode cX10_can 60 = .ok (.if_icmp .eq 13, 3) := by decide +kernel
theorem dX10_can_63 : decode cX10_can 63 = .ok (.iload_n 2, 1) := by decide +kernel
theorem dX10_can_64 : decode cX10_can 64 = .ok (.iconst 2, 1) := by decide +kernel
theorem dX10_can_65 : decode cX10_can 65 = .ok (.if_icmp .eq 8, 3) := by decide +kernel
theorem dX10_can_68 : decode cX10_can 68 = .ok (.iload_n 2, 1) := by decide +kernel
theorem dX10_can_69 : decode cX10_can 69 = .ok (.iconst 4, 1) := by decide +kernel
theorem dX10_can_70 : decode cX10_can 70 = .ok (.if_icmp .ne 19, 3) := by decide +kernel
theorem dX10_can_73 : decode cX10_can 73 = .ok (.aload_n 0, 1) := by decide +kernel
theorem dX10_can_74 : decode cX10_can 74 = .ok (.getfield 39, 3) := by decide +kernel
theorem dX10_can_77 : decode cX10_can 77 = .ok (.aload_n 0, 1) := by decide +kernel
theorem dX10_can_78 : decode cX10_can 78 = .ok (.iload_n 1, 1) := by decide +kernel
theorem dX10_can_79 : decode cX10_can 79 = .ok (.iconst 2, 1) := by decide +kernel
theorem dX10_can_80 : decode cX10_can 80 = .ok (.invokevirtual 243, 3) := by decide +kernel
theorem dX10_can_83 : decode cX10_can 83 = .ok (.baload, 1) := by decide +kernel
theorem dX10_can_84 : decode cX10_can 84 = .ok (.ifCond .eq 5, 3) := by decide +kernel
theorem dX10_can_87 : decode cX10_can 87 = .ok (.iconst 0, 1) := by decide +kernel
theorem dX10_can_88 : decode cX10_can 88 = .ok (.ireturn, 1) := by decide +kernel
theorem dX10_can_89 : decode cX10_can 89 = .ok (.iload_n 2, 1) := by decide +kernel
theorem dX10_can_90 : decode cX10_can 90 = .ok (.ifCond .ne 11, 3) := by decide +kernel
theorem dX10_can_93 : decode cX10_can 93 = .ok (.aload_n 0, 1) := by decide +kernel
theorem dX10_can_94 : decode cX10_can 94 = .ok (.iload_n 1, 1) := by decide +kernel
theorem dX10_can_95 : decode cX10_can 95 = .ok (.invokevirtual 252, 3) := by decide +kernel
theorem dX10_can_98 : decode cX10_can 98 = .ok (.goto 21, 3) := by decide +kernel
theorem dX10_can_101 : decode cX10_can 101 = .ok (.iload_n 2, 1) := by decide +kernel
theorem dX10_can_102 : decode cX10_can 102 = .ok (.iconst 2, 1) := by decide +kernel
theorem dX10_can_103 : decode cX10_can 103 = .ok (.if_icmp .gt 11, 3) := by decide +kernel
theorem dX10_can_106 : decode cX10_can 106 = .ok (.aload_n 0, 1) := by decide +kernel
theorem dX10_can_107 : decode cX10_can 107 = .ok (.iload_n 1, 1) := by decide +kernel
theorem dX10_can_108 : decode cX10_can 108 = .ok (.invokevirtual 255, 3) := by decide +kernel
theorem dX10_can_111 : decode cX10_can 111 = .ok (.ifCond .eq 7, 3) := by decide +kernel
theorem dX10_can_114 : decode cX10_can 114 = .ok (.iconst 1, 1) := by decide +kernel
theorem dX10_can_115 : decode cX10_can 115 = .ok (.goto 4, 3) := by decide +kernel
theorem dX10_can_118 : decode cX10_can 118 = .ok (.iconst 0, 1) := by decide +kernel
theorem dX10_can_119 : decode cX10_can 119 = .ok (.ireturn, 1) := by decide +kernel
def zX10_can (Qr : Option PV → Mem → Prop) : XZ := (RX10, 3, 66, 4, some FieldType.boolean, Qr)
noncomputable def fX10_can_b89 (F : Mem) (o : Nat) (x1 : Int) (x2 : Int) : Option Int :=
  if x2 ≠ 0 then
    if 2 < x2 then
      some 1
    else
      (fX10_areOwn o x1 F).bind fun r3 =>
      if r3 = 0 then
        some 0
      else
        some 1
  else
    (fX10_areFree o x1 F).bind fun r6 =>
    if r6 = 0 ∨ r6 = 1 then
      some r6
    else none
noncomputable def fX10_can_b73 (F : Mem) (o : Nat) (x1 : Int) (x2 : Int) : Option Int :=
  (fX10_deedOf o x1 2 F).bind fun r1 =>
  if (0 : Int) ≤ r1 ∧ r1 < (alen (o + 8) : Int) then
    if (F (o + 8) r1.toNat) = 0 then
      fX10_can_b89 F o x1 x2
    else
      some 0
  else none
noncomputable def fX10_can (o : Nat) (x1 : Int) (F : Mem) : Option Int :=
  (fX10_deedOf o x1 0 F).bind fun r1 =>
  (fX10_deedOf o x1 1 F).bind fun r3 =>
  if r1 ≠ 3 then
    if (0 : Int) ≤ r3 ∧ r3 < (alen (o + 8) : Int) then
      if (F (o + 8) r3.toNat) ≠ 0 then
        some 0
      else
        if r1 = 1 then
          fX10_can_b73 F o x1 r1
        else
          if r1 = 2 then
            fX10_can_b73 F o x1 r1
          else
            if r1 ≠ 4 then
              fX10_can_b89 F o x1 r1
            else
              fX10_can_b73 F o x1 r1
    else none
  else
    if x1 ≤ r3 then
      some 0
    else
      (fX10_deedOf o r3 0 F).bind fun r12 =>
      if r12 ≠ 2 then
        some 0
      else
        if (0 : Int) ≤ r3 ∧ r3 < (alen (o + 9) : Int) then
          if (F (o + 9) r3.toNat) ≠ 0 then
            some 0
          else
            some 1
        else none
theorem fX10_can_b89_ok {Qr : Option PV → Mem → Prop}  (F : Mem) : ∀ (o : Nat) (x1 : Int) (x2 : Int) (res : Int) (ho : isK o 10), fX10_can_b89 F o x1 x2 = some res → Qr (some (vI res)) F → PR cX10_can (zX10_can Qr) 89 [(0, vR o), (1, vI x1), (2, vI x2)] [] F := by
  intro o x1 x2 res ho h hq
  refine s_iload_n (j := 2) dX10_can_89 rfl rfl ?_
  refine s_if_ne (tgt := 101) dX10_can_90 rfl (fun hc1 => ?_) (fun hc1 => ?_)
  · have h := ifp hc1 h
    refine s_iload_n (j := 2) dX10_can_101 rfl rfl ?_
    refine s_iconst dX10_can_102 (cin rfl) ?_
    refine s_icmp_gt (tgt := 114) dX10_can_103 rfl (fun hc2 => ?_) (fun hc2 => ?_)
    · have h := ifp hc2 h
      refine s_iconst dX10_can_114 (cin rfl) ?_
      refine s_goto (tgt := 119) dX10_can_115 rfl ?_
      have h := Option.some.inj h
      subst h
      exact s_zreturn dX10_can_119 rfl (Or.inr rfl) hq
    · have h := ifn hc2 h
      refine s_aload_n (j := 0) dX10_can_106 rfl rfl ?_
      refine s_iload_n (j := 1) dX10_can_107 rfl rfl ?_
      obtain ⟨r3, hv4, h⟩ := bnd h
      refine s_callV (As := [vI x1]) (rest := []) (r := (some (vI r3))) (F' := F) dX10_can_108 (clX10_255 (Nat.le_of_ble_eq_true rfl) (Nat.le_of_ble_eq_true rfl)) ho rfl ⟨_, _, _, rfl, ho, hv4, rfl, rfl⟩ rfl (Nat.le_of_ble_eq_true rfl) ?_
      refine s_if_eq (tgt := 118) dX10_can_111 rfl (fun hc5 => ?_) (fun hc5 => ?_)
      · have h := ifp hc5 h
        refine s_iconst dX10_can_118 (cin rfl) ?_
        have h := Option.some.inj h
        subst h
        exact s_zreturn dX10_can_119 rfl (Or.inl rfl) hq
      · have h := ifn hc5 h
        refine s_iconst dX10_can_114 (cin rfl) ?_
        refine s_goto (tgt := 119) dX10_can_115 rfl ?_
        have h := Option.some.inj h
        subst h
        exact s_zreturn dX10_can_119 rfl (Or.inr rfl) hq
  · have h := ifn hc1 h
    refine s_aload_n (j := 0) dX10_can_93 rfl rfl ?_
    refine s_iload_n (j := 1) dX10_can_94 rfl rfl ?_
    obtain ⟨r6, hv7, h⟩ := bnd h
    refine s_callV (As := [vI x1]) (rest := []) (r := (some (vI r6))) (F' := F) dX10_can_95 (clX10_252 (Nat.le_of_ble_eq_true rfl) (Nat.le_of_ble_eq_true rfl)) ho rfl ⟨_, _, _, rfl, ho, hv7, rfl, rfl⟩ rfl (Nat.le_of_ble_eq_true rfl) ?_
    refine s_goto (tgt := 119) dX10_can_98 rfl ?_
    obtain ⟨hb8, h⟩ := gd h
    have h := Option.some.inj h
    subst h
    exact s_zreturn dX10_can_119 rfl hb8 hq
theorem fX10_can_b73_ok {Qr : Option PV → Mem → Prop}  (F : Mem) : ∀ (o : Nat) (x1 : Int) (x2 : Int) (res : Int) (ho : isK o 10), fX10_can_b73 F o x1 x2 = some res → Qr (some (vI res)) F → PR cX10_can (zX10_can Qr) 73 [(0, vR o), (1, vI x1), (2, vI x2)] [] F := by
  intro o x1 x2 res ho h hq
  refine s_aload_n (j := 0) dX10_can_73 rfl rfl ?_
  refine s_getR dX10_can_74 flX10_39 ho ?_
  refine s_aload_n (j := 0) dX10_can_77 rfl rfl ?_
  refine s_iload_n (j := 1) dX10_can_78 rfl rfl ?_
  refine s_iconst dX10_can_79 (cin rfl) ?_
  obtain ⟨r1, hv2, h⟩ := bnd h
  refine s_callV (As := [vI x1, vI 2]) (rest := [vR (o + 8)]) (r := (some (vI r1))) (F' := F) dX10_can_80 (clX10_243 (Nat.le_of_ble_eq_true rfl) (Nat.le_of_ble_eq_true rfl)) ho rfl ⟨_, _, _, _, rfl, ho, hv2, rfl, rfl⟩ rfl (Nat.le_of_ble_eq_true rfl) ?_
  obtain ⟨hb3, h⟩ := gd h
  refine s_zaload dX10_can_83 (trX10_20 ho) hb3.1 hb3.2 ?_
  refine s_if_eq (tgt := 89) dX10_can_84 rfl (fun hc4 => ?_) (fun hc4 => ?_)
  · have h := ifp hc4 h
    exact s_sub (ks := [0, 1, 2]) rfl (fX10_can_b89_ok F o x1 x2 _ ho h hq)
  · have h := ifn hc4 h
    refine s_iconst dX10_can_87 (cin rfl) ?_
    have h := Option.some.inj h
    subst h
    exact s_zreturn dX10_can_88 rfl (Or.inl rfl) hq
theorem fX10_can_ok {Qr : Option PV → Mem → Prop} : ∀ (o : Nat) (x1 : Int) (F : Mem) (res : Int) (ho : isK o 10), fX10_can o x1 F = some res → Qr (some (vI res)) F → PR cX10_can (zX10_can Qr) 0 [(0, vR o), (1, vI x1)] [] F := by
  intro o x1 F res ho h hq
  refine s_aload_n (j := 0) dX10_can_0 rfl rfl ?_
  refine s_iload_n (j := 1) dX10_can_1 rfl rfl ?_
  refine s_iconst dX10_can_2 (cin rfl) ?_
  obtain ⟨r1, hv2, h⟩ := bnd h
  refine s_callV (As := [vI x1, vI 0]) (rest := []) (r := (some (vI r1))) (F' := F) dX10_can_3 (clX10_243 (Nat.le_of_ble_eq_true rfl) (Nat.le_of_ble_eq_true rfl)) ho rfl ⟨_, _, _, _, rfl, ho, hv2, rfl, rfl⟩ rfl (Nat.le_of_ble_eq_true rfl) ?_
  refine s_istore_n (ls' := [(2, vI r1), (0, vR o), (1, vI x1)]) dX10_can_6 rfl (Nat.le_of_ble_eq_true rfl) rfl ?_
  refine s_aload_n (j := 1) dX10_can_7 rfl rfl ?_
  refine s_iload_n (j := 2) dX10_can_8 rfl rfl ?_
  refine s_iconst dX10_can_9 (cin rfl) ?_
  obtain ⟨r3, hv4, h⟩ := bnd h
  refine s_callV (As := [vI x1, vI 1]) (rest := []) (r := (some (vI r3))) (F' := F) dX10_can_10 (clX10_243 (Nat.le_of_ble_eq_true rfl) (Nat.le_of_ble_eq_true rfl)) ho rfl ⟨_, _, _, _, rfl, ho, hv4, rfl, rfl⟩ rfl (Nat.le_of_ble_eq_true rfl) ?_
  refine s_istore_n dX10_can_13 rfl (Nat.le_of_ble_eq_true rfl) rfl ?_
  refine s_iload_n (j := 1) dX10_can_14 rfl rfl ?_
  refine s_iconst dX10_can_15 (cin rfl) ?_
  refine s_icmp_ne (tgt := 49) dX10_can_16 rfl (fun hc5 => ?_) (fun hc5 => ?_)
  · have h := ifp hc5 h
    refine s_aload_n (j := 2) dX10_can_49 rfl rfl ?_
    refine s_getR dX10_can_50 flX10_39 ho ?_
    refine s_iload_n (j := 0) dX10_can_53 rfl rfl ?_
    obtain ⟨hb6, h⟩ := gd h
    refine s_zaload dX10_can_54 (trX10_20 ho) hb6.1 hb6.2 ?_
    refine s_if_ne (tgt := 87) dX10_can_55 rfl (fun hc7 => ?_) (fun hc7 => ?_)
    · have h := ifp hc7 h
      refine s_iconst dX10_can_87 (cin rfl) ?_
      have h := Option.some.inj h
      subst h
      exact s_zreturn dX10_can_88 rfl (Or.inl rfl) hq
    · have h := ifn hc7 h
      refine s_iload_n (j := 1) dX10_can_58 rfl rfl ?_
      refine s_iconst dX10_can_59 (cin rfl) ?_
      refine s_icmp_eq (tgt := 73) dX10_can_60 rfl (fun hc8 => ?_) (fun hc8 => ?_)
      · have h := ifp hc8 h
        exact s_sub (ks := [2, 3, 1]) rfl (fX10_can_b73_ok F o x1 r1 _ ho h hq)
      · have h := ifn hc8 h
        refine s_iload_n (j := 1) dX10_can_63 rfl rfl ?_
        refine s_iconst dX10_can_64 (cin rfl) ?_
        refine s_icmp_eq (tgt := 73) dX10_can_65 rfl (fun hc9 => ?_) (fun hc9 => ?_)
        · have h := ifp hc9 h
          exact s_sub (ks := [2, 3, 1]) rfl (fX10_can_b73_ok F o x1 r1 _ ho h hq)
        · have h := ifn hc9 h
          refine s_iload_n (j := 1) dX10_can_68 rfl rfl ?_
          refine s_iconst dX10_can_69 (cin rfl) ?_
          refine s_icmp_ne (tgt := 89) dX10_can_70 rfl (fun hc10 => ?_) (fun hc10 => ?_)
          · have h := ifp hc10 h
            exact s_sub (ks := [2, 3, 1]) rfl (fX10_can_b89_ok F o x1 r1 _ ho h hq)
          · have h := ifn hc10 h
            exact s_sub (ks := [2, 3, 1]) rfl (fX10_can_b73_ok F o x1 r1 _ ho h hq)
  · have h := ifn hc5 h
    refine s_iload_n (j := 0) dX10_can_19 rfl rfl ?_
    refine s_iload_n (j := 3) dX10_can_20 rfl rfl ?_
    refine s_icmp_ge (tgt := 47) dX10_can_21 rfl (fun hc11 => ?_) (fun hc11 => ?_)
    · have h := ifp hc11 h
      refine s_iconst dX10_can_47 (cin rfl) ?_
      have h := Option.some.inj h
      subst h
      exact s_zreturn dX10_can_48 rfl (Or.inl rfl) hq
    · have h := ifn hc11 h
      refine s_aload_n (j := 2) dX10_can_24 rfl rfl ?_
      refine s_iload_n (j := 0) dX10_can_25 rfl rfl ?_
      refine s_iconst dX10_can_26 (cin rfl) ?_
      obtain ⟨r12, hv13, h⟩ := bnd h
      refine s_callV (As := [vI r3, vI 0]) (rest := []) (r := (some (vI r12))) (F' := F) dX10_can_27 (clX10_243 (Nat.le_of_ble_eq_true rfl) (Nat.le_of_ble_eq_true rfl)) ho rfl ⟨_, _, _, _, rfl, ho, hv13, rfl, rfl⟩ rfl (Nat.le_of_ble_eq_true rfl) ?_
      refine s_iconst dX10_can_30 (cin rfl) ?_
      refine s_icmp_ne (tgt := 47) dX10_can_31 rfl (fun hc14 => ?_) (fun hc14 => ?_)
      · have h := ifp hc14 h
        refine s_iconst dX10_can_47 (cin rfl) ?_
        have h := Option.some.inj h
        subst h
        exact s_zreturn dX10_can_48 rfl (Or.inl rfl) hq
      · have h := ifn hc14 h
        refine s_aload_n (j := 2) dX10_can_34 rfl rfl ?_
        refine s_getR dX10_can_35 flX10_42 ho ?_
        refine s_iload_n (j := 0) dX10_can_38 rfl rfl ?_
        obtain ⟨hb15, h⟩ := gd h
        refine s_zaload dX10_can_39 (trX10_21 ho) hb15.1 hb15.2 ?_
        refine s_if_ne (tgt := 47) dX10_can_40 rfl (fun hc16 => ?_) (fun hc16 => ?_)
        · have h := ifp hc16 h
          refine s_iconst dX10_can_47 (cin rfl) ?_
          have h := Option.some.inj h
          subst h
          exact s_zreturn dX10_can_48 rfl (Or.inl rfl) hq
        · have h := ifn hc16 h
          refine s_iconst dX10_can_43 (cin rfl) ?_
          refine s_goto (tgt := 48) dX10_can_44 rfl ?_
          have h := Option.some.inj h
          subst h
          exact s_zreturn dX10_can_48 rfl (Or.inr rfl) hq
def gX10_can : XG := fun As F r F' => ∃ o : Nat, ∃ x1 : Int, ∃ res : Int, As = [vR o, vI x1] ∧ isK o 10 ∧ fX10_can o x1 F = some res ∧ r = some (vI res) ∧ F' = F
theorem ctX10_can : xCT yX10_can cX10_can 4 (some FieldType.boolean) 3 66 gX10_can := xmet (by decide +kernel) (fun As F r F' hg => by obtain ⟨o, x1, res, rfl, ho, h, rfl, rfl⟩ := hg; exact Nat.le_of_ble_eq_true rfl) (fun As F r F' hg => by obtain ⟨o, x1, res, rfl, ho, h, rfl, rfl⟩ := hg; exact fX10_can_ok o x1 _ _ ho h ⟨rfl, rfl⟩)
theorem mcX10_can : Cond.code yX10_can cX10_can 4 (some FieldType.boolean) ∈ xw_T ∧ Cond.initialized yX10_can.cls ∈ xw_T ∧ Cond.instanceMethod yX10_can ∈ xw_T ∧ Cond.selects yX10_can.cls yX10_can yX10_can ∈ xw_T := ⟨(xinT 1692 (by decide +kernel) (by decide +kernel)), (xinT 127 (by decide +kernel) (by decide +kernel)), (xinT 1691 (by decide +kernel) (by decide +kernel)), (xinT 74 (by decide +kernel) (by decide +kernel))⟩
theorem clX10_267 {fr lo : Nat} (h1 : 3 + 1 ≤ fr) (h2 : 8 + (4 + 11) + 66 ≤ lo) : xCall RX10 fr lo 0 267 10 1 gX10_can := ⟨_, _, _, _, _, _, ctX10_can, h1, h2, mcX10_can.1, (xinT 1689 (by decide +kernel) (by decide +kernel)), mcX10_can.2.1, ⟨by decide +kernel, by decide +kernel, by decide +kernel⟩, by rw [if_pos rfl]; exact ⟨mcX10_can.2.2.1, mcX10_can.2.2.2, _, _, rfl⟩⟩
theorem dX10_heirOf_0 : decode cX10_heirOf 0 = .ok (.aload_n 0, 1) := by decide +kernel
theorem dX10_heirOf_1 : decode cX10_heirOf 1 = .ok (.getfield 36, 3) := by decide +kernel
theorem dX10_heirOf_4 : decode cX10_heirOf 4 = .ok (.iload_n 1, 1) := by decide +kernel
theorem dX10_heirOf_5 : decode cX10_heirOf 5 = .ok (.iaload, 1) := by decide +kernel
theorem dX10_heirOf_6 : decode cX10_heirOf 6 = .ok (.istore_n 2, 1) := by decide +kernel
theorem dX10_heirOf_7 : decode cX10_heirOf 7 = .ok (.iconst 0, 1) := by decide +kernel
theorem dX10_heirOf_8 : decode cX10_heirOf 8 = .ok (.istore_n 3, 1) := by decide +kernel
theorem dX10_heirOf_9 : decode cX10_heirOf 9 = .ok (.iload_n 3, 1) := by decide +kernel
theorem dX10_heirOf_10 : decode cX10_heirOf 10 = .ok (.bipush 8, 2) := by decide +kernel
theorem dX10_heirOf_12 : decode cX10_heirOf 12 = .ok (.if_icmp .ge 30, 3) := by decide +kernel
theorem dX10_heirOf_15 : decode cX10_heirOf 15 = .ok (.iload_n 2, 1) := by decide +kernel
theorem dX10_heirOf_16 : decode cX10_heirOf 16 = .ok (.iconst (-1), 1) := by decide +kernel
theorem dX10_heirOf_17 : decode cX10_heirOf 17 = .ok (.if_icmp .eq 25, 3) := by decide +kernel
theorem dX10_heirOf_20 : decode cX10_heirOf 20 = .ok (.aload_n 0, 1) := by decide +kernel
theorem dX10_heirOf_21 : decode cX10_heirOf 21 = .ok (.getfield 39, 3) := by decide +kernel
theorem dX10_heirOf_24 : decode cX10_heirOf 24 = .ok (.iload_n 2, 1) := by decide +kernel
theorem dX10_heirOf_25 : decode cX10_heirOf 25 = .ok (.baload, 1) := by decide +kernel
theorem dX10_heirOf_26 : decode cX10_heirOf 26 = .ok (.ifCond .eq 16, 3) := by decide +kernel
theorem dX10_heirOf_29 : decode cX10_heirOf 29 = .ok (.aload_n 0, 1) := by decide +kernel
theorem dX10_heirOf_30 : decode cX10_heirOf 30 = .ok (.getfield 36, 3) := by decide +kernel
theorem dX10_heirOf_33 : decode cX10_heirOf 33 = .ok (.iload_n 2, 1) := by decide +kernel
theorem dX10_heirOf_34 : decode cX10_heirOf 34 = .ok (.iaload, 1) := by decide +kernel
theorem dX10_heirOf_35 : decode cX10_heirOf 35 = .ok (.istore_n 2, 1) := by decide +kernel
theorem dX10_heirOf_36 : decode cX10_heirOf 36 = .ok (.iinc 3 1, 3) := by decide +kernel
theorem dX10_heirOf_39 : decode cX10_heirOf 39 = .ok (.goto (-30), 3) := by decide +kernel
theorem dX10_heirOf_42 : decode cX10_heirOf 42 = .ok (.iload_n 2, 1) := by decide +kernel
theorem dX10_heirOf_43 : decode cX10_heirOf 43 = .ok (.iconst (-1), 1) := by decide +kernel
theorem dX10_heirOf_44 : decode cX10_heirOf 44 = .ok (.if_icmp .eq 16, 3) := by decide +kernel
theorem dX10_heirOf_47 : decode cX10_heirOf 47 = .ok (.aload_n 0, 1) := by decide +kernel
theorem dX10_heirOf_48 : decode cX10_heirOf 48 = .ok (.getfield 39, 3) := by decide +kernel
theorem dX10_heirOf_51 : decode cX10_heirOf 51 = .ok (.iload_n 2, 1) := by decide +kernel
theorem dX10_heirOf_52 : decode cX10_heirOf 52 = .ok (.baload, 1) := by decide +kernel
theorem dX10_heirOf_53 : decode cX10_heirOf 53 = .ok (.ifCond .eq 7, 3) := by decide +kernel
theorem dX10_heirOf_56 : decode cX10_heirOf 56 = .ok (.iconst (-1), 1) := by decide +kernel
theorem dX10_heirOf_57 : decode cX10_heirOf 57 = .ok (.goto 4, 3) := by decide +kernel
theorem dX10_heirOf_60 : decode cX10_heirOf 60 = .ok (.iload_n 2, 1) := by decide +kernel
theorem dX10_heirOf_61 : decode cX10_heirOf 61 = .ok (.ireturn, 1) := by decide +kernel
def zX10_heirOf (Qr : Option PV → Mem → Prop) : XZ := (RX10, 0, 0, 4, some FieldType.int, Qr)
noncomputable def fX10_heirOf_b42 (F : Mem) (o : Nat) (x2 : Int) : Option Int :=
  if x2 = (-1) then
    some x2
  else
    if (0 : Int) ≤ x2 ∧ x2 < (alen (o + 8) : Int) then
      if (F (o + 8) x2.toNat) = 0 then
        some x2
      else
        some (-1)
    else none
noncomputable def fX10_heirOf_b9 (F : Mem) : Nat → Nat → Int → Int → Option Int
  | 0, _, _, _ => none
  | n + 1, o, x2, x3 =>
    if 8 ≤ x3 then
      fX10_heirOf_b42 F o x2
    else
      if x2 = (-1) then
        fX10_heirOf_b42 F o x2
      else
        if (0 : Int) ≤ x2 ∧ x2 < (alen (o + 8) : Int) then
          if (F (o + 8) x2.toNat) = 0 then
            fX10_heirOf_b42 F o x2
          else
            if (0 : Int) ≤ x2 ∧ x2 < (alen (o + 7) : Int) then
              fX10_heirOf_b9 F n o (F (o + 7) x2.toNat) (xw (x3 + 1))
            else none
        else none
noncomputable def fX10_heirOf (o : Nat) (x1 : Int) (F : Mem) : Option Int :=
  if (0 : Int) ≤ x1 ∧ x1 < (alen (o + 7) : Int) then
    fX10_heirOf_b9 F FU o (F (o + 7) x1.toNat) 0
  else none
theorem fX10_heirOf_b42_ok {Qr : Option PV → Mem → Prop}  (F : Mem) : ∀ (o : Nat) (x2 : Int) (res : Int) (ho : isK o 10), fX10_heirOf_b42 F o x2 = some res → Qr (some (vI res)) F → PR cX10_heirOf (zX10_heirOf Qr) 42 [(0, vR o), (2, vI x2)] [] F := by
  intro o x2 res ho h hq
  refine s_iload_n (j := 1) dX10_heirOf_42 rfl rfl ?_
  refine s_iconst dX10_heirOf_43 (cin rfl) ?_
  refine s_icmp_eq (tgt := 60) dX10_heirOf_44 rfl (fun hc1 => ?_) (fun hc1 => ?_)
  · have h := ifp hc1 h
    refine s_iload_n (j := 1) dX10_heirOf_60 rfl rfl ?_
    have h := Option.some.inj h
    subst h
    exact s_ireturn dX10_heirOf_61 rfl hq
  · have h := ifn hc1 h
    refine s_aload_n (j := 0) dX10_heirOf_47 rfl rfl ?_
    refine s_getR dX10_heirOf_48 flX10_39 ho ?_
    refine s_iload_n (j := 1) dX10_heirOf_51 rfl rfl ?_
    obtain ⟨hb2, h⟩ := gd h
    refine s_zaload dX10_heirOf_52 (trX10_20 ho) hb2.1 hb2.2 ?_
    refine s_if_eq (tgt := 60) dX10_heirOf_53 rfl (fun hc3 => ?_) (fun hc3 => ?_)
    · have h := ifp hc3 h
      refine s_iload_n (j := 1) dX10_heirOf_60 rfl rfl ?_
      have h := Option.some.inj h
      subst h
      exact s_ireturn dX10_heirOf_61 rfl hq
    · have h := ifn hc3 h
      refine s_iconst dX10_heirOf_56 (cin rfl) ?_
      refine s_goto (tgt := 61) dX10_heirOf_57 rfl ?_
      have h := Option.some.inj h
      subst h
      exact s_ireturn dX10_heirOf_61 rfl hq
theorem fX10_heirOf_b9_ok {Qr : Option PV → Mem → Prop}  (F : Mem) : ∀ (n : Nat) (o : Nat) (x2 : Int) (x3 : Int) (res : Int) (ho : isK o 10), fX10_heirOf_b9 F n o x2 x3 = some res → Qr (some (vI res)) F → PR cX10_heirOf (zX10_heirOf Qr) 9 [(0, vR o), (2, vI x2), (3, vI x3)] [] F := by
  intro n
  induction n with
  | zero => intro o x2 x3 res ho h hq; exact nomatch (show (none : Option _) = some _ from h)
  | succ n ih =>
    intro o x2 x3 res ho h hq
    refine s_iload_n (j := 2) dX10_heirOf_9 rfl rfl ?_
    refine s_bipush dX10_heirOf_10 rfl (cin rfl) ?_
    refine s_icmp_ge (tgt := 42) dX10_heirOf_12 rfl (fun hc1 => ?_) (fun hc1 => ?_)
    · have h := ifp hc1 h
      exact s_sub (ks := [0, 1]) rfl (fX10_heirOf_b42_ok F o x2 _ ho h hq)
    · have h := ifn hc1 h
      refine s_iload_n (j := 1) dX10_heirOf_15 rfl rfl ?_
      refine s_iconst dX10_heirOf_16 (cin rfl) ?_
      refine s_icmp_eq (tgt := 42) dX10_heirOf_17 rfl (fun hc2 => ?_) (fun hc2 => ?_)
      · have h := ifp hc2 h
        exact s_sub (ks := [0, 1]) rfl (fX10_heirOf_b42_ok F o x2 _ ho h hq)
      · have h := ifn hc2 h
        refine s_aload_n (j := 0) dX10_heirOf_20 rfl rfl ?_
        refine s_getR dX10_heirOf_21 flX10_39 ho ?_
        refine s_iload_n (j := 1) dX10_heirOf_24 rfl rfl ?_
        obtain ⟨hb3, h⟩ := gd h
        refine s_zaload dX10_heirOf_25 (trX10_20 ho) hb3.1 hb3.2 ?_
        refine s_if_eq (tgt := 42) dX10_heirOf_26 rfl (fun hc4 => ?_) (fun hc4 => ?_)
        · have h := ifp hc4 h
          exact s_sub (ks := [0, 1]) rfl (fX10_heirOf_b42_ok F o x2 _ ho h hq)
        · have h := ifn hc4 h
          refine s_aload_n (j := 0) dX10_heirOf_29 rfl rfl ?_
          refine s_getR dX10_heirOf_30 flX10_36 ho ?_
          refine s_iload_n (j := 1) dX10_heirOf_33 rfl rfl ?_
          obtain ⟨hb5, h⟩ := gd h
          refine s_iaload dX10_heirOf_34 (trX10_19 ho) hb5.1 hb5.2 ?_
          refine s_istore_n (ls' := [(2, vI (F (o + 7) x2.toNat)), (0, vR o), (3, vI x3)]) dX10_heirOf_35 rfl (Nat.le_of_ble_eq_true rfl) rfl ?_
          refine s_iinc (j := 2) dX10_heirOf_36 rfl (Nat.le_of_ble_eq_true rfl) rfl ?_
          refine s_goto (tgt := 9) dX10_heirOf_39 rfl ?_
          exact s_sub (ks := [2, 1, 0]) rfl (ih o (F (o + 7) x2.toNat) (xw (x3 + 1)) _ ho h hq)
theorem fX10_heirOf_ok {Qr : Option PV → Mem → Prop} : ∀ (o : Nat) (x1 : Int) (F : Mem) (res : Int) (ho : isK o 10), fX10_heirOf o x1 F = some res → Qr (some (vI res)) F → PR cX10_heirOf (zX10_heirOf Qr) 0 [(0, vR o), (1, vI x1)] [] F := by
  intro o x1 F res ho h hq
  refine s_aload_n (j := 0) dX10_heirOf_0 rfl rfl ?_
  refine s_getR dX10_heirOf_1 flX10_36 ho ?_
  refine s_iload_n (j := 1) dX10_heirOf_4 rfl rfl ?_
  obtain ⟨hb1, h⟩ := gd h
  refine s_iaload dX10_heirOf_5 (trX10_19 ho) hb1.1 hb1.2 ?_
  refine s_istore_n (ls' := [(2, vI (F (o + 7) x1.toNat)), (0, vR o), (1, vI x1)]) dX10_heirOf_6 rfl (Nat.le_of_ble_eq_true rfl) rfl ?_
  refine s_iconst dX10_heirOf_7 (cin rfl) ?_
  refine s_istore_n dX10_heirOf_8 rfl (Nat.le_of_ble_eq_true rfl) rfl ?_
  exact s_sub (ks := [2, 1, 0]) rfl (fX10_heirOf_b9_ok F FU o (F (o + 7) x1.toNat) 0 _ ho h hq)
def gX10_heirOf : XG := fun As F r F' => ∃ o : Nat, ∃ x1 : Int, ∃ res : Int, As = [vR o, vI x1] ∧ isK o 10 ∧ fX10_heirOf o x1 F = some res ∧ r = some (vI res) ∧ F' = F
theorem ctX10_heirOf : xCT yX10_heirOf cX10_heirOf 4 (some FieldType.int) 0 0 gX10_heirOf := xmet (by decide +kernel) (fun As F r F' hg => by obtain ⟨o, x1, res, rfl, ho, h, rfl, rfl⟩ := hg; exact Nat.le_of_ble_eq_true rfl) (fun As F r F' hg => by obtain ⟨o, x1, res, rfl, ho, h, rfl, rfl⟩ := hg; exact fX10_heirOf_ok o x1 _ _ ho h ⟨rfl, rfl⟩)
theorem mcX10_heirOf : Cond.code yX10_heirOf cX10_heirOf 4 (some FieldType.int) ∈ xw_T ∧ Cond.initialized yX10_heirOf.cls ∈ xw_T ∧ Cond.instanceMethod yX10_heirOf ∈ xw_T ∧ Cond.selects yX10_heirOf.cls yX10_heirOf yX10_heirOf ∈ xw_T := ⟨(xinT 1724 (by decide +kernel) (by decide +kernel)), (xinT 127 (by decide +kernel) (by decide +kernel)), (xinT 1723 (by decide +kernel) (by decide +kernel)), (xinT 82 (by decide +kernel) (by decide +kernel))⟩
theorem clX10_258 {fr lo : Nat} (h1 : 0 + 1 ≤ fr) (h2 : 8 + (4 + 11) + 0 ≤ lo) : xCall RX10 fr lo 0 258 10 1 gX10_heirOf := ⟨_, _, _, _, _, _, ctX10_heirOf, h1, h2, mcX10_heirOf.1, (xinT 1721 (by decide +kernel) (by decide +kernel)), mcX10_heirOf.2.1, ⟨by decide +kernel, by decide +kernel, by decide +kernel⟩, by rw [if_pos rfl]; exact ⟨mcX10_heirOf.2.2.1, mcX10_heirOf.2.2.2, _, _, rfl⟩⟩
theorem dX10_dies_0 : decode cX10_dies 0 = .ok (.aload_n 0, 1) := by decide +kernel
theorem dX10_dies_1 : decode cX10_dies 1 = .ok (.getfield 39, 3) := by decide +kernel
theorem dX10_dies_4 : decode cX10_dies 4 = .ok (.iload_n 1, 1) := by decide +kernel
theorem dX10_dies_5 : decode cX10_dies 5 = .ok (.iconst 1, 1) := by decide +kernel
theorem dX10_dies_6 : decode cX10_dies 6 = .ok (.bastore, 1) := by decide +kernel
theorem dX10_dies_7 : decode cX10_dies 7 = .ok (.aload_n 0, 1) := by decide +kernel
theorem dX10_dies_8 : decode cX10_dies 8 = .ok (.iload_n 1, 1) := by decide +kernel
theorem dX10_dies_9 : decode cX10_dies 9 = .ok (.invokevirtual 258, 3) := by decide +kernel
theorem dX10_dies_12 : decode cX10_dies 12 = .ok (.istore_n 2, 1) := by decide +kernel
theorem dX10_dies_13 : decode cX10_dies 13 = .ok (.iconst 0, 1) := by decide +kernel
theorem dX10_dies_14 : decode cX10_dies 14 = .ok (.istore_n 3, 1) := by decide +kernel
theorem dX10_dies_15 : decode cX10_dies 15 = .ok (.iload_n 3, 1) := by decide +kernel
theorem dX10_dies_16 : decode cX10_dies 16 = .ok (.sipush 336, 3) := by decide +kernel
theorem dX10_dies_19 : decode cX10_dies 19 = .ok (.if_icmp .ge 98, 3) := by decide +kernel
theorem dX10_dies_22 : decode cX10_dies 22 = .ok (.aload_n 0, 1) := by decide +kernel
theorem dX10_dies_23 : decode cX10_dies 23 = .ok (.getfield 30, 3) := by decide +kernel
theorem dX10_dies_26 : decode cX10_dies 26 = .ok (.iload_n 3, 1) := by decide +kernel
theorem dX10_dies_27 : decode cX10_dies 27 = .ok (.iaload, 1) := by decide +kernel
theorem dX10_dies_28 : decode cX10_dies 28 = .ok (.iload_n 1, 1) := by decide +kernel
theorem dX10_dies_29 : decode cX10_dies 29 = .ok (.if_icmp .ne 7, 3) := by decide +kernel
theorem dX10_dies_32 : decode cX10_dies 32 = .ok (.iconst 1, 1) := by decide +kernel
theorem dX10_dies_33 : decode cX10_dies 33 = .ok (.goto 4, 3) := by decide +kernel
theorem dX10_dies_36 : decode cX10_dies 36 = .ok (.iconst 0, 1) := by decide +kernel
theorem dX10_dies_37 : decode cX10_dies 37 = .ok (.istore 4, 2) := by decide +kernel
theorem dX10_dies_39 : decode cX10_dies 39 = .ok (.aload_n 0, 1) := by decide +kernel
theorem dX10_dies_40 : decode cX10_dies 40 = .ok (.getfield 33, 3) := by decide +kernel
theorem dX10_dies_43 : decode cX10_dies 43 = .ok (.iload_n 3, 1) := by decide +kernel
theorem dX10_dies_44 : decode cX10_dies 44 = .ok (.iaload, 1) := by decide +kernel
theorem dX10_dies_45 : decode cX10_dies 45 = .ok (.iload_n 1, 1) := by decide +kernel
theorem dX10_dies_46 : decode cX10_dies 46 = .ok (.if_icmp .ne 7, 3) := by decide +kernel
theorem dX10_dies_49 : decode cX10_dies 49 = .ok (.iconst 1, 1) := by decide +kernel
theorem dX10_dies_50 : decode cX10_dies 50 = .ok (.goto 4, 3) := by decide +kernel
theorem dX10_dies_53 : decode cX10_dies 53 = .ok (.iconst 0, 1) := by decide +kernel
theorem dX10_dies_54 : decode cX10_dies 54 = .ok (.istore 5, 2) := by decide +kernel
theorem dX10_dies_56 : decode cX10_dies 56 = .ok (.iload 4, 2) := by decide +kernel
theorem dX10_dies_58 : decode cX10_dies 58 = .ok (.ifCond .eq 10, 3) := by decide +kernel
theorem dX10_dies_61 : decode cX10_dies 61 = .ok (.aload_n 0, 1) := by decide +kernel
theorem dX10_dies_62 : decode cX10_dies 62 = .ok (.getfield 30, 3) := by decide +kernel
theorem dX10_dies_65 : decode cX10_dies 65 = .ok (.iload_n 3, 1) := by decide +kernel
theorem dX10_dies_66 : decode cX10_dies 66 = .ok (.iload_n 2, 1) := by decide +kernel
theorem dX10_dies_67 : decode cX10_dies 67 = .ok (.iastore, 1) := by decide +kernel
theorem dX10_dies_68 : decode cX10_dies 68 = .ok (.iload 5, 2) := by decide +kernel
theorem dX10_dies_70 : decode cX10_dies 70 = .ok (.ifCond .eq 24, 3) := by decide +kernel
theorem dX10_dies_73 : decode cX10_dies 73 = .ok (.aload_n 0, 1) := by decide +kernel
theorem dX10_dies_74 : decode cX10_dies 74 = .ok (.getfield 33, 3) := by decide +kernel
theorem dX10_dies_77 : decode cX10_dies 77 = .ok (.iload_n 3, 1) := by decide +kernel
theorem dX10_dies_78 : decode cX10_dies 78 = .ok (.iload_n 2, 1) := by decide +kernel
theorem dX10_dies_79 : decode cX10_dies 79 = .ok (.iconst (-1), 1) := by decide +kernel
theorem dX10_dies_80 : decode cX10_dies 80 = .ok (.if_icmp .eq 7, 3) := by decide +kernel
theorem dX10_dies_83 : decode cX10_dies 83 = .ok (.iload_n 2, 1) := by decide +kernel
theorem dX10_dies_84 : decode cX10_dies 84 = .ok (.goto 9, 3) := by decide +kernel
theorem dX10_dies_87 : decode cX10_dies 87 = .ok (.aload_n 0, 1) := by decide +kernel
theorem dX10_dies_88 : decode cX10_dies 88 = .ok (.getfield 30, 3) := by decide +kernel
theorem dX10_dies_91 : decode cX10_dies 91 = .ok (.iload_n 3, 1) := by decide +kernel
theorem dX10_dies_92 : decode cX10_dies 92 = .ok (.iaload, 1) := by decide +kernel
theorem dX10_dies_93 : decode cX10_dies 93 = .ok (.iastore, 1) := by decide +kernel
theorem dX10_dies_94 : decode cX10_dies 94 = .ok (.iload 4, 2) := by decide +kernel
theorem dX10_dies_96 : decode cX10_dies 96 = .ok (.ifCond .eq 15, 3) := by decide +kernel
theorem dX10_dies_99 : decode cX10_dies 99 = .ok (.iload_n 2, 1) := by decide +kernel
theorem dX10_dies_100 : decode cX10_dies 100 = .ok (.iconst (-1), 1) := by decide +kernel
theorem dX10_dies_101 : decode cX10_dies 101 = .ok (.if_icmp .ne 10, 3) := by decide +kernel
theorem dX10_dies_104 : decode cX10_dies 104 = .ok (.aload_n 0, 1) := by decide +kernel
theorem dX10_dies_105 : decode cX10_dies 105 = .ok (.getfield 33, 3) := by decide +kernel
theorem dX10_dies_108 : decode cX10_dies 108 = .ok (.iload_n 3, 1) := by decide +kernel
theorem dX10_dies_109 : decode cX10_dies 109 = .ok (.iconst (-1), 1) := by decide +kernel
theorem dX10_dies_110 : decode cX10_dies 110 = .ok (.iastore, 1) := by decide +kernel
theorem dX10_dies_111 : decode cX10_dies 111 = .ok (.iinc 3 1, 3) := by decide +kernel
theorem dX10_dies_114 : decode cX10_dies 114 = .ok (.goto (-99), 3) := by decide +kernel
theorem dX10_dies_117 : decode cX10_dies 117 = .ok (.return_, 1) := by decide +kernel
def zX10_dies (Qr : Option PV → Mem → Prop) : XZ := (RX10, 1, 23, 6, none, Qr)
noncomputable def fX10_dies_b94 (k15 : Nat → Int → Int → Int → Mem → Option Mem) (o : Nat) (x1 : Int) (x2 : Int) (x3 : Int) (x4 : Int) (F : Mem) : Option Mem :=
  if x4 = 0 then
    k15 o x1 x2 (xw (x3 + 1)) F
  else
    if x2 ≠ (-1) then
      k15 o x1 x2 (xw (x3 + 1)) F
    else
      if (0 : Int) ≤ x3 ∧ x3 < (alen (o + 6) : Int) then
        k15 o x1 x2 (xw (x3 + 1)) (mset F (o + 6) x3.toNat (-1))
      else none
noncomputable def fX10_dies_b68 (k15 : Nat → Int → Int → Int → Mem → Option Mem) (o : Nat) (x1 : Int) (x2 : Int) (x3 : Int) (x4 : Int) (x5 : Int) (F : Mem) : Option Mem :=
  if x5 = 0 then
    fX10_dies_b94 k15 o x1 x2 x3 x4 F
  else
    if x2 = (-1) then
      if (0 : Int) ≤ x3 ∧ x3 < (alen (o + 5) : Int) then
        if (0 : Int) ≤ x3 ∧ x3 < (alen (o + 6) : Int) then
          fX10_dies_b94 k15 o x1 x2 x3 x4 (mset F (o + 6) x3.toNat (F (o + 5) x3.toNat))
        else none
      else none
    else
      if (0 : Int) ≤ x3 ∧ x3 < (alen (o + 6) : Int) then
        fX10_dies_b94 k15 o x1 x2 x3 x4 (mset F (o + 6) x3.toNat x2)
      else none
noncomputable def fX10_dies_b54 (k15 : Nat → Int → Int → Int → Mem → Option Mem) (o : Nat) (x1 : Int) (x2 : Int) (x3 : Int) (x4 : Int) (s0 : Int) (F : Mem) : Option Mem :=
  if x4 = 0 then
    fX10_dies_b68 k15 o x1 x2 x3 x4 s0 F
  else
    if (0 : Int) ≤ x3 ∧ x3 < (alen (o + 5) : Int) then
      fX10_dies_b68 k15 o x1 x2 x3 x4 s0 (mset F (o + 5) x3.toNat x2)
    else none
noncomputable def fX10_dies_b37 (k15 : Nat → Int → Int → Int → Mem → Option Mem) (o : Nat) (x1 : Int) (x2 : Int) (x3 : Int) (s0 : Int) (F : Mem) : Option Mem :=
  if (0 : Int) ≤ x3 ∧ x3 < (alen (o + 6) : Int) then
    if (F (o + 6) x3.toNat) ≠ x1 then
      fX10_dies_b54 k15 o x1 x2 x3 s0 0 F
    else
      fX10_dies_b54 k15 o x1 x2 x3 s0 1 F
  else none
noncomputable def fX10_dies_b15 : Nat → Nat → Int → Int → Int → Mem → Option Mem
  | 0, _, _, _, _, _ => none
  | n + 1, o, x1, x2, x3, F =>
    if 336 ≤ x3 then
      some F
    else
      if (0 : Int) ≤ x3 ∧ x3 < (alen (o + 5) : Int) then
        if (F (o + 5) x3.toNat) ≠ x1 then
          fX10_dies_b37 (fX10_dies_b15 n) o x1 x2 x3 0 F
        else
          fX10_dies_b37 (fX10_dies_b15 n) o x1 x2 x3 1 F
      else none
noncomputable def fX10_dies (o : Nat) (x1 : Int) (F : Mem) : Option Mem :=
  if (0 : Int) ≤ x1 ∧ x1 < (alen (o + 8) : Int) then
    (fX10_heirOf o x1 (mset F (o + 8) x1.toNat 1)).bind fun r2 =>
    fX10_dies_b15 FU o x1 r2 0 (mset F (o + 8) x1.toNat 1)
  else none
theorem fX10_dies_b94_ok {Qr : Option PV → Mem → Prop}  (k15 : Nat → Int → Int → Int → Mem → Option Mem) (hk15 : ∀ (o : Nat) (x1 : Int) (x2 : Int) (x3 : Int) (F : Mem) (res : Mem) (ho : isK o 10), k15 o x1 x2 x3 F = some res → Qr none res → PR cX10_dies (zX10_dies Qr) 15 [(0, vR o), (1, vI x1), (2, vI x2), (3, vI x3)] [] F) : ∀ (o : Nat) (x1 : Int) (x2 : Int) (x3 : Int) (x4 : Int) (F : Mem) (res : Mem) (ho : isK o 10), fX10_dies_b94 k15 o x1 x2 x3 x4 F = some res → Qr none res → PR cX10_dies (zX10_dies Qr) 94 [(0, vR o), (1, vI x1), (2, vI x2), (3, vI x3), (4, vI x4)] [] F := by
  intro o x1 x2 x3 x4 F res ho h hq
  refine s_iload (j := 4) dX10_dies_94 rfl ?_
  refine s_if_eq (tgt := 111) dX10_dies_96 rfl (fun hc1 => ?_) (fun hc1 => ?_)
  · have h := ifp hc1 h
    refine s_iinc (ls' := [(3, vI (xw (x3 + 1))), (0, vR o), (1, vI x1), (2, vI x2), (4, vI x4)]) (j := 3) dX10_dies_111 rfl (Nat.le_of_ble_eq_true rfl) rfl ?_
    refine s_goto (tgt := 15) dX10_dies_114 rfl ?_
    exact s_sub (ks := [1, 2, 3, 0]) rfl (hk15 o x1 x2 (xw (x3 + 1)) F _ ho h hq)
  · have h := ifn hc1 h
    refine s_iload_n (j := 2) dX10_dies_99 rfl rfl ?_
    refine s_iconst dX10_dies_100 (cin rfl) ?_
    refine s_icmp_ne (tgt := 111) dX10_dies_101 rfl (fun hc2 => ?_) (fun hc2 => ?_)
    · have h := ifp hc2 h
      refine s_iinc (ls' := [(3, vI (xw (x3 + 1))), (0, vR o), (1, vI x1), (2, vI x2), (4, vI x4)]) (j := 3) dX10_dies_111 rfl (Nat.le_of_ble_eq_true rfl) rfl ?_
      refine s_goto (tgt := 15) dX10_dies_114 rfl ?_
      exact s_sub (ks := [1, 2, 3, 0]) rfl (hk15 o x1 x2 (xw (x3 + 1)) F _ ho h hq)
    · have h := ifn hc2 h
      refine s_aload_n (j := 0) dX10_dies_104 rfl rfl ?_
      refine s_getR dX10_dies_105 flX10_33 ho ?_
      refine s_iload_n (j := 3) dX10_dies_108 rfl rfl ?_
      refine s_iconst dX10_dies_109 (cin rfl) ?_
      obtain ⟨hb3, h⟩ := gd h
      refine s_iastore dX10_dies_110 (trX10_18 ho) hb3.1 hb3.2 ?_
      refine s_iinc (ls' := [(3, vI (xw (x3 + 1))), (0, vR o), (1, vI x1), (2, vI x2), (4, vI x4)]) (j := 3) dX10_dies_111 rfl (Nat.le_of_ble_eq_true rfl) rfl ?_
      refine s_goto (tgt := 15) dX10_dies_114 rfl ?_
      exact s_sub (ks := [1, 2, 3, 0]) rfl (hk15 o x1 x2 (xw (x3 + 1)) (mset F (o + 6) x3.toNat (-1)) _ ho h hq)
theorem fX10_dies_b68_ok {Qr : Option PV → Mem → Prop}  (k15 : Nat → Int → Int → Int → Mem → Option Mem) (hk15 : ∀ (o : Nat) (x1 : Int) (x2 : Int) (x3 : Int) (F : Mem) (res : Mem) (ho : isK o 10), k15 o x1 x2 x3 F = some res → Qr none res → PR cX10_dies (zX10_dies Qr) 15 [(0, vR o), (1, vI x1), (2, vI x2), (3, vI x3)] [] F) : ∀ (o : Nat) (x1 : Int) (x2 : Int) (x3 : Int) (x4 : Int) (x5 : Int) (F : Mem) (res : Mem) (ho : isK o 10), fX10_dies_b68 k15 o x1 x2 x3 x4 x5 F = some res → Qr none res → PR cX10_dies (zX10_dies Qr) 68 [(0, vR o), (1, vI x1), (2, vI x2), (3, vI x3), (4, vI x4), (5, vI x5)] [] F := by
  intro o x1 x2 x3 x4 x5 F res ho h hq
  refine s_iload (j := 5) dX10_dies_68 rfl ?_
  refine s_if_eq (tgt := 94) dX10_dies_70 rfl (fun hc1 => ?_) (fun hc1 => ?_)
  · have h := ifp hc1 h
    exact s_sub (ks := [0, 1, 2, 3, 4]) rfl (fX10_dies_b94_ok k15 hk15 o x1 x2 x3 x4 F _ ho h hq)
  · have h := ifn hc1 h
    refine s_aload_n (j := 0) dX10_dies_73 rfl rfl ?_
    refine s_getR dX10_dies_74 flX10_33 ho ?_
    refine s_iload_n (j := 3) dX10_dies_77 rfl rfl ?_
    refine s_iload_n (j := 2) dX10_dies_78 rfl rfl ?_
    refine s_iconst dX10_dies_79 (cin rfl) ?_
    refine s_icmp_eq (tgt := 87) dX10_dies_80 rfl (fun hc2 => ?_) (fun hc2 => ?_)
    · have h := ifp hc2 h
      refine s_aload_n (j := 0) dX10_dies_87 rfl rfl ?_
      refine s_getR dX10_dies_88 flX10_30 ho ?_
      refine s_iload_n (j := 3) dX10_dies_91 rfl rfl ?_
      obtain ⟨hb3, h⟩ := gd h
      refine s_iaload dX10_dies_92 (trX10_17 ho) hb3.1 hb3.2 ?_
      obtain ⟨hb4, h⟩ := gd h
      refine s_iastore dX10_dies_93 (trX10_18 ho) hb4.1 hb4.2 ?_
      exact s_sub (ks := [0, 1, 2, 3, 4]) rfl (fX10_dies_b94_ok k15 hk15 o x1 x2 x3 x4 (mset F (o + 6) x3.toNat (F (o + 5) x3.toNat)) _ ho h hq)
    · have h := ifn hc2 h
      refine s_iload_n (j := 2) dX10_dies_83 rfl rfl ?_
      refine s_goto (tgt := 93) dX10_dies_84 rfl ?_
      obtain ⟨hb5, h⟩ := gd h
      refine s_iastore dX10_dies_93 (trX10_18 ho) hb5.1 hb5.2 ?_
      exact s_sub (ks := [0, 1, 2, 3, 4]) rfl (fX10_dies_b94_ok k15 hk15 o x1 x2 x3 x4 (mset F (o + 6) x3.toNat x2) _ ho h hq)
theorem fX10_dies_b54_ok {Qr : Option PV → Mem → Prop}  (k15 : Nat → Int → Int → Int → Mem → Option Mem) (hk15 : ∀ (o : Nat) (x1 : Int) (x2 : Int) (x3 : Int) (F : Mem) (res : Mem) (ho : isK o 10), k15 o x1 x2 x3 F = some res → Qr none res → PR cX10_dies (zX10_dies Qr) 15 [(0, vR o), (1, vI x1), (2, vI x2), (3, vI x3)] [] F) : ∀ (o : Nat) (x1 : Int) (x2 : Int) (x3 : Int) (x4 : Int) (s0 : Int) (F : Mem) (res : Mem) (ho : isK o 10), fX10_dies_b54 k15 o x1 x2 x3 x4 s0 F = some res → Qr none res → PR cX10_dies (zX10_dies Qr) 54 [(0, vR o), (1, vI x1), (2, vI x2), (3, vI x3), (4, vI x4)] [vI s0] F := by
  intro o x1 x2 x3 x4 s0 F res ho h hq
  refine s_istore (ls' := [(5, vI s0), (0, vR o), (1, vI x1), (2, vI x2), (3, vI x3), (4, vI x4)]) dX10_dies_54 (Nat.le_of_ble_eq_true rfl) rfl ?_
  refine s_iload (j := 5) dX10_dies_56 rfl ?_
  refine s_if_eq (tgt := 68) dX10_dies_58 rfl (fun hc1 => ?_) (fun hc1 => ?_)
  · have h := ifp hc1 h
    exact s_sub (ks := [1, 2, 3, 4, 5, 0]) rfl (fX10_dies_b68_ok k15 hk15 o x1 x2 x3 x4 s0 F _ ho h hq)
  · have h := ifn hc1 h
    refine s_aload_n (j := 1) dX10_dies_61 rfl rfl ?_
    refine s_getR dX10_dies_62 flX10_30 ho ?_
    refine s_iload_n (j := 4) dX10_dies_65 rfl rfl ?_
    refine s_iload_n (j := 3) dX10_dies_66 rfl rfl ?_
    obtain ⟨hb2, h⟩ := gd h
    refine s_iastore dX10_dies_67 (trX10_17 ho) hb2.1 hb2.2 ?_
    exact s_sub (ks := [1, 2, 3, 4, 5, 0]) rfl (fX10_dies_b68_ok k15 hk15 o x1 x2 x3 x4 s0 (mset F (o + 5) x3.toNat x2) _ ho h hq)
theorem fX10_dies_b37_ok {Qr : Option PV → Mem → Prop}  (k15 : Nat → Int → Int → Int → Mem → Option Mem) (hk15 : ∀ (o : Nat) (x1 : Int) (x2 : Int) (x3 : Int) (F : Mem) (res : Mem) (ho : isK o 10), k15 o x1 x2 x3 F = some res → Qr none res → PR cX10_dies (zX10_dies Qr) 15 [(0, vR o), (1, vI x1), (2, vI x2), (3, vI x3)] [] F) : ∀ (o : Nat) (x1 : Int) (x2 : Int) (x3 : Int) (s0 : Int) (F : Mem) (res : Mem) (ho : isK o 10), fX10_dies_b37 k15 o x1 x2 x3 s0 F = some res → Qr none res → PR cX10_dies (zX10_dies Qr) 37 [(0, vR o), (1, vI x1), (2, vI x2), (3, vI x3)] [vI s0] F := by
  intro o x1 x2 x3 s0 F res ho h hq
  refine s_istore (ls' := [(4, vI s0), (0, vR o), (1, vI x1), (2, vI x2), (3, vI x3)]) dX10_dies_37 (Nat.le_of_ble_eq_true rfl) rfl ?_
  refine s_aload_n (j := 1) dX10_dies_39 rfl rfl ?_
  refine s_getR dX10_dies_40 flX10_33 ho ?_
  refine s_iload_n (j := 4) dX10_dies_43 rfl rfl ?_
  obtain ⟨hb1, h⟩ := gd h
  refine s_iaload dX10_dies_44 (trX10_18 ho) hb1.1 hb1.2 ?_
  refine s_iload_n (j := 2) dX10_dies_45 rfl rfl ?_
  refine s_icmp_ne (tgt := 53) dX10_dies_46 rfl (fun hc2 => ?_) (fun hc2 => ?_)
  · have h := ifp hc2 h
    refine s_iconst dX10_dies_53 (cin rfl) ?_
    exact s_sub (ks := [1, 2, 3, 4, 0]) rfl (fX10_dies_b54_ok k15 hk15 o x1 x2 x3 s0 0 F _ ho h hq)
  · have h := ifn hc2 h
    refine s_iconst dX10_dies_49 (cin rfl) ?_
    refine s_goto (tgt := 54) dX10_dies_50 rfl ?_
    exact s_sub (ks := [1, 2, 3, 4, 0]) rfl (fX10_dies_b54_ok k15 hk15 o x1 x2 x3 s0 1 F _ ho h hq)
theorem fX10_dies_b15_ok {Qr : Option PV → Mem → Prop}  : ∀ (n : Nat) (o : Nat) (x1 : Int) (x2 : Int) (x3 : Int) (F : Mem) (res : Mem) (ho : isK o 10), fX10_dies_b15 n o x1 x2 x3 F = some res → Qr none res → PR cX10_dies (zX10_dies Qr) 15 [(0, vR o), (1, vI x1), (2, vI x2), (3, vI x3)] [] F := by
  intro n
  induction n with
  | zero => intro o x1 x2 x3 F res ho h hq; exact nomatch (show (none : Option _) = some _ from h)
  | succ n ih =>
    intro o x1 x2 x3 F res ho h hq
    refine s_iload_n (j := 3) dX10_dies_15 rfl rfl ?_
    refine s_sipush dX10_dies_16 rfl (cin rfl) ?_
    refine s_icmp_ge (tgt := 117) dX10_dies_19 rfl (fun hc1 => ?_) (fun hc1 => ?_)
    · have h := ifp hc1 h
      have h := Option.some.inj h
      subst h
      exact s_return dX10_dies_117 rfl hq
    · have h := ifn hc1 h
      refine s_aload_n (j := 0) dX10_dies_22 rfl rfl ?_
      refine s_getR dX10_dies_23 flX10_30 ho ?_
      refine s_iload_n (j := 3) dX10_dies_26 rfl rfl ?_
      obtain ⟨hb2, h⟩ := gd h
      refine s_iaload dX10_dies_27 (trX10_17 ho) hb2.1 hb2.2 ?_
      refine s_iload_n (j := 1) dX10_dies_28 rfl rfl ?_
      refine s_icmp_ne (tgt := 36) dX10_dies_29 rfl (fun hc3 => ?_) (fun hc3 => ?_)
      · have h := ifp hc3 h
        refine s_iconst dX10_dies_36 (cin rfl) ?_
        exact s_sub (ks := [0, 1, 2, 3]) rfl (fX10_dies_b37_ok (fX10_dies_b15 n) ih o x1 x2 x3 0 F _ ho h hq)
      · have h := ifn hc3 h
        refine s_iconst dX10_dies_32 (cin rfl) ?_
        refine s_goto (tgt := 37) dX10_dies_33 rfl ?_
        exact s_sub (ks := [0, 1, 2, 3]) rfl (fX10_dies_b37_ok (fX10_dies_b15 n) ih o x1 x2 x3 1 F _ ho h hq)
theorem fX10_dies_ok {Qr : Option PV → Mem → Prop} : ∀ (o : Nat) (x1 : Int) (F : Mem) (res : Mem) (ho : isK o 10), fX10_dies o x1 F = some res → Qr none res → PR cX10_dies (zX10_dies Qr) 0 [(0, vR o), (1, vI x1)] [] F := by
  intro o x1 F res ho h hq
  refine s_aload_n (j := 0) dX10_dies_0 rfl rfl ?_
  refine s_getR dX10_dies_1 flX10_39 ho ?_
  refine s_iload_n (j := 1) dX10_dies_4 rfl rfl ?_
  refine s_iconst dX10_dies_5 (cin rfl) ?_
  obtain ⟨hb1, h⟩ := gd h
  refine s_zastore dX10_dies_6 (trX10_20 ho) hb1.1 hb1.2 (Or.inr rfl) ?_
  refine s_aload_n (j := 0) dX10_dies_7 rfl rfl ?_
  refine s_iload_n (j := 1) dX10_dies_8 rfl rfl ?_
  obtain ⟨r2, hv3, h⟩ := bnd h
  refine s_callV (As := [vI x1]) (rest := []) (r := (some (vI r2))) (F' := mset F (o + 8) x1.toNat 1) dX10_dies_9 (clX10_258 (Nat.le_of_ble_eq_true rfl) (Nat.le_of_ble_eq_true rfl)) ho rfl ⟨_, _, _, rfl, ho, hv3, rfl, rfl⟩ rfl (Nat.le_of_ble_eq_true rfl) ?_
  refine s_istore_n (ls' := [(2, vI r2), (0, vR o), (1, vI x1)]) dX10_dies_12 rfl (Nat.le_of_ble_eq_true rfl) rfl ?_
  refine s_iconst dX10_dies_13 (cin rfl) ?_
  refine s_istore_n dX10_dies_14 rfl (Nat.le_of_ble_eq_true rfl) rfl ?_
  exact s_sub (ks := [2, 3, 1, 0]) rfl (fX10_dies_b15_ok FU o x1 r2 0 (mset F (o + 8) x1.toNat 1) _ ho h hq)
def gX10_dies : XG := fun As F r F' => ∃ o : Nat, ∃ x1 : Int, ∃ res : Mem, As = [vR o, vI x1] ∧ isK o 10 ∧ fX10_dies o x1 F = some res ∧ r = none ∧ F' = res
theorem ctX10_dies : xCT yX10_dies cX10_dies 6 (none) 1 23 gX10_dies := xmet (by decide +kernel) (fun As F r F' hg => by obtain ⟨o, x1, res, rfl, ho, h, rfl, rfl⟩ := hg; exact Nat.le_of_ble_eq_true rfl) (fun As F r F' hg => by obtain ⟨o, x1, res, rfl, ho, h, rfl, rfl⟩ := hg; exact fX10_dies_ok o x1 _ _ ho h ⟨rfl, rfl⟩)
theorem mcX10_dies : Cond.code yX10_dies cX10_dies 6 (none) ∈ xw_T ∧ Cond.initialized yX10_dies.cls ∈ xw_T ∧ Cond.instanceMethod yX10_dies ∈ xw_T ∧ Cond.selects yX10_dies.cls yX10_dies yX10_dies ∈ xw_T := ⟨(xinT 1720 (by decide +kernel) (by decide +kernel)), (xinT 127 (by decide +kernel) (by decide +kernel)), (xinT 1719 (by decide +kernel) (by decide +kernel)), (xinT 81 (by decide +kernel) (by decide +kernel))⟩
theorem clX10_261 {fr lo : Nat} (h1 : 1 + 1 ≤ fr) (h2 : 8 + (6 + 11) + 23 ≤ lo) : xCall RX10 fr lo 0 261 10 1 gX10_dies := ⟨_, _, _, _, _, _, ctX10_dies, h1, h2, mcX10_dies.1, (xinT 1717 (by decide +kernel) (by decide +kernel)), mcX10_dies.2.1, ⟨by decide +kernel, by decide +kernel, by decide +kernel⟩, by rw [if_pos rfl]; exact ⟨mcX10_dies.2.2.1, mcX10_dies.2.2.2, _, _, rfl⟩⟩
theorem dX10_does_0 : decode cX10_does 0 = .ok (.aload_n 0, 1) := by decide +kernel
theorem dX10_does_1 : decode cX10_does 1 = .ok (.iload_n 1, 1) := by decide +kernel
theorem dX10_does_2 : decode cX10_does 2 = .ok (.iconst 0, 1) := by decide +kernel
theorem dX10_does_3 : decode cX10_does 3 = .ok (.invokevirtual 243, 3) := by decide +kernel
theorem dX10_does_6 : decode cX10_does 6 = .ok (.istore_n 2, 1) := by decide +kernel
theorem dX10_does_7 : decode cX10_does 7 = .ok (.aload_n 0, 1) := by decide +kernel
theorem dX10_does_8 : decode cX10_does 8 = .ok (.iload_n 1, 1) := by decide +kernel
theorem dX10_does_9 : decode cX10_does 9 = .ok (.iconst 1, 1) := by decide +kernel
theorem dX10_does_10 : decode cX10_does 10 = .ok (.invokevirtual 243, 3) := by decide +kernel
theorem dX10_does_13 : decode cX10_does 13 = .ok (.istore_n 3, 1) := by decide +kernel
theorem dX10_does_14 : decode cX10_does 14 = .ok (.aload_n 0, 1) := by decide +kernel
theorem dX10_does_15 : decode cX10_does 15 = .ok (.iload_n 1, 1) := by decide +kernel
theorem dX10_does_16 : decode cX10_does 16 = .ok (.iconst 2, 1) := by decide +kernel
theorem dX10_does_17 : decode cX10_does 17 = .ok (.invokevirtual 243, 3) := by decide +kernel
theorem dX10_does_20 : decode cX10_does 20 = .ok (.istore 4, 2) := by decide +kernel
theorem dX10_does_22 : decode cX10_does 22 = .ok (.iload_n 2, 1) := by decide +kernel
theorem dX10_does_23 : decode cX10_does 23 = .ok (.iconst 4, 1) := by decide +kernel
theorem dX10_does_24 : decode cX10_does 24 = .ok (.if_icmp .ne 11, 3) := by decide +kernel
theorem dX10_does_27 : decode cX10_does 27 = .ok (.aload_n 0, 1) := by decide +kernel
theorem dX10_does_28 : decode cX10_does 28 = .ok (.getfield 36, 3) := by decide +kernel
theorem dX10_does_31 : decode cX10_does 31 = .ok (.iload_n 3, 1) := by decide +kernel
theorem dX10_does_32 : decode cX10_does 32 = .ok (.iload 4, 2) := by decide +kernel
theorem dX10_does_34 : decode cX10_does 34 = .ok (.iastore, 1) := by decide +kernel
theorem dX10_does_35 : decode cX10_does 35 = .ok (.iload_n 2, 1) := by decide +kernel
theorem dX10_does_36 : decode cX10_does 36 = .ok (.iconst 5, 1) := by decide +kernel
theorem dX10_does_37 : decode cX10_does 37 = .ok (.if_icmp .ne 8, 3) := by decide +kernel
theorem dX10_does_40 : decode cX10_does 40 = .ok (.aload_n 0, 1) := by decide +kernel
theorem dX10_does_41 : decode cX10_does 41 = .ok (.iload_n 3, 1) := by decide +kernel
theorem dX10_does_42 : decode cX10_does 42 = .ok (.invokevirtual 261, 3) := by decide +kernel
theorem dX10_does_45 : decode cX10_does 45 = .ok (.iload_n 2, 1) := by decide +kernel
theorem dX10_does_46 : decode cX10_does 46 = .ok (.iconst 3, 1) := by decide +kernel
theorem dX10_does_47 : decode cX10_does 47 = .ok (.if_icmp .ne 47, 3) := by decide +kernel
theorem dX10_does_50 : decode cX10_does 50 = .ok (.aload_n 0, 1) := by decide +kernel
theorem dX10_does_51 : decode cX10_does 51 = .ok (.getfield 42, 3) := by decide +kernel
theorem dX10_does_54 : decode cX10_does 54 = .ok (.iload_n 3, 1) := by decide +kernel
theorem dX10_does_55 : decode cX10_does 55 = .ok (.iconst 1, 1) := by decide +kernel
theorem dX10_does_56 : decode cX10_does 56 = .ok (.bastore, 1) := by decide +kernel
theorem dX10_does_57 : decode cX10_does 57 = .ok (.aload_n 0, 1) := by decide +kernel
theorem dX10_does_58 : decode cX10_does 58 = .ok (.iload_n 3, 1) := by decide +kernel
theorem dX10_does_59 : decode cX10_does 59 = .ok (.invokevirtual 246, 3) := by decide +kernel
theorem dX10_does_62 : decode cX10_does 62 = .ok (.istore 5, 2) := by decide +kernel
theorem dX10_does_64 : decode cX10_does 64 = .ok (.iload 5, 2) := by decide +kernel
theorem dX10_does_66 : decode cX10_does 66 = .ok (.aload_n 0, 1) := by decide +kernel
theorem dX10_does_67 : decode cX10_does 67 = .ok (.iload_n 3, 1) := by decide +kernel
theorem dX10_does_68 : decode cX10_does 68 = .ok (.invokevirtual 249, 3) := by decide +kernel
theorem dX10_does_71 : decode cX10_does 71 = .ok (.if_icmp .ge 23, 3) := by decide +kernel
theorem dX10_does_74 : decode cX10_does 74 = .ok (.aload_n 0, 1) := by decide +kernel
theorem dX10_does_75 : decode cX10_does 75 = .ok (.getfield 33, 3) := by decide +kernel
theorem dX10_does_78 : decode cX10_does 78 = .ok (.iload 5, 2) := by decide +kernel
theorem dX10_does_80 : decode cX10_does 80 = .ok (.aload_n 0, 1) := by decide +kernel
theorem dX10_does_81 : decode cX10_does 81 = .ok (.getfield 30, 3) := by decide +kernel
theorem dX10_does_84 : decode cX10_does 84 = .ok (.iload 5, 2) := by decide +kernel
theorem dX10_does_86 : decode cX10_does 86 = .ok (.iaload, 1) := by decide +kernel
theorem dX10_does_87 : decode cX10_does 87 = .ok (.iastore, 1) := by decide +kernel
theorem dX10_does_88 : decode cX10_does 88 = .ok (.iinc 5 1, 3) := by decide +kernel
theorem dX10_does_91 : decode cX10_does 91 = .ok (.goto (-27), 3) := by decide +kernel
theorem dX10_does_94 : decode cX10_does 94 = .ok (.aload_n 0, 1) := by decide +kernel
theorem dX10_does_95 : decode cX10_does 95 = .ok (.iload_n 1, 1) := by decide +kernel
theorem dX10_does_96 : decode cX10_does 96 = .ok (.invokevirtual 246, 3) := by decide +kernel
theorem dX10_does_99 : decode cX10_does 99 = .ok (.istore 5, 2) := by decide +kernel
theorem dX10_does_101 : decode cX10_does 101 = .ok (.iload 5, 2) := by decide +kernel
theorem dX10_does_103 : decode cX10_does 103 = .ok (.aload_n 0, 1) := by decide +kernel
theorem dX10_does_104 : decode cX10_does 104 = .ok (.iload_n 1, 1) := by decide +kernel
theorem dX10_does_105 : decode cX10_does 105 = .ok (.invokevirtual 249, 3) := by decide +kernel
theorem dX10_does_108 : decode cX10_does 108 = .ok (.if_icmp .ge 53, 3) := by decide +kernel
theorem dX10_does_111 : decode cX10_does 111 = .ok (.iload_n 2, 1) := by decide +kernel
theorem dX10_does_112 : decode cX10_does 112 = .ok (.iconst 3, 1) := by decide +kernel
theorem dX10_does_113 : decode cX10_does 113 = .ok (.if_icmp .ge 48, 3) := by decide +kernel
theorem dX10_does_116 : decode cX10_does 116 = .ok (.iload_n 2, 1) := by decide +kernel
theorem dX10_does_117 : decode cX10_does 117 = .ok (.iconst 2, 1) := by decide +kernel
theorem dX10_does_118 : decode cX10_does 118 = .ok (.if_icmp .ge 20, 3) := by decide +kernel
theorem dX10_does_121 : decode cX10_does 121 = .ok (.aload_n 0, 1) := by decide +kernel
theorem dX10_does_122 : decode cX10_does 122 = .ok (.getfield 30, 3) := by decide +kernel
theorem dX10_does_125 : decode cX10_does 125 = .ok (.iload 5, 2) := by decide +kernel
theorem dX10_does_127 : decode cX10_does 127 = .ok (.iload_n 2, 1) := by decide +kernel
theorem dX10_does_128 : decode cX10_does 128 = .ok (.ifCond .ne 7, 3) := by decide +kernel
theorem dX10_does_131 : decode cX10_does 131 = .ok (.iload_n 3, 1) := by decide +kernel
theorem dX10_does_132 : decode cX10_does 132 = .ok (.goto 5, 3) := by decide +kernel
theorem dX10_does_135 : decode cX10_does 135 = .ok (.iload 4, 2) := by decide +kernel
theorem dX10_does_137 : decode cX10_does 137 = .ok (.iastore, 1) := by decide +kernel
theorem dX10_does_138 : decode cX10_does 138 = .ok (.aload_n 0, 1) := by decide +kernel
theorem dX10_does_139 : decode cX10_does 139 = .ok (.getfield 33, 3) := by decide +kernel
theorem dX10_does_142 : decode cX10_does 142 = .ok (.iload 5, 2) := by decide +kernel
theorem dX10_does_144 : decode cX10_does 144 = .ok (.iload_n 2, 1) := by decide +kernel
theorem dX10_does_145 : decode cX10_does 145 = .ok (.ifCond .ne 7, 3) := by decide +kernel
theorem dX10_does_148 : decode cX10_does 148 = .ok (.iload_n 3, 1) := by decide +kernel
theorem dX10_does_149 : decode cX10_does 149 = .ok (.goto 5, 3) := by decide +kernel
theorem dX10_does_152 : decode cX10_does 152 = .ok (.iload 4, 2) := by decide +kernel
theorem dX10_does_154 : decode cX10_does 154 = .ok (.iastore, 1) := by decide +kernel
theorem dX10_does_155 : decode cX10_does 155 = .ok (.iinc 5 1, 3) := by decide +kernel
theorem dX10_does_158 : decode cX10_does 158 = .ok (.goto (-57), 3) := by decide +kernel
theorem dX10_does_161 : decode cX10_does 161 = .ok (.return_, 1) := by decide +kernel
def zX10_does (Qr : Option PV → Mem → Prop) : XZ := (RX10, 2, 48, 6, none, Qr)
noncomputable def fX10_does_b138 (k101 : Nat → Int → Int → Int → Int → Int → Mem → Option Mem) (o : Nat) (x1 : Int) (x2 : Int) (x3 : Int) (x4 : Int) (x5 : Int) (F : Mem) : Option Mem :=
  if x2 ≠ 0 then
    if (0 : Int) ≤ x5 ∧ x5 < (alen (o + 6) : Int) then
      k101 o x1 x2 x3 x4 (xw (x5 + 1)) (mset F (o + 6) x5.toNat x4)
    else none
  else
    if (0 : Int) ≤ x5 ∧ x5 < (alen (o + 6) : Int) then
      k101 o x1 x2 x3 x4 (xw (x5 + 1)) (mset F (o + 6) x5.toNat x3)
    else none
noncomputable def fX10_does_b101 : Nat → Nat → Int → Int → Int → Int → Int → Mem → Option Mem
  | 0, _, _, _, _, _, _, _ => none
  | n + 1, o, x1, x2, x3, x4, x5, F =>
    (fX10_toOf o x1 F).bind fun r1 =>
    if r1 ≤ x5 then
      some F
    else
      if 3 ≤ x2 then
        some F
      else
        if 2 ≤ x2 then
          fX10_does_b138 (fX10_does_b101 n) o x1 x2 x3 x4 x5 F
        else
          if x2 ≠ 0 then
            if (0 : Int) ≤ x5 ∧ x5 < (alen (o + 5) : Int) then
              fX10_does_b138 (fX10_does_b101 n) o x1 x2 x3 x4 x5 (mset F (o + 5) x5.toNat x4)
            else none
          else
            if (0 : Int) ≤ x5 ∧ x5 < (alen (o + 5) : Int) then
              fX10_does_b138 (fX10_does_b101 n) o x1 x2 x3 x4 x5 (mset F (o + 5) x5.toNat x3)
            else none
noncomputable def fX10_does_b94 (o : Nat) (x1 : Int) (x2 : Int) (x3 : Int) (x4 : Int) (F : Mem) : Option Mem :=
  (fX10_fromOf o x1 F).bind fun r1 =>
  fX10_does_b101 FU o x1 x2 x3 x4 r1 F
noncomputable def fX10_does_b64 : Nat → Nat → Int → Int → Int → Int → Int → Mem → Option Mem
  | 0, _, _, _, _, _, _, _ => none
  | n + 1, o, x1, x2, x3, x4, x5, F =>
    (fX10_toOf o x3 F).bind fun r1 =>
    if r1 ≤ x5 then
      fX10_does_b94 o x1 x2 x3 x4 F
    else
      if (0 : Int) ≤ x5 ∧ x5 < (alen (o + 5) : Int) then
        if (0 : Int) ≤ x5 ∧ x5 < (alen (o + 6) : Int) then
          fX10_does_b64 n o x1 x2 x3 x4 (xw (x5 + 1)) (mset F (o + 6) x5.toNat (F (o + 5) x5.toNat))
        else none
      else none
noncomputable def fX10_does_b45 (o : Nat) (x1 : Int) (x2 : Int) (x3 : Int) (x4 : Int) (F : Mem) : Option Mem :=
  if x2 ≠ 3 then
    fX10_does_b94 o x1 x2 x3 x4 F
  else
    if (0 : Int) ≤ x3 ∧ x3 < (alen (o + 9) : Int) then
      (fX10_fromOf o x3 (mset F (o + 9) x3.toNat 1)).bind fun r3 =>
      fX10_does_b64 FU o x1 x2 x3 x4 r3 (mset F (o + 9) x3.toNat 1)
    else none
noncomputable def fX10_does_b35 (o : Nat) (x1 : Int) (x2 : Int) (x3 : Int) (x4 : Int) (F : Mem) : Option Mem :=
  if x2 ≠ 5 then
    fX10_does_b45 o x1 x2 x3 x4 F
  else
    (fX10_dies o x3 F).bind fun q2 =>
    fX10_does_b45 o x1 x2 x3 x4 q2
noncomputable def fX10_does (o : Nat) (x1 : Int) (F : Mem) : Option Mem :=
  (fX10_deedOf o x1 0 F).bind fun r1 =>
  (fX10_deedOf o x1 1 F).bind fun r3 =>
  (fX10_deedOf o x1 2 F).bind fun r5 =>
  if r1 ≠ 4 then
    fX10_does_b35 o x1 r1 r3 r5 F
  else
    if (0 : Int) ≤ r3 ∧ r3 < (alen (o + 7) : Int) then
      fX10_does_b35 o x1 r1 r3 r5 (mset F (o + 7) r3.toNat r5)
    else none
theorem fX10_does_b138_ok {Qr : Option PV → Mem → Prop}  (k101 : Nat → Int → Int → Int → Int → Int → Mem → Option Mem) (hk101 : ∀ (o : Nat) (x1 : Int) (x2 : Int) (x3 : Int) (x4 : Int) (x5 : Int) (F : Mem) (res : Mem) (ho : isK o 10), k101 o x1 x2 x3 x4 x5 F = some res → Qr none res → PR cX10_does (zX10_does Qr) 101 [(0, vR o), (1, vI x1), (2, vI x2), (3, vI x3), (4, vI x4), (5, vI x5)] [] F) : ∀ (o : Nat) (x1 : Int) (x2 : Int) (x3 : Int) (x4 : Int) (x5 : Int) (F : Mem) (res : Mem) (ho : isK o 10), fX10_does_b138 k101 o x1 x2 x3 x4 x5 F = some res → Qr none res → PR cX10_does (zX10_does Qr) 138 [(0, vR o), (1, vI x1), (2, vI x2), (3, vI x3), (4, vI x4), (5, vI x5)] [] F := by
  intro o x1 x2 x3 x4 x5 F res ho h hq
  refine s_aload_n (j := 0) dX10_does_138 rfl rfl ?_
  refine s_getR dX10_does_139 flX10_33 ho ?_
  refine s_iload (j := 5) dX10_does_142 rfl ?_
  refine s_iload_n (j := 2) dX10_does_144 rfl rfl ?_
  refine s_if_ne (tgt := 152) dX10_does_145 rfl (fun hc1 => ?_) (fun hc1 => ?_)
  · have h := ifp hc1 h
    refine s_iload (j := 4) dX10_does_152 rfl ?_
    obtain ⟨hb2, h⟩ := gd h
    refine s_iastore dX10_does_154 (trX10_18 ho) hb2.1 hb2.2 ?_
    refine s_iinc (ls' := [(5, vI (xw (x5 + 1))), (0, vR o), (1, vI x1), (2, vI x2), (3, vI x3), (4, vI x4)]) (j := 5) dX10_does_155 rfl (Nat.le_of_ble_eq_true rfl) rfl ?_
    refine s_goto (tgt := 101) dX10_does_158 rfl ?_
    exact s_sub (ks := [1, 2, 3, 4, 5, 0]) rfl (hk101 o x1 x2 x3 x4 (xw (x5 + 1)) (mset F (o + 6) x5.toNat x4) _ ho h hq)
  · have h := ifn hc1 h
    refine s_iload_n (j := 3) dX10_does_148 rfl rfl ?_
    refine s_goto (tgt := 154) dX10_does_149 rfl ?_
    obtain ⟨hb3, h⟩ := gd h
    refine s_iastore dX10_does_154 (trX10_18 ho) hb3.1 hb3.2 ?_
    refine s_iinc (ls' := [(5, vI (xw (x5 + 1))), (0, vR o), (1, vI x1), (2, vI x2), (3, vI x3), (4, vI x4)]) (j := 5) dX10_does_155 rfl (Nat.le_of_ble_eq_true rfl) rfl ?_
    refine s_goto (tgt := 101) dX10_does_158 rfl ?_
    exact s_sub (ks := [1, 2, 3, 4, 5, 0]) rfl (hk101 o x1 x2 x3 x4 (xw (x5 + 1)) (mset F (o + 6) x5.toNat x3) _ ho h hq)
theorem fX10_does_b101_ok {Qr : Option PV → Mem → Prop}  : ∀ (n : Nat) (o : Nat) (x1 : Int) (x2 : Int) (x3 : Int) (x4 : Int) (x5 : Int) (F : Mem) (res : Mem) (ho : isK o 10), fX10_does_b101 n o x1 x2 x3 x4 x5 F = some res → Qr none res → PR cX10_does (zX10_does Qr) 101 [(0, vR o), (1, vI x1), (2, vI x2), (3, vI x3), (4, vI x4), (5, vI x5)] [] F := by
  intro n
  induction n with
  | zero => intro o x1 x2 x3 x4 x5 F res ho h hq; exact nomatch (show (none : Option _) = some _ from h)
  | succ n ih =>
    intro o x1 x2 x3 x4 x5 F res ho h hq
    refine s_iload (j := 5) dX10_does_101 rfl ?_
    refine s_aload_n (j := 0) dX10_does_103 rfl rfl ?_
    refine s_iload_n (j := 1) dX10_does_104 rfl rfl ?_
    obtain ⟨r1, hv2, h⟩ := bnd h
    refine s_callV (As := [vI x1]) (rest := [vI x5]) (r := (some (vI r1))) (F' := F) dX10_does_105 (clX10_249 (Nat.le_of_ble_eq_true rfl) (Nat.le_of_ble_eq_true rfl)) ho rfl ⟨_, _, _, rfl, ho, hv2, rfl, rfl⟩ rfl (Nat.le_of_ble_eq_true rfl) ?_
    refine s_icmp_ge (tgt := 161) dX10_does_108 rfl (fun hc3 => ?_) (fun hc3 => ?_)
    · have h := ifp hc3 h
      have h := Option.some.inj h
      subst h
      exact s_return dX10_does_161 rfl hq
    · have h := ifn hc3 h
      refine s_iload_n (j := 2) dX10_does_111 rfl rfl ?_
      refine s_iconst dX10_does_112 (cin rfl) ?_
      refine s_icmp_ge (tgt := 161) dX10_does_113 rfl (fun hc4 => ?_) (fun hc4 => ?_)
      · have h := ifp hc4 h
        have h := Option.some.inj h
        subst h
        exact s_return dX10_does_161 rfl hq
      · have h := ifn hc4 h
        refine s_iload_n (j := 2) dX10_does_116 rfl rfl ?_
        refine s_iconst dX10_does_117 (cin rfl) ?_
        refine s_icmp_ge (tgt := 138) dX10_does_118 rfl (fun hc5 => ?_) (fun hc5 => ?_)
        · have h := ifp hc5 h
          exact s_sub (ks := [0, 1, 2, 3, 4, 5]) rfl (fX10_does_b138_ok (fX10_does_b101 n) ih o x1 x2 x3 x4 x5 F _ ho h hq)
        · have h := ifn hc5 h
          refine s_aload_n (j := 0) dX10_does_121 rfl rfl ?_
          refine s_getR dX10_does_122 flX10_30 ho ?_
          refine s_iload (j := 5) dX10_does_125 rfl ?_
          refine s_iload_n (j := 2) dX10_does_127 rfl rfl ?_
          refine s_if_ne (tgt := 135) dX10_does_128 rfl (fun hc6 => ?_) (fun hc6 => ?_)
          · have h := ifp hc6 h
            refine s_iload (j := 4) dX10_does_135 rfl ?_
            obtain ⟨hb7, h⟩ := gd h
            refine s_iastore dX10_does_137 (trX10_17 ho) hb7.1 hb7.2 ?_
            exact s_sub (ks := [0, 1, 2, 3, 4, 5]) rfl (fX10_does_b138_ok (fX10_does_b101 n) ih o x1 x2 x3 x4 x5 (mset F (o + 5) x5.toNat x4) _ ho h hq)
          · have h := ifn hc6 h
            refine s_iload_n (j := 3) dX10_does_131 rfl rfl ?_
            refine s_goto (tgt := 137) dX10_does_132 rfl ?_
            obtain ⟨hb8, h⟩ := gd h
            refine s_iastore dX10_does_137 (trX10_17 ho) hb8.1 hb8.2 ?_
            exact s_sub (ks := [0, 1, 2, 3, 4, 5]) rfl (fX10_does_b138_ok (fX10_does_b101 n) ih o x1 x2 x3 x4 x5 (mset F (o + 5) x5.toNat x3) _ ho h hq)
theorem fX10_does_b94_ok {Qr : Option PV → Mem → Prop}  : ∀ (o : Nat) (x1 : Int) (x2 : Int) (x3 : Int) (x4 : Int) (F : Mem) (res : Mem) (ho : isK o 10), fX10_does_b94 o x1 x2 x3 x4 F = some res → Qr none res → PR cX10_does (zX10_does Qr) 94 [(0, vR o), (1, vI x1), (2, vI x2), (3, vI x3), (4, vI x4)] [] F := by
  intro o x1 x2 x3 x4 F res ho h hq
  refine s_aload_n (j := 0) dX10_does_94 rfl rfl ?_
  refine s_iload_n (j := 1) dX10_does_95 rfl rfl ?_
  obtain ⟨r1, hv2, h⟩ := bnd h
  refine s_callV (As := [vI x1]) (rest := []) (r := (some (vI r1))) (F' := F) dX10_does_96 (clX10_246 (Nat.le_of_ble_eq_true rfl) (Nat.le_of_ble_eq_true rfl)) ho rfl ⟨_, _, _, rfl, ho, hv2, rfl, rfl⟩ rfl (Nat.le_of_ble_eq_true rfl) ?_
  refine s_istore (ls' := [(5, vI r1), (0, vR o), (1, vI x1), (2, vI x2), (3, vI x3), (4, vI x4)]) dX10_does_99 (Nat.le_of_ble_eq_true rfl) rfl ?_
  exact s_sub (ks := [1, 2, 3, 4, 5, 0]) rfl (fX10_does_b101_ok FU o x1 x2 x3 x4 r1 F _ ho h hq)
theorem fX10_does_b64_ok {Qr : Option PV → Mem → Prop}  : ∀ (n : Nat) (o : Nat) (x1 : Int) (x2 : Int) (x3 : Int) (x4 : Int) (x5 : Int) (F : Mem) (res : Mem) (ho : isK o 10), fX10_does_b64 n o x1 x2 x3 x4 x5 F = some res → Qr none res → PR cX10_does (zX10_does Qr) 64 [(0, vR o), (1, vI x1), (2, vI x2), (3, vI x3), (4, vI x4), (5, vI x5)] [] F := by
  intro n
  induction n with
  | zero => intro o x1 x2 x3 x4 x5 F res ho h hq; exact nomatch (show (none : Option _) = some _ from h)
  | succ n ih =>
    intro o x1 x2 x3 x4 x5 F res ho h hq
    refine s_iload (j := 5) dX10_does_64 rfl ?_
    refine s_aload_n (j := 0) dX10_does_66 rfl rfl ?_
    refine s_iload_n (j := 3) dX10_does_67 rfl rfl ?_
    obtain ⟨r1, hv2, h⟩ := bnd h
    refine s_callV (As := [vI x3]) (rest := [vI x5]) (r := (some (vI r1))) (F' := F) dX10_does_68 (clX10_249 (Nat.le_of_ble_eq_true rfl) (Nat.le_of_ble_eq_true rfl)) ho rfl ⟨_, _, _, rfl, ho, hv2, rfl, rfl⟩ rfl (Nat.le_of_ble_eq_true rfl) ?_
    refine s_icmp_ge (tgt := 94) dX10_does_71 rfl (fun hc3 => ?_) (fun hc3 => ?_)
    · have h := ifp hc3 h
      exact s_sub (ks := [0, 1, 2, 3, 4]) rfl (fX10_does_b94_ok o x1 x2 x3 x4 F _ ho h hq)
    · have h := ifn hc3 h
      refine s_aload_n (j := 0) dX10_does_74 rfl rfl ?_
      refine s_getR dX10_does_75 flX10_33 ho ?_
      refine s_iload (j := 5) dX10_does_78 rfl ?_
      refine s_aload_n (j := 0) dX10_does_80 rfl rfl ?_
      refine s_getR dX10_does_81 flX10_30 ho ?_
      refine s_iload (j := 5) dX10_does_84 rfl ?_
      obtain ⟨hb4, h⟩ := gd h
      refine s_iaload dX10_does_86 (trX10_17 ho) hb4.1 hb4.2 ?_
      obtain ⟨hb5, h⟩ := gd h
      refine s_iastore dX10_does_87 (trX10_18 ho) hb5.1 hb5.2 ?_
      refine s_iinc (ls' := [(5, vI (xw (x5 + 1))), (0, vR o), (1, vI x1), (2, vI x2), (3, vI x3), (4, vI x4)]) (j := 5) dX10_does_88 rfl (Nat.le_of_ble_eq_true rfl) rfl ?_
      refine s_goto (tgt := 64) dX10_does_91 rfl ?_
      exact s_sub (ks := [1, 2, 3, 4, 5, 0]) rfl (ih o x1 x2 x3 x4 (xw (x5 + 1)) (mset F (o + 6) x5.toNat (F (o + 5) x5.toNat)) _ ho h hq)
theorem fX10_does_b45_ok {Qr : Option PV → Mem → Prop}  : ∀ (o : Nat) (x1 : Int) (x2 : Int) (x3 : Int) (x4 : Int) (F : Mem) (res : Mem) (ho : isK o 10), fX10_does_b45 o x1 x2 x3 x4 F = some res → Qr none res → PR cX10_does (zX10_does Qr) 45 [(0, vR o), (1, vI x1), (2, vI x2), (3, vI x3), (4, vI x4)] [] F := by
  intro o x1 x2 x3 x4 F res ho h hq
  refine s_iload_n (j := 2) dX10_does_45 rfl rfl ?_
  refine s_iconst dX10_does_46 (cin rfl) ?_
  refine s_icmp_ne (tgt := 94) dX10_does_47 rfl (fun hc1 => ?_) (fun hc1 => ?_)
  · have h := ifp hc1 h
    exact s_sub (ks := [0, 1, 2, 3, 4]) rfl (fX10_does_b94_ok o x1 x2 x3 x4 F _ ho h hq)
  · have h := ifn hc1 h
    refine s_aload_n (j := 0) dX10_does_50 rfl rfl ?_
    refine s_getR dX10_does_51 flX10_42 ho ?_
    refine s_iload_n (j := 3) dX10_does_54 rfl rfl ?_
    refine s_iconst dX10_does_55 (cin rfl) ?_
    obtain ⟨hb2, h⟩ := gd h
    refine s_zastore dX10_does_56 (trX10_21 ho) hb2.1 hb2.2 (Or.inr rfl) ?_
    refine s_aload_n (j := 0) dX10_does_57 rfl rfl ?_
    refine s_iload_n (j := 3) dX10_does_58 rfl rfl ?_
    obtain ⟨r3, hv4, h⟩ := bnd h
    refine s_callV (As := [vI x3]) (rest := []) (r := (some (vI r3))) (F' := mset F (o + 9) x3.toNat 1) dX10_does_59 (clX10_246 (Nat.le_of_ble_eq_true rfl) (Nat.le_of_ble_eq_true rfl)) ho rfl ⟨_, _, _, rfl, ho, hv4, rfl, rfl⟩ rfl (Nat.le_of_ble_eq_true rfl) ?_
    refine s_istore (ls' := [(5, vI r3), (0, vR o), (1, vI x1), (2, vI x2), (3, vI x3), (4, vI x4)]) dX10_does_62 (Nat.le_of_ble_eq_true rfl) rfl ?_
    exact s_sub (ks := [1, 2, 3, 4, 5, 0]) rfl (fX10_does_b64_ok FU o x1 x2 x3 x4 r3 (mset F (o + 9) x3.toNat 1) _ ho h hq)
theorem fX10_does_b35_ok {Qr : Option PV → Mem → Prop}  : ∀ (o : Nat) (x1 : Int) (x2 : Int) (x3 : Int) (x4 : Int) (F : Mem) (res : Mem) (ho : isK o 10), fX10_does_b35 o x1 x2 x3 x4 F = some res → Qr none res → PR cX10_does (zX10_does Qr) 35 [(0, vR o), (1, vI x1), (2, vI x2), (3, vI x3), (4, vI x4)] [] F := by
  intro o x1 x2 x3 x4 F res ho h hq
  refine s_iload_n (j := 2) dX10_does_35 rfl rfl ?_
  refine s_iconst dX10_does_36 (cin rfl) ?_
  refine s_icmp_ne (tgt := 45) dX10_does_37 rfl (fun hc1 => ?_) (fun hc1 => ?_)
  · have h := ifp hc1 h
    exact s_sub (ks := [0, 1, 2, 3, 4]) rfl (fX10_does_b45_ok o x1 x2 x3 x4 F _ ho h hq)
  · have h := ifn hc1 h
    refine s_aload_n (j := 0) dX10_does_40 rfl rfl ?_
    refine s_iload_n (j := 3) dX10_does_41 rfl rfl ?_
    obtain ⟨q2, hv3, h⟩ := bnd h
    refine s_callV (As := [vI x3]) (rest := []) (r := none) (F' := q2) dX10_does_42 (clX10_261 (Nat.le_of_ble_eq_true rfl) (Nat.le_of_ble_eq_true rfl)) ho rfl ⟨_, _, _, rfl, ho, hv3, rfl, rfl⟩ rfl (Nat.le_of_ble_eq_true rfl) ?_
    exact s_sub (ks := [0, 1, 2, 3, 4]) rfl (fX10_does_b45_ok o x1 x2 x3 x4 q2 _ ho h hq)
theorem fX10_does_ok {Qr : Option PV → Mem → Prop} : ∀ (o : Nat) (x1 : Int) (F : Mem) (res : Mem) (ho : isK o 10), fX10_does o x1 F = some res → Qr none res → PR cX10_does (zX10_does Qr) 0 [(0, vR o), (1, vI x1)] [] F := by
  intro o x1 F res ho h hq
  refine s_aload_n (j := 0) dX10_does_0 rfl rfl ?_
  refine s_iload_n (j := 1) dX10_does_1 rfl rfl ?_
  refine s_iconst dX10_does_2 (cin rfl) ?_
  obtain ⟨r1, hv2, h⟩ := bnd h
  refine s_callV (As := [vI x1, vI 0]) (rest := []) (r := (some (vI r1))) (F' := F) dX10_does_3 (clX10_243 (Nat.le_of_ble_eq_true rfl) (Nat.le_of_ble_eq_true rfl)) ho rfl ⟨_, _, _, _, rfl, ho, hv2, rfl, rfl⟩ rfl (Nat.le_of_ble_eq_true rfl) ?_
  refine s_istore_n (ls' := [(2, vI r1), (0, vR o), (1, vI x1)]) dX10_does_6 rfl (Nat.le_of_ble_eq_true rfl) rfl ?_
  refine s_aload_n (j := 1) dX10_does_7 rfl rfl ?_
  refine s_iload_n (j := 2) dX10_does_8 rfl rfl ?_
  refine s_iconst dX10_does_9 (cin rfl) ?_
  obtain ⟨r3, hv4, h⟩ := bnd h
  refine s_callV (As := [vI x1, vI 1]) (rest := []) (r := (some (vI r3))) (F' := F) dX10_does_10 (clX10_243 (Nat.le_of_ble_eq_true rfl) (Nat.le_of_ble_eq_true rfl)) ho rfl ⟨_, _, _, _, rfl, ho, hv4, rfl, rfl⟩ rfl (Nat.le_of_ble_eq_true rfl) ?_
  refine s_istore_n dX10_does_13 rfl (Nat.le_of_ble_eq_true rfl) rfl ?_
  refine s_aload_n (j := 2) dX10_does_14 rfl rfl ?_
  refine s_iload_n (j := 3) dX10_does_15 rfl rfl ?_
  refine s_iconst dX10_does_16 (cin rfl) ?_
  obtain ⟨r5, hv6, h⟩ := bnd h
  refine s_callV (As := [vI x1, vI 2]) (rest := []) (r := (some (vI r5))) (F' := F) dX10_does_17 (clX10_243 (Nat.le_of_ble_eq_true rfl) (Nat.le_of_ble_eq_true rfl)) ho rfl ⟨_, _, _, _, rfl, ho, hv6, rfl, rfl⟩ rfl (Nat.le_of_ble_eq_true rfl) ?_
  refine s_istore (ls' := [(4, vI r5), (3, vI r3), (2, vI r1), (0, vR o), (1, vI x1)]) dX10_does_20 (Nat.le_of_ble_eq_true rfl) rfl ?_
  refine s_iload_n (j := 2) dX10_does_22 rfl rfl ?_
  refine s_iconst dX10_does_23 (cin rfl) ?_
  refine s_icmp_ne (tgt := 35) dX10_does_24 rfl (fun hc7 => ?_) (fun hc7 => ?_)
  · have h := ifp hc7 h
    exact s_sub (ks := [3, 4, 2, 1, 0]) rfl (fX10_does_b35_ok o x1 r1 r3 r5 F _ ho h hq)
  · have h := ifn hc7 h
    refine s_aload_n (j := 3) dX10_does_27 rfl rfl ?_
    refine s_getR dX10_does_28 flX10_36 ho ?_
    refine s_iload_n (j := 1) dX10_does_31 rfl rfl ?_
    refine s_iload (j := 0) dX10_does_32 rfl ?_
    obtain ⟨hb8, h⟩ := gd h
    refine s_iastore dX10_does_34 (trX10_19 ho) hb8.1 hb8.2 ?_
    exact s_sub (ks := [3, 4, 2, 1, 0]) rfl (fX10_does_b35_ok o x1 r1 r3 r5 (mset F (o + 7) r3.toNat r5) _ ho h hq)
def gX10_does : XG := fun As F r F' => ∃ o : Nat, ∃ x1 : Int, ∃ res : Mem, As = [vR o, vI x1] ∧ isK o 10 ∧ fX10_does o x1 F = some res ∧ r = none ∧ F' = res
theorem ctX10_does : xCT yX10_does cX10_does 6 (none) 2 48 gX10_does := xmet (by decide +kernel) (fun As F r F' hg => by obtain ⟨o, x1, res, rfl, ho, h, rfl, rfl⟩ := hg; exact Nat.le_of_ble_eq_true rfl) (fun As F r F' hg => by obtain ⟨o, x1, res, rfl, ho, h, rfl, rfl⟩ := hg; exact fX10_does_ok o x1 _ _ ho h ⟨rfl, rfl⟩)
theorem mcX10_does : Cond.code yX10_does cX10_does 6 (none) ∈ xw_T ∧ Cond.initialized yX10_does.cls ∈ xw_T ∧ Cond.instanceMethod yX10_does ∈ xw_T ∧ Cond.selects yX10_does.cls yX10_does yX10_does ∈ xw_T := ⟨(xinT 1716 (by decide +kernel) (by decide +kernel)), (xinT 127 (by decide +kernel) (by decide +kernel)), (xinT 1715 (by decide +kernel) (by decide +kernel)), (xinT 80 (by decide +kernel) (by decide +kernel))⟩
theorem clX10_270 {fr lo : Nat} (h1 : 2 + 1 ≤ fr) (h2 : 8 + (6 + 11) + 48 ≤ lo) : xCall RX10 fr lo 0 270 10 1 gX10_does := ⟨_, _, _, _, _, _, ctX10_does, h1, h2, mcX10_does.1, (xinT 1713 (by decide +kernel) (by decide +kernel)), mcX10_does.2.1, ⟨by decide +kernel, by decide +kernel, by decide +kernel⟩, by rw [if_pos rfl]; exact ⟨mcX10_does.2.2.1, mcX10_does.2.2.2, _, _, rfl⟩⟩
theorem dX10_goesBy_0 : decode cX10_goesBy 0 = .ok (.aload_n 0, 1) := by decide +kernel
theorem dX10_goesBy_1 : decode cX10_goesBy 1 = .ok (.invokevirtual 264, 3) := by decide +kernel
theorem dX10_goesBy_4 : decode cX10_goesBy 4 = .ok (.iload_n 1, 1) := by decide +kernel
theorem dX10_goesBy_5 : decode cX10_goesBy 5 = .ok (.iconst (-1), 1) := by decide +kernel
theorem dX10_goesBy_6 : decode cX10_goesBy 6 = .ok (.if_icmp .ne 4, 3) := by decide +kernel
theorem dX10_goesBy_9 : decode cX10_goesBy 9 = .ok (.return_, 1) := by decide +kernel
theorem dX10_goesBy_10 : decode cX10_goesBy 10 = .ok (.aload_n 0, 1) := by decide +kernel
theorem dX10_goesBy_11 : decode cX10_goesBy 11 = .ok (.iconst 2, 1) := by decide +kernel
theorem dX10_goesBy_12 : decode cX10_goesBy 12 = .ok (.iload_n 1, 1) := by decide +kernel
theorem dX10_goesBy_13 : decode cX10_goesBy 13 = .ok (.invokestatic 169, 3) := by decide +kernel
theorem dX10_goesBy_16 : decode cX10_goesBy 16 = .ok (.putfield 237, 3) := by decide +kernel
theorem dX10_goesBy_19 : decode cX10_goesBy 19 = .ok (.iconst 1, 1) := by decide +kernel
theorem dX10_goesBy_20 : decode cX10_goesBy 20 = .ok (.istore_n 3, 1) := by decide +kernel
theorem dX10_goesBy_21 : decode cX10_goesBy 21 = .ok (.iload_n 3, 1) := by decide +kernel
theorem dX10_goesBy_22 : decode cX10_goesBy 22 = .ok (.ifCond .eq 64, 3) := by decide +kernel
theorem dX10_goesBy_25 : decode cX10_goesBy 25 = .ok (.aload_n 0, 1) := by decide +kernel
theorem dX10_goesBy_26 : decode cX10_goesBy 26 = .ok (.getfield 240, 3) := by decide +kernel
theorem dX10_goesBy_29 : decode cX10_goesBy 29 = .ok (.iload_n 2, 1) := by decide +kernel
theorem dX10_goesBy_30 : decode cX10_goesBy 30 = .ok (.if_icmp .ge 56, 3) := by decide +kernel
theorem dX10_goesBy_33 : decode cX10_goesBy 33 = .ok (.aload_n 0, 1) := by decide +kernel
theorem dX10_goesBy_34 : decode cX10_goesBy 34 = .ok (.getfield 240, 3) := by decide +kernel
theorem dX10_goesBy_37 : decode cX10_goesBy 37 = .ok (.aload_n 0, 1) := by decide +kernel
theorem dX10_goesBy_38 : decode cX10_goesBy 38 = .ok (.getfield 7, 3) := by decide +kernel
theorem dX10_goesBy_41 : decode cX10_goesBy 41 = .ok (.aload_n 0, 1) := by decide +kernel
theorem dX10_goesBy_42 : decode cX10_goesBy 42 = .ok (.getfield 237, 3) := by decide +kernel
theorem dX10_goesBy_45 : decode cX10_goesBy 45 = .ok (.iaload, 1) := by decide +kernel
theorem dX10_goesBy_46 : decode cX10_goesBy 46 = .ok (.if_icmp .ge 40, 3) := by decide +kernel
theorem dX10_goesBy_49 : decode cX10_goesBy 49 = .ok (.aload_n 0, 1) := by decide +kernel
theorem dX10_goesBy_50 : decode cX10_goesBy 50 = .ok (.aload_n 0, 1) := by decide +kernel
theorem dX10_goesBy_51 : decode cX10_goesBy 51 = .ok (.getfield 240, 3) := by decide +kernel
theorem dX10_goesBy_54 : decode cX10_goesBy 54 = .ok (.invokevirtual 267, 3) := by decide +kernel
theorem dX10_goesBy_57 : decode cX10_goesBy 57 = .ok (.istore_n 3, 1) := by decide +kernel
theorem dX10_goesBy_58 : decode cX10_goesBy 58 = .ok (.iload_n 3, 1) := by decide +kernel
theorem dX10_goesBy_59 : decode cX10_goesBy 59 = .ok (.ifCond .ne 6, 3) := by decide +kernel
theorem dX10_goesBy_62 : decode cX10_goesBy 62 = .ok (.goto (-41), 3) := by decide +kernel
theorem dX10_goesBy_65 : decode cX10_goesBy 65 = .ok (.aload_n 0, 1) := by decide +kernel
theorem dX10_goesBy_66 : decode cX10_goesBy 66 = .ok (.aload_n 0, 1) := by decide +kernel
theorem dX10_goesBy_67 : decode cX10_goesBy 67 = .ok (.getfield 240, 3) := by decide +kernel
theorem dX10_goesBy_70 : decode cX10_goesBy 70 = .ok (.invokevirtual 270, 3) := by decide +kernel
theorem dX10_goesBy_73 : decode cX10_goesBy 73 = .ok (.aload_n 0, 1) := by decide +kernel
theorem dX10_goesBy_74 : decode cX10_goesBy 74 = .ok (.dup, 1) := by decide +kernel
theorem dX10_goesBy_75 : decode cX10_goesBy 75 = .ok (.getfield 240, 3) := by decide +kernel
theorem dX10_goesBy_78 : decode cX10_goesBy 78 = .ok (.iconst 1, 1) := by decide +kernel
theorem dX10_goesBy_79 : decode cX10_goesBy 79 = .ok (.iadd, 1) := by decide +kernel
theorem dX10_goesBy_80 : decode cX10_goesBy 80 = .ok (.putfield 240, 3) := by decide +kernel
theorem dX10_goesBy_83 : decode cX10_goesBy 83 = .ok (.goto (-62), 3) := by decide +kernel
theorem dX10_goesBy_86 : decode cX10_goesBy 86 = .ok (.return_, 1) := by decide +kernel
def zX10_goesBy (Qr : Option PV → Mem → Prop) : XZ := (RX10, 4, 89, 4, none, Qr)
noncomputable def fX10_goesBy_b21 : Nat → Nat → Int → Int → Mem → Option Mem
  | 0, _, _, _, _ => none
  | n + 1, o, x2, x3, F =>
    if x3 = 0 then
      some F
    else
      if x2 ≤ (F o 23) then
        some F
      else
        if (0 : Int) ≤ (F o 22) ∧ (F o 22) < (alen (o + 1) : Int) then
          if (F (o + 1) (F o 22).toNat) ≤ (F o 23) then
            some F
          else
            (fX10_can o (F o 23) F).bind fun r5 =>
            if r5 ≠ 0 then
              (fX10_does o (F o 23) F).bind fun q8 =>
              fX10_goesBy_b21 n o x2 r5 (mset q8 o 23 (xw ((q8 o 23) + 1)))
            else
              fX10_goesBy_b21 n o x2 r5 F
        else none
noncomputable def fX10_goesBy (o : Nat) (x1 : Int) (x2 : Int) (F : Mem) : Option Mem :=
  (fX10_begins o F).bind fun q1 =>
  if x1 ≠ (-1) then
    fX10_goesBy_b21 FU o x2 1 (mset q1 o 22 (fX10_placeOf 2 x1))
  else
    some q1
theorem fX10_goesBy_b21_ok {Qr : Option PV → Mem → Prop}  : ∀ (n : Nat) (o : Nat) (x2 : Int) (x3 : Int) (F : Mem) (res : Mem) (ho : isK o 10), fX10_goesBy_b21 n o x2 x3 F = some res → Qr none res → PR cX10_goesBy (zX10_goesBy Qr) 21 [(0, vR o), (2, vI x2), (3, vI x3)] [] F := by
  intro n
  induction n with
  | zero => intro o x2 x3 F res ho h hq; exact nomatch (show (none : Option _) = some _ from h)
  | succ n ih =>
    intro o x2 x3 F res ho h hq
    refine s_iload_n (j := 2) dX10_goesBy_21 rfl rfl ?_
    refine s_if_eq (tgt := 86) dX10_goesBy_22 rfl (fun hc1 => ?_) (fun hc1 => ?_)
    · have h := ifp hc1 h
      have h := Option.some.inj h
      subst h
      exact s_return dX10_goesBy_86 rfl hq
    · have h := ifn hc1 h
      refine s_aload_n (j := 0) dX10_goesBy_25 rfl rfl ?_
      refine s_getI dX10_goesBy_26 flX10_240 ho ?_
      refine s_iload_n (j := 1) dX10_goesBy_29 rfl rfl ?_
      refine s_icmp_ge (tgt := 86) dX10_goesBy_30 rfl (fun hc2 => ?_) (fun hc2 => ?_)
      · have h := ifp hc2 h
        have h := Option.some.inj h
        subst h
        exact s_return dX10_goesBy_86 rfl hq
      · have h := ifn hc2 h
        refine s_aload_n (j := 0) dX10_goesBy_33 rfl rfl ?_
        refine s_getI dX10_goesBy_34 flX10_240 ho ?_
        refine s_aload_n (j := 0) dX10_goesBy_37 rfl rfl ?_
        refine s_getR dX10_goesBy_38 flX10_7 ho ?_
        refine s_aload_n (j := 0) dX10_goesBy_41 rfl rfl ?_
        refine s_getI dX10_goesBy_42 flX10_237 ho ?_
        obtain ⟨hb3, h⟩ := gd h
        refine s_iaload dX10_goesBy_45 (trX10_0 ho) hb3.1 hb3.2 ?_
        refine s_icmp_ge (tgt := 86) dX10_goesBy_46 rfl (fun hc4 => ?_) (fun hc4 => ?_)
        · have h := ifp hc4 h
          have h := Option.some.inj h
          subst h
          exact s_return dX10_goesBy_86 rfl hq
        · have h := ifn hc4 h
          refine s_aload_n (j := 0) dX10_goesBy_49 rfl rfl ?_
          refine s_aload_n (j := 0) dX10_goesBy_50 rfl rfl ?_
          refine s_getI dX10_goesBy_51 flX10_240 ho ?_
          obtain ⟨r5, hv6, h⟩ := bnd h
          refine s_callV (As := [vI (F o 23)]) (rest := []) (r := (some (vI r5))) (F' := F) dX10_goesBy_54 (clX10_267 (Nat.le_of_ble_eq_true rfl) (Nat.le_of_ble_eq_true rfl)) ho rfl ⟨_, _, _, rfl, ho, hv6, rfl, rfl⟩ rfl (Nat.le_of_ble_eq_true rfl) ?_
          refine s_istore_n (ls' := [(3, vI r5), (0, vR o), (2, vI x2)]) dX10_goesBy_57 rfl (Nat.le_of_ble_eq_true rfl) rfl ?_
          refine s_iload_n (j := 0) dX10_goesBy_58 rfl rfl ?_
          refine s_if_ne (tgt := 65) dX10_goesBy_59 rfl (fun hc7 => ?_) (fun hc7 => ?_)
          · have h := ifp hc7 h
            refine s_aload_n (j := 1) dX10_goesBy_65 rfl rfl ?_
            refine s_aload_n (j := 1) dX10_goesBy_66 rfl rfl ?_
            refine s_getI dX10_goesBy_67 flX10_240 ho ?_
            obtain ⟨q8, hv9, h⟩ := bnd h
            refine s_callV (As := [vI (F o 23)]) (rest := []) (r := none) (F' := q8) dX10_goesBy_70 (clX10_270 (Nat.le_of_ble_eq_true rfl) (Nat.le_of_ble_eq_true rfl)) ho rfl ⟨_, _, _, rfl, ho, hv9, rfl, rfl⟩ rfl (Nat.le_of_ble_eq_true rfl) ?_
            refine s_aload_n (j := 1) dX10_goesBy_73 rfl rfl ?_
            refine s_dup dX10_goesBy_74 rfl ?_
            refine s_getI dX10_goesBy_75 flX10_240 ho ?_
            refine s_iconst dX10_goesBy_78 (cin rfl) ?_
            refine s_iadd dX10_goesBy_79 ?_
            refine s_putI dX10_goesBy_80 flX10_240 fpX10_23 ho ?_
            refine s_goto (tgt := 21) dX10_goesBy_83 rfl ?_
            exact s_sub (ks := [1, 2, 0]) rfl (ih o x2 r5 (mset q8 o 23 (xw ((q8 o 23) + 1))) _ ho h hq)
          · have h := ifn hc7 h
            refine s_goto (tgt := 21) dX10_goesBy_62 rfl ?_
            exact s_sub (ks := [1, 2, 0]) rfl (ih o x2 r5 F _ ho h hq)
theorem fX10_goesBy_ok {Qr : Option PV → Mem → Prop} : ∀ (o : Nat) (x1 : Int) (x2 : Int) (F : Mem) (res : Mem) (ho : isK o 10), fX10_goesBy o x1 x2 F = some res → Qr none res → PR cX10_goesBy (zX10_goesBy Qr) 0 [(0, vR o), (1, vI x1), (2, vI x2)] [] F := by
  intro o x1 x2 F res ho h hq
  refine s_aload_n (j := 0) dX10_goesBy_0 rfl rfl ?_
  obtain ⟨q1, hv2, h⟩ := bnd h
  refine s_callV (As := []) (rest := []) (r := none) (F' := q1) dX10_goesBy_1 (clX10_264 (Nat.le_of_ble_eq_true rfl) (Nat.le_of_ble_eq_true rfl)) ho rfl ⟨_, _, rfl, ho, hv2, rfl, rfl⟩ rfl (Nat.le_of_ble_eq_true rfl) ?_
  refine s_iload_n (j := 1) dX10_goesBy_4 rfl rfl ?_
  refine s_iconst dX10_goesBy_5 (cin rfl) ?_
  refine s_icmp_ne (tgt := 10) dX10_goesBy_6 rfl (fun hc3 => ?_) (fun hc3 => ?_)
  · have h := ifp hc3 h
    refine s_aload_n (j := 0) dX10_goesBy_10 rfl rfl ?_
    refine s_iconst dX10_goesBy_11 (cin rfl) ?_
    refine s_iload_n (j := 1) dX10_goesBy_12 rfl rfl ?_
    refine s_callS (As := [vI 2, vI x1]) (rest := [vR o]) (r := (some (vI (fX10_placeOf 2 x1)))) (F' := q1) dX10_goesBy_13 (clX10_169 (Nat.le_of_ble_eq_true rfl) (Nat.le_of_ble_eq_true rfl)) rfl ⟨_, _, _, rfl, rfl, rfl, rfl⟩ rfl (Nat.le_of_ble_eq_true rfl) ?_
    refine s_putI dX10_goesBy_16 flX10_237 fpX10_22 ho ?_
    refine s_iconst dX10_goesBy_19 (cin rfl) ?_
    refine s_istore_n (ls' := [(3, vI 1), (0, vR o), (1, vI x1), (2, vI x2)]) dX10_goesBy_20 rfl (Nat.le_of_ble_eq_true rfl) rfl ?_
    exact s_sub (ks := [1, 3, 0]) rfl (fX10_goesBy_b21_ok FU o x2 1 (mset q1 o 22 (fX10_placeOf 2 x1)) _ ho h hq)
  · have h := ifn hc3 h
    have h := Option.some.inj h
    subst h
    exact s_return dX10_goesBy_9 rfl hq
def gX10_goesBy : XG := fun As F r F' => ∃ o : Nat, ∃ x1 : Int, ∃ x2 : Int, ∃ res : Mem, As = [vR o, vI x1, vI x2] ∧ isK o 10 ∧ fX10_goesBy o x1 x2 F = some res ∧ r = none ∧ F' = res
theorem ctX10_goesBy : xCT yX10_goesBy cX10_goesBy 4 (none) 4 89 gX10_goesBy := xmet (by decide +kernel) (fun As F r F' hg => by obtain ⟨o, x1, x2, res, rfl, ho, h, rfl, rfl⟩ := hg; exact Nat.le_of_ble_eq_true rfl) (fun As F r F' hg => by obtain ⟨o, x1, x2, res, rfl, ho, h, rfl, rfl⟩ := hg; exact fX10_goesBy_ok o x1 x2 _ _ ho h ⟨rfl, rfl⟩)
theorem mcX10_goesBy : Cond.code yX10_goesBy cX10_goesBy 4 (none) ∈ xw_T ∧ Cond.initialized yX10_goesBy.cls ∈ xw_T ∧ Cond.instanceMethod yX10_goesBy ∈ xw_T ∧ Cond.selects yX10_goesBy.cls yX10_goesBy yX10_goesBy ∈ xw_T := ⟨(xinT 1684 (by decide +kernel) (by decide +kernel)), (xinT 127 (by decide +kernel) (by decide +kernel)), (xinT 1683 (by decide +kernel) (by decide +kernel)), (xinT 72 (by decide +kernel) (by decide +kernel))⟩
theorem clX10_273 {fr lo : Nat} (h1 : 4 + 1 ≤ fr) (h2 : 8 + (4 + 11) + 89 ≤ lo) : xCall RX10 fr lo 0 273 10 2 gX10_goesBy := ⟨_, _, _, _, _, _, ctX10_goesBy, h1, h2, mcX10_goesBy.1, (xinT 1681 (by decide +kernel) (by decide +kernel)), mcX10_goesBy.2.1, ⟨by decide +kernel, by decide +kernel, by decide +kernel⟩, by rw [if_pos rfl]; exact ⟨mcX10_goesBy.2.2.1, mcX10_goesBy.2.2.2, _, _, rfl⟩⟩
theorem dX10_stop_0 : decode cX10_stop 0 = .ok (.aload_n 0, 1) := by decide +kernel
theorem dX10_stop_1 : decode cX10_stop 1 = .ok (.iconst 2, 1) := by decide +kernel
theorem dX10_stop_2 : decode cX10_stop 2 = .ok (.iload_n 1, 1) := by decide +kernel
theorem dX10_stop_3 : decode cX10_stop 3 = .ok (.invokevirtual 146, 3) := by decide +kernel
theorem dX10_stop_6 : decode cX10_stop 6 = .ok (.ifCond .ne 5, 3) := by decide +kernel
theorem dX10_stop_9 : decode cX10_stop 9 = .ok (.iconst (-1), 1) := by decide +kernel
theorem dX10_stop_10 : decode cX10_stop 10 = .ok (.ireturn, 1) := by decide +kernel
theorem dX10_stop_11 : decode cX10_stop 11 = .ok (.aload_n 0, 1) := by decide +kernel
theorem dX10_stop_12 : decode cX10_stop 12 = .ok (.iload_n 1, 1) := by decide +kernel
theorem dX10_stop_13 : decode cX10_stop 13 = .ok (.bipush 30, 2) := by decide +kernel
theorem dX10_stop_15 : decode cX10_stop 15 = .ok (.invokevirtual 273, 3) := by decide +kernel
theorem dX10_stop_18 : decode cX10_stop 18 = .ok (.aload_n 0, 1) := by decide +kernel
theorem dX10_stop_19 : decode cX10_stop 19 = .ok (.getfield 240, 3) := by decide +kernel
theorem dX10_stop_22 : decode cX10_stop 22 = .ok (.ireturn, 1) := by decide +kernel
def zX10_stop (Qr : Option PV → Mem → Prop) : XZ := (RX10, 5, 112, 2, some FieldType.int, Qr)
noncomputable def fX10_stop (o : Nat) (x1 : Int) (F : Mem) : Option (Int × Mem) :=
  (fX10_isOf o 2 x1 F).bind fun r1 =>
  if r1 ≠ 0 then
    (fX10_goesBy o x1 30 F).bind fun q4 =>
    some (q4 o 23, q4)
  else
    some ((-1), F)
theorem fX10_stop_ok {Qr : Option PV → Mem → Prop} : ∀ (o : Nat) (x1 : Int) (F : Mem) (res : (Int × Mem)) (ho : isK o 10), fX10_stop o x1 F = some res → Qr (some (vI res.1)) res.2 → PR cX10_stop (zX10_stop Qr) 0 [(0, vR o), (1, vI x1)] [] F := by
  intro o x1 F res ho h hq
  refine s_aload_n (j := 0) dX10_stop_0 rfl rfl ?_
  refine s_iconst dX10_stop_1 (cin rfl) ?_
  refine s_iload_n (j := 1) dX10_stop_2 rfl rfl ?_
  obtain ⟨r1, hv2, h⟩ := bnd h
  refine s_callV (As := [vI 2, vI x1]) (rest := []) (r := (some (vI r1))) (F' := F) dX10_stop_3 (clX10_146 (Nat.le_of_ble_eq_true rfl) (Nat.le_of_ble_eq_true rfl)) ho rfl ⟨_, _, _, _, rfl, ho, hv2, rfl, rfl⟩ rfl (Nat.le_of_ble_eq_true rfl) ?_
  refine s_if_ne (tgt := 11) dX10_stop_6 rfl (fun hc3 => ?_) (fun hc3 => ?_)
  · have h := ifp hc3 h
    refine s_aload_n (j := 0) dX10_stop_11 rfl rfl ?_
    refine s_iload_n (j := 1) dX10_stop_12 rfl rfl ?_
    refine s_bipush dX10_stop_13 rfl (cin rfl) ?_
    obtain ⟨q4, hv5, h⟩ := bnd h
    refine s_callV (As := [vI x1, vI 30]) (rest := []) (r := none) (F' := q4) dX10_stop_15 (clX10_273 (Nat.le_of_ble_eq_true rfl) (Nat.le_of_ble_eq_true rfl)) ho rfl ⟨_, _, _, _, rfl, ho, hv5, rfl, rfl⟩ rfl (Nat.le_of_ble_eq_true rfl) ?_
    refine s_aload_n (j := 0) dX10_stop_18 rfl rfl ?_
    refine s_getI dX10_stop_19 flX10_240 ho ?_
    have h := Option.some.inj h
    subst h
    exact s_ireturn dX10_stop_22 rfl hq
  · have h := ifn hc3 h
    refine s_iconst dX10_stop_9 (cin rfl) ?_
    have h := Option.some.inj h
    subst h
    exact s_ireturn dX10_stop_10 rfl hq
def gX10_stop : XG := fun As F r F' => ∃ o : Nat, ∃ x1 : Int, ∃ res : (Int × Mem), As = [vR o, vI x1] ∧ isK o 10 ∧ fX10_stop o x1 F = some res ∧ r = some (vI res.1) ∧ F' = res.2
theorem ctX10_stop : xCT yX10_stop cX10_stop 2 (some FieldType.int) 5 112 gX10_stop := xmet (by decide +kernel) (fun As F r F' hg => by obtain ⟨o, x1, res, rfl, ho, h, rfl, rfl⟩ := hg; exact Nat.le_of_ble_eq_true rfl) (fun As F r F' hg => by obtain ⟨o, x1, res, rfl, ho, h, rfl, rfl⟩ := hg; exact fX10_stop_ok o x1 _ _ ho h ⟨rfl, rfl⟩)
theorem mcX10_stop : Cond.code yX10_stop cX10_stop 2 (some FieldType.int) ∈ xw_T ∧ Cond.initialized yX10_stop.cls ∈ xw_T ∧ Cond.instanceMethod yX10_stop ∈ xw_T ∧ Cond.selects yX10_stop.cls yX10_stop yX10_stop ∈ xw_T := ⟨(xinT 1680 (by decide +kernel) (by decide +kernel)), (xinT 127 (by decide +kernel) (by decide +kernel)), (xinT 1678 (by decide +kernel) (by decide +kernel)), (xinT 1679 (by decide +kernel) (by decide +kernel))⟩
theorem dX10_isState_0 : decode cX10_isState 0 = .ok (.iload_n 2, 1) := by decide +kernel
theorem dX10_isState_1 : decode cX10_isState 1 = .ok (.ifCond .lt 17, 3) := by decide +kernel
theorem dX10_isState_4 : decode cX10_isState 4 = .ok (.iload_n 1, 1) := by decide +kernel
theorem dX10_isState_5 : decode cX10_isState 5 = .ok (.iconst (-1), 1) := by decide +kernel
theorem dX10_isState_6 : decode cX10_isState 6 = .ok (.if_icmp .eq 14, 3) := by decide +kernel
theorem dX10_isState_9 : decode cX10_isState 9 = .ok (.aload_n 0, 1) := by decide +kernel
theorem dX10_isState_10 : decode cX10_isState 10 = .ok (.iconst 2, 1) := by decide +kernel
theorem dX10_isState_11 : decode cX10_isState 11 = .ok (.iload_n 1, 1) := by decide +kernel
theorem dX10_isState_12 : decode cX10_isState 12 = .ok (.invokevirtual 146, 3) := by decide +kernel
theorem dX10_isState_15 : decode cX10_isState 15 = .ok (.ifCond .ne 5, 3) := by decide +kernel
theorem dX10_isState_18 : decode cX10_isState 18 = .ok (.iconst 0, 1) := by decide +kernel
theorem dX10_isState_19 : decode cX10_isState 19 = .ok (.ireturn, 1) := by decide +kernel
theorem dX10_isState_20 : decode cX10_isState 20 = .ok (.aload_n 0, 1) := by decide +kernel
theorem dX10_isState_21 : decode cX10_isState 21 = .ok (.iload_n 1, 1) := by decide +kernel
theorem dX10_isState_22 : decode cX10_isState 22 = .ok (.iload_n 2, 1) := by decide +kernel
theorem dX10_isState_23 : decode cX10_isState 23 = .ok (.invokevirtual 273, 3) := by decide +kernel
theorem dX10_isState_26 : decode cX10_isState 26 = .ok (.aload_n 0, 1) := by decide +kernel
theorem dX10_isState_27 : decode cX10_isState 27 = .ok (.getfield 240, 3) := by decide +kernel
theorem dX10_isState_30 : decode cX10_isState 30 = .ok (.iload_n 2, 1) := by decide +kernel
theorem dX10_isState_31 : decode cX10_isState 31 = .ok (.if_icmp .ne 7, 3) := by decide +kernel
theorem dX10_isState_34 : decode cX10_isState 34 = .ok (.iconst 1, 1) := by decide +kernel
theorem dX10_isState_35 : decode cX10_isState 35 = .ok (.goto 4, 3) := by decide +kernel
theorem dX10_isState_38 : decode cX10_isState 38 = .ok (.iconst 0, 1) := by decide +kernel
theorem dX10_isState_39 : decode cX10_isState 39 = .ok (.ireturn, 1) := by decide +kernel
def zX10_isState (Qr : Option PV → Mem → Prop) : XZ := (RX10, 5, 112, 3, some FieldType.boolean, Qr)
noncomputable def fX10_isState_b20 (o : Nat) (x1 : Int) (x2 : Int) (F : Mem) : Option (Int × Mem) :=
  (fX10_goesBy o x1 x2 F).bind fun q1 =>
  if (q1 o 23) ≠ x2 then
    some (0, q1)
  else
    some (1, q1)
noncomputable def fX10_isState (o : Nat) (x1 : Int) (x2 : Int) (F : Mem) : Option (Int × Mem) :=
  if x2 < 0 then
    some (0, F)
  else
    if x1 = (-1) then
      fX10_isState_b20 o x1 x2 F
    else
      (fX10_isOf o 2 x1 F).bind fun r3 =>
      if r3 ≠ 0 then
        fX10_isState_b20 o x1 x2 F
      else
        some (0, F)
theorem fX10_isState_b20_ok {Qr : Option PV → Mem → Prop}  : ∀ (o : Nat) (x1 : Int) (x2 : Int) (F : Mem) (res : (Int × Mem)) (ho : isK o 10), fX10_isState_b20 o x1 x2 F = some res → Qr (some (vI res.1)) res.2 → PR cX10_isState (zX10_isState Qr) 20 [(0, vR o), (1, vI x1), (2, vI x2)] [] F := by
  intro o x1 x2 F res ho h hq
  refine s_aload_n (j := 0) dX10_isState_20 rfl rfl ?_
  refine s_iload_n (j := 1) dX10_isState_21 rfl rfl ?_
  refine s_iload_n (j := 2) dX10_isState_22 rfl rfl ?_
  obtain ⟨q1, hv2, h⟩ := bnd h
  refine s_callV (As := [vI x1, vI x2]) (rest := []) (r := none) (F' := q1) dX10_isState_23 (clX10_273 (Nat.le_of_ble_eq_true rfl) (Nat.le_of_ble_eq_true rfl)) ho rfl ⟨_, _, _, _, rfl, ho, hv2, rfl, rfl⟩ rfl (Nat.le_of_ble_eq_true rfl) ?_
  refine s_aload_n (j := 0) dX10_isState_26 rfl rfl ?_
  refine s_getI dX10_isState_27 flX10_240 ho ?_
  refine s_iload_n (j := 2) dX10_isState_30 rfl rfl ?_
  refine s_icmp_ne (tgt := 38) dX10_isState_31 rfl (fun hc3 => ?_) (fun hc3 => ?_)
  · have h := ifp hc3 h
    refine s_iconst dX10_isState_38 (cin rfl) ?_
    have h := Option.some.inj h
    subst h
    exact s_zreturn dX10_isState_39 rfl (Or.inl rfl) hq
  · have h := ifn hc3 h
    refine s_iconst dX10_isState_34 (cin rfl) ?_
    refine s_goto (tgt := 39) dX10_isState_35 rfl ?_
    have h := Option.some.inj h
    subst h
    exact s_zreturn dX10_isState_39 rfl (Or.inr rfl) hq
theorem fX10_isState_ok {Qr : Option PV → Mem → Prop} : ∀ (o : Nat) (x1 : Int) (x2 : Int) (F : Mem) (res : (Int × Mem)) (ho : isK o 10), fX10_isState o x1 x2 F = some res → Qr (some (vI res.1)) res.2 → PR cX10_isState (zX10_isState Qr) 0 [(0, vR o), (1, vI x1), (2, vI x2)] [] F := by
  intro o x1 x2 F res ho h hq
  refine s_iload_n (j := 2) dX10_isState_0 rfl rfl ?_
  refine s_if_lt (tgt := 18) dX10_isState_1 rfl (fun hc1 => ?_) (fun hc1 => ?_)
  · have h := ifp hc1 h
    refine s_iconst dX10_isState_18 (cin rfl) ?_
    have h := Option.some.inj h
    subst h
    exact s_zreturn dX10_isState_19 rfl (Or.inl rfl) hq
  · have h := ifn hc1 h
    refine s_iload_n (j := 1) dX10_isState_4 rfl rfl ?_
    refine s_iconst dX10_isState_5 (cin rfl) ?_
    refine s_icmp_eq (tgt := 20) dX10_isState_6 rfl (fun hc2 => ?_) (fun hc2 => ?_)
    · have h := ifp hc2 h
      exact s_sub (ks := [0, 1, 2]) rfl (fX10_isState_b20_ok o x1 x2 F _ ho h hq)
    · have h := ifn hc2 h
      refine s_aload_n (j := 0) dX10_isState_9 rfl rfl ?_
      refine s_iconst dX10_isState_10 (cin rfl) ?_
      refine s_iload_n (j := 1) dX10_isState_11 rfl rfl ?_
      obtain ⟨r3, hv4, h⟩ := bnd h
      refine s_callV (As := [vI 2, vI x1]) (rest := []) (r := (some (vI r3))) (F' := F) dX10_isState_12 (clX10_146 (Nat.le_of_ble_eq_true rfl) (Nat.le_of_ble_eq_true rfl)) ho rfl ⟨_, _, _, _, rfl, ho, hv4, rfl, rfl⟩ rfl (Nat.le_of_ble_eq_true rfl) ?_
      refine s_if_ne (tgt := 20) dX10_isState_15 rfl (fun hc5 => ?_) (fun hc5 => ?_)
      · have h := ifp hc5 h
        exact s_sub (ks := [0, 1, 2]) rfl (fX10_isState_b20_ok o x1 x2 F _ ho h hq)
      · have h := ifn hc5 h
        refine s_iconst dX10_isState_18 (cin rfl) ?_
        have h := Option.some.inj h
        subst h
        exact s_zreturn dX10_isState_19 rfl (Or.inl rfl) hq
def gX10_isState : XG := fun As F r F' => ∃ o : Nat, ∃ x1 : Int, ∃ x2 : Int, ∃ res : (Int × Mem), As = [vR o, vI x1, vI x2] ∧ isK o 10 ∧ fX10_isState o x1 x2 F = some res ∧ r = some (vI res.1) ∧ F' = res.2
theorem ctX10_isState : xCT yX10_isState cX10_isState 3 (some FieldType.boolean) 5 112 gX10_isState := xmet (by decide +kernel) (fun As F r F' hg => by obtain ⟨o, x1, x2, res, rfl, ho, h, rfl, rfl⟩ := hg; exact Nat.le_of_ble_eq_true rfl) (fun As F r F' hg => by obtain ⟨o, x1, x2, res, rfl, ho, h, rfl, rfl⟩ := hg; exact fX10_isState_ok o x1 x2 _ _ ho h ⟨rfl, rfl⟩)
theorem mcX10_isState : Cond.code yX10_isState cX10_isState 3 (some FieldType.boolean) ∈ xw_T ∧ Cond.initialized yX10_isState.cls ∈ xw_T ∧ Cond.instanceMethod yX10_isState ∈ xw_T ∧ Cond.selects yX10_isState.cls yX10_isState yX10_isState ∈ xw_T := ⟨(xinT 1732 (by decide +kernel) (by decide +kernel)), (xinT 127 (by decide +kernel) (by decide +kernel)), (xinT 1731 (by decide +kernel) (by decide +kernel)), (xinT 83 (by decide +kernel) (by decide +kernel))⟩
theorem clX10_276 {fr lo : Nat} (h1 : 5 + 1 ≤ fr) (h2 : 8 + (3 + 11) + 112 ≤ lo) : xCall RX10 fr lo 0 276 10 2 gX10_isState := ⟨_, _, _, _, _, _, ctX10_isState, h1, h2, mcX10_isState.1, (xinT 1729 (by decide +kernel) (by decide +kernel)), mcX10_isState.2.1, ⟨by decide +kernel, by decide +kernel, by decide +kernel⟩, by rw [if_pos rfl]; exact ⟨mcX10_isState.2.2.1, mcX10_isState.2.2.2, _, _, rfl⟩⟩
theorem dX10_owner_0 : decode cX10_owner 0 = .ok (.iload_n 3, 1) := by decide +kernel
theorem dX10_owner_1 : decode cX10_owner 1 = .ok (.iconst 0, 1) := by decide +kernel
theorem dX10_owner_2 : decode cX10_owner 2 = .ok (.bipush 6, 2) := by decide +kernel
theorem dX10_owner_4 : decode cX10_owner 4 = .ok (.invokestatic 115, 3) := by decide +kernel
theorem dX10_owner_7 : decode cX10_owner 7 = .ok (.ifCond .eq 23, 3) := by decide +kernel
theorem dX10_owner_10 : decode cX10_owner 10 = .ok (.iload 4, 2) := by decide +kernel
theorem dX10_owner_12 : decode cX10_owner 12 = .ok (.iconst 0, 1) := by decide +kernel
theorem dX10_owner_13 : decode cX10_owner 13 = .ok (.bipush 47, 2) := by decide +kernel
theorem dX10_owner_15 : decode cX10_owner 15 = .ok (.invokestatic 115, 3) := by decide +kernel
theorem dX10_owner_18 : decode cX10_owner 18 = .ok (.ifCond .eq 12, 3) := by decide +kernel
theorem dX10_owner_21 : decode cX10_owner 21 = .ok (.aload_n 0, 1) := by decide +kernel
theorem dX10_owner_22 : decode cX10_owner 22 = .ok (.iload_n 1, 1) := by decide +kernel
theorem dX10_owner_23 : decode cX10_owner 23 = .ok (.iload_n 2, 1) := by decide +kernel
theorem dX10_owner_24 : decode cX10_owner 24 = .ok (.invokevirtual 276, 3) := by decide +kernel
theorem dX10_owner_27 : decode cX10_owner 27 = .ok (.ifCond .ne 6, 3) := by decide +kernel
theorem dX10_owner_30 : decode cX10_owner 30 = .ok (.bipush (-2), 2) := by decide +kernel
theorem dX10_owner_32 : decode cX10_owner 32 = .ok (.ireturn, 1) := by decide +kernel
theorem dX10_owner_33 : decode cX10_owner 33 = .ok (.iload 5, 2) := by decide +kernel
theorem dX10_owner_35 : decode cX10_owner 35 = .ok (.ifCond .eq 18, 3) := by decide +kernel
theorem dX10_owner_38 : decode cX10_owner 38 = .ok (.aload_n 0, 1) := by decide +kernel
theorem dX10_owner_39 : decode cX10_owner 39 = .ok (.getfield 33, 3) := by decide +kernel
theorem dX10_owner_42 : decode cX10_owner 42 = .ok (.bipush 48, 2) := by decide +kernel
theorem dX10_owner_44 : decode cX10_owner 44 = .ok (.iload_n 3, 1) := by decide +kernel
theorem dX10_owner_45 : decode cX10_owner 45 = .ok (.imul, 1) := by decide +kernel
theorem dX10_owner_46 : decode cX10_owner 46 = .ok (.iload 4, 2) := by decide +kernel
theorem dX10_owner_48 : decode cX10_owner 48 = .ok (.iadd, 1) := by decide +kernel
theorem dX10_owner_49 : decode cX10_owner 49 = .ok (.iaload, 1) := by decide +kernel
theorem dX10_owner_50 : decode cX10_owner 50 = .ok (.goto 15, 3) := by decide +kernel
theorem dX10_owner_53 : decode cX10_owner 53 = .ok (.aload_n 0, 1) := by decide +kernel
theorem dX10_owner_54 : decode cX10_owner 54 = .ok (.getfield 30, 3) := by decide +kernel
theorem dX10_owner_57 : decode cX10_owner 57 = .ok (.bipush 48, 2) := by decide +kernel
theorem dX10_owner_59 : decode cX10_owner 59 = .ok (.iload_n 3, 1) := by decide +kernel
theorem dX10_owner_60 : decode cX10_owner 60 = .ok (.imul, 1) := by decide +kernel
theorem dX10_owner_61 : decode cX10_owner 61 = .ok (.iload 4, 2) := by decide +kernel
theorem dX10_owner_63 : decode cX10_owner 63 = .ok (.iadd, 1) := by decide +kernel
theorem dX10_owner_64 : decode cX10_owner 64 = .ok (.iaload, 1) := by decide +kernel
theorem dX10_owner_65 : decode cX10_owner 65 = .ok (.ireturn, 1) := by decide +kernel
def zX10_owner (Qr : Option PV → Mem → Prop) : XZ := (RX10, 6, 134, 6, some FieldType.int, Qr)
noncomputable def fX10_owner (o : Nat) (x1 : Int) (x2 : Int) (x3 : Int) (x4 : Int) (x5 : Int) (F : Mem) : Option (Int × Mem) :=
  if (fX10_isIn x3 0 6) = 0 then
    some ((-2), F)
  else
    if (fX10_isIn x4 0 47) = 0 then
      some ((-2), F)
    else
      (fX10_isState o x1 x2 F).bind fun q3 =>
      if q3.1 ≠ 0 then
        if x5 = 0 then
          if (0 : Int) ≤ (xw ((xw (48 * x3)) + x4)) ∧ (xw ((xw (48 * x3)) + x4)) < (alen (o + 5) : Int) then
            some (q3.2 (o + 5) (xw ((xw (48 * x3)) + x4)).toNat, q3.2)
          else none
        else
          if (0 : Int) ≤ (xw ((xw (48 * x3)) + x4)) ∧ (xw ((xw (48 * x3)) + x4)) < (alen (o + 6) : Int) then
            some (q3.2 (o + 6) (xw ((xw (48 * x3)) + x4)).toNat, q3.2)
          else none
      else
        some ((-2), q3.2)
theorem fX10_owner_ok {Qr : Option PV → Mem → Prop} : ∀ (o : Nat) (x1 : Int) (x2 : Int) (x3 : Int) (x4 : Int) (x5 : Int) (F : Mem) (res : (Int × Mem)) (ho : isK o 10), fX10_owner o x1 x2 x3 x4 x5 F = some res → Qr (some (vI res.1)) res.2 → PR cX10_owner (zX10_owner Qr) 0 [(0, vR o), (1, vI x1), (2, vI x2), (3, vI x3), (4, vI x4), (5, vI x5)] [] F := by
  intro o x1 x2 x3 x4 x5 F res ho h hq
  refine s_iload_n (j := 3) dX10_owner_0 rfl rfl ?_
  refine s_iconst dX10_owner_1 (cin rfl) ?_
  refine s_bipush dX10_owner_2 rfl (cin rfl) ?_
  refine s_callS (As := [vI x3, vI 0, vI 6]) (rest := []) (r := (some (vI (fX10_isIn x3 0 6)))) (F' := F) dX10_owner_4 (clX10_115 (Nat.le_of_ble_eq_true rfl) (Nat.le_of_ble_eq_true rfl)) rfl ⟨_, _, _, _, rfl, rfl, rfl, rfl⟩ rfl (Nat.le_of_ble_eq_true rfl) ?_
  refine s_if_eq (tgt := 30) dX10_owner_7 rfl (fun hc1 => ?_) (fun hc1 => ?_)
  · have h := ifp hc1 h
    refine s_bipush dX10_owner_30 rfl (cin rfl) ?_
    have h := Option.some.inj h
    subst h
    exact s_ireturn dX10_owner_32 rfl hq
  · have h := ifn hc1 h
    refine s_iload (j := 4) dX10_owner_10 rfl ?_
    refine s_iconst dX10_owner_12 (cin rfl) ?_
    refine s_bipush dX10_owner_13 rfl (cin rfl) ?_
    refine s_callS (As := [vI x4, vI 0, vI 47]) (rest := []) (r := (some (vI (fX10_isIn x4 0 47)))) (F' := F) dX10_owner_15 (clX10_115 (Nat.le_of_ble_eq_true rfl) (Nat.le_of_ble_eq_true rfl)) rfl ⟨_, _, _, _, rfl, rfl, rfl, rfl⟩ rfl (Nat.le_of_ble_eq_true rfl) ?_
    refine s_if_eq (tgt := 30) dX10_owner_18 rfl (fun hc2 => ?_) (fun hc2 => ?_)
    · have h := ifp hc2 h
      refine s_bipush dX10_owner_30 rfl (cin rfl) ?_
      have h := Option.some.inj h
      subst h
      exact s_ireturn dX10_owner_32 rfl hq
    · have h := ifn hc2 h
      refine s_aload_n (j := 0) dX10_owner_21 rfl rfl ?_
      refine s_iload_n (j := 1) dX10_owner_22 rfl rfl ?_
      refine s_iload_n (j := 2) dX10_owner_23 rfl rfl ?_
      obtain ⟨q3, hv4, h⟩ := bnd h
      refine s_callV (As := [vI x1, vI x2]) (rest := []) (r := (some (vI q3.1))) (F' := q3.2) dX10_owner_24 (clX10_276 (Nat.le_of_ble_eq_true rfl) (Nat.le_of_ble_eq_true rfl)) ho rfl ⟨_, _, _, _, rfl, ho, hv4, rfl, rfl⟩ rfl (Nat.le_of_ble_eq_true rfl) ?_
      refine s_if_ne (tgt := 33) dX10_owner_27 rfl (fun hc5 => ?_) (fun hc5 => ?_)
      · have h := ifp hc5 h
        refine s_iload (j := 5) dX10_owner_33 rfl ?_
        refine s_if_eq (tgt := 53) dX10_owner_35 rfl (fun hc6 => ?_) (fun hc6 => ?_)
        · have h := ifp hc6 h
          refine s_aload_n (j := 0) dX10_owner_53 rfl rfl ?_
          refine s_getR dX10_owner_54 flX10_30 ho ?_
          refine s_bipush dX10_owner_57 rfl (cin rfl) ?_
          refine s_iload_n (j := 3) dX10_owner_59 rfl rfl ?_
          refine s_imul dX10_owner_60 ?_
          refine s_iload (j := 4) dX10_owner_61 rfl ?_
          refine s_iadd dX10_owner_63 ?_
          obtain ⟨hb7, h⟩ := gd h
          refine s_iaload dX10_owner_64 (trX10_17 ho) hb7.1 hb7.2 ?_
          have h := Option.some.inj h
          subst h
          exact s_ireturn dX10_owner_65 rfl hq
        · have h := ifn hc6 h
          refine s_aload_n (j := 0) dX10_owner_38 rfl rfl ?_
          refine s_getR dX10_owner_39 flX10_33 ho ?_
          refine s_bipush dX10_owner_42 rfl (cin rfl) ?_
          refine s_iload_n (j := 3) dX10_owner_44 rfl rfl ?_
          refine s_imul dX10_owner_45 ?_
          refine s_iload (j := 4) dX10_owner_46 rfl ?_
          refine s_iadd dX10_owner_48 ?_
          obtain ⟨hb8, h⟩ := gd h
          refine s_iaload dX10_owner_49 (trX10_18 ho) hb8.1 hb8.2 ?_
          refine s_goto (tgt := 65) dX10_owner_50 rfl ?_
          have h := Option.some.inj h
          subst h
          exact s_ireturn dX10_owner_65 rfl hq
      · have h := ifn hc5 h
        refine s_bipush dX10_owner_30 rfl (cin rfl) ?_
        have h := Option.some.inj h
        subst h
        exact s_ireturn dX10_owner_32 rfl hq
def gX10_owner : XG := fun As F r F' => ∃ o : Nat, ∃ x1 : Int, ∃ x2 : Int, ∃ x3 : Int, ∃ x4 : Int, ∃ x5 : Int, ∃ res : (Int × Mem), As = [vR o, vI x1, vI x2, vI x3, vI x4, vI x5] ∧ isK o 10 ∧ fX10_owner o x1 x2 x3 x4 x5 F = some res ∧ r = some (vI res.1) ∧ F' = res.2
theorem ctX10_owner : xCT yX10_owner cX10_owner 6 (some FieldType.int) 6 134 gX10_owner := xmet (by decide +kernel) (fun As F r F' hg => by obtain ⟨o, x1, x2, x3, x4, x5, res, rfl, ho, h, rfl, rfl⟩ := hg; exact Nat.le_of_ble_eq_true rfl) (fun As F r F' hg => by obtain ⟨o, x1, x2, x3, x4, x5, res, rfl, ho, h, rfl, rfl⟩ := hg; exact fX10_owner_ok o x1 x2 x3 x4 x5 _ _ ho h ⟨rfl, rfl⟩)
theorem mcX10_owner : Cond.code yX10_owner cX10_owner 6 (some FieldType.int) ∈ xw_T ∧ Cond.initialized yX10_owner.cls ∈ xw_T ∧ Cond.instanceMethod yX10_owner ∈ xw_T ∧ Cond.selects yX10_owner.cls yX10_owner yX10_owner ∈ xw_T := ⟨(xinT 1728 (by decide +kernel) (by decide +kernel)), (xinT 127 (by decide +kernel) (by decide +kernel)), (xinT 1726 (by decide +kernel) (by decide +kernel)), (xinT 1727 (by decide +kernel) (by decide +kernel))⟩
theorem dX10_has_0 : decode cX10_has 0 = .ok (.iload_n 3, 1) := by decide +kernel
theorem dX10_has_1 : decode cX10_has 1 = .ok (.iconst 0, 1) := by decide +kernel
theorem dX10_has_2 : decode cX10_has 2 = .ok (.bipush 7, 2) := by decide +kernel
theorem dX10_has_4 : decode cX10_has 4 = .ok (.invokestatic 115, 3) := by decide +kernel
theorem dX10_has_7 : decode cX10_has 7 = .ok (.ifCond .eq 22, 3) := by decide +kernel
theorem dX10_has_10 : decode cX10_has 10 = .ok (.iload 4, 2) := by decide +kernel
theorem dX10_has_12 : decode cX10_has 12 = .ok (.iconst 0, 1) := by decide +kernel
theorem dX10_has_13 : decode cX10_has 13 = .ok (.iconst 3, 1) := by decide +kernel
theorem dX10_has_14 : decode cX10_has 14 = .ok (.invokestatic 115, 3) := by decide +kernel
theorem dX10_has_17 : decode cX10_has 17 = .ok (.ifCond .eq 12, 3) := by decide +kernel
theorem dX10_has_20 : decode cX10_has 20 = .ok (.aload_n 0, 1) := by decide +kernel
theorem dX10_has_21 : decode cX10_has 21 = .ok (.iload_n 1, 1) := by decide +kernel
theorem dX10_has_22 : decode cX10_has 22 = .ok (.iload_n 2, 1) := by decide +kernel
theorem dX10_has_23 : decode cX10_has 23 = .ok (.invokevirtual 276, 3) := by decide +kernel
theorem dX10_has_26 : decode cX10_has 26 = .ok (.ifCond .ne 6, 3) := by decide +kernel
theorem dX10_has_29 : decode cX10_has 29 = .ok (.bipush (-2), 2) := by decide +kernel
theorem dX10_has_31 : decode cX10_has 31 = .ok (.ireturn, 1) := by decide +kernel
theorem dX10_has_32 : decode cX10_has 32 = .ok (.iload 4, 2) := by decide +kernel
theorem dX10_has_34 : decode cX10_has 34 = .ok (.iconst 1, 1) := by decide +kernel
theorem dX10_has_35 : decode cX10_has 35 = .ok (.if_icmp .le 33, 3) := by decide +kernel
theorem dX10_has_38 : decode cX10_has 38 = .ok (.iload 4, 2) := by decide +kernel
theorem dX10_has_40 : decode cX10_has 40 = .ok (.iconst 2, 1) := by decide +kernel
theorem dX10_has_41 : decode cX10_has 41 = .ok (.if_icmp .ne 12, 3) := by decide +kernel
theorem dX10_has_44 : decode cX10_has 44 = .ok (.aload_n 0, 1) := by decide +kernel
theorem dX10_has_45 : decode cX10_has 45 = .ok (.getfield 36, 3) := by decide +kernel
theorem dX10_has_48 : decode cX10_has 48 = .ok (.iload_n 3, 1) := by decide +kernel
theorem dX10_has_49 : decode cX10_has 49 = .ok (.iaload, 1) := by decide +kernel
theorem dX10_has_50 : decode cX10_has 50 = .ok (.goto 17, 3) := by decide +kernel
theorem dX10_has_53 : decode cX10_has 53 = .ok (.aload_n 0, 1) := by decide +kernel
theorem dX10_has_54 : decode cX10_has 54 = .ok (.getfield 39, 3) := by decide +kernel
theorem dX10_has_57 : decode cX10_has 57 = .ok (.iload_n 3, 1) := by decide +kernel
theorem dX10_has_58 : decode cX10_has 58 = .ok (.baload, 1) := by decide +kernel
theorem dX10_has_59 : decode cX10_has 59 = .ok (.ifCond .eq 7, 3) := by decide +kernel
theorem dX10_has_62 : decode cX10_has 62 = .ok (.iconst 1, 1) := by decide +kernel
theorem dX10_has_63 : decode cX10_has 63 = .ok (.goto 4, 3) := by decide +kernel
theorem dX10_has_66 : decode cX10_has 66 = .ok (.iconst 0, 1) := by decide +kernel
theorem dX10_has_67 : decode cX10_has 67 = .ok (.ireturn, 1) := by decide +kernel
theorem dX10_has_68 : decode cX10_has 68 = .ok (.iconst 0, 1) := by decide +kernel
theorem dX10_has_69 : decode cX10_has 69 = .ok (.istore 5, 2) := by decide +kernel
theorem dX10_has_71 : decode cX10_has 71 = .ok (.iconst 0, 1) := by decide +kernel
theorem dX10_has_72 : decode cX10_has 72 = .ok (.istore 6, 2) := by decide +kernel
theorem dX10_has_74 : decode cX10_has 74 = .ok (.iload 6, 2) := by decide +kernel
theorem dX10_has_76 : decode cX10_has 76 = .ok (.sipush 336, 3) := by decide +kernel
theorem dX10_has_79 : decode cX10_has 79 = .ok (.if_icmp .ge 45, 3) := by decide +kernel
theorem dX10_has_82 : decode cX10_has 82 = .ok (.iload 5, 2) := by decide +kernel
theorem dX10_has_84 : decode cX10_has 84 = .ok (.iload 4, 2) := by decide +kernel
theorem dX10_has_86 : decode cX10_has 86 = .ok (.ifCond .ne 13, 3) := by decide +kernel
theorem dX10_has_89 : decode cX10_has 89 = .ok (.aload_n 0, 1) := by decide +kernel
theorem dX10_has_90 : decode cX10_has 90 = .ok (.getfield 30, 3) := by decide +kernel
theorem dX10_has_93 : decode cX10_has 93 = .ok (.iload 6, 2) := by decide +kernel
theorem dX10_has_95 : decode cX10_has 95 = .ok (.iaload, 1) := by decide +kernel
theorem dX10_has_96 : decode cX10_has 96 = .ok (.goto 10, 3) := by decide +kernel
theorem dX10_has_99 : decode cX10_has 99 = .ok (.aload_n 0, 1) := by decide +kernel
theorem dX10_has_100 : decode cX10_has 100 = .ok (.getfield 33, 3) := by decide +kernel
theorem dX10_has_103 : decode cX10_has 103 = .ok (.iload 6, 2) := by decide +kernel
theorem dX10_has_105 : decode cX10_has 105 = .ok (.iaload, 1) := by decide +kernel
theorem dX10_has_106 : decode cX10_has 106 = .ok (.iload_n 3, 1) := by decide +kernel
theorem dX10_has_107 : decode cX10_has 107 = .ok (.if_icmp .ne 7, 3) := by decide +kernel
theorem dX10_has_110 : decode cX10_has 110 = .ok (.iconst 1, 1) := by decide +kernel
theorem dX10_has_111 : decode cX10_has 111 = .ok (.goto 4, 3) := by decide +kernel
theorem dX10_has_114 : decode cX10_has 114 = .ok (.iconst 0, 1) := by decide +kernel
theorem dX10_has_115 : decode cX10_has 115 = .ok (.iadd, 1) := by decide +kernel
theorem dX10_has_116 : decode cX10_has 116 = .ok (.istore 5, 2) := by decide +kernel
theorem dX10_has_118 : decode cX10_has 118 = .ok (.iinc 6 1, 3) := by decide +kernel
theorem dX10_has_121 : decode cX10_has 121 = .ok (.goto (-47), 3) := by decide +kernel
theorem dX10_has_124 : decode cX10_has 124 = .ok (.iload 5, 2) := by decide +kernel
theorem dX10_has_126 : decode cX10_has 126 = .ok (.ireturn, 1) := by decide +kernel
def zX10_has (Qr : Option PV → Mem → Prop) : XZ := (RX10, 6, 134, 7, some FieldType.int, Qr)
noncomputable def fX10_has_b106 (k74 : Nat → Int → Int → Int → Int → Mem → Option (Int × Mem)) (o : Nat) (x3 : Int) (x4 : Int) (x6 : Int) (s0 : Int) (s1 : Int) (F : Mem) : Option (Int × Mem) :=
  if s1 ≠ x3 then
    k74 o x3 x4 (xw (s0 + 0)) (xw (x6 + 1)) F
  else
    k74 o x3 x4 (xw (s0 + 1)) (xw (x6 + 1)) F
noncomputable def fX10_has_b74 : Nat → Nat → Int → Int → Int → Int → Mem → Option (Int × Mem)
  | 0, _, _, _, _, _, _ => none
  | n + 1, o, x3, x4, x5, x6, F =>
    if 336 ≤ x6 then
      some (x5, F)
    else
      if x4 ≠ 0 then
        if (0 : Int) ≤ x6 ∧ x6 < (alen (o + 6) : Int) then
          fX10_has_b106 (fX10_has_b74 n) o x3 x4 x6 x5 (F (o + 6) x6.toNat) F
        else none
      else
        if (0 : Int) ≤ x6 ∧ x6 < (alen (o + 5) : Int) then
          fX10_has_b106 (fX10_has_b74 n) o x3 x4 x6 x5 (F (o + 5) x6.toNat) F
        else none
noncomputable def fX10_has (o : Nat) (x1 : Int) (x2 : Int) (x3 : Int) (x4 : Int) (F : Mem) : Option (Int × Mem) :=
  if (fX10_isIn x3 0 7) = 0 then
    some ((-2), F)
  else
    if (fX10_isIn x4 0 3) = 0 then
      some ((-2), F)
    else
      (fX10_isState o x1 x2 F).bind fun q3 =>
      if q3.1 ≠ 0 then
        if x4 ≤ 1 then
          fX10_has_b74 FU o x3 x4 0 0 q3.2
        else
          if x4 ≠ 2 then
            if (0 : Int) ≤ x3 ∧ x3 < (alen (o + 8) : Int) then
              if (q3.2 (o + 8) x3.toNat) = 0 then
                some (0, q3.2)
              else
                some (1, q3.2)
            else none
          else
            if (0 : Int) ≤ x3 ∧ x3 < (alen (o + 7) : Int) then
              some (q3.2 (o + 7) x3.toNat, q3.2)
            else none
      else
        some ((-2), q3.2)
theorem fX10_has_b106_ok {Qr : Option PV → Mem → Prop}  (k74 : Nat → Int → Int → Int → Int → Mem → Option (Int × Mem)) (hk74 : ∀ (o : Nat) (x3 : Int) (x4 : Int) (x5 : Int) (x6 : Int) (F : Mem) (res : (Int × Mem)) (ho : isK o 10), k74 o x3 x4 x5 x6 F = some res → Qr (some (vI res.1)) res.2 → PR cX10_has (zX10_has Qr) 74 [(0, vR o), (3, vI x3), (4, vI x4), (5, vI x5), (6, vI x6)] [] F) : ∀ (o : Nat) (x3 : Int) (x4 : Int) (x6 : Int) (s0 : Int) (s1 : Int) (F : Mem) (res : (Int × Mem)) (ho : isK o 10), fX10_has_b106 k74 o x3 x4 x6 s0 s1 F = some res → Qr (some (vI res.1)) res.2 → PR cX10_has (zX10_has Qr) 106 [(0, vR o), (3, vI x3), (4, vI x4), (6, vI x6)] [vI s1, vI s0] F := by
  intro o x3 x4 x6 s0 s1 F res ho h hq
  refine s_iload_n (j := 1) dX10_has_106 rfl rfl ?_
  refine s_icmp_ne (tgt := 114) dX10_has_107 rfl (fun hc1 => ?_) (fun hc1 => ?_)
  · have h := ifp hc1 h
    refine s_iconst dX10_has_114 (cin rfl) ?_
    refine s_iadd dX10_has_115 ?_
    refine s_istore (ls' := [(5, vI (xw (s0 + 0))), (0, vR o), (3, vI x3), (4, vI x4), (6, vI x6)]) dX10_has_116 (Nat.le_of_ble_eq_true rfl) rfl ?_
    refine s_iinc (j := 4) dX10_has_118 rfl (Nat.le_of_ble_eq_true rfl) rfl ?_
    refine s_goto (tgt := 74) dX10_has_121 rfl ?_
    exact s_sub (ks := [2, 3, 4, 1, 0]) rfl (hk74 o x3 x4 (xw (s0 + 0)) (xw (x6 + 1)) F _ ho h hq)
  · have h := ifn hc1 h
    refine s_iconst dX10_has_110 (cin rfl) ?_
    refine s_goto (tgt := 115) dX10_has_111 rfl ?_
    refine s_iadd dX10_has_115 ?_
    refine s_istore (ls' := [(5, vI (xw (s0 + 1))), (0, vR o), (3, vI x3), (4, vI x4), (6, vI x6)]) dX10_has_116 (Nat.le_of_ble_eq_true rfl) rfl ?_
    refine s_iinc (j := 4) dX10_has_118 rfl (Nat.le_of_ble_eq_true rfl) rfl ?_
    refine s_goto (tgt := 74) dX10_has_121 rfl ?_
    exact s_sub (ks := [2, 3, 4, 1, 0]) rfl (hk74 o x3 x4 (xw (s0 + 1)) (xw (x6 + 1)) F _ ho h hq)
theorem fX10_has_b74_ok {Qr : Option PV → Mem → Prop}  : ∀ (n : Nat) (o : Nat) (x3 : Int) (x4 : Int) (x5 : Int) (x6 : Int) (F : Mem) (res : (Int × Mem)) (ho : isK o 10), fX10_has_b74 n o x3 x4 x5 x6 F = some res → Qr (some (vI res.1)) res.2 → PR cX10_has (zX10_has Qr) 74 [(0, vR o), (3, vI x3), (4, vI x4), (5, vI x5), (6, vI x6)] [] F := by
  intro n
  induction n with
  | zero => intro o x3 x4 x5 x6 F res ho h hq; exact nomatch (show (none : Option _) = some _ from h)
  | succ n ih =>
    intro o x3 x4 x5 x6 F res ho h hq
    refine s_iload (j := 4) dX10_has_74 rfl ?_
    refine s_sipush dX10_has_76 rfl (cin rfl) ?_
    refine s_icmp_ge (tgt := 124) dX10_has_79 rfl (fun hc1 => ?_) (fun hc1 => ?_)
    · have h := ifp hc1 h
      refine s_iload (j := 3) dX10_has_124 rfl ?_
      have h := Option.some.inj h
      subst h
      exact s_ireturn dX10_has_126 rfl hq
    · have h := ifn hc1 h
      refine s_iload (j := 3) dX10_has_82 rfl ?_
      refine s_iload (j := 2) dX10_has_84 rfl ?_
      refine s_if_ne (tgt := 99) dX10_has_86 rfl (fun hc2 => ?_) (fun hc2 => ?_)
      · have h := ifp hc2 h
        refine s_aload_n (j := 0) dX10_has_99 rfl rfl ?_
        refine s_getR dX10_has_100 flX10_33 ho ?_
        refine s_iload (j := 4) dX10_has_103 rfl ?_
        obtain ⟨hb3, h⟩ := gd h
        refine s_iaload dX10_has_105 (trX10_18 ho) hb3.1 hb3.2 ?_
        exact s_sub (ks := [0, 1, 2, 4]) rfl (fX10_has_b106_ok (fX10_has_b74 n) ih o x3 x4 x6 x5 (F (o + 6) x6.toNat) F _ ho h hq)
      · have h := ifn hc2 h
        refine s_aload_n (j := 0) dX10_has_89 rfl rfl ?_
        refine s_getR dX10_has_90 flX10_30 ho ?_
        refine s_iload (j := 4) dX10_has_93 rfl ?_
        obtain ⟨hb4, h⟩ := gd h
        refine s_iaload dX10_has_95 (trX10_17 ho) hb4.1 hb4.2 ?_
        refine s_goto (tgt := 106) dX10_has_96 rfl ?_
        exact s_sub (ks := [0, 1, 2, 4]) rfl (fX10_has_b106_ok (fX10_has_b74 n) ih o x3 x4 x6 x5 (F (o + 5) x6.toNat) F _ ho h hq)
theorem fX10_has_ok {Qr : Option PV → Mem → Prop} : ∀ (o : Nat) (x1 : Int) (x2 : Int) (x3 : Int) (x4 : Int) (F : Mem) (res : (Int × Mem)) (ho : isK o 10), fX10_has o x1 x2 x3 x4 F = some res → Qr (some (vI res.1)) res.2 → PR cX10_has (zX10_has Qr) 0 [(0, vR o), (1, vI x1), (2, vI x2), (3, vI x3), (4, vI x4)] [] F := by
  intro o x1 x2 x3 x4 F res ho h hq
  refine s_iload_n (j := 3) dX10_has_0 rfl rfl ?_
  refine s_iconst dX10_has_1 (cin rfl) ?_
  refine s_bipush dX10_has_2 rfl (cin rfl) ?_
  refine s_callS (As := [vI x3, vI 0, vI 7]) (rest := []) (r := (some (vI (fX10_isIn x3 0 7)))) (F' := F) dX10_has_4 (clX10_115 (Nat.le_of_ble_eq_true rfl) (Nat.le_of_ble_eq_true rfl)) rfl ⟨_, _, _, _, rfl, rfl, rfl, rfl⟩ rfl (Nat.le_of_ble_eq_true rfl) ?_
  refine s_if_eq (tgt := 29) dX10_has_7 rfl (fun hc1 => ?_) (fun hc1 => ?_)
  · have h := ifp hc1 h
    refine s_bipush dX10_has_29 rfl (cin rfl) ?_
    have h := Option.some.inj h
    subst h
    exact s_ireturn dX10_has_31 rfl hq
  · have h := ifn hc1 h
    refine s_iload (j := 4) dX10_has_10 rfl ?_
    refine s_iconst dX10_has_12 (cin rfl) ?_
    refine s_iconst dX10_has_13 (cin rfl) ?_
    refine s_callS (As := [vI x4, vI 0, vI 3]) (rest := []) (r := (some (vI (fX10_isIn x4 0 3)))) (F' := F) dX10_has_14 (clX10_115 (Nat.le_of_ble_eq_true rfl) (Nat.le_of_ble_eq_true rfl)) rfl ⟨_, _, _, _, rfl, rfl, rfl, rfl⟩ rfl (Nat.le_of_ble_eq_true rfl) ?_
    refine s_if_eq (tgt := 29) dX10_has_17 rfl (fun hc2 => ?_) (fun hc2 => ?_)
    · have h := ifp hc2 h
      refine s_bipush dX10_has_29 rfl (cin rfl) ?_
      have h := Option.some.inj h
      subst h
      exact s_ireturn dX10_has_31 rfl hq
    · have h := ifn hc2 h
      refine s_aload_n (j := 0) dX10_has_20 rfl rfl ?_
      refine s_iload_n (j := 1) dX10_has_21 rfl rfl ?_
      refine s_iload_n (j := 2) dX10_has_22 rfl rfl ?_
      obtain ⟨q3, hv4, h⟩ := bnd h
      refine s_callV (As := [vI x1, vI x2]) (rest := []) (r := (some (vI q3.1))) (F' := q3.2) dX10_has_23 (clX10_276 (Nat.le_of_ble_eq_true rfl) (Nat.le_of_ble_eq_true rfl)) ho rfl ⟨_, _, _, _, rfl, ho, hv4, rfl, rfl⟩ rfl (Nat.le_of_ble_eq_true rfl) ?_
      refine s_if_ne (tgt := 32) dX10_has_26 rfl (fun hc5 => ?_) (fun hc5 => ?_)
      · have h := ifp hc5 h
        refine s_iload (j := 4) dX10_has_32 rfl ?_
        refine s_iconst dX10_has_34 (cin rfl) ?_
        refine s_icmp_le (tgt := 68) dX10_has_35 rfl (fun hc6 => ?_) (fun hc6 => ?_)
        · have h := ifp hc6 h
          refine s_iconst dX10_has_68 (cin rfl) ?_
          refine s_istore (ls' := [(5, vI 0), (0, vR o), (1, vI x1), (2, vI x2), (3, vI x3), (4, vI x4)]) dX10_has_69 (Nat.le_of_ble_eq_true rfl) rfl ?_
          refine s_iconst dX10_has_71 (cin rfl) ?_
          refine s_istore dX10_has_72 (Nat.le_of_ble_eq_true rfl) rfl ?_
          exact s_sub (ks := [2, 5, 6, 1, 0]) rfl (fX10_has_b74_ok FU o x3 x4 0 0 q3.2 _ ho h hq)
        · have h := ifn hc6 h
          refine s_iload (j := 4) dX10_has_38 rfl ?_
          refine s_iconst dX10_has_40 (cin rfl) ?_
          refine s_icmp_ne (tgt := 53) dX10_has_41 rfl (fun hc7 => ?_) (fun hc7 => ?_)
          · have h := ifp hc7 h
            refine s_aload_n (j := 0) dX10_has_53 rfl rfl ?_
            refine s_getR dX10_has_54 flX10_39 ho ?_
            refine s_iload_n (j := 3) dX10_has_57 rfl rfl ?_
            obtain ⟨hb8, h⟩ := gd h
            refine s_zaload dX10_has_58 (trX10_20 ho) hb8.1 hb8.2 ?_
            refine s_if_eq (tgt := 66) dX10_has_59 rfl (fun hc9 => ?_) (fun hc9 => ?_)
            · have h := ifp hc9 h
              refine s_iconst dX10_has_66 (cin rfl) ?_
              have h := Option.some.inj h
              subst h
              exact s_ireturn dX10_has_67 rfl hq
            · have h := ifn hc9 h
              refine s_iconst dX10_has_62 (cin rfl) ?_
              refine s_goto (tgt := 67) dX10_has_63 rfl ?_
              have h := Option.some.inj h
              subst h
              exact s_ireturn dX10_has_67 rfl hq
          · have h := ifn hc7 h
            refine s_aload_n (j := 0) dX10_has_44 rfl rfl ?_
            refine s_getR dX10_has_45 flX10_36 ho ?_
            refine s_iload_n (j := 3) dX10_has_48 rfl rfl ?_
            obtain ⟨hb10, h⟩ := gd h
            refine s_iaload dX10_has_49 (trX10_19 ho) hb10.1 hb10.2 ?_
            refine s_goto (tgt := 67) dX10_has_50 rfl ?_
            have h := Option.some.inj h
            subst h
            exact s_ireturn dX10_has_67 rfl hq
      · have h := ifn hc5 h
        refine s_bipush dX10_has_29 rfl (cin rfl) ?_
        have h := Option.some.inj h
        subst h
        exact s_ireturn dX10_has_31 rfl hq
def gX10_has : XG := fun As F r F' => ∃ o : Nat, ∃ x1 : Int, ∃ x2 : Int, ∃ x3 : Int, ∃ x4 : Int, ∃ res : (Int × Mem), As = [vR o, vI x1, vI x2, vI x3, vI x4] ∧ isK o 10 ∧ fX10_has o x1 x2 x3 x4 F = some res ∧ r = some (vI res.1) ∧ F' = res.2
theorem ctX10_has : xCT yX10_has cX10_has 7 (some FieldType.int) 6 134 gX10_has := xmet (by decide +kernel) (fun As F r F' hg => by obtain ⟨o, x1, x2, x3, x4, res, rfl, ho, h, rfl, rfl⟩ := hg; exact Nat.le_of_ble_eq_true rfl) (fun As F r F' hg => by obtain ⟨o, x1, x2, x3, x4, res, rfl, ho, h, rfl, rfl⟩ := hg; exact fX10_has_ok o x1 x2 x3 x4 _ _ ho h ⟨rfl, rfl⟩)
theorem mcX10_has : Cond.code yX10_has cX10_has 7 (some FieldType.int) ∈ xw_T ∧ Cond.initialized yX10_has.cls ∈ xw_T ∧ Cond.instanceMethod yX10_has ∈ xw_T ∧ Cond.selects yX10_has.cls yX10_has yX10_has ∈ xw_T := ⟨(xinT 1736 (by decide +kernel) (by decide +kernel)), (xinT 127 (by decide +kernel) (by decide +kernel)), (xinT 1734 (by decide +kernel) (by decide +kernel)), (xinT 1735 (by decide +kernel) (by decide +kernel))⟩
theorem dX10_may_0 : decode cX10_may 0 = .ok (.aload_n 0, 1) := by decide +kernel
theorem dX10_may_1 : decode cX10_may 1 = .ok (.getfield 33, 3) := by decide +kernel
theorem dX10_may_4 : decode cX10_may 4 = .ok (.bipush 48, 2) := by decide +kernel
theorem dX10_may_6 : decode cX10_may 6 = .ok (.iload_n 2, 1) := by decide +kernel
theorem dX10_may_7 : decode cX10_may 7 = .ok (.imul, 1) := by decide +kernel
theorem dX10_may_8 : decode cX10_may 8 = .ok (.iload_n 3, 1) := by decide +kernel
theorem dX10_may_9 : decode cX10_may 9 = .ok (.iadd, 1) := by decide +kernel
theorem dX10_may_10 : decode cX10_may 10 = .ok (.iaload, 1) := by decide +kernel
theorem dX10_may_11 : decode cX10_may 11 = .ok (.iconst (-1), 1) := by decide +kernel
theorem dX10_may_12 : decode cX10_may 12 = .ok (.if_icmp .eq 18, 3) := by decide +kernel
theorem dX10_may_15 : decode cX10_may 15 = .ok (.aload_n 0, 1) := by decide +kernel
theorem dX10_may_16 : decode cX10_may 16 = .ok (.getfield 33, 3) := by decide +kernel
theorem dX10_may_19 : decode cX10_may 19 = .ok (.bipush 48, 2) := by decide +kernel
theorem dX10_may_21 : decode cX10_may 21 = .ok (.iload_n 2, 1) := by decide +kernel
theorem dX10_may_22 : decode cX10_may 22 = .ok (.imul, 1) := by decide +kernel
theorem dX10_may_23 : decode cX10_may 23 = .ok (.iload_n 3, 1) := by decide +kernel
theorem dX10_may_24 : decode cX10_may 24 = .ok (.iadd, 1) := by decide +kernel
theorem dX10_may_25 : decode cX10_may 25 = .ok (.iaload, 1) := by decide +kernel
theorem dX10_may_26 : decode cX10_may 26 = .ok (.iload_n 1, 1) := by decide +kernel
theorem dX10_may_27 : decode cX10_may 27 = .ok (.if_icmp .ne 7, 3) := by decide +kernel
theorem dX10_may_30 : decode cX10_may 30 = .ok (.iconst 1, 1) := by decide +kernel
theorem dX10_may_31 : decode cX10_may 31 = .ok (.goto 4, 3) := by decide +kernel
theorem dX10_may_34 : decode cX10_may 34 = .ok (.iconst 0, 1) := by decide +kernel
theorem dX10_may_35 : decode cX10_may 35 = .ok (.ireturn, 1) := by decide +kernel
def zX10_may (Qr : Option PV → Mem → Prop) : XZ := (RX10, 0, 0, 4, some FieldType.boolean, Qr)
noncomputable def fX10_may (o : Nat) (x1 : Int) (x2 : Int) (x3 : Int) (F : Mem) : Option Int :=
  if (0 : Int) ≤ (xw ((xw (48 * x2)) + x3)) ∧ (xw ((xw (48 * x2)) + x3)) < (alen (o + 6) : Int) then
    if (F (o + 6) (xw ((xw (48 * x2)) + x3)).toNat) = (-1) then
      some 1
    else
      if (0 : Int) ≤ (xw ((xw (48 * x2)) + x3)) ∧ (xw ((xw (48 * x2)) + x3)) < (alen (o + 6) : Int) then
        if (F (o + 6) (xw ((xw (48 * x2)) + x3)).toNat) ≠ x1 then
          some 0
        else
          some 1
      else none
  else none
theorem fX10_may_ok {Qr : Option PV → Mem → Prop} : ∀ (o : Nat) (x1 : Int) (x2 : Int) (x3 : Int) (F : Mem) (res : Int) (ho : isK o 10), fX10_may o x1 x2 x3 F = some res → Qr (some (vI res)) F → PR cX10_may (zX10_may Qr) 0 [(0, vR o), (1, vI x1), (2, vI x2), (3, vI x3)] [] F := by
  intro o x1 x2 x3 F res ho h hq
  refine s_aload_n (j := 0) dX10_may_0 rfl rfl ?_
  refine s_getR dX10_may_1 flX10_33 ho ?_
  refine s_bipush dX10_may_4 rfl (cin rfl) ?_
  refine s_iload_n (j := 2) dX10_may_6 rfl rfl ?_
  refine s_imul dX10_may_7 ?_
  refine s_iload_n (j := 3) dX10_may_8 rfl rfl ?_
  refine s_iadd dX10_may_9 ?_
  obtain ⟨hb1, h⟩ := gd h
  refine s_iaload dX10_may_10 (trX10_18 ho) hb1.1 hb1.2 ?_
  refine s_iconst dX10_may_11 (cin rfl) ?_
  refine s_icmp_eq (tgt := 30) dX10_may_12 rfl (fun hc2 => ?_) (fun hc2 => ?_)
  · have h := ifp hc2 h
    refine s_iconst dX10_may_30 (cin rfl) ?_
    refine s_goto (tgt := 35) dX10_may_31 rfl ?_
    have h := Option.some.inj h
    subst h
    exact s_zreturn dX10_may_35 rfl (Or.inr rfl) hq
  · have h := ifn hc2 h
    refine s_aload_n (j := 0) dX10_may_15 rfl rfl ?_
    refine s_getR dX10_may_16 flX10_33 ho ?_
    refine s_bipush dX10_may_19 rfl (cin rfl) ?_
    refine s_iload_n (j := 2) dX10_may_21 rfl rfl ?_
    refine s_imul dX10_may_22 ?_
    refine s_iload_n (j := 3) dX10_may_23 rfl rfl ?_
    refine s_iadd dX10_may_24 ?_
    obtain ⟨hb3, h⟩ := gd h
    refine s_iaload dX10_may_25 (trX10_18 ho) hb3.1 hb3.2 ?_
    refine s_iload_n (j := 1) dX10_may_26 rfl rfl ?_
    refine s_icmp_ne (tgt := 34) dX10_may_27 rfl (fun hc4 => ?_) (fun hc4 => ?_)
    · have h := ifp hc4 h
      refine s_iconst dX10_may_34 (cin rfl) ?_
      have h := Option.some.inj h
      subst h
      exact s_zreturn dX10_may_35 rfl (Or.inl rfl) hq
    · have h := ifn hc4 h
      refine s_iconst dX10_may_30 (cin rfl) ?_
      refine s_goto (tgt := 35) dX10_may_31 rfl ?_
      have h := Option.some.inj h
      subst h
      exact s_zreturn dX10_may_35 rfl (Or.inr rfl) hq
def gX10_may : XG := fun As F r F' => ∃ o : Nat, ∃ x1 : Int, ∃ x2 : Int, ∃ x3 : Int, ∃ res : Int, As = [vR o, vI x1, vI x2, vI x3] ∧ isK o 10 ∧ fX10_may o x1 x2 x3 F = some res ∧ r = some (vI res) ∧ F' = F
theorem ctX10_may : xCT yX10_may cX10_may 4 (some FieldType.boolean) 0 0 gX10_may := xmet (by decide +kernel) (fun As F r F' hg => by obtain ⟨o, x1, x2, x3, res, rfl, ho, h, rfl, rfl⟩ := hg; exact Nat.le_of_ble_eq_true rfl) (fun As F r F' hg => by obtain ⟨o, x1, x2, x3, res, rfl, ho, h, rfl, rfl⟩ := hg; exact fX10_may_ok o x1 x2 x3 _ _ ho h ⟨rfl, rfl⟩)
theorem mcX10_may : Cond.code yX10_may cX10_may 4 (some FieldType.boolean) ∈ xw_T ∧ Cond.initialized yX10_may.cls ∈ xw_T ∧ Cond.instanceMethod yX10_may ∈ xw_T ∧ Cond.selects yX10_may.cls yX10_may yX10_may ∈ xw_T := ⟨(xinT 1744 (by decide +kernel) (by decide +kernel)), (xinT 127 (by decide +kernel) (by decide +kernel)), (xinT 1743 (by decide +kernel) (by decide +kernel)), (xinT 84 (by decide +kernel) (by decide +kernel))⟩
theorem clX10_279 {fr lo : Nat} (h1 : 0 + 1 ≤ fr) (h2 : 8 + (4 + 11) + 0 ≤ lo) : xCall RX10 fr lo 0 279 10 3 gX10_may := ⟨_, _, _, _, _, _, ctX10_may, h1, h2, mcX10_may.1, (xinT 1741 (by decide +kernel) (by decide +kernel)), mcX10_may.2.1, ⟨by decide +kernel, by decide +kernel, by decide +kernel⟩, by rw [if_pos rfl]; exact ⟨mcX10_may.2.2.1, mcX10_may.2.2.2, _, _, rfl⟩⟩
