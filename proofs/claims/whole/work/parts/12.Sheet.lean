theorem dX3_cell_0 : decode cX3_cell 0 = .ok (.iload_n 1, 1) := by decide +kernel
theorem dX3_cell_1 : decode cX3_cell 1 = .ok (.ifCond .lt 39, 3) := by decide +kernel
theorem dX3_cell_4 : decode cX3_cell 4 = .ok (.iload_n 1, 1) := by decide +kernel
theorem dX3_cell_5 : decode cX3_cell 5 = .ok (.aload_n 0, 1) := by decide +kernel
theorem dX3_cell_6 : decode cX3_cell 6 = .ok (.getfield 9, 3) := by decide +kernel
theorem dX3_cell_9 : decode cX3_cell 9 = .ok (.if_icmp .ge 31, 3) := by decide +kernel
theorem dX3_cell_12 : decode cX3_cell 12 = .ok (.iload_n 2, 1) := by decide +kernel
theorem dX3_cell_13 : decode cX3_cell 13 = .ok (.ifCond .lt 27, 3) := by decide +kernel
theorem dX3_cell_16 : decode cX3_cell 16 = .ok (.iload_n 2, 1) := by decide +kernel
theorem dX3_cell_17 : decode cX3_cell 17 = .ok (.aload_n 0, 1) := by decide +kernel
theorem dX3_cell_18 : decode cX3_cell 18 = .ok (.getfield 24, 3) := by decide +kernel
theorem dX3_cell_21 : decode cX3_cell 21 = .ok (.if_icmp .ge 19, 3) := by decide +kernel
theorem dX3_cell_24 : decode cX3_cell 24 = .ok (.aload_n 0, 1) := by decide +kernel
theorem dX3_cell_25 : decode cX3_cell 25 = .ok (.getfield 27, 3) := by decide +kernel
theorem dX3_cell_28 : decode cX3_cell 28 = .ok (.iload_n 1, 1) := by decide +kernel
theorem dX3_cell_29 : decode cX3_cell 29 = .ok (.aload_n 0, 1) := by decide +kernel
theorem dX3_cell_30 : decode cX3_cell 30 = .ok (.getfield 24, 3) := by decide +kernel
theorem dX3_cell_33 : decode cX3_cell 33 = .ok (.imul, 1) := by decide +kernel
theorem dX3_cell_34 : decode cX3_cell 34 = .ok (.iload_n 2, 1) := by decide +kernel
theorem dX3_cell_35 : decode cX3_cell 35 = .ok (.iadd, 1) := by decide +kernel
theorem dX3_cell_36 : decode cX3_cell 36 = .ok (.iaload, 1) := by decide +kernel
theorem dX3_cell_37 : decode cX3_cell 37 = .ok (.goto 4, 3) := by decide +kernel
theorem dX3_cell_40 : decode cX3_cell 40 = .ok (.iconst (-1), 1) := by decide +kernel
theorem dX3_cell_41 : decode cX3_cell 41 = .ok (.ireturn, 1) := by decide +kernel
def zX3_cell (Qr : Option PV → Mem → Prop) : XZ := (RX3, 0, 0, 3, some FieldType.int, Qr)
noncomputable def fX3_cell (o : Nat) (x1 : Int) (x2 : Int) (F : Mem) : Option Int :=
  if x1 < 0 then
    some (-1)
  else
    if (F o 3) ≤ x1 then
      some (-1)
    else
      if x2 < 0 then
        some (-1)
      else
        if (cst o 1) ≤ x2 then
          some (-1)
        else
          if (0 : Int) ≤ (xw ((xw (x1 * (cst o 1))) + x2)) ∧ (xw ((xw (x1 * (cst o 1))) + x2)) < (alen (o + 1) : Int) then
            some (F (o + 1) (xw ((xw (x1 * (cst o 1))) + x2)).toNat)
          else none
theorem fX3_cell_ok {Qr : Option PV → Mem → Prop} : ∀ (o : Nat) (x1 : Int) (x2 : Int) (F : Mem) (res : Int) (ho : isK o 3), fX3_cell o x1 x2 F = some res → Qr (some (vI res)) F → PR cX3_cell (zX3_cell Qr) 0 [(0, vR o), (1, vI x1), (2, vI x2)] [] F := by
  intro o x1 x2 F res ho h hq
  refine s_iload_n (j := 1) dX3_cell_0 rfl rfl ?_
  refine s_if_lt (tgt := 40) dX3_cell_1 rfl (fun hc1 => ?_) (fun hc1 => ?_)
  · have h := ifp hc1 h
    refine s_iconst dX3_cell_40 (cin rfl) ?_
    have h := Option.some.inj h
    subst h
    exact s_ireturn dX3_cell_41 rfl hq
  · have h := ifn hc1 h
    refine s_iload_n (j := 1) dX3_cell_4 rfl rfl ?_
    refine s_aload_n (j := 0) dX3_cell_5 rfl rfl ?_
    refine s_getI dX3_cell_6 flX3_9 ho ?_
    refine s_icmp_ge (tgt := 40) dX3_cell_9 rfl (fun hc2 => ?_) (fun hc2 => ?_)
    · have h := ifp hc2 h
      refine s_iconst dX3_cell_40 (cin rfl) ?_
      have h := Option.some.inj h
      subst h
      exact s_ireturn dX3_cell_41 rfl hq
    · have h := ifn hc2 h
      refine s_iload_n (j := 2) dX3_cell_12 rfl rfl ?_
      refine s_if_lt (tgt := 40) dX3_cell_13 rfl (fun hc3 => ?_) (fun hc3 => ?_)
      · have h := ifp hc3 h
        refine s_iconst dX3_cell_40 (cin rfl) ?_
        have h := Option.some.inj h
        subst h
        exact s_ireturn dX3_cell_41 rfl hq
      · have h := ifn hc3 h
        refine s_iload_n (j := 2) dX3_cell_16 rfl rfl ?_
        refine s_aload_n (j := 0) dX3_cell_17 rfl rfl ?_
        refine s_getC dX3_cell_18 flX3_24 ho (cst_in _ _) ?_
        refine s_icmp_ge (tgt := 40) dX3_cell_21 rfl (fun hc4 => ?_) (fun hc4 => ?_)
        · have h := ifp hc4 h
          refine s_iconst dX3_cell_40 (cin rfl) ?_
          have h := Option.some.inj h
          subst h
          exact s_ireturn dX3_cell_41 rfl hq
        · have h := ifn hc4 h
          refine s_aload_n (j := 0) dX3_cell_24 rfl rfl ?_
          refine s_getR dX3_cell_25 flX3_27 ho ?_
          refine s_iload_n (j := 1) dX3_cell_28 rfl rfl ?_
          refine s_aload_n (j := 0) dX3_cell_29 rfl rfl ?_
          refine s_getC dX3_cell_30 flX3_24 ho (cst_in _ _) ?_
          refine s_imul dX3_cell_33 ?_
          refine s_iload_n (j := 2) dX3_cell_34 rfl rfl ?_
          refine s_iadd dX3_cell_35 ?_
          obtain ⟨hb5, h⟩ := gd h
          refine s_iaload dX3_cell_36 (trX3_2 ho) hb5.1 hb5.2 ?_
          refine s_goto (tgt := 41) dX3_cell_37 rfl ?_
          have h := Option.some.inj h
          subst h
          exact s_ireturn dX3_cell_41 rfl hq
def gX3_cell : XG := fun As F r F' => ∃ o : Nat, ∃ x1 : Int, ∃ x2 : Int, ∃ res : Int, As = [vR o, vI x1, vI x2] ∧ isK o 3 ∧ fX3_cell o x1 x2 F = some res ∧ r = some (vI res) ∧ F' = F
theorem ctX3_cell : xCT yX3_cell cX3_cell 3 (some FieldType.int) 0 0 gX3_cell := xmet (by decide +kernel) (fun As F r F' hg => by obtain ⟨o, x1, x2, res, rfl, ho, h, rfl, rfl⟩ := hg; exact Nat.le_of_ble_eq_true rfl) (fun As F r F' hg => by obtain ⟨o, x1, x2, res, rfl, ho, h, rfl, rfl⟩ := hg; exact fX3_cell_ok o x1 x2 _ _ ho h ⟨rfl, rfl⟩)
theorem mcX3_cell : Cond.code yX3_cell cX3_cell 3 (some FieldType.int) ∈ xw_T ∧ Cond.initialized yX3_cell.cls ∈ xw_T ∧ Cond.instanceMethod yX3_cell ∈ xw_T ∧ Cond.selects yX3_cell.cls yX3_cell yX3_cell ∈ xw_T := ⟨(xinT 722 (by decide +kernel) (by decide +kernel)), (xinT 119 (by decide +kernel) (by decide +kernel)), (xinT 720 (by decide +kernel) (by decide +kernel)), (xinT 721 (by decide +kernel) (by decide +kernel))⟩
theorem clX0_43 {fr lo : Nat} (h1 : 0 + 1 ≤ fr) (h2 : 8 + (3 + 11) + 0 ≤ lo) : xCall RX0 fr lo 0 43 3 2 gX3_cell := ⟨_, _, _, _, _, _, ctX3_cell, h1, h2, mcX3_cell.1, (xinT 913 (by decide +kernel) (by decide +kernel)), mcX3_cell.2.1, ⟨by decide +kernel, by decide +kernel, by decide +kernel⟩, by rw [if_pos rfl]; exact ⟨mcX3_cell.2.2.1, mcX3_cell.2.2.2, _, _, rfl⟩⟩
theorem clX1_87 {fr lo : Nat} (h1 : 0 + 1 ≤ fr) (h2 : 8 + (3 + 11) + 0 ≤ lo) : xCall RX1 fr lo 0 87 3 2 gX3_cell := ⟨_, _, _, _, _, _, ctX3_cell, h1, h2, mcX3_cell.1, (xinT 1029 (by decide +kernel) (by decide +kernel)), mcX3_cell.2.1, ⟨by decide +kernel, by decide +kernel, by decide +kernel⟩, by rw [if_pos rfl]; exact ⟨mcX3_cell.2.2.1, mcX3_cell.2.2.2, _, _, rfl⟩⟩
theorem clX6_89 {fr lo : Nat} (h1 : 0 + 1 ≤ fr) (h2 : 8 + (3 + 11) + 0 ≤ lo) : xCall RX6 fr lo 0 89 3 2 gX3_cell := ⟨_, _, _, _, _, _, ctX3_cell, h1, h2, mcX3_cell.1, (xinT 1209 (by decide +kernel) (by decide +kernel)), mcX3_cell.2.1, ⟨by decide +kernel, by decide +kernel, by decide +kernel⟩, by rw [if_pos rfl]; exact ⟨mcX3_cell.2.2.1, mcX3_cell.2.2.2, _, _, rfl⟩⟩
theorem clX7_46 {fr lo : Nat} (h1 : 0 + 1 ≤ fr) (h2 : 8 + (3 + 11) + 0 ≤ lo) : xCall RX7 fr lo 0 46 3 2 gX3_cell := ⟨_, _, _, _, _, _, ctX3_cell, h1, h2, mcX3_cell.1, (xinT 719 (by decide +kernel) (by decide +kernel)), mcX3_cell.2.1, ⟨by decide +kernel, by decide +kernel, by decide +kernel⟩, by rw [if_pos rfl]; exact ⟨mcX3_cell.2.2.1, mcX3_cell.2.2.2, _, _, rfl⟩⟩
theorem clX8_39 {fr lo : Nat} (h1 : 0 + 1 ≤ fr) (h2 : 8 + (3 + 11) + 0 ≤ lo) : xCall RX8 fr lo 0 39 3 2 gX3_cell := ⟨_, _, _, _, _, _, ctX3_cell, h1, h2, mcX3_cell.1, (xinT 829 (by decide +kernel) (by decide +kernel)), mcX3_cell.2.1, ⟨by decide +kernel, by decide +kernel, by decide +kernel⟩, by rw [if_pos rfl]; exact ⟨mcX3_cell.2.2.1, mcX3_cell.2.2.2, _, _, rfl⟩⟩
theorem clX9_138 {fr lo : Nat} (h1 : 0 + 1 ≤ fr) (h2 : 8 + (3 + 11) + 0 ≤ lo) : xCall RX9 fr lo 0 138 3 2 gX3_cell := ⟨_, _, _, _, _, _, ctX3_cell, h1, h2, mcX3_cell.1, (xinT 758 (by decide +kernel) (by decide +kernel)), mcX3_cell.2.1, ⟨by decide +kernel, by decide +kernel, by decide +kernel⟩, by rw [if_pos rfl]; exact ⟨mcX3_cell.2.2.1, mcX3_cell.2.2.2, _, _, rfl⟩⟩
theorem dX3_isFull_0 : decode cX3_isFull 0 = .ok (.aload_n 0, 1) := by decide +kernel
theorem dX3_isFull_1 : decode cX3_isFull 1 = .ok (.getfield 9, 3) := by decide +kernel
theorem dX3_isFull_4 : decode cX3_isFull 4 = .ok (.aload_n 0, 1) := by decide +kernel
theorem dX3_isFull_5 : decode cX3_isFull 5 = .ok (.getfield 21, 3) := by decide +kernel
theorem dX3_isFull_8 : decode cX3_isFull 8 = .ok (.if_icmp .lt 7, 3) := by decide +kernel
theorem dX3_isFull_11 : decode cX3_isFull 11 = .ok (.iconst 1, 1) := by decide +kernel
theorem dX3_isFull_12 : decode cX3_isFull 12 = .ok (.goto 4, 3) := by decide +kernel
theorem dX3_isFull_15 : decode cX3_isFull 15 = .ok (.iconst 0, 1) := by decide +kernel
theorem dX3_isFull_16 : decode cX3_isFull 16 = .ok (.ireturn, 1) := by decide +kernel
def zX3_isFull (Qr : Option PV → Mem → Prop) : XZ := (RX3, 0, 0, 1, some FieldType.boolean, Qr)
noncomputable def fX3_isFull (o : Nat) (F : Mem) : Int :=
  if (F o 3) < (cst o 0) then
    0
  else
    1
theorem fX3_isFull_ok {Qr : Option PV → Mem → Prop} : ∀ (o : Nat) (F : Mem) (res : Int) (ho : isK o 3), fX3_isFull o F = res → Qr (some (vI res)) F → PR cX3_isFull (zX3_isFull Qr) 0 [(0, vR o)] [] F := by
  intro o F res ho h hq
  refine s_aload_n (j := 0) dX3_isFull_0 rfl rfl ?_
  refine s_getI dX3_isFull_1 flX3_9 ho ?_
  refine s_aload_n (j := 0) dX3_isFull_4 rfl rfl ?_
  refine s_getC dX3_isFull_5 flX3_21 ho (cst_in _ _) ?_
  refine s_icmp_lt (tgt := 15) dX3_isFull_8 rfl (fun hc1 => ?_) (fun hc1 => ?_)
  · have h := ifp hc1 h
    refine s_iconst dX3_isFull_15 (cin rfl) ?_
    subst h
    exact s_zreturn dX3_isFull_16 rfl (Or.inl rfl) hq
  · have h := ifn hc1 h
    refine s_iconst dX3_isFull_11 (cin rfl) ?_
    refine s_goto (tgt := 16) dX3_isFull_12 rfl ?_
    subst h
    exact s_zreturn dX3_isFull_16 rfl (Or.inr rfl) hq
def gX3_isFull : XG := fun As F r F' => ∃ o : Nat, ∃ res : Int, As = [vR o] ∧ isK o 3 ∧ fX3_isFull o F = res ∧ r = some (vI res) ∧ F' = F
theorem ctX3_isFull : xCT yX3_isFull cX3_isFull 1 (some FieldType.boolean) 0 0 gX3_isFull := xmet (by decide +kernel) (fun As F r F' hg => by obtain ⟨o, res, rfl, ho, h, rfl, rfl⟩ := hg; exact Nat.le_of_ble_eq_true rfl) (fun As F r F' hg => by obtain ⟨o, res, rfl, ho, h, rfl, rfl⟩ := hg; exact fX3_isFull_ok o _ _ ho h ⟨rfl, rfl⟩)
theorem mcX3_isFull : Cond.code yX3_isFull cX3_isFull 1 (some FieldType.boolean) ∈ xw_T ∧ Cond.initialized yX3_isFull.cls ∈ xw_T ∧ Cond.instanceMethod yX3_isFull ∈ xw_T ∧ Cond.selects yX3_isFull.cls yX3_isFull yX3_isFull ∈ xw_T := ⟨(xinT 676 (by decide +kernel) (by decide +kernel)), (xinT 119 (by decide +kernel) (by decide +kernel)), (xinT 674 (by decide +kernel) (by decide +kernel)), (xinT 675 (by decide +kernel) (by decide +kernel))⟩
theorem clX2_103 {fr lo : Nat} (h1 : 0 + 1 ≤ fr) (h2 : 8 + (1 + 11) + 0 ≤ lo) : xCall RX2 fr lo 0 103 3 0 gX3_isFull := ⟨_, _, _, _, _, _, ctX3_isFull, h1, h2, mcX3_isFull.1, (xinT 673 (by decide +kernel) (by decide +kernel)), mcX3_isFull.2.1, ⟨by decide +kernel, by decide +kernel, by decide +kernel⟩, by rw [if_pos rfl]; exact ⟨mcX3_isFull.2.2.1, mcX3_isFull.2.2.2, _, _, rfl⟩⟩
theorem clX3_31 {fr lo : Nat} (h1 : 0 + 1 ≤ fr) (h2 : 8 + (1 + 11) + 0 ≤ lo) : xCall RX3 fr lo 0 31 3 0 gX3_isFull := ⟨_, _, _, _, _, _, ctX3_isFull, h1, h2, mcX3_isFull.1, (xinT 706 (by decide +kernel) (by decide +kernel)), mcX3_isFull.2.1, ⟨by decide +kernel, by decide +kernel, by decide +kernel⟩, by rw [if_pos rfl]; exact ⟨mcX3_isFull.2.2.1, mcX3_isFull.2.2.2, _, _, rfl⟩⟩
theorem dX3_addRow_0 : decode cX3_addRow 0 = .ok (.aload_n 0, 1) := by decide +kernel
theorem dX3_addRow_1 : decode cX3_addRow 1 = .ok (.invokevirtual 31, 3) := by decide +kernel
theorem dX3_addRow_4 : decode cX3_addRow 4 = .ok (.ifCond .eq 4, 3) := by decide +kernel
theorem dX3_addRow_7 : decode cX3_addRow 7 = .ok (.return_, 1) := by decide +kernel
theorem dX3_addRow_8 : decode cX3_addRow 8 = .ok (.iconst 0, 1) := by decide +kernel
theorem dX3_addRow_9 : decode cX3_addRow 9 = .ok (.istore_n 1, 1) := by decide +kernel
theorem dX3_addRow_10 : decode cX3_addRow 10 = .ok (.iload_n 1, 1) := by decide +kernel
theorem dX3_addRow_11 : decode cX3_addRow 11 = .ok (.aload_n 0, 1) := by decide +kernel
theorem dX3_addRow_12 : decode cX3_addRow 12 = .ok (.getfield 24, 3) := by decide +kernel
theorem dX3_addRow_15 : decode cX3_addRow 15 = .ok (.if_icmp .ge 26, 3) := by decide +kernel
theorem dX3_addRow_18 : decode cX3_addRow 18 = .ok (.aload_n 0, 1) := by decide +kernel
theorem dX3_addRow_19 : decode cX3_addRow 19 = .ok (.getfield 27, 3) := by decide +kernel
theorem dX3_addRow_22 : decode cX3_addRow 22 = .ok (.aload_n 0, 1) := by decide +kernel
theorem dX3_addRow_23 : decode cX3_addRow 23 = .ok (.getfield 9, 3) := by decide +kernel
theorem dX3_addRow_26 : decode cX3_addRow 26 = .ok (.aload_n 0, 1) := by decide +kernel
theorem dX3_addRow_27 : decode cX3_addRow 27 = .ok (.getfield 24, 3) := by decide +kernel
theorem dX3_addRow_30 : decode cX3_addRow 30 = .ok (.imul, 1) := by decide +kernel
theorem dX3_addRow_31 : decode cX3_addRow 31 = .ok (.iload_n 1, 1) := by decide +kernel
theorem dX3_addRow_32 : decode cX3_addRow 32 = .ok (.iadd, 1) := by decide +kernel
theorem dX3_addRow_33 : decode cX3_addRow 33 = .ok (.iconst (-1), 1) := by decide +kernel
theorem dX3_addRow_34 : decode cX3_addRow 34 = .ok (.iastore, 1) := by decide +kernel
theorem dX3_addRow_35 : decode cX3_addRow 35 = .ok (.iinc 1 1, 3) := by decide +kernel
theorem dX3_addRow_38 : decode cX3_addRow 38 = .ok (.goto (-28), 3) := by decide +kernel
theorem dX3_addRow_41 : decode cX3_addRow 41 = .ok (.aload_n 0, 1) := by decide +kernel
theorem dX3_addRow_42 : decode cX3_addRow 42 = .ok (.dup, 1) := by decide +kernel
theorem dX3_addRow_43 : decode cX3_addRow 43 = .ok (.getfield 9, 3) := by decide +kernel
theorem dX3_addRow_46 : decode cX3_addRow 46 = .ok (.iconst 1, 1) := by decide +kernel
theorem dX3_addRow_47 : decode cX3_addRow 47 = .ok (.iadd, 1) := by decide +kernel
theorem dX3_addRow_48 : decode cX3_addRow 48 = .ok (.putfield 9, 3) := by decide +kernel
theorem dX3_addRow_51 : decode cX3_addRow 51 = .ok (.return_, 1) := by decide +kernel
def zX3_addRow (Qr : Option PV → Mem → Prop) : XZ := (RX3, 1, 20, 2, none, Qr)
noncomputable def fX3_addRow_b10 : Nat → Nat → Int → Mem → Option Mem
  | 0, _, _, _ => none
  | n + 1, o, x1, F =>
    if (cst o 1) ≤ x1 then
      some (mset F o 3 (xw ((F o 3) + 1)))
    else
      if (0 : Int) ≤ (xw ((xw ((F o 3) * (cst o 1))) + x1)) ∧ (xw ((xw ((F o 3) * (cst o 1))) + x1)) < (alen (o + 1) : Int) then
        fX3_addRow_b10 n o (xw (x1 + 1)) (mset F (o + 1) (xw ((xw ((F o 3) * (cst o 1))) + x1)).toNat (-1))
      else none
noncomputable def fX3_addRow (o : Nat) (F : Mem) : Option Mem :=
  if (fX3_isFull o F) = 0 then
    fX3_addRow_b10 FU o 0 F
  else
    some F
theorem fX3_addRow_b10_ok {Qr : Option PV → Mem → Prop}  : ∀ (n : Nat) (o : Nat) (x1 : Int) (F : Mem) (res : Mem) (ho : isK o 3), fX3_addRow_b10 n o x1 F = some res → Qr none res → PR cX3_addRow (zX3_addRow Qr) 10 [(0, vR o), (1, vI x1)] [] F := by
  intro n
  induction n with
  | zero => intro o x1 F res ho h hq; exact nomatch (show (none : Option _) = some _ from h)
  | succ n ih =>
    intro o x1 F res ho h hq
    refine s_iload_n (j := 1) dX3_addRow_10 rfl rfl ?_
    refine s_aload_n (j := 0) dX3_addRow_11 rfl rfl ?_
    refine s_getC dX3_addRow_12 flX3_24 ho (cst_in _ _) ?_
    refine s_icmp_ge (tgt := 41) dX3_addRow_15 rfl (fun hc1 => ?_) (fun hc1 => ?_)
    · have h := ifp hc1 h
      refine s_aload_n (j := 0) dX3_addRow_41 rfl rfl ?_
      refine s_dup dX3_addRow_42 rfl ?_
      refine s_getI dX3_addRow_43 flX3_9 ho ?_
      refine s_iconst dX3_addRow_46 (cin rfl) ?_
      refine s_iadd dX3_addRow_47 ?_
      refine s_putI dX3_addRow_48 flX3_9 fpX3_3 ho ?_
      have h := Option.some.inj h
      subst h
      exact s_return dX3_addRow_51 rfl hq
    · have h := ifn hc1 h
      refine s_aload_n (j := 0) dX3_addRow_18 rfl rfl ?_
      refine s_getR dX3_addRow_19 flX3_27 ho ?_
      refine s_aload_n (j := 0) dX3_addRow_22 rfl rfl ?_
      refine s_getI dX3_addRow_23 flX3_9 ho ?_
      refine s_aload_n (j := 0) dX3_addRow_26 rfl rfl ?_
      refine s_getC dX3_addRow_27 flX3_24 ho (cst_in _ _) ?_
      refine s_imul dX3_addRow_30 ?_
      refine s_iload_n (j := 1) dX3_addRow_31 rfl rfl ?_
      refine s_iadd dX3_addRow_32 ?_
      refine s_iconst dX3_addRow_33 (cin rfl) ?_
      obtain ⟨hb2, h⟩ := gd h
      refine s_iastore dX3_addRow_34 (trX3_2 ho) hb2.1 hb2.2 ?_
      refine s_iinc (ls' := [(1, vI (xw (x1 + 1))), (0, vR o)]) (j := 1) dX3_addRow_35 rfl (Nat.le_of_ble_eq_true rfl) rfl ?_
      refine s_goto (tgt := 10) dX3_addRow_38 rfl ?_
      exact s_sub (ks := [1, 0]) rfl (ih o (xw (x1 + 1)) (mset F (o + 1) (xw ((xw ((F o 3) * (cst o 1))) + x1)).toNat (-1)) _ ho h hq)
theorem fX3_addRow_ok {Qr : Option PV → Mem → Prop} : ∀ (o : Nat) (F : Mem) (res : Mem) (ho : isK o 3), fX3_addRow o F = some res → Qr none res → PR cX3_addRow (zX3_addRow Qr) 0 [(0, vR o)] [] F := by
  intro o F res ho h hq
  refine s_aload_n (j := 0) dX3_addRow_0 rfl rfl ?_
  refine s_callV (As := []) (rest := []) (r := (some (vI (fX3_isFull o F)))) (F' := F) dX3_addRow_1 (clX3_31 (Nat.le_of_ble_eq_true rfl) (Nat.le_of_ble_eq_true rfl)) ho rfl ⟨_, _, rfl, ho, rfl, rfl, rfl⟩ rfl (Nat.le_of_ble_eq_true rfl) ?_
  refine s_if_eq (tgt := 8) dX3_addRow_4 rfl (fun hc1 => ?_) (fun hc1 => ?_)
  · have h := ifp hc1 h
    refine s_iconst dX3_addRow_8 (cin rfl) ?_
    refine s_istore_n (ls' := [(1, vI 0), (0, vR o)]) dX3_addRow_9 rfl (Nat.le_of_ble_eq_true rfl) rfl ?_
    exact s_sub (ks := [1, 0]) rfl (fX3_addRow_b10_ok FU o 0 F _ ho h hq)
  · have h := ifn hc1 h
    have h := Option.some.inj h
    subst h
    exact s_return dX3_addRow_7 rfl hq
def gX3_addRow : XG := fun As F r F' => ∃ o : Nat, ∃ res : Mem, As = [vR o] ∧ isK o 3 ∧ fX3_addRow o F = some res ∧ r = none ∧ F' = res
theorem ctX3_addRow : xCT yX3_addRow cX3_addRow 2 (none) 1 20 gX3_addRow := xmet (by decide +kernel) (fun As F r F' hg => by obtain ⟨o, res, rfl, ho, h, rfl, rfl⟩ := hg; exact Nat.le_of_ble_eq_true rfl) (fun As F r F' hg => by obtain ⟨o, res, rfl, ho, h, rfl, rfl⟩ := hg; exact fX3_addRow_ok o _ _ ho h ⟨rfl, rfl⟩)
theorem mcX3_addRow : Cond.code yX3_addRow cX3_addRow 2 (none) ∈ xw_T ∧ Cond.initialized yX3_addRow.cls ∈ xw_T ∧ Cond.instanceMethod yX3_addRow ∈ xw_T ∧ Cond.selects yX3_addRow.cls yX3_addRow yX3_addRow ∈ xw_T := ⟨(xinT 705 (by decide +kernel) (by decide +kernel)), (xinT 119 (by decide +kernel) (by decide +kernel)), (xinT 703 (by decide +kernel) (by decide +kernel)), (xinT 704 (by decide +kernel) (by decide +kernel))⟩
theorem clX2_220 {fr lo : Nat} (h1 : 1 + 1 ≤ fr) (h2 : 8 + (2 + 11) + 20 ≤ lo) : xCall RX2 fr lo 0 220 3 0 gX3_addRow := ⟨_, _, _, _, _, _, ctX3_addRow, h1, h2, mcX3_addRow.1, (xinT 702 (by decide +kernel) (by decide +kernel)), mcX3_addRow.2.1, ⟨by decide +kernel, by decide +kernel, by decide +kernel⟩, by rw [if_pos rfl]; exact ⟨mcX3_addRow.2.2.1, mcX3_addRow.2.2.2, _, _, rfl⟩⟩
theorem dX3_isCell_0 : decode cX3_isCell 0 = .ok (.iload_n 1, 1) := by decide +kernel
theorem dX3_isCell_1 : decode cX3_isCell 1 = .ok (.ifCond .lt 27, 3) := by decide +kernel
theorem dX3_isCell_4 : decode cX3_isCell 4 = .ok (.iload_n 1, 1) := by decide +kernel
theorem dX3_isCell_5 : decode cX3_isCell 5 = .ok (.aload_n 0, 1) := by decide +kernel
theorem dX3_isCell_6 : decode cX3_isCell 6 = .ok (.getfield 9, 3) := by decide +kernel
theorem dX3_isCell_9 : decode cX3_isCell 9 = .ok (.if_icmp .ge 19, 3) := by decide +kernel
theorem dX3_isCell_12 : decode cX3_isCell 12 = .ok (.iload_n 2, 1) := by decide +kernel
theorem dX3_isCell_13 : decode cX3_isCell 13 = .ok (.ifCond .lt 15, 3) := by decide +kernel
theorem dX3_isCell_16 : decode cX3_isCell 16 = .ok (.iload_n 2, 1) := by decide +kernel
theorem dX3_isCell_17 : decode cX3_isCell 17 = .ok (.aload_n 0, 1) := by decide +kernel
theorem dX3_isCell_18 : decode cX3_isCell 18 = .ok (.getfield 24, 3) := by decide +kernel
theorem dX3_isCell_21 : decode cX3_isCell 21 = .ok (.if_icmp .ge 7, 3) := by decide +kernel
theorem dX3_isCell_24 : decode cX3_isCell 24 = .ok (.iconst 1, 1) := by decide +kernel
theorem dX3_isCell_25 : decode cX3_isCell 25 = .ok (.goto 4, 3) := by decide +kernel
theorem dX3_isCell_28 : decode cX3_isCell 28 = .ok (.iconst 0, 1) := by decide +kernel
theorem dX3_isCell_29 : decode cX3_isCell 29 = .ok (.ireturn, 1) := by decide +kernel
def zX3_isCell (Qr : Option PV → Mem → Prop) : XZ := (RX3, 0, 0, 3, some FieldType.boolean, Qr)
noncomputable def fX3_isCell (o : Nat) (x1 : Int) (x2 : Int) (F : Mem) : Int :=
  if x1 < 0 then
    0
  else
    if (F o 3) ≤ x1 then
      0
    else
      if x2 < 0 then
        0
      else
        if (cst o 1) ≤ x2 then
          0
        else
          1
theorem fX3_isCell_ok {Qr : Option PV → Mem → Prop} : ∀ (o : Nat) (x1 : Int) (x2 : Int) (F : Mem) (res : Int) (ho : isK o 3), fX3_isCell o x1 x2 F = res → Qr (some (vI res)) F → PR cX3_isCell (zX3_isCell Qr) 0 [(0, vR o), (1, vI x1), (2, vI x2)] [] F := by
  intro o x1 x2 F res ho h hq
  refine s_iload_n (j := 1) dX3_isCell_0 rfl rfl ?_
  refine s_if_lt (tgt := 28) dX3_isCell_1 rfl (fun hc1 => ?_) (fun hc1 => ?_)
  · have h := ifp hc1 h
    refine s_iconst dX3_isCell_28 (cin rfl) ?_
    subst h
    exact s_zreturn dX3_isCell_29 rfl (Or.inl rfl) hq
  · have h := ifn hc1 h
    refine s_iload_n (j := 1) dX3_isCell_4 rfl rfl ?_
    refine s_aload_n (j := 0) dX3_isCell_5 rfl rfl ?_
    refine s_getI dX3_isCell_6 flX3_9 ho ?_
    refine s_icmp_ge (tgt := 28) dX3_isCell_9 rfl (fun hc2 => ?_) (fun hc2 => ?_)
    · have h := ifp hc2 h
      refine s_iconst dX3_isCell_28 (cin rfl) ?_
      subst h
      exact s_zreturn dX3_isCell_29 rfl (Or.inl rfl) hq
    · have h := ifn hc2 h
      refine s_iload_n (j := 2) dX3_isCell_12 rfl rfl ?_
      refine s_if_lt (tgt := 28) dX3_isCell_13 rfl (fun hc3 => ?_) (fun hc3 => ?_)
      · have h := ifp hc3 h
        refine s_iconst dX3_isCell_28 (cin rfl) ?_
        subst h
        exact s_zreturn dX3_isCell_29 rfl (Or.inl rfl) hq
      · have h := ifn hc3 h
        refine s_iload_n (j := 2) dX3_isCell_16 rfl rfl ?_
        refine s_aload_n (j := 0) dX3_isCell_17 rfl rfl ?_
        refine s_getC dX3_isCell_18 flX3_24 ho (cst_in _ _) ?_
        refine s_icmp_ge (tgt := 28) dX3_isCell_21 rfl (fun hc4 => ?_) (fun hc4 => ?_)
        · have h := ifp hc4 h
          refine s_iconst dX3_isCell_28 (cin rfl) ?_
          subst h
          exact s_zreturn dX3_isCell_29 rfl (Or.inl rfl) hq
        · have h := ifn hc4 h
          refine s_iconst dX3_isCell_24 (cin rfl) ?_
          refine s_goto (tgt := 29) dX3_isCell_25 rfl ?_
          subst h
          exact s_zreturn dX3_isCell_29 rfl (Or.inr rfl) hq
def gX3_isCell : XG := fun As F r F' => ∃ o : Nat, ∃ x1 : Int, ∃ x2 : Int, ∃ res : Int, As = [vR o, vI x1, vI x2] ∧ isK o 3 ∧ fX3_isCell o x1 x2 F = res ∧ r = some (vI res) ∧ F' = F
theorem ctX3_isCell : xCT yX3_isCell cX3_isCell 3 (some FieldType.boolean) 0 0 gX3_isCell := xmet (by decide +kernel) (fun As F r F' hg => by obtain ⟨o, x1, x2, res, rfl, ho, h, rfl, rfl⟩ := hg; exact Nat.le_of_ble_eq_true rfl) (fun As F r F' hg => by obtain ⟨o, x1, x2, res, rfl, ho, h, rfl, rfl⟩ := hg; exact fX3_isCell_ok o x1 x2 _ _ ho h ⟨rfl, rfl⟩)
theorem mcX3_isCell : Cond.code yX3_isCell cX3_isCell 3 (some FieldType.boolean) ∈ xw_T ∧ Cond.initialized yX3_isCell.cls ∈ xw_T ∧ Cond.instanceMethod yX3_isCell ∈ xw_T ∧ Cond.selects yX3_isCell.cls yX3_isCell yX3_isCell ∈ xw_T := ⟨(xinT 714 (by decide +kernel) (by decide +kernel)), (xinT 119 (by decide +kernel) (by decide +kernel)), (xinT 712 (by decide +kernel) (by decide +kernel)), (xinT 713 (by decide +kernel) (by decide +kernel))⟩
theorem clX3_35 {fr lo : Nat} (h1 : 0 + 1 ≤ fr) (h2 : 8 + (3 + 11) + 0 ≤ lo) : xCall RX3 fr lo 0 35 3 2 gX3_isCell := ⟨_, _, _, _, _, _, ctX3_isCell, h1, h2, mcX3_isCell.1, (xinT 711 (by decide +kernel) (by decide +kernel)), mcX3_isCell.2.1, ⟨by decide +kernel, by decide +kernel, by decide +kernel⟩, by rw [if_pos rfl]; exact ⟨mcX3_isCell.2.2.1, mcX3_isCell.2.2.2, _, _, rfl⟩⟩
theorem clX9_375 {fr lo : Nat} (h1 : 0 + 1 ≤ fr) (h2 : 8 + (3 + 11) + 0 ≤ lo) : xCall RX9 fr lo 0 375 3 2 gX3_isCell := ⟨_, _, _, _, _, _, ctX3_isCell, h1, h2, mcX3_isCell.1, (xinT 791 (by decide +kernel) (by decide +kernel)), mcX3_isCell.2.1, ⟨by decide +kernel, by decide +kernel, by decide +kernel⟩, by rw [if_pos rfl]; exact ⟨mcX3_isCell.2.2.1, mcX3_isCell.2.2.2, _, _, rfl⟩⟩
theorem dX3_write_0 : decode cX3_write 0 = .ok (.aload_n 0, 1) := by decide +kernel
theorem dX3_write_1 : decode cX3_write 1 = .ok (.aload_n 0, 1) := by decide +kernel
theorem dX3_write_2 : decode cX3_write 2 = .ok (.getfield 9, 3) := by decide +kernel
theorem dX3_write_5 : decode cX3_write 5 = .ok (.iconst 1, 1) := by decide +kernel
theorem dX3_write_6 : decode cX3_write 6 = .ok (.isub, 1) := by decide +kernel
theorem dX3_write_7 : decode cX3_write 7 = .ok (.iload_n 1, 1) := by decide +kernel
theorem dX3_write_8 : decode cX3_write 8 = .ok (.invokevirtual 35, 3) := by decide +kernel
theorem dX3_write_11 : decode cX3_write 11 = .ok (.ifCond .eq 22, 3) := by decide +kernel
theorem dX3_write_14 : decode cX3_write 14 = .ok (.aload_n 0, 1) := by decide +kernel
theorem dX3_write_15 : decode cX3_write 15 = .ok (.getfield 27, 3) := by decide +kernel
theorem dX3_write_18 : decode cX3_write 18 = .ok (.aload_n 0, 1) := by decide +kernel
theorem dX3_write_19 : decode cX3_write 19 = .ok (.getfield 9, 3) := by decide +kernel
theorem dX3_write_22 : decode cX3_write 22 = .ok (.iconst 1, 1) := by decide +kernel
theorem dX3_write_23 : decode cX3_write 23 = .ok (.isub, 1) := by decide +kernel
theorem dX3_write_24 : decode cX3_write 24 = .ok (.aload_n 0, 1) := by decide +kernel
theorem dX3_write_25 : decode cX3_write 25 = .ok (.getfield 24, 3) := by decide +kernel
theorem dX3_write_28 : decode cX3_write 28 = .ok (.imul, 1) := by decide +kernel
theorem dX3_write_29 : decode cX3_write 29 = .ok (.iload_n 1, 1) := by decide +kernel
theorem dX3_write_30 : decode cX3_write 30 = .ok (.iadd, 1) := by decide +kernel
theorem dX3_write_31 : decode cX3_write 31 = .ok (.iload_n 2, 1) := by decide +kernel
theorem dX3_write_32 : decode cX3_write 32 = .ok (.iastore, 1) := by decide +kernel
theorem dX3_write_33 : decode cX3_write 33 = .ok (.return_, 1) := by decide +kernel
def zX3_write (Qr : Option PV → Mem → Prop) : XZ := (RX3, 1, 22, 3, none, Qr)
noncomputable def fX3_write (o : Nat) (x1 : Int) (x2 : Int) (F : Mem) : Option Mem :=
  if (fX3_isCell o (xw ((F o 3) - 1)) x1 F) = 0 then
    some F
  else
    if (0 : Int) ≤ (xw ((xw ((xw ((F o 3) - 1)) * (cst o 1))) + x1)) ∧ (xw ((xw ((xw ((F o 3) - 1)) * (cst o 1))) + x1)) < (alen (o + 1) : Int) then
      some (mset F (o + 1) (xw ((xw ((xw ((F o 3) - 1)) * (cst o 1))) + x1)).toNat x2)
    else none
theorem fX3_write_ok {Qr : Option PV → Mem → Prop} : ∀ (o : Nat) (x1 : Int) (x2 : Int) (F : Mem) (res : Mem) (ho : isK o 3), fX3_write o x1 x2 F = some res → Qr none res → PR cX3_write (zX3_write Qr) 0 [(0, vR o), (1, vI x1), (2, vI x2)] [] F := by
  intro o x1 x2 F res ho h hq
  refine s_aload_n (j := 0) dX3_write_0 rfl rfl ?_
  refine s_aload_n (j := 0) dX3_write_1 rfl rfl ?_
  refine s_getI dX3_write_2 flX3_9 ho ?_
  refine s_iconst dX3_write_5 (cin rfl) ?_
  refine s_isub dX3_write_6 ?_
  refine s_iload_n (j := 1) dX3_write_7 rfl rfl ?_
  refine s_callV (As := [vI (xw ((F o 3) - 1)), vI x1]) (rest := []) (r := (some (vI (fX3_isCell o (xw ((F o 3) - 1)) x1 F)))) (F' := F) dX3_write_8 (clX3_35 (Nat.le_of_ble_eq_true rfl) (Nat.le_of_ble_eq_true rfl)) ho rfl ⟨_, _, _, _, rfl, ho, rfl, rfl, rfl⟩ rfl (Nat.le_of_ble_eq_true rfl) ?_
  refine s_if_eq (tgt := 33) dX3_write_11 rfl (fun hc1 => ?_) (fun hc1 => ?_)
  · have h := ifp hc1 h
    have h := Option.some.inj h
    subst h
    exact s_return dX3_write_33 rfl hq
  · have h := ifn hc1 h
    refine s_aload_n (j := 0) dX3_write_14 rfl rfl ?_
    refine s_getR dX3_write_15 flX3_27 ho ?_
    refine s_aload_n (j := 0) dX3_write_18 rfl rfl ?_
    refine s_getI dX3_write_19 flX3_9 ho ?_
    refine s_iconst dX3_write_22 (cin rfl) ?_
    refine s_isub dX3_write_23 ?_
    refine s_aload_n (j := 0) dX3_write_24 rfl rfl ?_
    refine s_getC dX3_write_25 flX3_24 ho (cst_in _ _) ?_
    refine s_imul dX3_write_28 ?_
    refine s_iload_n (j := 1) dX3_write_29 rfl rfl ?_
    refine s_iadd dX3_write_30 ?_
    refine s_iload_n (j := 2) dX3_write_31 rfl rfl ?_
    obtain ⟨hb2, h⟩ := gd h
    refine s_iastore dX3_write_32 (trX3_2 ho) hb2.1 hb2.2 ?_
    have h := Option.some.inj h
    subst h
    exact s_return dX3_write_33 rfl hq
def gX3_write : XG := fun As F r F' => ∃ o : Nat, ∃ x1 : Int, ∃ x2 : Int, ∃ res : Mem, As = [vR o, vI x1, vI x2] ∧ isK o 3 ∧ fX3_write o x1 x2 F = some res ∧ r = none ∧ F' = res
theorem ctX3_write : xCT yX3_write cX3_write 3 (none) 1 22 gX3_write := xmet (by decide +kernel) (fun As F r F' hg => by obtain ⟨o, x1, x2, res, rfl, ho, h, rfl, rfl⟩ := hg; exact Nat.le_of_ble_eq_true rfl) (fun As F r F' hg => by obtain ⟨o, x1, x2, res, rfl, ho, h, rfl, rfl⟩ := hg; exact fX3_write_ok o x1 x2 _ _ ho h ⟨rfl, rfl⟩)
theorem mcX3_write : Cond.code yX3_write cX3_write 3 (none) ∈ xw_T ∧ Cond.initialized yX3_write.cls ∈ xw_T ∧ Cond.instanceMethod yX3_write ∈ xw_T ∧ Cond.selects yX3_write.cls yX3_write yX3_write ∈ xw_T := ⟨(xinT 710 (by decide +kernel) (by decide +kernel)), (xinT 119 (by decide +kernel) (by decide +kernel)), (xinT 708 (by decide +kernel) (by decide +kernel)), (xinT 709 (by decide +kernel) (by decide +kernel))⟩
theorem clX2_223 {fr lo : Nat} (h1 : 1 + 1 ≤ fr) (h2 : 8 + (3 + 11) + 22 ≤ lo) : xCall RX2 fr lo 0 223 3 2 gX3_write := ⟨_, _, _, _, _, _, ctX3_write, h1, h2, mcX3_write.1, (xinT 707 (by decide +kernel) (by decide +kernel)), mcX3_write.2.1, ⟨by decide +kernel, by decide +kernel, by decide +kernel⟩, by rw [if_pos rfl]; exact ⟨mcX3_write.2.2.1, mcX3_write.2.2.2, _, _, rfl⟩⟩
theorem dX3_copyFrom_0 : decode cX3_copyFrom 0 = .ok (.aload_n 0, 1) := by decide +kernel
theorem dX3_copyFrom_1 : decode cX3_copyFrom 1 = .ok (.aload_n 1, 1) := by decide +kernel
theorem dX3_copyFrom_2 : decode cX3_copyFrom 2 = .ok (.getfield 9, 3) := by decide +kernel
theorem dX3_copyFrom_5 : decode cX3_copyFrom 5 = .ok (.aload_n 0, 1) := by decide +kernel
theorem dX3_copyFrom_6 : decode cX3_copyFrom 6 = .ok (.getfield 21, 3) := by decide +kernel
theorem dX3_copyFrom_9 : decode cX3_copyFrom 9 = .ok (.invokestatic 39, 3) := by decide +kernel
theorem dX3_copyFrom_12 : decode cX3_copyFrom 12 = .ok (.putfield 9, 3) := by decide +kernel
theorem dX3_copyFrom_15 : decode cX3_copyFrom 15 = .ok (.aload_n 1, 1) := by decide +kernel
theorem dX3_copyFrom_16 : decode cX3_copyFrom 16 = .ok (.getfield 27, 3) := by decide +kernel
theorem dX3_copyFrom_19 : decode cX3_copyFrom 19 = .ok (.iconst 0, 1) := by decide +kernel
theorem dX3_copyFrom_20 : decode cX3_copyFrom 20 = .ok (.aload_n 0, 1) := by decide +kernel
theorem dX3_copyFrom_21 : decode cX3_copyFrom 21 = .ok (.getfield 27, 3) := by decide +kernel
theorem dX3_copyFrom_24 : decode cX3_copyFrom 24 = .ok (.iconst 0, 1) := by decide +kernel
theorem dX3_copyFrom_25 : decode cX3_copyFrom 25 = .ok (.aload_n 0, 1) := by decide +kernel
theorem dX3_copyFrom_26 : decode cX3_copyFrom 26 = .ok (.getfield 27, 3) := by decide +kernel
theorem dX3_copyFrom_29 : decode cX3_copyFrom 29 = .ok (.arraylength, 1) := by decide +kernel
theorem dX3_copyFrom_30 : decode cX3_copyFrom 30 = .ok (.aload_n 1, 1) := by decide +kernel
theorem dX3_copyFrom_31 : decode cX3_copyFrom 31 = .ok (.getfield 27, 3) := by decide +kernel
theorem dX3_copyFrom_34 : decode cX3_copyFrom 34 = .ok (.arraylength, 1) := by decide +kernel
theorem dX3_copyFrom_35 : decode cX3_copyFrom 35 = .ok (.invokestatic 39, 3) := by decide +kernel
theorem dX3_copyFrom_38 : decode cX3_copyFrom 38 = .ok (.invokestatic 42, 3) := by decide +kernel
theorem dX3_copyFrom_41 : decode cX3_copyFrom 41 = .ok (.return_, 1) := by decide +kernel
def zX3_copyFrom (Qr : Option PV → Mem → Prop) : XZ := (RX3, 1, 40, 2, none, Qr)
noncomputable def fX3_copyFrom (o : Nat) (x1 : Nat) (F : Mem) : Option Mem :=
  if x1 = 0 then none else
  if x1 = 0 then none else
  if x1 = 0 then none else
  if (0 : Int) ≤ 0 ∧ (0 : Int) ≤ 0 ∧ (0 : Int) ≤ (xmin (alen (o + 1) : Int) (alen (x1 + 1) : Int)) ∧ 0 + (xmin (alen (o + 1) : Int) (alen (x1 + 1) : Int)) ≤ (alen (x1 + 1) : Int) ∧ 0 + (xmin (alen (o + 1) : Int) (alen (x1 + 1) : Int)) ≤ (alen (o + 1) : Int) then
    some (mcopy (mset F o 3 (xmin (F x1 3) (cst o 0))) (x1 + 1) 0 (o + 1) 0 (xmin (alen (o + 1) : Int) (alen (x1 + 1) : Int)))
  else none
theorem fX3_copyFrom_ok {Qr : Option PV → Mem → Prop} : ∀ (o : Nat) (x1 : Nat) (F : Mem) (res : Mem) (ho : isK o 3) (hx1 : x1 = 0 ∨ isK x1 3), fX3_copyFrom o x1 F = some res → Qr none res → PR cX3_copyFrom (zX3_copyFrom Qr) 0 [(0, vR o), (1, vR x1)] [] F := by
  intro o x1 F res ho hx1 h hq
  refine s_aload_n (j := 0) dX3_copyFrom_0 rfl rfl ?_
  refine s_aload_n (j := 1) dX3_copyFrom_1 rfl rfl ?_
  obtain ⟨hn1, h⟩ := gdn h
  refine s_getI dX3_copyFrom_2 flX3_9 (hx1.resolve_left hn1) ?_
  refine s_aload_n (j := 0) dX3_copyFrom_5 rfl rfl ?_
  refine s_getC dX3_copyFrom_6 flX3_21 ho (cst_in _ _) ?_
  refine s_mmin dX3_copyFrom_9 mtX3_39 (Nat.le_of_ble_eq_true rfl) ?_
  refine s_putI dX3_copyFrom_12 flX3_9 fpX3_3 ho ?_
  refine s_aload_n (j := 1) dX3_copyFrom_15 rfl rfl ?_
  obtain ⟨hn2, h⟩ := gdn h
  refine s_getR dX3_copyFrom_16 flX3_27 (hx1.resolve_left hn2) ?_
  refine s_iconst dX3_copyFrom_19 (cin rfl) ?_
  refine s_aload_n (j := 0) dX3_copyFrom_20 rfl rfl ?_
  refine s_getR dX3_copyFrom_21 flX3_27 ho ?_
  refine s_iconst dX3_copyFrom_24 (cin rfl) ?_
  refine s_aload_n (j := 0) dX3_copyFrom_25 rfl rfl ?_
  refine s_getR dX3_copyFrom_26 flX3_27 ho ?_
  refine s_alen dX3_copyFrom_29 (trX3_2 ho) ?_
  refine s_aload_n (j := 1) dX3_copyFrom_30 rfl rfl ?_
  obtain ⟨hn3, h⟩ := gdn h
  refine s_getR dX3_copyFrom_31 flX3_27 (hx1.resolve_left hn3) ?_
  refine s_alen dX3_copyFrom_34 (trX3_2 (hx1.resolve_left hn3)) ?_
  refine s_mmin dX3_copyFrom_35 mtX3_39 (Nat.le_of_ble_eq_true rfl) ?_
  obtain ⟨hb4, h⟩ := gd h
  refine s_acopy dX3_copyFrom_38 mtX3_42 (Or.inl rfl) (trX3_2 (hx1.resolve_left hn2)) (trX3_2 ho) hb4.1 hb4.2.1 hb4.2.2.1 hb4.2.2.2.1 hb4.2.2.2.2 (fun z => absurd z (by decide)) (Nat.le_of_ble_eq_true rfl) ?_
  have h := Option.some.inj h
  subst h
  exact s_return dX3_copyFrom_41 rfl hq
def gX3_copyFrom : XG := fun As F r F' => ∃ o : Nat, ∃ x1 : Nat, ∃ res : Mem, As = [vR o, vR x1] ∧ isK o 3 ∧ (x1 = 0 ∨ isK x1 3) ∧ fX3_copyFrom o x1 F = some res ∧ r = none ∧ F' = res
theorem ctX3_copyFrom : xCT yX3_copyFrom cX3_copyFrom 2 (none) 1 40 gX3_copyFrom := xmet (by decide +kernel) (fun As F r F' hg => by obtain ⟨o, x1, res, rfl, ho, hx1, h, rfl, rfl⟩ := hg; exact Nat.le_of_ble_eq_true rfl) (fun As F r F' hg => by obtain ⟨o, x1, res, rfl, ho, hx1, h, rfl, rfl⟩ := hg; exact fX3_copyFrom_ok o x1 _ _ ho hx1 h ⟨rfl, rfl⟩)
theorem mcX3_copyFrom : Cond.code yX3_copyFrom cX3_copyFrom 2 (none) ∈ xw_T ∧ Cond.initialized yX3_copyFrom.cls ∈ xw_T ∧ Cond.instanceMethod yX3_copyFrom ∈ xw_T ∧ Cond.selects yX3_copyFrom.cls yX3_copyFrom yX3_copyFrom ∈ xw_T := ⟨(xinT 738 (by decide +kernel) (by decide +kernel)), (xinT 119 (by decide +kernel) (by decide +kernel)), (xinT 736 (by decide +kernel) (by decide +kernel)), (xinT 737 (by decide +kernel) (by decide +kernel))⟩
theorem clX4_61 {fr lo : Nat} (h1 : 1 + 1 ≤ fr) (h2 : 8 + (2 + 11) + 40 ≤ lo) : xCall RX4 fr lo 0 61 3 1 gX3_copyFrom := ⟨_, _, _, _, _, _, ctX3_copyFrom, h1, h2, mcX3_copyFrom.1, (xinT 744 (by decide +kernel) (by decide +kernel)), mcX3_copyFrom.2.1, ⟨by decide +kernel, by decide +kernel, by decide +kernel⟩, by rw [if_pos rfl]; exact ⟨mcX3_copyFrom.2.2.1, mcX3_copyFrom.2.2.2, _, _, rfl⟩⟩
theorem clX7_42 {fr lo : Nat} (h1 : 1 + 1 ≤ fr) (h2 : 8 + (2 + 11) + 40 ≤ lo) : xCall RX7 fr lo 0 42 3 1 gX3_copyFrom := ⟨_, _, _, _, _, _, ctX3_copyFrom, h1, h2, mcX3_copyFrom.1, (xinT 735 (by decide +kernel) (by decide +kernel)), mcX3_copyFrom.2.1, ⟨by decide +kernel, by decide +kernel, by decide +kernel⟩, by rw [if_pos rfl]; exact ⟨mcX3_copyFrom.2.2.1, mcX3_copyFrom.2.2.2, _, _, rfl⟩⟩
