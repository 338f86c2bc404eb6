theorem dX0_clear_0 : decode cX0_clear 0 = .ok (.iconst 0, 1) := by decide +kernel
theorem dX0_clear_1 : decode cX0_clear 1 = .ok (.istore_n 1, 1) := by decide +kernel
theorem dX0_clear_2 : decode cX0_clear 2 = .ok (.iload_n 1, 1) := by decide +kernel
theorem dX0_clear_3 : decode cX0_clear 3 = .ok (.sipush 336, 3) := by decide +kernel
theorem dX0_clear_6 : decode cX0_clear 6 = .ok (.if_icmp .ge 23, 3) := by decide +kernel
theorem dX0_clear_9 : decode cX0_clear 9 = .ok (.aload_n 0, 1) := by decide +kernel
theorem dX0_clear_10 : decode cX0_clear 10 = .ok (.getfield 9, 3) := by decide +kernel
theorem dX0_clear_13 : decode cX0_clear 13 = .ok (.iload_n 1, 1) := by decide +kernel
theorem dX0_clear_14 : decode cX0_clear 14 = .ok (.iconst (-1), 1) := by decide +kernel
theorem dX0_clear_15 : decode cX0_clear 15 = .ok (.iastore, 1) := by decide +kernel
theorem dX0_clear_16 : decode cX0_clear 16 = .ok (.aload_n 0, 1) := by decide +kernel
theorem dX0_clear_17 : decode cX0_clear 17 = .ok (.getfield 15, 3) := by decide +kernel
theorem dX0_clear_20 : decode cX0_clear 20 = .ok (.iload_n 1, 1) := by decide +kernel
theorem dX0_clear_21 : decode cX0_clear 21 = .ok (.iconst (-1), 1) := by decide +kernel
theorem dX0_clear_22 : decode cX0_clear 22 = .ok (.iastore, 1) := by decide +kernel
theorem dX0_clear_23 : decode cX0_clear 23 = .ok (.iinc 1 1, 3) := by decide +kernel
theorem dX0_clear_26 : decode cX0_clear 26 = .ok (.goto (-24), 3) := by decide +kernel
theorem dX0_clear_29 : decode cX0_clear 29 = .ok (.iconst 0, 1) := by decide +kernel
theorem dX0_clear_30 : decode cX0_clear 30 = .ok (.istore_n 1, 1) := by decide +kernel
theorem dX0_clear_31 : decode cX0_clear 31 = .ok (.iload_n 1, 1) := by decide +kernel
theorem dX0_clear_32 : decode cX0_clear 32 = .ok (.bipush 8, 2) := by decide +kernel
theorem dX0_clear_34 : decode cX0_clear 34 = .ok (.if_icmp .ge 23, 3) := by decide +kernel
theorem dX0_clear_37 : decode cX0_clear 37 = .ok (.aload_n 0, 1) := by decide +kernel
theorem dX0_clear_38 : decode cX0_clear 38 = .ok (.getfield 18, 3) := by decide +kernel
theorem dX0_clear_41 : decode cX0_clear 41 = .ok (.iload_n 1, 1) := by decide +kernel
theorem dX0_clear_42 : decode cX0_clear 42 = .ok (.iconst (-1), 1) := by decide +kernel
theorem dX0_clear_43 : decode cX0_clear 43 = .ok (.iastore, 1) := by decide +kernel
theorem dX0_clear_44 : decode cX0_clear 44 = .ok (.aload_n 0, 1) := by decide +kernel
theorem dX0_clear_45 : decode cX0_clear 45 = .ok (.getfield 21, 3) := by decide +kernel
theorem dX0_clear_48 : decode cX0_clear 48 = .ok (.iload_n 1, 1) := by decide +kernel
theorem dX0_clear_49 : decode cX0_clear 49 = .ok (.iconst 0, 1) := by decide +kernel
theorem dX0_clear_50 : decode cX0_clear 50 = .ok (.bastore, 1) := by decide +kernel
theorem dX0_clear_51 : decode cX0_clear 51 = .ok (.iinc 1 1, 3) := by decide +kernel
theorem dX0_clear_54 : decode cX0_clear 54 = .ok (.goto (-23), 3) := by decide +kernel
theorem dX0_clear_57 : decode cX0_clear 57 = .ok (.iconst 0, 1) := by decide +kernel
theorem dX0_clear_58 : decode cX0_clear 58 = .ok (.istore_n 1, 1) := by decide +kernel
theorem dX0_clear_59 : decode cX0_clear 59 = .ok (.iload_n 1, 1) := by decide +kernel
theorem dX0_clear_60 : decode cX0_clear 60 = .ok (.bipush 30, 2) := by decide +kernel
theorem dX0_clear_62 : decode cX0_clear 62 = .ok (.if_icmp .ge 16, 3) := by decide +kernel
theorem dX0_clear_65 : decode cX0_clear 65 = .ok (.aload_n 0, 1) := by decide +kernel
theorem dX0_clear_66 : decode cX0_clear 66 = .ok (.getfield 25, 3) := by decide +kernel
theorem dX0_clear_69 : decode cX0_clear 69 = .ok (.iload_n 1, 1) := by decide +kernel
theorem dX0_clear_70 : decode cX0_clear 70 = .ok (.iconst 0, 1) := by decide +kernel
theorem dX0_clear_71 : decode cX0_clear 71 = .ok (.bastore, 1) := by decide +kernel
theorem dX0_clear_72 : decode cX0_clear 72 = .ok (.iinc 1 1, 3) := by decide +kernel
theorem dX0_clear_75 : decode cX0_clear 75 = .ok (.goto (-16), 3) := by decide +kernel
theorem dX0_clear_78 : decode cX0_clear 78 = .ok (.return_, 1) := by decide +kernel
def zX0_clear (Qr : Option PV → Mem → Prop) : XZ := (RX0, 0, 0, 2, none, Qr)
noncomputable def fX0_clear_b59 : Nat → Nat → Int → Mem → Option Mem
  | 0, _, _, _ => none
  | n + 1, o, x1, F =>
    if 30 ≤ x1 then
      some F
    else
      if (0 : Int) ≤ x1 ∧ x1 < (alen (o + 5) : Int) then
        fX0_clear_b59 n o (xw (x1 + 1)) (mset F (o + 5) x1.toNat 0)
      else none
noncomputable def fX0_clear_b31 : Nat → Nat → Int → Mem → Option Mem
  | 0, _, _, _ => none
  | n + 1, o, x1, F =>
    if 8 ≤ x1 then
      fX0_clear_b59 FU o 0 F
    else
      if (0 : Int) ≤ x1 ∧ x1 < (alen (o + 3) : Int) then
        if (0 : Int) ≤ x1 ∧ x1 < (alen (o + 4) : Int) then
          fX0_clear_b31 n o (xw (x1 + 1)) (mset (mset F (o + 3) x1.toNat (-1)) (o + 4) x1.toNat 0)
        else none
      else none
noncomputable def fX0_clear_b2 : Nat → Nat → Int → Mem → Option Mem
  | 0, _, _, _ => none
  | n + 1, o, x1, F =>
    if 336 ≤ x1 then
      fX0_clear_b31 FU o 0 F
    else
      if (0 : Int) ≤ x1 ∧ x1 < (alen (o + 1) : Int) then
        if (0 : Int) ≤ x1 ∧ x1 < (alen (o + 2) : Int) then
          fX0_clear_b2 n o (xw (x1 + 1)) (mset (mset F (o + 1) x1.toNat (-1)) (o + 2) x1.toNat (-1))
        else none
      else none
noncomputable def fX0_clear (o : Nat) (F : Mem) : Option Mem :=
  fX0_clear_b2 FU o 0 F
theorem fX0_clear_b59_ok {Qr : Option PV → Mem → Prop}  : ∀ (n : Nat) (o : Nat) (x1 : Int) (F : Mem) (res : Mem) (ho : isK o 0), fX0_clear_b59 n o x1 F = some res → Qr none res → PR cX0_clear (zX0_clear Qr) 59 [(0, vR o), (1, vI x1)] [] F := by
  intro n
  induction n with
  | zero => intro o x1 F res ho h hq; exact nomatch (show (none : Option _) = some _ from h)
  | succ n ih =>
    intro o x1 F res ho h hq
    refine s_iload_n (j := 1) dX0_clear_59 rfl rfl ?_
    refine s_bipush dX0_clear_60 rfl (cin rfl) ?_
    refine s_icmp_ge (tgt := 78) dX0_clear_62 rfl (fun hc1 => ?_) (fun hc1 => ?_)
    · have h := ifp hc1 h
      have h := Option.some.inj h
      subst h
      exact s_return dX0_clear_78 rfl hq
    · have h := ifn hc1 h
      refine s_aload_n (j := 0) dX0_clear_65 rfl rfl ?_
      refine s_getR dX0_clear_66 flX0_25 ho ?_
      refine s_iload_n (j := 1) dX0_clear_69 rfl rfl ?_
      refine s_iconst dX0_clear_70 (cin rfl) ?_
      obtain ⟨hb2, h⟩ := gd h
      refine s_zastore dX0_clear_71 (trX0_4 ho) hb2.1 hb2.2 (Or.inl rfl) ?_
      refine s_iinc (ls' := [(1, vI (xw (x1 + 1))), (0, vR o)]) (j := 1) dX0_clear_72 rfl (Nat.le_of_ble_eq_true rfl) rfl ?_
      refine s_goto (tgt := 59) dX0_clear_75 rfl ?_
      exact s_sub (ks := [1, 0]) rfl (ih o (xw (x1 + 1)) (mset F (o + 5) x1.toNat 0) _ ho h hq)
theorem fX0_clear_b31_ok {Qr : Option PV → Mem → Prop}  : ∀ (n : Nat) (o : Nat) (x1 : Int) (F : Mem) (res : Mem) (ho : isK o 0), fX0_clear_b31 n o x1 F = some res → Qr none res → PR cX0_clear (zX0_clear Qr) 31 [(0, vR o), (1, vI x1)] [] F := by
  intro n
  induction n with
  | zero => intro o x1 F res ho h hq; exact nomatch (show (none : Option _) = some _ from h)
  | succ n ih =>
    intro o x1 F res ho h hq
    refine s_iload_n (j := 1) dX0_clear_31 rfl rfl ?_
    refine s_bipush dX0_clear_32 rfl (cin rfl) ?_
    refine s_icmp_ge (tgt := 57) dX0_clear_34 rfl (fun hc1 => ?_) (fun hc1 => ?_)
    · have h := ifp hc1 h
      refine s_iconst dX0_clear_57 (cin rfl) ?_
      refine s_istore_n (ls' := [(1, vI 0), (0, vR o)]) dX0_clear_58 rfl (Nat.le_of_ble_eq_true rfl) rfl ?_
      exact s_sub (ks := [1, 0]) rfl (fX0_clear_b59_ok FU o 0 F _ ho h hq)
    · have h := ifn hc1 h
      refine s_aload_n (j := 0) dX0_clear_37 rfl rfl ?_
      refine s_getR dX0_clear_38 flX0_18 ho ?_
      refine s_iload_n (j := 1) dX0_clear_41 rfl rfl ?_
      refine s_iconst dX0_clear_42 (cin rfl) ?_
      obtain ⟨hb2, h⟩ := gd h
      refine s_iastore dX0_clear_43 (trX0_2 ho) hb2.1 hb2.2 ?_
      refine s_aload_n (j := 0) dX0_clear_44 rfl rfl ?_
      refine s_getR dX0_clear_45 flX0_21 ho ?_
      refine s_iload_n (j := 1) dX0_clear_48 rfl rfl ?_
      refine s_iconst dX0_clear_49 (cin rfl) ?_
      obtain ⟨hb3, h⟩ := gd h
      refine s_zastore dX0_clear_50 (trX0_3 ho) hb3.1 hb3.2 (Or.inl rfl) ?_
      refine s_iinc (ls' := [(1, vI (xw (x1 + 1))), (0, vR o)]) (j := 1) dX0_clear_51 rfl (Nat.le_of_ble_eq_true rfl) rfl ?_
      refine s_goto (tgt := 31) dX0_clear_54 rfl ?_
      exact s_sub (ks := [1, 0]) rfl (ih o (xw (x1 + 1)) (mset (mset F (o + 3) x1.toNat (-1)) (o + 4) x1.toNat 0) _ ho h hq)
theorem fX0_clear_b2_ok {Qr : Option PV → Mem → Prop}  : ∀ (n : Nat) (o : Nat) (x1 : Int) (F : Mem) (res : Mem) (ho : isK o 0), fX0_clear_b2 n o x1 F = some res → Qr none res → PR cX0_clear (zX0_clear Qr) 2 [(0, vR o), (1, vI x1)] [] F := by
  intro n
  induction n with
  | zero => intro o x1 F res ho h hq; exact nomatch (show (none : Option _) = some _ from h)
  | succ n ih =>
    intro o x1 F res ho h hq
    refine s_iload_n (j := 1) dX0_clear_2 rfl rfl ?_
    refine s_sipush dX0_clear_3 rfl (cin rfl) ?_
    refine s_icmp_ge (tgt := 29) dX0_clear_6 rfl (fun hc1 => ?_) (fun hc1 => ?_)
    · have h := ifp hc1 h
      refine s_iconst dX0_clear_29 (cin rfl) ?_
      refine s_istore_n (ls' := [(1, vI 0), (0, vR o)]) dX0_clear_30 rfl (Nat.le_of_ble_eq_true rfl) rfl ?_
      exact s_sub (ks := [1, 0]) rfl (fX0_clear_b31_ok FU o 0 F _ ho h hq)
    · have h := ifn hc1 h
      refine s_aload_n (j := 0) dX0_clear_9 rfl rfl ?_
      refine s_getR dX0_clear_10 flX0_9 ho ?_
      refine s_iload_n (j := 1) dX0_clear_13 rfl rfl ?_
      refine s_iconst dX0_clear_14 (cin rfl) ?_
      obtain ⟨hb2, h⟩ := gd h
      refine s_iastore dX0_clear_15 (trX0_0 ho) hb2.1 hb2.2 ?_
      refine s_aload_n (j := 0) dX0_clear_16 rfl rfl ?_
      refine s_getR dX0_clear_17 flX0_15 ho ?_
      refine s_iload_n (j := 1) dX0_clear_20 rfl rfl ?_
      refine s_iconst dX0_clear_21 (cin rfl) ?_
      obtain ⟨hb3, h⟩ := gd h
      refine s_iastore dX0_clear_22 (trX0_1 ho) hb3.1 hb3.2 ?_
      refine s_iinc (ls' := [(1, vI (xw (x1 + 1))), (0, vR o)]) (j := 1) dX0_clear_23 rfl (Nat.le_of_ble_eq_true rfl) rfl ?_
      refine s_goto (tgt := 2) dX0_clear_26 rfl ?_
      exact s_sub (ks := [1, 0]) rfl (ih o (xw (x1 + 1)) (mset (mset F (o + 1) x1.toNat (-1)) (o + 2) x1.toNat (-1)) _ ho h hq)
theorem fX0_clear_ok {Qr : Option PV → Mem → Prop} : ∀ (o : Nat) (F : Mem) (res : Mem) (ho : isK o 0), fX0_clear o F = some res → Qr none res → PR cX0_clear (zX0_clear Qr) 0 [(0, vR o)] [] F := by
  intro o F res ho h hq
  refine s_iconst dX0_clear_0 (cin rfl) ?_
  refine s_istore_n (ls' := [(1, vI 0), (0, vR o)]) dX0_clear_1 rfl (Nat.le_of_ble_eq_true rfl) rfl ?_
  exact s_sub (ks := [1, 0]) rfl (fX0_clear_b2_ok FU o 0 F _ ho h hq)
def gX0_clear : XG := fun As F r F' => ∃ o : Nat, ∃ res : Mem, As = [vR o] ∧ isK o 0 ∧ fX0_clear o F = some res ∧ r = none ∧ F' = res
theorem ctX0_clear : xCT yX0_clear cX0_clear 2 (none) 0 0 gX0_clear := xmet (by decide +kernel) (fun As F r F' hg => by obtain ⟨o, res, rfl, ho, h, rfl, rfl⟩ := hg; exact Nat.le_of_ble_eq_true rfl) (fun As F r F' hg => by obtain ⟨o, res, rfl, ho, h, rfl, rfl⟩ := hg; exact fX0_clear_ok o _ _ ho h ⟨rfl, rfl⟩)
theorem mcX0_clear : Cond.code yX0_clear cX0_clear 2 (none) ∈ xw_T ∧ Cond.initialized yX0_clear.cls ∈ xw_T ∧ Cond.instanceMethod yX0_clear ∈ xw_T ∧ Cond.selects yX0_clear.cls yX0_clear yX0_clear ∈ xw_T := ⟨(xinT 912 (by decide +kernel) (by decide +kernel)), (xinT 122 (by decide +kernel) (by decide +kernel)), (xinT 910 (by decide +kernel) (by decide +kernel)), (xinT 911 (by decide +kernel) (by decide +kernel))⟩
theorem clX0_35 {fr lo : Nat} (h1 : 0 + 1 ≤ fr) (h2 : 8 + (2 + 11) + 0 ≤ lo) : xCall RX0 fr lo 0 35 0 0 gX0_clear := ⟨_, _, _, _, _, _, ctX0_clear, h1, h2, mcX0_clear.1, (xinT 909 (by decide +kernel) (by decide +kernel)), mcX0_clear.2.1, ⟨by decide +kernel, by decide +kernel, by decide +kernel⟩, by rw [if_pos rfl]; exact ⟨mcX0_clear.2.2.1, mcX0_clear.2.2.2, _, _, rfl⟩⟩
theorem clX9_382 {fr lo : Nat} (h1 : 0 + 1 ≤ fr) (h2 : 8 + (2 + 11) + 0 ≤ lo) : xCall RX9 fr lo 0 382 0 0 gX0_clear := ⟨_, _, _, _, _, _, ctX0_clear, h1, h2, mcX0_clear.1, (xinT 964 (by decide +kernel) (by decide +kernel)), mcX0_clear.2.1, ⟨by decide +kernel, by decide +kernel, by decide +kernel⟩, by rw [if_pos rfl]; exact ⟨mcX0_clear.2.2.1, mcX0_clear.2.2.2, _, _, rfl⟩⟩
theorem dX0_isAllOf_0 : decode cX0_isAllOf 0 = .ok (.aload_n 0, 1) := by decide +kernel
theorem dX0_isAllOf_1 : decode cX0_isAllOf 1 = .ok (.getfield 28, 3) := by decide +kernel
theorem dX0_isAllOf_4 : decode cX0_isAllOf 4 = .ok (.istore_n 2, 1) := by decide +kernel
theorem dX0_isAllOf_5 : decode cX0_isAllOf 5 = .ok (.iload_n 2, 1) := by decide +kernel
theorem dX0_isAllOf_6 : decode cX0_isAllOf 6 = .ok (.aload_n 0, 1) := by decide +kernel
theorem dX0_isAllOf_7 : decode cX0_isAllOf 7 = .ok (.getfield 32, 3) := by decide +kernel
theorem dX0_isAllOf_10 : decode cX0_isAllOf 10 = .ok (.if_icmp .ge 36, 3) := by decide +kernel
theorem dX0_isAllOf_13 : decode cX0_isAllOf 13 = .ok (.aload_n 0, 1) := by decide +kernel
theorem dX0_isAllOf_14 : decode cX0_isAllOf 14 = .ok (.getfield 9, 3) := by decide +kernel
theorem dX0_isAllOf_17 : decode cX0_isAllOf 17 = .ok (.iload_n 2, 1) := by decide +kernel
theorem dX0_isAllOf_18 : decode cX0_isAllOf 18 = .ok (.iaload, 1) := by decide +kernel
theorem dX0_isAllOf_19 : decode cX0_isAllOf 19 = .ok (.iload_n 1, 1) := by decide +kernel
theorem dX0_isAllOf_20 : decode cX0_isAllOf 20 = .ok (.if_icmp .ne 18, 3) := by decide +kernel
theorem dX0_isAllOf_23 : decode cX0_isAllOf 23 = .ok (.iload_n 1, 1) := by decide +kernel
theorem dX0_isAllOf_24 : decode cX0_isAllOf 24 = .ok (.iconst (-1), 1) := by decide +kernel
theorem dX0_isAllOf_25 : decode cX0_isAllOf 25 = .ok (.if_icmp .eq 15, 3) := by decide +kernel
theorem dX0_isAllOf_28 : decode cX0_isAllOf 28 = .ok (.aload_n 0, 1) := by decide +kernel
theorem dX0_isAllOf_29 : decode cX0_isAllOf 29 = .ok (.getfield 15, 3) := by decide +kernel
theorem dX0_isAllOf_32 : decode cX0_isAllOf 32 = .ok (.iload_n 2, 1) := by decide +kernel
theorem dX0_isAllOf_33 : decode cX0_isAllOf 33 = .ok (.iaload, 1) := by decide +kernel
theorem dX0_isAllOf_34 : decode cX0_isAllOf 34 = .ok (.iload_n 1, 1) := by decide +kernel
theorem dX0_isAllOf_35 : decode cX0_isAllOf 35 = .ok (.if_icmp .eq 5, 3) := by decide +kernel
theorem dX0_isAllOf_38 : decode cX0_isAllOf 38 = .ok (.iconst 0, 1) := by decide +kernel
theorem dX0_isAllOf_39 : decode cX0_isAllOf 39 = .ok (.ireturn, 1) := by decide +kernel
theorem dX0_isAllOf_40 : decode cX0_isAllOf 40 = .ok (.iinc 2 1, 3) := by decide +kernel
theorem dX0_isAllOf_43 : decode cX0_isAllOf 43 = .ok (.goto (-38), 3) := by decide +kernel
theorem dX0_isAllOf_46 : decode cX0_isAllOf 46 = .ok (.iconst 1, 1) := by decide +kernel
theorem dX0_isAllOf_47 : decode cX0_isAllOf 47 = .ok (.ireturn, 1) := by decide +kernel
def zX0_isAllOf (Qr : Option PV → Mem → Prop) : XZ := (RX0, 0, 0, 3, some FieldType.boolean, Qr)
noncomputable def fX0_isAllOf_b5 (F : Mem) : Nat → Nat → Int → Int → Option Int
  | 0, _, _, _ => none
  | n + 1, o, x1, x2 =>
    if (F o 6) ≤ x2 then
      some 1
    else
      if (0 : Int) ≤ x2 ∧ x2 < (alen (o + 1) : Int) then
        if (F (o + 1) x2.toNat) ≠ x1 then
          some 0
        else
          if x1 = (-1) then
            fX0_isAllOf_b5 F n o x1 (xw (x2 + 1))
          else
            if (0 : Int) ≤ x2 ∧ x2 < (alen (o + 2) : Int) then
              if (F (o + 2) x2.toNat) = x1 then
                fX0_isAllOf_b5 F n o x1 (xw (x2 + 1))
              else
                some 0
            else none
      else none
noncomputable def fX0_isAllOf (o : Nat) (x1 : Int) (F : Mem) : Option Int :=
  fX0_isAllOf_b5 F FU o x1 (F o 5)
theorem fX0_isAllOf_b5_ok {Qr : Option PV → Mem → Prop}  (F : Mem) : ∀ (n : Nat) (o : Nat) (x1 : Int) (x2 : Int) (res : Int) (ho : isK o 0), fX0_isAllOf_b5 F n o x1 x2 = some res → Qr (some (vI res)) F → PR cX0_isAllOf (zX0_isAllOf Qr) 5 [(0, vR o), (1, vI x1), (2, vI x2)] [] F := by
  intro n
  induction n with
  | zero => intro o x1 x2 res ho h hq; exact nomatch (show (none : Option _) = some _ from h)
  | succ n ih =>
    intro o x1 x2 res ho h hq
    refine s_iload_n (j := 2) dX0_isAllOf_5 rfl rfl ?_
    refine s_aload_n (j := 0) dX0_isAllOf_6 rfl rfl ?_
    refine s_getI dX0_isAllOf_7 flX0_32 ho ?_
    refine s_icmp_ge (tgt := 46) dX0_isAllOf_10 rfl (fun hc1 => ?_) (fun hc1 => ?_)
    · have h := ifp hc1 h
      refine s_iconst dX0_isAllOf_46 (cin rfl) ?_
      have h := Option.some.inj h
      subst h
      exact s_zreturn dX0_isAllOf_47 rfl (Or.inr rfl) hq
    · have h := ifn hc1 h
      refine s_aload_n (j := 0) dX0_isAllOf_13 rfl rfl ?_
      refine s_getR dX0_isAllOf_14 flX0_9 ho ?_
      refine s_iload_n (j := 2) dX0_isAllOf_17 rfl rfl ?_
      obtain ⟨hb2, h⟩ := gd h
      refine s_iaload dX0_isAllOf_18 (trX0_0 ho) hb2.1 hb2.2 ?_
      refine s_iload_n (j := 1) dX0_isAllOf_19 rfl rfl ?_
      refine s_icmp_ne (tgt := 38) dX0_isAllOf_20 rfl (fun hc3 => ?_) (fun hc3 => ?_)
      · have h := ifp hc3 h
        refine s_iconst dX0_isAllOf_38 (cin rfl) ?_
        have h := Option.some.inj h
        subst h
        exact s_zreturn dX0_isAllOf_39 rfl (Or.inl rfl) hq
      · have h := ifn hc3 h
        refine s_iload_n (j := 1) dX0_isAllOf_23 rfl rfl ?_
        refine s_iconst dX0_isAllOf_24 (cin rfl) ?_
        refine s_icmp_eq (tgt := 40) dX0_isAllOf_25 rfl (fun hc4 => ?_) (fun hc4 => ?_)
        · have h := ifp hc4 h
          refine s_iinc (ls' := [(2, vI (xw (x2 + 1))), (0, vR o), (1, vI x1)]) (j := 2) dX0_isAllOf_40 rfl (Nat.le_of_ble_eq_true rfl) rfl ?_
          refine s_goto (tgt := 5) dX0_isAllOf_43 rfl ?_
          exact s_sub (ks := [1, 2, 0]) rfl (ih o x1 (xw (x2 + 1)) _ ho h hq)
        · have h := ifn hc4 h
          refine s_aload_n (j := 0) dX0_isAllOf_28 rfl rfl ?_
          refine s_getR dX0_isAllOf_29 flX0_15 ho ?_
          refine s_iload_n (j := 2) dX0_isAllOf_32 rfl rfl ?_
          obtain ⟨hb5, h⟩ := gd h
          refine s_iaload dX0_isAllOf_33 (trX0_1 ho) hb5.1 hb5.2 ?_
          refine s_iload_n (j := 1) dX0_isAllOf_34 rfl rfl ?_
          refine s_icmp_eq (tgt := 40) dX0_isAllOf_35 rfl (fun hc6 => ?_) (fun hc6 => ?_)
          · have h := ifp hc6 h
            refine s_iinc (ls' := [(2, vI (xw (x2 + 1))), (0, vR o), (1, vI x1)]) (j := 2) dX0_isAllOf_40 rfl (Nat.le_of_ble_eq_true rfl) rfl ?_
            refine s_goto (tgt := 5) dX0_isAllOf_43 rfl ?_
            exact s_sub (ks := [1, 2, 0]) rfl (ih o x1 (xw (x2 + 1)) _ ho h hq)
          · have h := ifn hc6 h
            refine s_iconst dX0_isAllOf_38 (cin rfl) ?_
            have h := Option.some.inj h
            subst h
            exact s_zreturn dX0_isAllOf_39 rfl (Or.inl rfl) hq
theorem fX0_isAllOf_ok {Qr : Option PV → Mem → Prop} : ∀ (o : Nat) (x1 : Int) (F : Mem) (res : Int) (ho : isK o 0), fX0_isAllOf o x1 F = some res → Qr (some (vI res)) F → PR cX0_isAllOf (zX0_isAllOf Qr) 0 [(0, vR o), (1, vI x1)] [] F := by
  intro o x1 F res ho h hq
  refine s_aload_n (j := 0) dX0_isAllOf_0 rfl rfl ?_
  refine s_getI dX0_isAllOf_1 flX0_28 ho ?_
  refine s_istore_n (ls' := [(2, vI (F o 5)), (0, vR o), (1, vI x1)]) dX0_isAllOf_4 rfl (Nat.le_of_ble_eq_true rfl) rfl ?_
  exact s_sub (ks := [1, 2, 0]) rfl (fX0_isAllOf_b5_ok F FU o x1 (F o 5) _ ho h hq)
def gX0_isAllOf : XG := fun As F r F' => ∃ o : Nat, ∃ x1 : Int, ∃ res : Int, As = [vR o, vI x1] ∧ isK o 0 ∧ fX0_isAllOf o x1 F = some res ∧ r = some (vI res) ∧ F' = F
theorem ctX0_isAllOf : xCT yX0_isAllOf cX0_isAllOf 3 (some FieldType.boolean) 0 0 gX0_isAllOf := xmet (by decide +kernel) (fun As F r F' hg => by obtain ⟨o, x1, res, rfl, ho, h, rfl, rfl⟩ := hg; exact Nat.le_of_ble_eq_true rfl) (fun As F r F' hg => by obtain ⟨o, x1, res, rfl, ho, h, rfl, rfl⟩ := hg; exact fX0_isAllOf_ok o x1 _ _ ho h ⟨rfl, rfl⟩)
theorem mcX0_isAllOf : Cond.code yX0_isAllOf cX0_isAllOf 3 (some FieldType.boolean) ∈ xw_T ∧ Cond.initialized yX0_isAllOf.cls ∈ xw_T ∧ Cond.instanceMethod yX0_isAllOf ∈ xw_T ∧ Cond.selects yX0_isAllOf.cls yX0_isAllOf yX0_isAllOf ∈ xw_T := ⟨(xinT 931 (by decide +kernel) (by decide +kernel)), (xinT 122 (by decide +kernel) (by decide +kernel)), (xinT 930 (by decide +kernel) (by decide +kernel)), (xinT 17 (by decide +kernel) (by decide +kernel))⟩
theorem clX0_67 {fr lo : Nat} (h1 : 0 + 1 ≤ fr) (h2 : 8 + (3 + 11) + 0 ≤ lo) : xCall RX0 fr lo 0 67 0 1 gX0_isAllOf := ⟨_, _, _, _, _, _, ctX0_isAllOf, h1, h2, mcX0_isAllOf.1, (xinT 928 (by decide +kernel) (by decide +kernel)), mcX0_isAllOf.2.1, ⟨by decide +kernel, by decide +kernel, by decide +kernel⟩, by rw [if_pos rfl]; exact ⟨mcX0_isAllOf.2.2.1, mcX0_isAllOf.2.2.2, _, _, rfl⟩⟩
theorem dX0_lives_0 : decode cX0_lives 0 = .ok (.iload_n 1, 1) := by decide +kernel
theorem dX0_lives_1 : decode cX0_lives 1 = .ok (.ifCond .lt 22, 3) := by decide +kernel
theorem dX0_lives_4 : decode cX0_lives 4 = .ok (.iload_n 1, 1) := by decide +kernel
theorem dX0_lives_5 : decode cX0_lives 5 = .ok (.bipush 8, 2) := by decide +kernel
theorem dX0_lives_7 : decode cX0_lives 7 = .ok (.if_icmp .ge 16, 3) := by decide +kernel
theorem dX0_lives_10 : decode cX0_lives 10 = .ok (.aload_n 0, 1) := by decide +kernel
theorem dX0_lives_11 : decode cX0_lives 11 = .ok (.getfield 21, 3) := by decide +kernel
theorem dX0_lives_14 : decode cX0_lives 14 = .ok (.iload_n 1, 1) := by decide +kernel
theorem dX0_lives_15 : decode cX0_lives 15 = .ok (.baload, 1) := by decide +kernel
theorem dX0_lives_16 : decode cX0_lives 16 = .ok (.ifCond .ne 7, 3) := by decide +kernel
theorem dX0_lives_19 : decode cX0_lives 19 = .ok (.iconst 1, 1) := by decide +kernel
theorem dX0_lives_20 : decode cX0_lives 20 = .ok (.goto 4, 3) := by decide +kernel
theorem dX0_lives_23 : decode cX0_lives 23 = .ok (.iconst 0, 1) := by decide +kernel
theorem dX0_lives_24 : decode cX0_lives 24 = .ok (.ireturn, 1) := by decide +kernel
def zX0_lives (Qr : Option PV → Mem → Prop) : XZ := (RX0, 0, 0, 2, some FieldType.boolean, Qr)
noncomputable def fX0_lives (o : Nat) (x1 : Int) (F : Mem) : Option Int :=
  if x1 < 0 then
    some 0
  else
    if 8 ≤ x1 then
      some 0
    else
      if (0 : Int) ≤ x1 ∧ x1 < (alen (o + 4) : Int) then
        if (F (o + 4) x1.toNat) ≠ 0 then
          some 0
        else
          some 1
      else none
theorem fX0_lives_ok {Qr : Option PV → Mem → Prop} : ∀ (o : Nat) (x1 : Int) (F : Mem) (res : Int) (ho : isK o 0), fX0_lives o x1 F = some res → Qr (some (vI res)) F → PR cX0_lives (zX0_lives Qr) 0 [(0, vR o), (1, vI x1)] [] F := by
  intro o x1 F res ho h hq
  refine s_iload_n (j := 1) dX0_lives_0 rfl rfl ?_
  refine s_if_lt (tgt := 23) dX0_lives_1 rfl (fun hc1 => ?_) (fun hc1 => ?_)
  · have h := ifp hc1 h
    refine s_iconst dX0_lives_23 (cin rfl) ?_
    have h := Option.some.inj h
    subst h
    exact s_zreturn dX0_lives_24 rfl (Or.inl rfl) hq
  · have h := ifn hc1 h
    refine s_iload_n (j := 1) dX0_lives_4 rfl rfl ?_
    refine s_bipush dX0_lives_5 rfl (cin rfl) ?_
    refine s_icmp_ge (tgt := 23) dX0_lives_7 rfl (fun hc2 => ?_) (fun hc2 => ?_)
    · have h := ifp hc2 h
      refine s_iconst dX0_lives_23 (cin rfl) ?_
      have h := Option.some.inj h
      subst h
      exact s_zreturn dX0_lives_24 rfl (Or.inl rfl) hq
    · have h := ifn hc2 h
      refine s_aload_n (j := 0) dX0_lives_10 rfl rfl ?_
      refine s_getR dX0_lives_11 flX0_21 ho ?_
      refine s_iload_n (j := 1) dX0_lives_14 rfl rfl ?_
      obtain ⟨hb3, h⟩ := gd h
      refine s_zaload dX0_lives_15 (trX0_3 ho) hb3.1 hb3.2 ?_
      refine s_if_ne (tgt := 23) dX0_lives_16 rfl (fun hc4 => ?_) (fun hc4 => ?_)
      · have h := ifp hc4 h
        refine s_iconst dX0_lives_23 (cin rfl) ?_
        have h := Option.some.inj h
        subst h
        exact s_zreturn dX0_lives_24 rfl (Or.inl rfl) hq
      · have h := ifn hc4 h
        refine s_iconst dX0_lives_19 (cin rfl) ?_
        refine s_goto (tgt := 24) dX0_lives_20 rfl ?_
        have h := Option.some.inj h
        subst h
        exact s_zreturn dX0_lives_24 rfl (Or.inr rfl) hq
def gX0_lives : XG := fun As F r F' => ∃ o : Nat, ∃ x1 : Int, ∃ res : Int, As = [vR o, vI x1] ∧ isK o 0 ∧ fX0_lives o x1 F = some res ∧ r = some (vI res) ∧ F' = F
theorem ctX0_lives : xCT yX0_lives cX0_lives 2 (some FieldType.boolean) 0 0 gX0_lives := xmet (by decide +kernel) (fun As F r F' hg => by obtain ⟨o, x1, res, rfl, ho, h, rfl, rfl⟩ := hg; exact Nat.le_of_ble_eq_true rfl) (fun As F r F' hg => by obtain ⟨o, x1, res, rfl, ho, h, rfl, rfl⟩ := hg; exact fX0_lives_ok o x1 _ _ ho h ⟨rfl, rfl⟩)
theorem mcX0_lives : Cond.code yX0_lives cX0_lives 2 (some FieldType.boolean) ∈ xw_T ∧ Cond.initialized yX0_lives.cls ∈ xw_T ∧ Cond.instanceMethod yX0_lives ∈ xw_T ∧ Cond.selects yX0_lives.cls yX0_lives yX0_lives ∈ xw_T := ⟨(xinT 927 (by decide +kernel) (by decide +kernel)), (xinT 122 (by decide +kernel) (by decide +kernel)), (xinT 926 (by decide +kernel) (by decide +kernel)), (xinT 16 (by decide +kernel) (by decide +kernel))⟩
theorem clX0_63 {fr lo : Nat} (h1 : 0 + 1 ≤ fr) (h2 : 8 + (2 + 11) + 0 ≤ lo) : xCall RX0 fr lo 0 63 0 1 gX0_lives := ⟨_, _, _, _, _, _, ctX0_lives, h1, h2, mcX0_lives.1, (xinT 924 (by decide +kernel) (by decide +kernel)), mcX0_lives.2.1, ⟨by decide +kernel, by decide +kernel, by decide +kernel⟩, by rw [if_pos rfl]; exact ⟨mcX0_lives.2.2.1, mcX0_lives.2.2.2, _, _, rfl⟩⟩
theorem dX0_canBe_0 : decode cX0_canBe 0 = .ok (.aload_n 1, 1) := by decide +kernel
theorem dX0_canBe_1 : decode cX0_canBe 1 = .ok (.iload_n 2, 1) := by decide +kernel
theorem dX0_canBe_2 : decode cX0_canBe 2 = .ok (.iconst 1, 1) := by decide +kernel
theorem dX0_canBe_3 : decode cX0_canBe 3 = .ok (.invokevirtual 43, 3) := by decide +kernel
theorem dX0_canBe_6 : decode cX0_canBe 6 = .ok (.istore_n 3, 1) := by decide +kernel
theorem dX0_canBe_7 : decode cX0_canBe 7 = .ok (.aload_n 1, 1) := by decide +kernel
theorem dX0_canBe_8 : decode cX0_canBe 8 = .ok (.iload_n 2, 1) := by decide +kernel
theorem dX0_canBe_9 : decode cX0_canBe 9 = .ok (.iconst 2, 1) := by decide +kernel
theorem dX0_canBe_10 : decode cX0_canBe 10 = .ok (.invokevirtual 43, 3) := by decide +kernel
theorem dX0_canBe_13 : decode cX0_canBe 13 = .ok (.istore 4, 2) := by decide +kernel
theorem dX0_canBe_15 : decode cX0_canBe 15 = .ok (.aload_n 1, 1) := by decide +kernel
theorem dX0_canBe_16 : decode cX0_canBe 16 = .ok (.iload_n 2, 1) := by decide +kernel
theorem dX0_canBe_17 : decode cX0_canBe 17 = .ok (.iconst 0, 1) := by decide +kernel
theorem dX0_canBe_18 : decode cX0_canBe 18 = .ok (.invokevirtual 43, 3) := by decide +kernel
theorem dX0_canBe_21 : decode cX0_canBe 21 = .ok (.tableswitch 161 0 5 #[39, 61, 61, 92, 132, 155], 39) := by decide +kernel
theorem dX0_canBe_60 : decode cX0_canBe 60 = .ok (.aload_n 0, 1) := by decide +kernel
theorem dX0_canBe_61 : decode cX0_canBe 61 = .ok (.iload_n 3, 1) := by decide +kernel
theorem dX0_canBe_62 : decode cX0_canBe 62 = .ok (.invokevirtual 63, 3) := by decide +kernel
theorem dX0_canBe_65 : decode cX0_canBe 65 = .ok (.ifCond .eq 15, 3) := by decide +kernel
theorem dX0_canBe_68 : decode cX0_canBe 68 = .ok (.aload_n 0, 1) := by decide +kernel
theorem dX0_canBe_69 : decode cX0_canBe 69 = .ok (.iconst (-1), 1) := by decide +kernel
theorem dX0_canBe_70 : decode cX0_canBe 70 = .ok (.invokevirtual 67, 3) := by decide +kernel
theorem dX0_canBe_73 : decode cX0_canBe 73 = .ok (.ifCond .eq 7, 3) := by decide +kernel
theorem dX0_canBe_76 : decode cX0_canBe 76 = .ok (.iconst 1, 1) := by decide +kernel
theorem dX0_canBe_77 : decode cX0_canBe 77 = .ok (.goto 4, 3) := by decide +kernel
theorem dX0_canBe_80 : decode cX0_canBe 80 = .ok (.iconst 0, 1) := by decide +kernel
theorem dX0_canBe_81 : decode cX0_canBe 81 = .ok (.ireturn, 1) := by decide +kernel
theorem dX0_canBe_82 : decode cX0_canBe 82 = .ok (.aload_n 0, 1) := by decide +kernel
theorem dX0_canBe_83 : decode cX0_canBe 83 = .ok (.iload_n 3, 1) := by decide +kernel
theorem dX0_canBe_84 : decode cX0_canBe 84 = .ok (.invokevirtual 63, 3) := by decide +kernel
theorem dX0_canBe_87 : decode cX0_canBe 87 = .ok (.ifCond .eq 24, 3) := by decide +kernel
theorem dX0_canBe_90 : decode cX0_canBe 90 = .ok (.aload_n 0, 1) := by decide +kernel
theorem dX0_canBe_91 : decode cX0_canBe 91 = .ok (.iload 4, 2) := by decide +kernel
theorem dX0_canBe_93 : decode cX0_canBe 93 = .ok (.invokevirtual 63, 3) := by decide +kernel
theorem dX0_canBe_96 : decode cX0_canBe 96 = .ok (.ifCond .eq 15, 3) := by decide +kernel
theorem dX0_canBe_99 : decode cX0_canBe 99 = .ok (.aload_n 0, 1) := by decide +kernel
theorem dX0_canBe_100 : decode cX0_canBe 100 = .ok (.iload_n 3, 1) := by decide +kernel
theorem dX0_canBe_101 : decode cX0_canBe 101 = .ok (.invokevirtual 67, 3) := by decide +kernel
theorem dX0_canBe_104 : decode cX0_canBe 104 = .ok (.ifCond .eq 7, 3) := by decide +kernel
theorem dX0_canBe_107 : decode cX0_canBe 107 = .ok (.iconst 1, 1) := by decide +kernel
theorem dX0_canBe_108 : decode cX0_canBe 108 = .ok (.goto 4, 3) := by decide +kernel
theorem dX0_canBe_111 : decode cX0_canBe 111 = .ok (.iconst 0, 1) := by decide +kernel
theorem dX0_canBe_112 : decode cX0_canBe 112 = .ok (.ireturn, 1) := by decide +kernel
theorem dX0_canBe_113 : decode cX0_canBe 113 = .ok (.iload_n 3, 1) := by decide +kernel
theorem dX0_canBe_114 : decode cX0_canBe 114 = .ok (.ifCond .lt 37, 3) := by decide +kernel
theorem dX0_canBe_117 : decode cX0_canBe 117 = .ok (.iload_n 3, 1) := by decide +kernel
theorem dX0_canBe_118 : decode cX0_canBe 118 = .ok (.iload_n 2, 1) := by decide +kernel
theorem dX0_canBe_119 : decode cX0_canBe 119 = .ok (.if_icmp .ge 32, 3) := by decide +kernel
theorem dX0_canBe_122 : decode cX0_canBe 122 = .ok (.iload_n 3, 1) := by decide +kernel
theorem dX0_canBe_123 : decode cX0_canBe 123 = .ok (.bipush 30, 2) := by decide +kernel
theorem dX0_canBe_125 : decode cX0_canBe 125 = .ok (.if_icmp .ge 26, 3) := by decide +kernel
theorem dX0_canBe_128 : decode cX0_canBe 128 = .ok (.aload_n 1, 1) := by decide +kernel
theorem dX0_canBe_129 : decode cX0_canBe 129 = .ok (.iload_n 3, 1) := by decide +kernel
theorem dX0_canBe_130 : decode cX0_canBe 130 = .ok (.iconst 0, 1) := by decide +kernel
theorem dX0_canBe_131 : decode cX0_canBe 131 = .ok (.invokevirtual 43, 3) := by decide +kernel
theorem dX0_canBe_134 : decode cX0_canBe 134 = .ok (.iconst 2, 1) := by decide +kernel
theorem dX0_canBe_135 : decode cX0_canBe 135 = .ok (.if_icmp .ne 16, 3) := by decide +kernel
theorem dX0_canBe_138 : decode cX0_canBe 138 = .ok (.aload_n 0, 1) := by decide +kernel
theorem dX0_canBe_139 : decode cX0_canBe 139 = .ok (.getfield 25, 3) := by decide +kernel
theorem dX0_canBe_142 : decode cX0_canBe 142 = .ok (.iload_n 3, 1) := by decide +kernel
theorem dX0_canBe_143 : decode cX0_canBe 143 = .ok (.baload, 1) := by decide +kernel
theorem dX0_canBe_144 : decode cX0_canBe 144 = .ok (.ifCond .ne 7, 3) := by decide +kernel
theorem dX0_canBe_147 : decode cX0_canBe 147 = .ok (.iconst 1, 1) := by decide +kernel
theorem dX0_canBe_148 : decode cX0_canBe 148 = .ok (.goto 4, 3) := by decide +kernel
theorem dX0_canBe_151 : decode cX0_canBe 151 = .ok (.iconst 0, 1) := by decide +kernel
theorem dX0_canBe_152 : decode cX0_canBe 152 = .ok (.ireturn, 1) := by decide +kernel
theorem dX0_canBe_153 : decode cX0_canBe 153 = .ok (.aload_n 0, 1) := by decide +kernel
theorem dX0_canBe_154 : decode cX0_canBe 154 = .ok (.iload_n 3, 1) := by decide +kernel
theorem dX0_canBe_155 : decode cX0_canBe 155 = .ok (.invokevirtual 63, 3) := by decide +kernel
theorem dX0_canBe_158 : decode cX0_canBe 158 = .ok (.ifCond .eq 16, 3) := by decide +kernel
theorem dX0_canBe_161 : decode cX0_canBe 161 = .ok (.aload_n 0, 1) := by decide +kernel
theorem dX0_canBe_162 : decode cX0_canBe 162 = .ok (.iload 4, 2) := by decide +kernel
theorem dX0_canBe_164 : decode cX0_canBe 164 = .ok (.invokevirtual 63, 3) := by decide +kernel
theorem dX0_canBe_167 : decode cX0_canBe 167 = .ok (.ifCond .eq 7, 3) := by decide +kernel
theorem dX0_canBe_170 : decode cX0_canBe 170 = .ok (.iconst 1, 1) := by decide +kernel
theorem dX0_canBe_171 : decode cX0_canBe 171 = .ok (.goto 4, 3) := by decide +kernel
theorem dX0_canBe_174 : decode cX0_canBe 174 = .ok (.iconst 0, 1) := by decide +kernel
theorem dX0_canBe_175 : decode cX0_canBe 175 = .ok (.ireturn, 1) := by decide +kernel
theorem dX0_canBe_176 : decode cX0_canBe 176 = .ok (.aload_n 0, 1) := by decide +kernel
theorem dX0_canBe_177 : decode cX0_canBe 177 = .ok (.iload_n 3, 1) := by decide +kernel
theorem dX0_canBe_178 : decode cX0_canBe 178 = .ok (.invokevirtual 63, 3) := by decide +kernel
theorem dX0_canBe_181 : decode cX0_canBe 181 = .ok (.ireturn, 1) := by decide +kernel
theorem dX0_canBe_182 : decode cX0_canBe 182 = .ok (.iconst 0, 1) := by decide +kernel
theorem dX0_canBe_183 : decode cX0_canBe 183 = .ok (.ireturn, 1) := by decide +kernel
def zX0_canBe (Qr : Option PV → Mem → Prop) : XZ := (RX0, 1, 22, 5, some FieldType.boolean, Qr)
noncomputable def fX0_canBe_b82 (F : Mem) (o : Nat) (x3 : Int) (x4 : Int) : Option Int :=
  (fX0_lives o x3 F).bind fun r1 =>
  if r1 = 0 then
    some 0
  else
    (fX0_lives o x4 F).bind fun r4 =>
    if r4 = 0 then
      some 0
    else
      (fX0_isAllOf o x3 F).bind fun r7 =>
      if r7 = 0 then
        some 0
      else
        some 1
noncomputable def fX0_canBe (o : Nat) (x1 : Nat) (x2 : Int) (F : Mem) : Option Int :=
  if x1 = 0 then none else
  (fX3_cell x1 x2 1 F).bind fun r2 =>
  if x1 = 0 then none else
  (fX3_cell x1 x2 2 F).bind fun r5 =>
  if x1 = 0 then none else
  (fX3_cell x1 x2 0 F).bind fun r8 =>
  if r8 = 0 then
    (fX0_lives o r2 F).bind fun r11 =>
    if r11 = 0 then
      some 0
    else
      (fX0_isAllOf o (-1) F).bind fun r14 =>
      if r14 = 0 then
        some 0
      else
        some 1
  else
  if r8 = 1 then
    fX0_canBe_b82 F o r2 r5
  else
  if r8 = 2 then
    fX0_canBe_b82 F o r2 r5
  else
  if r8 = 3 then
    if r2 < 0 then
      some 0
    else
      if x2 ≤ r2 then
        some 0
      else
        if 30 ≤ r2 then
          some 0
        else
          if x1 = 0 then none else
          (fX3_cell x1 r2 0 F).bind fun r24 =>
          if r24 ≠ 2 then
            some 0
          else
            if (0 : Int) ≤ r2 ∧ r2 < (alen (o + 5) : Int) then
              if (F (o + 5) r2.toNat) ≠ 0 then
                some 0
              else
                some 1
            else none
  else
  if r8 = 4 then
    (fX0_lives o r2 F).bind fun r30 =>
    if r30 = 0 then
      some 0
    else
      (fX0_lives o r5 F).bind fun r33 =>
      if r33 = 0 then
        some 0
      else
        some 1
  else
  if r8 = 5 then
    (fX0_lives o r2 F).bind fun r37 =>
    if r37 = 0 ∨ r37 = 1 then
      some r37
    else none
  else
  some 0
theorem fX0_canBe_b82_ok {Qr : Option PV → Mem → Prop}  (F : Mem) : ∀ (o : Nat) (x3 : Int) (x4 : Int) (res : Int) (ho : isK o 0), fX0_canBe_b82 F o x3 x4 = some res → Qr (some (vI res)) F → PR cX0_canBe (zX0_canBe Qr) 82 [(0, vR o), (3, vI x3), (4, vI x4)] [] F := by
  intro o x3 x4 res ho h hq
  refine s_aload_n (j := 0) dX0_canBe_82 rfl rfl ?_
  refine s_iload_n (j := 1) dX0_canBe_83 rfl rfl ?_
  obtain ⟨r1, hv2, h⟩ := bnd h
  refine s_callV (As := [vI x3]) (rest := []) (r := (some (vI r1))) (F' := F) dX0_canBe_84 (clX0_63 (Nat.le_of_ble_eq_true rfl) (Nat.le_of_ble_eq_true rfl)) ho rfl ⟨_, _, _, rfl, ho, hv2, rfl, rfl⟩ rfl (Nat.le_of_ble_eq_true rfl) ?_
  refine s_if_eq (tgt := 111) dX0_canBe_87 rfl (fun hc3 => ?_) (fun hc3 => ?_)
  · have h := ifp hc3 h
    refine s_iconst dX0_canBe_111 (cin rfl) ?_
    have h := Option.some.inj h
    subst h
    exact s_zreturn dX0_canBe_112 rfl (Or.inl rfl) hq
  · have h := ifn hc3 h
    refine s_aload_n (j := 0) dX0_canBe_90 rfl rfl ?_
    refine s_iload (j := 2) dX0_canBe_91 rfl ?_
    obtain ⟨r4, hv5, h⟩ := bnd h
    refine s_callV (As := [vI x4]) (rest := []) (r := (some (vI r4))) (F' := F) dX0_canBe_93 (clX0_63 (Nat.le_of_ble_eq_true rfl) (Nat.le_of_ble_eq_true rfl)) ho rfl ⟨_, _, _, rfl, ho, hv5, rfl, rfl⟩ rfl (Nat.le_of_ble_eq_true rfl) ?_
    refine s_if_eq (tgt := 111) dX0_canBe_96 rfl (fun hc6 => ?_) (fun hc6 => ?_)
    · have h := ifp hc6 h
      refine s_iconst dX0_canBe_111 (cin rfl) ?_
      have h := Option.some.inj h
      subst h
      exact s_zreturn dX0_canBe_112 rfl (Or.inl rfl) hq
    · have h := ifn hc6 h
      refine s_aload_n (j := 0) dX0_canBe_99 rfl rfl ?_
      refine s_iload_n (j := 1) dX0_canBe_100 rfl rfl ?_
      obtain ⟨r7, hv8, h⟩ := bnd h
      refine s_callV (As := [vI x3]) (rest := []) (r := (some (vI r7))) (F' := F) dX0_canBe_101 (clX0_67 (Nat.le_of_ble_eq_true rfl) (Nat.le_of_ble_eq_true rfl)) ho rfl ⟨_, _, _, rfl, ho, hv8, rfl, rfl⟩ rfl (Nat.le_of_ble_eq_true rfl) ?_
      refine s_if_eq (tgt := 111) dX0_canBe_104 rfl (fun hc9 => ?_) (fun hc9 => ?_)
      · have h := ifp hc9 h
        refine s_iconst dX0_canBe_111 (cin rfl) ?_
        have h := Option.some.inj h
        subst h
        exact s_zreturn dX0_canBe_112 rfl (Or.inl rfl) hq
      · have h := ifn hc9 h
        refine s_iconst dX0_canBe_107 (cin rfl) ?_
        refine s_goto (tgt := 112) dX0_canBe_108 rfl ?_
        have h := Option.some.inj h
        subst h
        exact s_zreturn dX0_canBe_112 rfl (Or.inr rfl) hq
theorem fX0_canBe_ok {Qr : Option PV → Mem → Prop} : ∀ (o : Nat) (x1 : Nat) (x2 : Int) (F : Mem) (res : Int) (ho : isK o 0) (hx1 : x1 = 0 ∨ isK x1 3), fX0_canBe o x1 x2 F = some res → Qr (some (vI res)) F → PR cX0_canBe (zX0_canBe Qr) 0 [(0, vR o), (1, vR x1), (2, vI x2)] [] F := by
  intro o x1 x2 F res ho hx1 h hq
  refine s_aload_n (j := 1) dX0_canBe_0 rfl rfl ?_
  refine s_iload_n (j := 2) dX0_canBe_1 rfl rfl ?_
  refine s_iconst dX0_canBe_2 (cin rfl) ?_
  obtain ⟨hn1, h⟩ := gdn h
  obtain ⟨r2, hv3, h⟩ := bnd h
  refine s_callV (As := [vI x2, vI 1]) (rest := []) (r := (some (vI r2))) (F' := F) dX0_canBe_3 (clX0_43 (Nat.le_of_ble_eq_true rfl) (Nat.le_of_ble_eq_true rfl)) (hx1.resolve_left hn1) rfl ⟨_, _, _, _, rfl, (hx1.resolve_left hn1), hv3, rfl, rfl⟩ rfl (Nat.le_of_ble_eq_true rfl) ?_
  refine s_istore_n (ls' := [(3, vI r2), (0, vR o), (1, vR x1), (2, vI x2)]) dX0_canBe_6 rfl (Nat.le_of_ble_eq_true rfl) rfl ?_
  refine s_aload_n (j := 2) dX0_canBe_7 rfl rfl ?_
  refine s_iload_n (j := 3) dX0_canBe_8 rfl rfl ?_
  refine s_iconst dX0_canBe_9 (cin rfl) ?_
  obtain ⟨hn4, h⟩ := gdn h
  obtain ⟨r5, hv6, h⟩ := bnd h
  refine s_callV (As := [vI x2, vI 2]) (rest := []) (r := (some (vI r5))) (F' := F) dX0_canBe_10 (clX0_43 (Nat.le_of_ble_eq_true rfl) (Nat.le_of_ble_eq_true rfl)) (hx1.resolve_left hn4) rfl ⟨_, _, _, _, rfl, (hx1.resolve_left hn4), hv6, rfl, rfl⟩ rfl (Nat.le_of_ble_eq_true rfl) ?_
  refine s_istore dX0_canBe_13 (Nat.le_of_ble_eq_true rfl) rfl ?_
  refine s_aload_n (j := 3) dX0_canBe_15 rfl rfl ?_
  refine s_iload_n (j := 4) dX0_canBe_16 rfl rfl ?_
  refine s_iconst dX0_canBe_17 (cin rfl) ?_
  obtain ⟨hn7, h⟩ := gdn h
  obtain ⟨r8, hv9, h⟩ := bnd h
  refine s_callV (As := [vI x2, vI 0]) (rest := []) (r := (some (vI r8))) (F' := F) dX0_canBe_18 (clX0_43 (Nat.le_of_ble_eq_true rfl) (Nat.le_of_ble_eq_true rfl)) (hx1.resolve_left hn7) rfl ⟨_, _, _, _, rfl, (hx1.resolve_left hn7), hv9, rfl, rfl⟩ rfl (Nat.le_of_ble_eq_true rfl) ?_
  by_cases hc10 : r8 = 0
  · have h := ifp hc10 h
    refine s_tabIn (tgt := 60) (off := 39) dX0_canBe_21 (by omega) (by omega) (by rw [hc10]; rfl) rfl ?_
    refine s_aload_n (j := 2) dX0_canBe_60 rfl rfl ?_
    refine s_iload_n (j := 1) dX0_canBe_61 rfl rfl ?_
    obtain ⟨r11, hv12, h⟩ := bnd h
    refine s_callV (As := [vI r2]) (rest := []) (r := (some (vI r11))) (F' := F) dX0_canBe_62 (clX0_63 (Nat.le_of_ble_eq_true rfl) (Nat.le_of_ble_eq_true rfl)) ho rfl ⟨_, _, _, rfl, ho, hv12, rfl, rfl⟩ rfl (Nat.le_of_ble_eq_true rfl) ?_
    refine s_if_eq (tgt := 80) dX0_canBe_65 rfl (fun hc13 => ?_) (fun hc13 => ?_)
    · have h := ifp hc13 h
      refine s_iconst dX0_canBe_80 (cin rfl) ?_
      have h := Option.some.inj h
      subst h
      exact s_zreturn dX0_canBe_81 rfl (Or.inl rfl) hq
    · have h := ifn hc13 h
      refine s_aload_n (j := 2) dX0_canBe_68 rfl rfl ?_
      refine s_iconst dX0_canBe_69 (cin rfl) ?_
      obtain ⟨r14, hv15, h⟩ := bnd h
      refine s_callV (As := [vI (-1)]) (rest := []) (r := (some (vI r14))) (F' := F) dX0_canBe_70 (clX0_67 (Nat.le_of_ble_eq_true rfl) (Nat.le_of_ble_eq_true rfl)) ho rfl ⟨_, _, _, rfl, ho, hv15, rfl, rfl⟩ rfl (Nat.le_of_ble_eq_true rfl) ?_
      refine s_if_eq (tgt := 80) dX0_canBe_73 rfl (fun hc16 => ?_) (fun hc16 => ?_)
      · have h := ifp hc16 h
        refine s_iconst dX0_canBe_80 (cin rfl) ?_
        have h := Option.some.inj h
        subst h
        exact s_zreturn dX0_canBe_81 rfl (Or.inl rfl) hq
      · have h := ifn hc16 h
        refine s_iconst dX0_canBe_76 (cin rfl) ?_
        refine s_goto (tgt := 81) dX0_canBe_77 rfl ?_
        have h := Option.some.inj h
        subst h
        exact s_zreturn dX0_canBe_81 rfl (Or.inr rfl) hq
  have h := ifn hc10 h
  by_cases hc17 : r8 = 1
  · have h := ifp hc17 h
    refine s_tabIn (tgt := 82) (off := 61) dX0_canBe_21 (by omega) (by omega) (by rw [hc17]; rfl) rfl ?_
    exact s_sub (ks := [2, 1, 0]) rfl (fX0_canBe_b82_ok F o r2 r5 _ ho h hq)
  have h := ifn hc17 h
  by_cases hc18 : r8 = 2
  · have h := ifp hc18 h
    refine s_tabIn (tgt := 82) (off := 61) dX0_canBe_21 (by omega) (by omega) (by rw [hc18]; rfl) rfl ?_
    exact s_sub (ks := [2, 1, 0]) rfl (fX0_canBe_b82_ok F o r2 r5 _ ho h hq)
  have h := ifn hc18 h
  by_cases hc19 : r8 = 3
  · have h := ifp hc19 h
    refine s_tabIn (tgt := 113) (off := 92) dX0_canBe_21 (by omega) (by omega) (by rw [hc19]; rfl) rfl ?_
    refine s_iload_n (j := 1) dX0_canBe_113 rfl rfl ?_
    refine s_if_lt (tgt := 151) dX0_canBe_114 rfl (fun hc20 => ?_) (fun hc20 => ?_)
    · have h := ifp hc20 h
      refine s_iconst dX0_canBe_151 (cin rfl) ?_
      have h := Option.some.inj h
      subst h
      exact s_zreturn dX0_canBe_152 rfl (Or.inl rfl) hq
    · have h := ifn hc20 h
      refine s_iload_n (j := 1) dX0_canBe_117 rfl rfl ?_
      refine s_iload_n (j := 4) dX0_canBe_118 rfl rfl ?_
      refine s_icmp_ge (tgt := 151) dX0_canBe_119 rfl (fun hc21 => ?_) (fun hc21 => ?_)
      · have h := ifp hc21 h
        refine s_iconst dX0_canBe_151 (cin rfl) ?_
        have h := Option.some.inj h
        subst h
        exact s_zreturn dX0_canBe_152 rfl (Or.inl rfl) hq
      · have h := ifn hc21 h
        refine s_iload_n (j := 1) dX0_canBe_122 rfl rfl ?_
        refine s_bipush dX0_canBe_123 rfl (cin rfl) ?_
        refine s_icmp_ge (tgt := 151) dX0_canBe_125 rfl (fun hc22 => ?_) (fun hc22 => ?_)
        · have h := ifp hc22 h
          refine s_iconst dX0_canBe_151 (cin rfl) ?_
          have h := Option.some.inj h
          subst h
          exact s_zreturn dX0_canBe_152 rfl (Or.inl rfl) hq
        · have h := ifn hc22 h
          refine s_aload_n (j := 3) dX0_canBe_128 rfl rfl ?_
          refine s_iload_n (j := 1) dX0_canBe_129 rfl rfl ?_
          refine s_iconst dX0_canBe_130 (cin rfl) ?_
          obtain ⟨hn23, h⟩ := gdn h
          obtain ⟨r24, hv25, h⟩ := bnd h
          refine s_callV (As := [vI r2, vI 0]) (rest := []) (r := (some (vI r24))) (F' := F) dX0_canBe_131 (clX0_43 (Nat.le_of_ble_eq_true rfl) (Nat.le_of_ble_eq_true rfl)) (hx1.resolve_left hn23) rfl ⟨_, _, _, _, rfl, (hx1.resolve_left hn23), hv25, rfl, rfl⟩ rfl (Nat.le_of_ble_eq_true rfl) ?_
          refine s_iconst dX0_canBe_134 (cin rfl) ?_
          refine s_icmp_ne (tgt := 151) dX0_canBe_135 rfl (fun hc26 => ?_) (fun hc26 => ?_)
          · have h := ifp hc26 h
            refine s_iconst dX0_canBe_151 (cin rfl) ?_
            have h := Option.some.inj h
            subst h
            exact s_zreturn dX0_canBe_152 rfl (Or.inl rfl) hq
          · have h := ifn hc26 h
            refine s_aload_n (j := 2) dX0_canBe_138 rfl rfl ?_
            refine s_getR dX0_canBe_139 flX0_25 ho ?_
            refine s_iload_n (j := 1) dX0_canBe_142 rfl rfl ?_
            obtain ⟨hb27, h⟩ := gd h
            refine s_zaload dX0_canBe_143 (trX0_4 ho) hb27.1 hb27.2 ?_
            refine s_if_ne (tgt := 151) dX0_canBe_144 rfl (fun hc28 => ?_) (fun hc28 => ?_)
            · have h := ifp hc28 h
              refine s_iconst dX0_canBe_151 (cin rfl) ?_
              have h := Option.some.inj h
              subst h
              exact s_zreturn dX0_canBe_152 rfl (Or.inl rfl) hq
            · have h := ifn hc28 h
              refine s_iconst dX0_canBe_147 (cin rfl) ?_
              refine s_goto (tgt := 152) dX0_canBe_148 rfl ?_
              have h := Option.some.inj h
              subst h
              exact s_zreturn dX0_canBe_152 rfl (Or.inr rfl) hq
  have h := ifn hc19 h
  by_cases hc29 : r8 = 4
  · have h := ifp hc29 h
    refine s_tabIn (tgt := 153) (off := 132) dX0_canBe_21 (by omega) (by omega) (by rw [hc29]; rfl) rfl ?_
    refine s_aload_n (j := 2) dX0_canBe_153 rfl rfl ?_
    refine s_iload_n (j := 1) dX0_canBe_154 rfl rfl ?_
    obtain ⟨r30, hv31, h⟩ := bnd h
    refine s_callV (As := [vI r2]) (rest := []) (r := (some (vI r30))) (F' := F) dX0_canBe_155 (clX0_63 (Nat.le_of_ble_eq_true rfl) (Nat.le_of_ble_eq_true rfl)) ho rfl ⟨_, _, _, rfl, ho, hv31, rfl, rfl⟩ rfl (Nat.le_of_ble_eq_true rfl) ?_
    refine s_if_eq (tgt := 174) dX0_canBe_158 rfl (fun hc32 => ?_) (fun hc32 => ?_)
    · have h := ifp hc32 h
      refine s_iconst dX0_canBe_174 (cin rfl) ?_
      have h := Option.some.inj h
      subst h
      exact s_zreturn dX0_canBe_175 rfl (Or.inl rfl) hq
    · have h := ifn hc32 h
      refine s_aload_n (j := 2) dX0_canBe_161 rfl rfl ?_
      refine s_iload (j := 0) dX0_canBe_162 rfl ?_
      obtain ⟨r33, hv34, h⟩ := bnd h
      refine s_callV (As := [vI r5]) (rest := []) (r := (some (vI r33))) (F' := F) dX0_canBe_164 (clX0_63 (Nat.le_of_ble_eq_true rfl) (Nat.le_of_ble_eq_true rfl)) ho rfl ⟨_, _, _, rfl, ho, hv34, rfl, rfl⟩ rfl (Nat.le_of_ble_eq_true rfl) ?_
      refine s_if_eq (tgt := 174) dX0_canBe_167 rfl (fun hc35 => ?_) (fun hc35 => ?_)
      · have h := ifp hc35 h
        refine s_iconst dX0_canBe_174 (cin rfl) ?_
        have h := Option.some.inj h
        subst h
        exact s_zreturn dX0_canBe_175 rfl (Or.inl rfl) hq
      · have h := ifn hc35 h
        refine s_iconst dX0_canBe_170 (cin rfl) ?_
        refine s_goto (tgt := 175) dX0_canBe_171 rfl ?_
        have h := Option.some.inj h
        subst h
        exact s_zreturn dX0_canBe_175 rfl (Or.inr rfl) hq
  have h := ifn hc29 h
  by_cases hc36 : r8 = 5
  · have h := ifp hc36 h
    refine s_tabIn (tgt := 176) (off := 155) dX0_canBe_21 (by omega) (by omega) (by rw [hc36]; rfl) rfl ?_
    refine s_aload_n (j := 2) dX0_canBe_176 rfl rfl ?_
    refine s_iload_n (j := 1) dX0_canBe_177 rfl rfl ?_
    obtain ⟨r37, hv38, h⟩ := bnd h
    refine s_callV (As := [vI r2]) (rest := []) (r := (some (vI r37))) (F' := F) dX0_canBe_178 (clX0_63 (Nat.le_of_ble_eq_true rfl) (Nat.le_of_ble_eq_true rfl)) ho rfl ⟨_, _, _, rfl, ho, hv38, rfl, rfl⟩ rfl (Nat.le_of_ble_eq_true rfl) ?_
    obtain ⟨hb39, h⟩ := gd h
    have h := Option.some.inj h
    subst h
    exact s_zreturn dX0_canBe_181 rfl hb39 hq
  have h := ifn hc36 h
  refine s_tabOut (tgt := 182) dX0_canBe_21 (by omega) rfl ?_
  refine s_iconst dX0_canBe_182 (cin rfl) ?_
  have h := Option.some.inj h
  subst h
  exact s_zreturn dX0_canBe_183 rfl (Or.inl rfl) hq
def gX0_canBe : XG := fun As F r F' => ∃ o : Nat, ∃ x1 : Nat, ∃ x2 : Int, ∃ res : Int, As = [vR o, vR x1, vI x2] ∧ isK o 0 ∧ (x1 = 0 ∨ isK x1 3) ∧ fX0_canBe o x1 x2 F = some res ∧ r = some (vI res) ∧ F' = F
theorem ctX0_canBe : xCT yX0_canBe cX0_canBe 5 (some FieldType.boolean) 1 22 gX0_canBe := xmet (by decide +kernel) (fun As F r F' hg => by obtain ⟨o, x1, x2, res, rfl, ho, hx1, h, rfl, rfl⟩ := hg; exact Nat.le_of_ble_eq_true rfl) (fun As F r F' hg => by obtain ⟨o, x1, x2, res, rfl, ho, hx1, h, rfl, rfl⟩ := hg; exact fX0_canBe_ok o x1 x2 _ _ ho hx1 h ⟨rfl, rfl⟩)
theorem mcX0_canBe : Cond.code yX0_canBe cX0_canBe 5 (some FieldType.boolean) ∈ xw_T ∧ Cond.initialized yX0_canBe.cls ∈ xw_T ∧ Cond.instanceMethod yX0_canBe ∈ xw_T ∧ Cond.selects yX0_canBe.cls yX0_canBe yX0_canBe ∈ xw_T := ⟨(xinT 923 (by decide +kernel) (by decide +kernel)), (xinT 122 (by decide +kernel) (by decide +kernel)), (xinT 922 (by decide +kernel) (by decide +kernel)), (xinT 15 (by decide +kernel) (by decide +kernel))⟩
theorem clX0_51 {fr lo : Nat} (h1 : 1 + 1 ≤ fr) (h2 : 8 + (5 + 11) + 22 ≤ lo) : xCall RX0 fr lo 0 51 0 2 gX0_canBe := ⟨_, _, _, _, _, _, ctX0_canBe, h1, h2, mcX0_canBe.1, (xinT 920 (by decide +kernel) (by decide +kernel)), mcX0_canBe.2.1, ⟨by decide +kernel, by decide +kernel, by decide +kernel⟩, by rw [if_pos rfl]; exact ⟨mcX0_canBe.2.2.1, mcX0_canBe.2.2.2, _, _, rfl⟩⟩
theorem dX0_bequeath_0 : decode cX0_bequeath 0 = .ok (.aload_n 0, 1) := by decide +kernel
theorem dX0_bequeath_1 : decode cX0_bequeath 1 = .ok (.iload_n 1, 1) := by decide +kernel
theorem dX0_bequeath_2 : decode cX0_bequeath 2 = .ok (.invokevirtual 63, 3) := by decide +kernel
theorem dX0_bequeath_5 : decode cX0_bequeath 5 = .ok (.ifCond .eq 10, 3) := by decide +kernel
theorem dX0_bequeath_8 : decode cX0_bequeath 8 = .ok (.aload_n 0, 1) := by decide +kernel
theorem dX0_bequeath_9 : decode cX0_bequeath 9 = .ok (.getfield 18, 3) := by decide +kernel
theorem dX0_bequeath_12 : decode cX0_bequeath 12 = .ok (.iload_n 1, 1) := by decide +kernel
theorem dX0_bequeath_13 : decode cX0_bequeath 13 = .ok (.iload_n 2, 1) := by decide +kernel
theorem dX0_bequeath_14 : decode cX0_bequeath 14 = .ok (.iastore, 1) := by decide +kernel
theorem dX0_bequeath_15 : decode cX0_bequeath 15 = .ok (.return_, 1) := by decide +kernel
def zX0_bequeath (Qr : Option PV → Mem → Prop) : XZ := (RX0, 1, 21, 3, none, Qr)
noncomputable def fX0_bequeath (o : Nat) (x1 : Int) (x2 : Int) (F : Mem) : Option Mem :=
  (fX0_lives o x1 F).bind fun r1 =>
  if r1 = 0 then
    some F
  else
    if (0 : Int) ≤ x1 ∧ x1 < (alen (o + 3) : Int) then
      some (mset F (o + 3) x1.toNat x2)
    else none
theorem fX0_bequeath_ok {Qr : Option PV → Mem → Prop} : ∀ (o : Nat) (x1 : Int) (x2 : Int) (F : Mem) (res : Mem) (ho : isK o 0), fX0_bequeath o x1 x2 F = some res → Qr none res → PR cX0_bequeath (zX0_bequeath Qr) 0 [(0, vR o), (1, vI x1), (2, vI x2)] [] F := by
  intro o x1 x2 F res ho h hq
  refine s_aload_n (j := 0) dX0_bequeath_0 rfl rfl ?_
  refine s_iload_n (j := 1) dX0_bequeath_1 rfl rfl ?_
  obtain ⟨r1, hv2, h⟩ := bnd h
  refine s_callV (As := [vI x1]) (rest := []) (r := (some (vI r1))) (F' := F) dX0_bequeath_2 (clX0_63 (Nat.le_of_ble_eq_true rfl) (Nat.le_of_ble_eq_true rfl)) ho rfl ⟨_, _, _, rfl, ho, hv2, rfl, rfl⟩ rfl (Nat.le_of_ble_eq_true rfl) ?_
  refine s_if_eq (tgt := 15) dX0_bequeath_5 rfl (fun hc3 => ?_) (fun hc3 => ?_)
  · have h := ifp hc3 h
    have h := Option.some.inj h
    subst h
    exact s_return dX0_bequeath_15 rfl hq
  · have h := ifn hc3 h
    refine s_aload_n (j := 0) dX0_bequeath_8 rfl rfl ?_
    refine s_getR dX0_bequeath_9 flX0_18 ho ?_
    refine s_iload_n (j := 1) dX0_bequeath_12 rfl rfl ?_
    refine s_iload_n (j := 2) dX0_bequeath_13 rfl rfl ?_
    obtain ⟨hb4, h⟩ := gd h
    refine s_iastore dX0_bequeath_14 (trX0_2 ho) hb4.1 hb4.2 ?_
    have h := Option.some.inj h
    subst h
    exact s_return dX0_bequeath_15 rfl hq
def gX0_bequeath : XG := fun As F r F' => ∃ o : Nat, ∃ x1 : Int, ∃ x2 : Int, ∃ res : Mem, As = [vR o, vI x1, vI x2] ∧ isK o 0 ∧ fX0_bequeath o x1 x2 F = some res ∧ r = none ∧ F' = res
theorem ctX0_bequeath : xCT yX0_bequeath cX0_bequeath 3 (none) 1 21 gX0_bequeath := xmet (by decide +kernel) (fun As F r F' hg => by obtain ⟨o, x1, x2, res, rfl, ho, h, rfl, rfl⟩ := hg; exact Nat.le_of_ble_eq_true rfl) (fun As F r F' hg => by obtain ⟨o, x1, x2, res, rfl, ho, h, rfl, rfl⟩ := hg; exact fX0_bequeath_ok o x1 x2 _ _ ho h ⟨rfl, rfl⟩)
theorem mcX0_bequeath : Cond.code yX0_bequeath cX0_bequeath 3 (none) ∈ xw_T ∧ Cond.initialized yX0_bequeath.cls ∈ xw_T ∧ Cond.instanceMethod yX0_bequeath ∈ xw_T ∧ Cond.selects yX0_bequeath.cls yX0_bequeath yX0_bequeath ∈ xw_T := ⟨(xinT 947 (by decide +kernel) (by decide +kernel)), (xinT 122 (by decide +kernel) (by decide +kernel)), (xinT 946 (by decide +kernel) (by decide +kernel)), (xinT 21 (by decide +kernel) (by decide +kernel))⟩
theorem clX0_81 {fr lo : Nat} (h1 : 1 + 1 ≤ fr) (h2 : 8 + (3 + 11) + 21 ≤ lo) : xCall RX0 fr lo 0 81 0 2 gX0_bequeath := ⟨_, _, _, _, _, _, ctX0_bequeath, h1, h2, mcX0_bequeath.1, (xinT 944 (by decide +kernel) (by decide +kernel)), mcX0_bequeath.2.1, ⟨by decide +kernel, by decide +kernel, by decide +kernel⟩, by rw [if_pos rfl]; exact ⟨mcX0_bequeath.2.2.1, mcX0_bequeath.2.2.2, _, _, rfl⟩⟩
theorem dX0_livingHeir_0 : decode cX0_livingHeir 0 = .ok (.iload_n 1, 1) := by decide +kernel
theorem dX0_livingHeir_1 : decode cX0_livingHeir 1 = .ok (.istore_n 2, 1) := by decide +kernel
theorem dX0_livingHeir_2 : decode cX0_livingHeir 2 = .ok (.iconst 0, 1) := by decide +kernel
theorem dX0_livingHeir_3 : decode cX0_livingHeir 3 = .ok (.istore_n 3, 1) := by decide +kernel
theorem dX0_livingHeir_4 : decode cX0_livingHeir 4 = .ok (.iload_n 3, 1) := by decide +kernel
theorem dX0_livingHeir_5 : decode cX0_livingHeir 5 = .ok (.bipush 8, 2) := by decide +kernel
theorem dX0_livingHeir_7 : decode cX0_livingHeir 7 = .ok (.if_icmp .ge 47, 3) := by decide +kernel
theorem dX0_livingHeir_10 : decode cX0_livingHeir 10 = .ok (.iload_n 2, 1) := by decide +kernel
theorem dX0_livingHeir_11 : decode cX0_livingHeir 11 = .ok (.ifCond .lt 43, 3) := by decide +kernel
theorem dX0_livingHeir_14 : decode cX0_livingHeir 14 = .ok (.iload_n 2, 1) := by decide +kernel
theorem dX0_livingHeir_15 : decode cX0_livingHeir 15 = .ok (.bipush 8, 2) := by decide +kernel
theorem dX0_livingHeir_17 : decode cX0_livingHeir 17 = .ok (.if_icmp .ge 37, 3) := by decide +kernel
theorem dX0_livingHeir_20 : decode cX0_livingHeir 20 = .ok (.aload_n 0, 1) := by decide +kernel
theorem dX0_livingHeir_21 : decode cX0_livingHeir 21 = .ok (.getfield 18, 3) := by decide +kernel
theorem dX0_livingHeir_24 : decode cX0_livingHeir 24 = .ok (.iload_n 2, 1) := by decide +kernel
theorem dX0_livingHeir_25 : decode cX0_livingHeir 25 = .ok (.iaload, 1) := by decide +kernel
theorem dX0_livingHeir_26 : decode cX0_livingHeir 26 = .ok (.istore_n 2, 1) := by decide +kernel
theorem dX0_livingHeir_27 : decode cX0_livingHeir 27 = .ok (.iload_n 2, 1) := by decide +kernel
theorem dX0_livingHeir_28 : decode cX0_livingHeir 28 = .ok (.ifCond .lt 20, 3) := by decide +kernel
theorem dX0_livingHeir_31 : decode cX0_livingHeir 31 = .ok (.iload_n 2, 1) := by decide +kernel
theorem dX0_livingHeir_32 : decode cX0_livingHeir 32 = .ok (.bipush 8, 2) := by decide +kernel
theorem dX0_livingHeir_34 : decode cX0_livingHeir 34 = .ok (.if_icmp .ge 14, 3) := by decide +kernel
theorem dX0_livingHeir_37 : decode cX0_livingHeir 37 = .ok (.aload_n 0, 1) := by decide +kernel
theorem dX0_livingHeir_38 : decode cX0_livingHeir 38 = .ok (.getfield 21, 3) := by decide +kernel
theorem dX0_livingHeir_41 : decode cX0_livingHeir 41 = .ok (.iload_n 2, 1) := by decide +kernel
theorem dX0_livingHeir_42 : decode cX0_livingHeir 42 = .ok (.baload, 1) := by decide +kernel
theorem dX0_livingHeir_43 : decode cX0_livingHeir 43 = .ok (.ifCond .ne 5, 3) := by decide +kernel
theorem dX0_livingHeir_46 : decode cX0_livingHeir 46 = .ok (.iload_n 2, 1) := by decide +kernel
theorem dX0_livingHeir_47 : decode cX0_livingHeir 47 = .ok (.ireturn, 1) := by decide +kernel
theorem dX0_livingHeir_48 : decode cX0_livingHeir 48 = .ok (.iinc 3 1, 3) := by decide +kernel
theorem dX0_livingHeir_51 : decode cX0_livingHeir 51 = .ok (.goto (-47), 3) := by decide +kernel
theorem dX0_livingHeir_54 : decode cX0_livingHeir 54 = .ok (.iconst (-1), 1) := by decide +kernel
theorem dX0_livingHeir_55 : decode cX0_livingHeir 55 = .ok (.ireturn, 1) := by decide +kernel
def zX0_livingHeir (Qr : Option PV → Mem → Prop) : XZ := (RX0, 0, 0, 4, some FieldType.int, Qr)
noncomputable def fX0_livingHeir_b4 (F : Mem) : Nat → Nat → Int → Int → Option Int
  | 0, _, _, _ => none
  | n + 1, o, x2, x3 =>
    if 8 ≤ x3 then
      some (-1)
    else
      if x2 < 0 then
        some (-1)
      else
        if 8 ≤ x2 then
          some (-1)
        else
          if (0 : Int) ≤ x2 ∧ x2 < (alen (o + 3) : Int) then
            if (F (o + 3) x2.toNat) < 0 then
              fX0_livingHeir_b4 F n o (F (o + 3) x2.toNat) (xw (x3 + 1))
            else
              if 8 ≤ (F (o + 3) x2.toNat) then
                fX0_livingHeir_b4 F n o (F (o + 3) x2.toNat) (xw (x3 + 1))
              else
                if (0 : Int) ≤ (F (o + 3) x2.toNat) ∧ (F (o + 3) x2.toNat) < (alen (o + 4) : Int) then
                  if (F (o + 4) (F (o + 3) x2.toNat).toNat) ≠ 0 then
                    fX0_livingHeir_b4 F n o (F (o + 3) x2.toNat) (xw (x3 + 1))
                  else
                    some (F (o + 3) x2.toNat)
                else none
          else none
noncomputable def fX0_livingHeir (o : Nat) (x1 : Int) (F : Mem) : Option Int :=
  fX0_livingHeir_b4 F FU o x1 0
theorem fX0_livingHeir_b4_ok {Qr : Option PV → Mem → Prop}  (F : Mem) : ∀ (n : Nat) (o : Nat) (x2 : Int) (x3 : Int) (res : Int) (ho : isK o 0), fX0_livingHeir_b4 F n o x2 x3 = some res → Qr (some (vI res)) F → PR cX0_livingHeir (zX0_livingHeir Qr) 4 [(0, vR o), (2, vI x2), (3, vI x3)] [] F := by
  intro n
  induction n with
  | zero => intro o x2 x3 res ho h hq; exact nomatch (show (none : Option _) = some _ from h)
  | succ n ih =>
    intro o x2 x3 res ho h hq
    refine s_iload_n (j := 2) dX0_livingHeir_4 rfl rfl ?_
    refine s_bipush dX0_livingHeir_5 rfl (cin rfl) ?_
    refine s_icmp_ge (tgt := 54) dX0_livingHeir_7 rfl (fun hc1 => ?_) (fun hc1 => ?_)
    · have h := ifp hc1 h
      refine s_iconst dX0_livingHeir_54 (cin rfl) ?_
      have h := Option.some.inj h
      subst h
      exact s_ireturn dX0_livingHeir_55 rfl hq
    · have h := ifn hc1 h
      refine s_iload_n (j := 1) dX0_livingHeir_10 rfl rfl ?_
      refine s_if_lt (tgt := 54) dX0_livingHeir_11 rfl (fun hc2 => ?_) (fun hc2 => ?_)
      · have h := ifp hc2 h
        refine s_iconst dX0_livingHeir_54 (cin rfl) ?_
        have h := Option.some.inj h
        subst h
        exact s_ireturn dX0_livingHeir_55 rfl hq
      · have h := ifn hc2 h
        refine s_iload_n (j := 1) dX0_livingHeir_14 rfl rfl ?_
        refine s_bipush dX0_livingHeir_15 rfl (cin rfl) ?_
        refine s_icmp_ge (tgt := 54) dX0_livingHeir_17 rfl (fun hc3 => ?_) (fun hc3 => ?_)
        · have h := ifp hc3 h
          refine s_iconst dX0_livingHeir_54 (cin rfl) ?_
          have h := Option.some.inj h
          subst h
          exact s_ireturn dX0_livingHeir_55 rfl hq
        · have h := ifn hc3 h
          refine s_aload_n (j := 0) dX0_livingHeir_20 rfl rfl ?_
          refine s_getR dX0_livingHeir_21 flX0_18 ho ?_
          refine s_iload_n (j := 1) dX0_livingHeir_24 rfl rfl ?_
          obtain ⟨hb4, h⟩ := gd h
          refine s_iaload dX0_livingHeir_25 (trX0_2 ho) hb4.1 hb4.2 ?_
          refine s_istore_n (ls' := [(2, vI (F (o + 3) x2.toNat)), (0, vR o), (3, vI x3)]) dX0_livingHeir_26 rfl (Nat.le_of_ble_eq_true rfl) rfl ?_
          refine s_iload_n (j := 0) dX0_livingHeir_27 rfl rfl ?_
          refine s_if_lt (tgt := 48) dX0_livingHeir_28 rfl (fun hc5 => ?_) (fun hc5 => ?_)
          · have h := ifp hc5 h
            refine s_iinc (ls' := [(3, vI (xw (x3 + 1))), (2, vI (F (o + 3) x2.toNat)), (0, vR o)]) (j := 2) dX0_livingHeir_48 rfl (Nat.le_of_ble_eq_true rfl) rfl ?_
            refine s_goto (tgt := 4) dX0_livingHeir_51 rfl ?_
            exact s_sub (ks := [2, 1, 0]) rfl (ih o (F (o + 3) x2.toNat) (xw (x3 + 1)) _ ho h hq)
          · have h := ifn hc5 h
            refine s_iload_n (j := 0) dX0_livingHeir_31 rfl rfl ?_
            refine s_bipush dX0_livingHeir_32 rfl (cin rfl) ?_
            refine s_icmp_ge (tgt := 48) dX0_livingHeir_34 rfl (fun hc6 => ?_) (fun hc6 => ?_)
            · have h := ifp hc6 h
              refine s_iinc (ls' := [(3, vI (xw (x3 + 1))), (2, vI (F (o + 3) x2.toNat)), (0, vR o)]) (j := 2) dX0_livingHeir_48 rfl (Nat.le_of_ble_eq_true rfl) rfl ?_
              refine s_goto (tgt := 4) dX0_livingHeir_51 rfl ?_
              exact s_sub (ks := [2, 1, 0]) rfl (ih o (F (o + 3) x2.toNat) (xw (x3 + 1)) _ ho h hq)
            · have h := ifn hc6 h
              refine s_aload_n (j := 1) dX0_livingHeir_37 rfl rfl ?_
              refine s_getR dX0_livingHeir_38 flX0_21 ho ?_
              refine s_iload_n (j := 0) dX0_livingHeir_41 rfl rfl ?_
              obtain ⟨hb7, h⟩ := gd h
              refine s_zaload dX0_livingHeir_42 (trX0_3 ho) hb7.1 hb7.2 ?_
              refine s_if_ne (tgt := 48) dX0_livingHeir_43 rfl (fun hc8 => ?_) (fun hc8 => ?_)
              · have h := ifp hc8 h
                refine s_iinc (ls' := [(3, vI (xw (x3 + 1))), (2, vI (F (o + 3) x2.toNat)), (0, vR o)]) (j := 2) dX0_livingHeir_48 rfl (Nat.le_of_ble_eq_true rfl) rfl ?_
                refine s_goto (tgt := 4) dX0_livingHeir_51 rfl ?_
                exact s_sub (ks := [2, 1, 0]) rfl (ih o (F (o + 3) x2.toNat) (xw (x3 + 1)) _ ho h hq)
              · have h := ifn hc8 h
                refine s_iload_n (j := 0) dX0_livingHeir_46 rfl rfl ?_
                have h := Option.some.inj h
                subst h
                exact s_ireturn dX0_livingHeir_47 rfl hq
theorem fX0_livingHeir_ok {Qr : Option PV → Mem → Prop} : ∀ (o : Nat) (x1 : Int) (F : Mem) (res : Int) (ho : isK o 0), fX0_livingHeir o x1 F = some res → Qr (some (vI res)) F → PR cX0_livingHeir (zX0_livingHeir Qr) 0 [(0, vR o), (1, vI x1)] [] F := by
  intro o x1 F res ho h hq
  refine s_iload_n (j := 1) dX0_livingHeir_0 rfl rfl ?_
  refine s_istore_n (ls' := [(2, vI x1), (0, vR o), (1, vI x1)]) dX0_livingHeir_1 rfl (Nat.le_of_ble_eq_true rfl) rfl ?_
  refine s_iconst dX0_livingHeir_2 (cin rfl) ?_
  refine s_istore_n dX0_livingHeir_3 rfl (Nat.le_of_ble_eq_true rfl) rfl ?_
  exact s_sub (ks := [2, 1, 0]) rfl (fX0_livingHeir_b4_ok F FU o x1 0 _ ho h hq)
def gX0_livingHeir : XG := fun As F r F' => ∃ o : Nat, ∃ x1 : Int, ∃ res : Int, As = [vR o, vI x1] ∧ isK o 0 ∧ fX0_livingHeir o x1 F = some res ∧ r = some (vI res) ∧ F' = F
theorem ctX0_livingHeir : xCT yX0_livingHeir cX0_livingHeir 4 (some FieldType.int) 0 0 gX0_livingHeir := xmet (by decide +kernel) (fun As F r F' hg => by obtain ⟨o, x1, res, rfl, ho, h, rfl, rfl⟩ := hg; exact Nat.le_of_ble_eq_true rfl) (fun As F r F' hg => by obtain ⟨o, x1, res, rfl, ho, h, rfl, rfl⟩ := hg; exact fX0_livingHeir_ok o x1 _ _ ho h ⟨rfl, rfl⟩)
theorem mcX0_livingHeir : Cond.code yX0_livingHeir cX0_livingHeir 4 (some FieldType.int) ∈ xw_T ∧ Cond.initialized yX0_livingHeir.cls ∈ xw_T ∧ Cond.instanceMethod yX0_livingHeir ∈ xw_T ∧ Cond.selects yX0_livingHeir.cls yX0_livingHeir yX0_livingHeir ∈ xw_T := ⟨(xinT 955 (by decide +kernel) (by decide +kernel)), (xinT 122 (by decide +kernel) (by decide +kernel)), (xinT 954 (by decide +kernel) (by decide +kernel)), (xinT 23 (by decide +kernel) (by decide +kernel))⟩
theorem clX0_88 {fr lo : Nat} (h1 : 0 + 1 ≤ fr) (h2 : 8 + (4 + 11) + 0 ≤ lo) : xCall RX0 fr lo 0 88 0 1 gX0_livingHeir := ⟨_, _, _, _, _, _, ctX0_livingHeir, h1, h2, mcX0_livingHeir.1, (xinT 952 (by decide +kernel) (by decide +kernel)), mcX0_livingHeir.2.1, ⟨by decide +kernel, by decide +kernel, by decide +kernel⟩, by rw [if_pos rfl]; exact ⟨mcX0_livingHeir.2.2.1, mcX0_livingHeir.2.2.2, _, _, rfl⟩⟩
theorem dX0_bury_0 : decode cX0_bury 0 = .ok (.aload_n 0, 1) := by decide +kernel
theorem dX0_bury_1 : decode cX0_bury 1 = .ok (.iload_n 1, 1) := by decide +kernel
theorem dX0_bury_2 : decode cX0_bury 2 = .ok (.invokevirtual 63, 3) := by decide +kernel
theorem dX0_bury_5 : decode cX0_bury 5 = .ok (.ifCond .ne 4, 3) := by decide +kernel
theorem dX0_bury_8 : decode cX0_bury 8 = .ok (.return_, 1) := by decide +kernel
theorem dX0_bury_9 : decode cX0_bury 9 = .ok (.aload_n 0, 1) := by decide +kernel
theorem dX0_bury_10 : decode cX0_bury 10 = .ok (.getfield 21, 3) := by decide +kernel
theorem dX0_bury_13 : decode cX0_bury 13 = .ok (.iload_n 1, 1) := by decide +kernel
theorem dX0_bury_14 : decode cX0_bury 14 = .ok (.iconst 1, 1) := by decide +kernel
theorem dX0_bury_15 : decode cX0_bury 15 = .ok (.bastore, 1) := by decide +kernel
theorem dX0_bury_16 : decode cX0_bury 16 = .ok (.aload_n 0, 1) := by decide +kernel
theorem dX0_bury_17 : decode cX0_bury 17 = .ok (.iload_n 1, 1) := by decide +kernel
theorem dX0_bury_18 : decode cX0_bury 18 = .ok (.invokevirtual 88, 3) := by decide +kernel
theorem dX0_bury_21 : decode cX0_bury 21 = .ok (.istore_n 2, 1) := by decide +kernel
theorem dX0_bury_22 : decode cX0_bury 22 = .ok (.iconst 0, 1) := by decide +kernel
theorem dX0_bury_23 : decode cX0_bury 23 = .ok (.istore_n 3, 1) := by decide +kernel
theorem dX0_bury_24 : decode cX0_bury 24 = .ok (.iload_n 3, 1) := by decide +kernel
theorem dX0_bury_25 : decode cX0_bury 25 = .ok (.sipush 336, 3) := by decide +kernel
theorem dX0_bury_28 : decode cX0_bury 28 = .ok (.if_icmp .ge 74, 3) := by decide +kernel
theorem dX0_bury_31 : decode cX0_bury 31 = .ok (.aload_n 0, 1) := by decide +kernel
theorem dX0_bury_32 : decode cX0_bury 32 = .ok (.getfield 9, 3) := by decide +kernel
theorem dX0_bury_35 : decode cX0_bury 35 = .ok (.iload_n 3, 1) := by decide +kernel
theorem dX0_bury_36 : decode cX0_bury 36 = .ok (.iaload, 1) := by decide +kernel
theorem dX0_bury_37 : decode cX0_bury 37 = .ok (.iload_n 1, 1) := by decide +kernel
theorem dX0_bury_38 : decode cX0_bury 38 = .ok (.if_icmp .ne 10, 3) := by decide +kernel
theorem dX0_bury_41 : decode cX0_bury 41 = .ok (.aload_n 0, 1) := by decide +kernel
theorem dX0_bury_42 : decode cX0_bury 42 = .ok (.getfield 9, 3) := by decide +kernel
theorem dX0_bury_45 : decode cX0_bury 45 = .ok (.iload_n 3, 1) := by decide +kernel
theorem dX0_bury_46 : decode cX0_bury 46 = .ok (.iload_n 2, 1) := by decide +kernel
theorem dX0_bury_47 : decode cX0_bury 47 = .ok (.iastore, 1) := by decide +kernel
theorem dX0_bury_48 : decode cX0_bury 48 = .ok (.aload_n 0, 1) := by decide +kernel
theorem dX0_bury_49 : decode cX0_bury 49 = .ok (.getfield 15, 3) := by decide +kernel
theorem dX0_bury_52 : decode cX0_bury 52 = .ok (.iload_n 3, 1) := by decide +kernel
theorem dX0_bury_53 : decode cX0_bury 53 = .ok (.iaload, 1) := by decide +kernel
theorem dX0_bury_54 : decode cX0_bury 54 = .ok (.iload_n 1, 1) := by decide +kernel
theorem dX0_bury_55 : decode cX0_bury 55 = .ok (.if_icmp .ne 24, 3) := by decide +kernel
theorem dX0_bury_58 : decode cX0_bury 58 = .ok (.aload_n 0, 1) := by decide +kernel
theorem dX0_bury_59 : decode cX0_bury 59 = .ok (.getfield 15, 3) := by decide +kernel
theorem dX0_bury_62 : decode cX0_bury 62 = .ok (.iload_n 3, 1) := by decide +kernel
theorem dX0_bury_63 : decode cX0_bury 63 = .ok (.iload_n 2, 1) := by decide +kernel
theorem dX0_bury_64 : decode cX0_bury 64 = .ok (.iconst (-1), 1) := by decide +kernel
theorem dX0_bury_65 : decode cX0_bury 65 = .ok (.if_icmp .ne 12, 3) := by decide +kernel
theorem dX0_bury_68 : decode cX0_bury 68 = .ok (.aload_n 0, 1) := by decide +kernel
theorem dX0_bury_69 : decode cX0_bury 69 = .ok (.getfield 9, 3) := by decide +kernel
theorem dX0_bury_72 : decode cX0_bury 72 = .ok (.iload_n 3, 1) := by decide +kernel
theorem dX0_bury_73 : decode cX0_bury 73 = .ok (.iaload, 1) := by decide +kernel
theorem dX0_bury_74 : decode cX0_bury 74 = .ok (.goto 4, 3) := by decide +kernel
theorem dX0_bury_77 : decode cX0_bury 77 = .ok (.iload_n 2, 1) := by decide +kernel
theorem dX0_bury_78 : decode cX0_bury 78 = .ok (.iastore, 1) := by decide +kernel
theorem dX0_bury_79 : decode cX0_bury 79 = .ok (.aload_n 0, 1) := by decide +kernel
theorem dX0_bury_80 : decode cX0_bury 80 = .ok (.getfield 9, 3) := by decide +kernel
theorem dX0_bury_83 : decode cX0_bury 83 = .ok (.iload_n 3, 1) := by decide +kernel
theorem dX0_bury_84 : decode cX0_bury 84 = .ok (.iaload, 1) := by decide +kernel
theorem dX0_bury_85 : decode cX0_bury 85 = .ok (.iconst (-1), 1) := by decide +kernel
theorem dX0_bury_86 : decode cX0_bury 86 = .ok (.if_icmp .ne 10, 3) := by decide +kernel
theorem dX0_bury_89 : decode cX0_bury 89 = .ok (.aload_n 0, 1) := by decide +kernel
theorem dX0_bury_90 : decode cX0_bury 90 = .ok (.getfield 15, 3) := by decide +kernel
theorem dX0_bury_93 : decode cX0_bury 93 = .ok (.iload_n 3, 1) := by decide +kernel
theorem dX0_bury_94 : decode cX0_bury 94 = .ok (.iconst (-1), 1) := by decide +kernel
theorem dX0_bury_95 : decode cX0_bury 95 = .ok (.iastore, 1) := by decide +kernel
theorem dX0_bury_96 : decode cX0_bury 96 = .ok (.iinc 3 1, 3) := by decide +kernel
theorem dX0_bury_99 : decode cX0_bury 99 = .ok (.goto (-75), 3) := by decide +kernel
theorem dX0_bury_102 : decode cX0_bury 102 = .ok (.return_, 1) := by decide +kernel
def zX0_bury (Qr : Option PV → Mem → Prop) : XZ := (RX0, 1, 23, 4, none, Qr)
noncomputable def fX0_bury_b79 (k24 : Nat → Int → Int → Int → Mem → Option Mem) (o : Nat) (x1 : Int) (x2 : Int) (x3 : Int) (F : Mem) : Option Mem :=
  if (0 : Int) ≤ x3 ∧ x3 < (alen (o + 1) : Int) then
    if (F (o + 1) x3.toNat) ≠ (-1) then
      k24 o x1 x2 (xw (x3 + 1)) F
    else
      if (0 : Int) ≤ x3 ∧ x3 < (alen (o + 2) : Int) then
        k24 o x1 x2 (xw (x3 + 1)) (mset F (o + 2) x3.toNat (-1))
      else none
  else none
noncomputable def fX0_bury_b48 (k24 : Nat → Int → Int → Int → Mem → Option Mem) (o : Nat) (x1 : Int) (x2 : Int) (x3 : Int) (F : Mem) : Option Mem :=
  if (0 : Int) ≤ x3 ∧ x3 < (alen (o + 2) : Int) then
    if (F (o + 2) x3.toNat) ≠ x1 then
      fX0_bury_b79 k24 o x1 x2 x3 F
    else
      if x2 ≠ (-1) then
        if (0 : Int) ≤ x3 ∧ x3 < (alen (o + 2) : Int) then
          fX0_bury_b79 k24 o x1 x2 x3 (mset F (o + 2) x3.toNat x2)
        else none
      else
        if (0 : Int) ≤ x3 ∧ x3 < (alen (o + 1) : Int) then
          if (0 : Int) ≤ x3 ∧ x3 < (alen (o + 2) : Int) then
            fX0_bury_b79 k24 o x1 x2 x3 (mset F (o + 2) x3.toNat (F (o + 1) x3.toNat))
          else none
        else none
  else none
noncomputable def fX0_bury_b24 : Nat → Nat → Int → Int → Int → Mem → Option Mem
  | 0, _, _, _, _, _ => none
  | n + 1, o, x1, x2, x3, F =>
    if 336 ≤ x3 then
      some F
    else
      if (0 : Int) ≤ x3 ∧ x3 < (alen (o + 1) : Int) then
        if (F (o + 1) x3.toNat) ≠ x1 then
          fX0_bury_b48 (fX0_bury_b24 n) o x1 x2 x3 F
        else
          if (0 : Int) ≤ x3 ∧ x3 < (alen (o + 1) : Int) then
            fX0_bury_b48 (fX0_bury_b24 n) o x1 x2 x3 (mset F (o + 1) x3.toNat x2)
          else none
      else none
noncomputable def fX0_bury (o : Nat) (x1 : Int) (F : Mem) : Option Mem :=
  (fX0_lives o x1 F).bind fun r1 =>
  if r1 ≠ 0 then
    if (0 : Int) ≤ x1 ∧ x1 < (alen (o + 4) : Int) then
      (fX0_livingHeir o x1 (mset F (o + 4) x1.toNat 1)).bind fun r5 =>
      fX0_bury_b24 FU o x1 r5 0 (mset F (o + 4) x1.toNat 1)
    else none
  else
    some F
theorem fX0_bury_b79_ok {Qr : Option PV → Mem → Prop}  (k24 : Nat → Int → Int → Int → Mem → Option Mem) (hk24 : ∀ (o : Nat) (x1 : Int) (x2 : Int) (x3 : Int) (F : Mem) (res : Mem) (ho : isK o 0), k24 o x1 x2 x3 F = some res → Qr none res → PR cX0_bury (zX0_bury Qr) 24 [(0, vR o), (1, vI x1), (2, vI x2), (3, vI x3)] [] F) : ∀ (o : Nat) (x1 : Int) (x2 : Int) (x3 : Int) (F : Mem) (res : Mem) (ho : isK o 0), fX0_bury_b79 k24 o x1 x2 x3 F = some res → Qr none res → PR cX0_bury (zX0_bury Qr) 79 [(0, vR o), (1, vI x1), (2, vI x2), (3, vI x3)] [] F := by
  intro o x1 x2 x3 F res ho h hq
  refine s_aload_n (j := 0) dX0_bury_79 rfl rfl ?_
  refine s_getR dX0_bury_80 flX0_9 ho ?_
  refine s_iload_n (j := 3) dX0_bury_83 rfl rfl ?_
  obtain ⟨hb1, h⟩ := gd h
  refine s_iaload dX0_bury_84 (trX0_0 ho) hb1.1 hb1.2 ?_
  refine s_iconst dX0_bury_85 (cin rfl) ?_
  refine s_icmp_ne (tgt := 96) dX0_bury_86 rfl (fun hc2 => ?_) (fun hc2 => ?_)
  · have h := ifp hc2 h
    refine s_iinc (ls' := [(3, vI (xw (x3 + 1))), (0, vR o), (1, vI x1), (2, vI x2)]) (j := 3) dX0_bury_96 rfl (Nat.le_of_ble_eq_true rfl) rfl ?_
    refine s_goto (tgt := 24) dX0_bury_99 rfl ?_
    exact s_sub (ks := [1, 2, 3, 0]) rfl (hk24 o x1 x2 (xw (x3 + 1)) F _ ho h hq)
  · have h := ifn hc2 h
    refine s_aload_n (j := 0) dX0_bury_89 rfl rfl ?_
    refine s_getR dX0_bury_90 flX0_15 ho ?_
    refine s_iload_n (j := 3) dX0_bury_93 rfl rfl ?_
    refine s_iconst dX0_bury_94 (cin rfl) ?_
    obtain ⟨hb3, h⟩ := gd h
    refine s_iastore dX0_bury_95 (trX0_1 ho) hb3.1 hb3.2 ?_
    refine s_iinc (ls' := [(3, vI (xw (x3 + 1))), (0, vR o), (1, vI x1), (2, vI x2)]) (j := 3) dX0_bury_96 rfl (Nat.le_of_ble_eq_true rfl) rfl ?_
    refine s_goto (tgt := 24) dX0_bury_99 rfl ?_
    exact s_sub (ks := [1, 2, 3, 0]) rfl (hk24 o x1 x2 (xw (x3 + 1)) (mset F (o + 2) x3.toNat (-1)) _ ho h hq)
theorem fX0_bury_b48_ok {Qr : Option PV → Mem → Prop}  (k24 : Nat → Int → Int → Int → Mem → Option Mem) (hk24 : ∀ (o : Nat) (x1 : Int) (x2 : Int) (x3 : Int) (F : Mem) (res : Mem) (ho : isK o 0), k24 o x1 x2 x3 F = some res → Qr none res → PR cX0_bury (zX0_bury Qr) 24 [(0, vR o), (1, vI x1), (2, vI x2), (3, vI x3)] [] F) : ∀ (o : Nat) (x1 : Int) (x2 : Int) (x3 : Int) (F : Mem) (res : Mem) (ho : isK o 0), fX0_bury_b48 k24 o x1 x2 x3 F = some res → Qr none res → PR cX0_bury (zX0_bury Qr) 48 [(0, vR o), (1, vI x1), (2, vI x2), (3, vI x3)] [] F := by
  intro o x1 x2 x3 F res ho h hq
  refine s_aload_n (j := 0) dX0_bury_48 rfl rfl ?_
  refine s_getR dX0_bury_49 flX0_15 ho ?_
  refine s_iload_n (j := 3) dX0_bury_52 rfl rfl ?_
  obtain ⟨hb1, h⟩ := gd h
  refine s_iaload dX0_bury_53 (trX0_1 ho) hb1.1 hb1.2 ?_
  refine s_iload_n (j := 1) dX0_bury_54 rfl rfl ?_
  refine s_icmp_ne (tgt := 79) dX0_bury_55 rfl (fun hc2 => ?_) (fun hc2 => ?_)
  · have h := ifp hc2 h
    exact s_sub (ks := [0, 1, 2, 3]) rfl (fX0_bury_b79_ok k24 hk24 o x1 x2 x3 F _ ho h hq)
  · have h := ifn hc2 h
    refine s_aload_n (j := 0) dX0_bury_58 rfl rfl ?_
    refine s_getR dX0_bury_59 flX0_15 ho ?_
    refine s_iload_n (j := 3) dX0_bury_62 rfl rfl ?_
    refine s_iload_n (j := 2) dX0_bury_63 rfl rfl ?_
    refine s_iconst dX0_bury_64 (cin rfl) ?_
    refine s_icmp_ne (tgt := 77) dX0_bury_65 rfl (fun hc3 => ?_) (fun hc3 => ?_)
    · have h := ifp hc3 h
      refine s_iload_n (j := 2) dX0_bury_77 rfl rfl ?_
      obtain ⟨hb4, h⟩ := gd h
      refine s_iastore dX0_bury_78 (trX0_1 ho) hb4.1 hb4.2 ?_
      exact s_sub (ks := [0, 1, 2, 3]) rfl (fX0_bury_b79_ok k24 hk24 o x1 x2 x3 (mset F (o + 2) x3.toNat x2) _ ho h hq)
    · have h := ifn hc3 h
      refine s_aload_n (j := 0) dX0_bury_68 rfl rfl ?_
      refine s_getR dX0_bury_69 flX0_9 ho ?_
      refine s_iload_n (j := 3) dX0_bury_72 rfl rfl ?_
      obtain ⟨hb5, h⟩ := gd h
      refine s_iaload dX0_bury_73 (trX0_0 ho) hb5.1 hb5.2 ?_
      refine s_goto (tgt := 78) dX0_bury_74 rfl ?_
      obtain ⟨hb6, h⟩ := gd h
      refine s_iastore dX0_bury_78 (trX0_1 ho) hb6.1 hb6.2 ?_
      exact s_sub (ks := [0, 1, 2, 3]) rfl (fX0_bury_b79_ok k24 hk24 o x1 x2 x3 (mset F (o + 2) x3.toNat (F (o + 1) x3.toNat)) _ ho h hq)
theorem fX0_bury_b24_ok {Qr : Option PV → Mem → Prop}  : ∀ (n : Nat) (o : Nat) (x1 : Int) (x2 : Int) (x3 : Int) (F : Mem) (res : Mem) (ho : isK o 0), fX0_bury_b24 n o x1 x2 x3 F = some res → Qr none res → PR cX0_bury (zX0_bury Qr) 24 [(0, vR o), (1, vI x1), (2, vI x2), (3, vI x3)] [] F := by
  intro n
  induction n with
  | zero => intro o x1 x2 x3 F res ho h hq; exact nomatch (show (none : Option _) = some _ from h)
  | succ n ih =>
    intro o x1 x2 x3 F res ho h hq
    refine s_iload_n (j := 3) dX0_bury_24 rfl rfl ?_
    refine s_sipush dX0_bury_25 rfl (cin rfl) ?_
    refine s_icmp_ge (tgt := 102) dX0_bury_28 rfl (fun hc1 => ?_) (fun hc1 => ?_)
    · have h := ifp hc1 h
      have h := Option.some.inj h
      subst h
      exact s_return dX0_bury_102 rfl hq
    · have h := ifn hc1 h
      refine s_aload_n (j := 0) dX0_bury_31 rfl rfl ?_
      refine s_getR dX0_bury_32 flX0_9 ho ?_
      refine s_iload_n (j := 3) dX0_bury_35 rfl rfl ?_
      obtain ⟨hb2, h⟩ := gd h
      refine s_iaload dX0_bury_36 (trX0_0 ho) hb2.1 hb2.2 ?_
      refine s_iload_n (j := 1) dX0_bury_37 rfl rfl ?_
      refine s_icmp_ne (tgt := 48) dX0_bury_38 rfl (fun hc3 => ?_) (fun hc3 => ?_)
      · have h := ifp hc3 h
        exact s_sub (ks := [0, 1, 2, 3]) rfl (fX0_bury_b48_ok (fX0_bury_b24 n) ih o x1 x2 x3 F _ ho h hq)
      · have h := ifn hc3 h
        refine s_aload_n (j := 0) dX0_bury_41 rfl rfl ?_
        refine s_getR dX0_bury_42 flX0_9 ho ?_
        refine s_iload_n (j := 3) dX0_bury_45 rfl rfl ?_
        refine s_iload_n (j := 2) dX0_bury_46 rfl rfl ?_
        obtain ⟨hb4, h⟩ := gd h
        refine s_iastore dX0_bury_47 (trX0_0 ho) hb4.1 hb4.2 ?_
        exact s_sub (ks := [0, 1, 2, 3]) rfl (fX0_bury_b48_ok (fX0_bury_b24 n) ih o x1 x2 x3 (mset F (o + 1) x3.toNat x2) _ ho h hq)
theorem fX0_bury_ok {Qr : Option PV → Mem → Prop} : ∀ (o : Nat) (x1 : Int) (F : Mem) (res : Mem) (ho : isK o 0), fX0_bury o x1 F = some res → Qr none res → PR cX0_bury (zX0_bury Qr) 0 [(0, vR o), (1, vI x1)] [] F := by
  intro o x1 F res ho h hq
  refine s_aload_n (j := 0) dX0_bury_0 rfl rfl ?_
  refine s_iload_n (j := 1) dX0_bury_1 rfl rfl ?_
  obtain ⟨r1, hv2, h⟩ := bnd h
  refine s_callV (As := [vI x1]) (rest := []) (r := (some (vI r1))) (F' := F) dX0_bury_2 (clX0_63 (Nat.le_of_ble_eq_true rfl) (Nat.le_of_ble_eq_true rfl)) ho rfl ⟨_, _, _, rfl, ho, hv2, rfl, rfl⟩ rfl (Nat.le_of_ble_eq_true rfl) ?_
  refine s_if_ne (tgt := 9) dX0_bury_5 rfl (fun hc3 => ?_) (fun hc3 => ?_)
  · have h := ifp hc3 h
    refine s_aload_n (j := 0) dX0_bury_9 rfl rfl ?_
    refine s_getR dX0_bury_10 flX0_21 ho ?_
    refine s_iload_n (j := 1) dX0_bury_13 rfl rfl ?_
    refine s_iconst dX0_bury_14 (cin rfl) ?_
    obtain ⟨hb4, h⟩ := gd h
    refine s_zastore dX0_bury_15 (trX0_3 ho) hb4.1 hb4.2 (Or.inr rfl) ?_
    refine s_aload_n (j := 0) dX0_bury_16 rfl rfl ?_
    refine s_iload_n (j := 1) dX0_bury_17 rfl rfl ?_
    obtain ⟨r5, hv6, h⟩ := bnd h
    refine s_callV (As := [vI x1]) (rest := []) (r := (some (vI r5))) (F' := mset F (o + 4) x1.toNat 1) dX0_bury_18 (clX0_88 (Nat.le_of_ble_eq_true rfl) (Nat.le_of_ble_eq_true rfl)) ho rfl ⟨_, _, _, rfl, ho, hv6, rfl, rfl⟩ rfl (Nat.le_of_ble_eq_true rfl) ?_
    refine s_istore_n (ls' := [(2, vI r5), (0, vR o), (1, vI x1)]) dX0_bury_21 rfl (Nat.le_of_ble_eq_true rfl) rfl ?_
    refine s_iconst dX0_bury_22 (cin rfl) ?_
    refine s_istore_n dX0_bury_23 rfl (Nat.le_of_ble_eq_true rfl) rfl ?_
    exact s_sub (ks := [2, 3, 1, 0]) rfl (fX0_bury_b24_ok FU o x1 r5 0 (mset F (o + 4) x1.toNat 1) _ ho h hq)
  · have h := ifn hc3 h
    have h := Option.some.inj h
    subst h
    exact s_return dX0_bury_8 rfl hq
def gX0_bury : XG := fun As F r F' => ∃ o : Nat, ∃ x1 : Int, ∃ res : Mem, As = [vR o, vI x1] ∧ isK o 0 ∧ fX0_bury o x1 F = some res ∧ r = none ∧ F' = res
theorem ctX0_bury : xCT yX0_bury cX0_bury 4 (none) 1 23 gX0_bury := xmet (by decide +kernel) (fun As F r F' hg => by obtain ⟨o, x1, res, rfl, ho, h, rfl, rfl⟩ := hg; exact Nat.le_of_ble_eq_true rfl) (fun As F r F' hg => by obtain ⟨o, x1, res, rfl, ho, h, rfl, rfl⟩ := hg; exact fX0_bury_ok o x1 _ _ ho h ⟨rfl, rfl⟩)
theorem mcX0_bury : Cond.code yX0_bury cX0_bury 4 (none) ∈ xw_T ∧ Cond.initialized yX0_bury.cls ∈ xw_T ∧ Cond.instanceMethod yX0_bury ∈ xw_T ∧ Cond.selects yX0_bury.cls yX0_bury yX0_bury ∈ xw_T := ⟨(xinT 951 (by decide +kernel) (by decide +kernel)), (xinT 122 (by decide +kernel) (by decide +kernel)), (xinT 950 (by decide +kernel) (by decide +kernel)), (xinT 22 (by decide +kernel) (by decide +kernel))⟩
theorem clX0_85 {fr lo : Nat} (h1 : 1 + 1 ≤ fr) (h2 : 8 + (4 + 11) + 23 ≤ lo) : xCall RX0 fr lo 0 85 0 1 gX0_bury := ⟨_, _, _, _, _, _, ctX0_bury, h1, h2, mcX0_bury.1, (xinT 948 (by decide +kernel) (by decide +kernel)), mcX0_bury.2.1, ⟨by decide +kernel, by decide +kernel, by decide +kernel⟩, by rw [if_pos rfl]; exact ⟨mcX0_bury.2.2.1, mcX0_bury.2.2.2, _, _, rfl⟩⟩
theorem dX0_giveBack_0 : decode cX0_giveBack 0 = .ok (.iload_n 1, 1) := by decide +kernel
theorem dX0_giveBack_1 : decode cX0_giveBack 1 = .ok (.ifCond .lt 9, 3) := by decide +kernel
theorem dX0_giveBack_4 : decode cX0_giveBack 4 = .ok (.iload_n 1, 1) := by decide +kernel
theorem dX0_giveBack_5 : decode cX0_giveBack 5 = .ok (.bipush 30, 2) := by decide +kernel
theorem dX0_giveBack_7 : decode cX0_giveBack 7 = .ok (.if_icmp .lt 4, 3) := by decide +kernel
theorem dX0_giveBack_10 : decode cX0_giveBack 10 = .ok (.return_, 1) := by decide +kernel
theorem dX0_giveBack_11 : decode cX0_giveBack 11 = .ok (.aload_n 0, 1) := by decide +kernel
theorem dX0_giveBack_12 : decode cX0_giveBack 12 = .ok (.getfield 25, 3) := by decide +kernel
theorem dX0_giveBack_15 : decode cX0_giveBack 15 = .ok (.iload_n 1, 1) := by decide +kernel
theorem dX0_giveBack_16 : decode cX0_giveBack 16 = .ok (.iconst 1, 1) := by decide +kernel
theorem dX0_giveBack_17 : decode cX0_giveBack 17 = .ok (.bastore, 1) := by decide +kernel
theorem dX0_giveBack_18 : decode cX0_giveBack 18 = .ok (.aload_n 0, 1) := by decide +kernel
theorem dX0_giveBack_19 : decode cX0_giveBack 19 = .ok (.getfield 28, 3) := by decide +kernel
theorem dX0_giveBack_22 : decode cX0_giveBack 22 = .ok (.istore_n 2, 1) := by decide +kernel
theorem dX0_giveBack_23 : decode cX0_giveBack 23 = .ok (.iload_n 2, 1) := by decide +kernel
theorem dX0_giveBack_24 : decode cX0_giveBack 24 = .ok (.aload_n 0, 1) := by decide +kernel
theorem dX0_giveBack_25 : decode cX0_giveBack 25 = .ok (.getfield 32, 3) := by decide +kernel
theorem dX0_giveBack_28 : decode cX0_giveBack 28 = .ok (.if_icmp .ge 21, 3) := by decide +kernel
theorem dX0_giveBack_31 : decode cX0_giveBack 31 = .ok (.aload_n 0, 1) := by decide +kernel
theorem dX0_giveBack_32 : decode cX0_giveBack 32 = .ok (.getfield 15, 3) := by decide +kernel
theorem dX0_giveBack_35 : decode cX0_giveBack 35 = .ok (.iload_n 2, 1) := by decide +kernel
theorem dX0_giveBack_36 : decode cX0_giveBack 36 = .ok (.aload_n 0, 1) := by decide +kernel
theorem dX0_giveBack_37 : decode cX0_giveBack 37 = .ok (.getfield 9, 3) := by decide +kernel
theorem dX0_giveBack_40 : decode cX0_giveBack 40 = .ok (.iload_n 2, 1) := by decide +kernel
theorem dX0_giveBack_41 : decode cX0_giveBack 41 = .ok (.iaload, 1) := by decide +kernel
theorem dX0_giveBack_42 : decode cX0_giveBack 42 = .ok (.iastore, 1) := by decide +kernel
theorem dX0_giveBack_43 : decode cX0_giveBack 43 = .ok (.iinc 2 1, 3) := by decide +kernel
theorem dX0_giveBack_46 : decode cX0_giveBack 46 = .ok (.goto (-23), 3) := by decide +kernel
theorem dX0_giveBack_49 : decode cX0_giveBack 49 = .ok (.return_, 1) := by decide +kernel
def zX0_giveBack (Qr : Option PV → Mem → Prop) : XZ := (RX0, 0, 0, 3, none, Qr)
noncomputable def fX0_giveBack_b23 : Nat → Nat → Int → Mem → Option Mem
  | 0, _, _, _ => none
  | n + 1, o, x2, F =>
    if (F o 6) ≤ x2 then
      some F
    else
      if (0 : Int) ≤ x2 ∧ x2 < (alen (o + 1) : Int) then
        if (0 : Int) ≤ x2 ∧ x2 < (alen (o + 2) : Int) then
          fX0_giveBack_b23 n o (xw (x2 + 1)) (mset F (o + 2) x2.toNat (F (o + 1) x2.toNat))
        else none
      else none
noncomputable def fX0_giveBack (o : Nat) (x1 : Int) (F : Mem) : Option Mem :=
  if x1 < 0 then
    some F
  else
    if x1 < 30 then
      if (0 : Int) ≤ x1 ∧ x1 < (alen (o + 5) : Int) then
        fX0_giveBack_b23 FU o ((mset F (o + 5) x1.toNat 1) o 5) (mset F (o + 5) x1.toNat 1)
      else none
    else
      some F
theorem fX0_giveBack_b23_ok {Qr : Option PV → Mem → Prop}  : ∀ (n : Nat) (o : Nat) (x2 : Int) (F : Mem) (res : Mem) (ho : isK o 0), fX0_giveBack_b23 n o x2 F = some res → Qr none res → PR cX0_giveBack (zX0_giveBack Qr) 23 [(0, vR o), (2, vI x2)] [] F := by
  intro n
  induction n with
  | zero => intro o x2 F res ho h hq; exact nomatch (show (none : Option _) = some _ from h)
  | succ n ih =>
    intro o x2 F res ho h hq
    refine s_iload_n (j := 1) dX0_giveBack_23 rfl rfl ?_
    refine s_aload_n (j := 0) dX0_giveBack_24 rfl rfl ?_
    refine s_getI dX0_giveBack_25 flX0_32 ho ?_
    refine s_icmp_ge (tgt := 49) dX0_giveBack_28 rfl (fun hc1 => ?_) (fun hc1 => ?_)
    · have h := ifp hc1 h
      have h := Option.some.inj h
      subst h
      exact s_return dX0_giveBack_49 rfl hq
    · have h := ifn hc1 h
      refine s_aload_n (j := 0) dX0_giveBack_31 rfl rfl ?_
      refine s_getR dX0_giveBack_32 flX0_15 ho ?_
      refine s_iload_n (j := 1) dX0_giveBack_35 rfl rfl ?_
      refine s_aload_n (j := 0) dX0_giveBack_36 rfl rfl ?_
      refine s_getR dX0_giveBack_37 flX0_9 ho ?_
      refine s_iload_n (j := 1) dX0_giveBack_40 rfl rfl ?_
      obtain ⟨hb2, h⟩ := gd h
      refine s_iaload dX0_giveBack_41 (trX0_0 ho) hb2.1 hb2.2 ?_
      obtain ⟨hb3, h⟩ := gd h
      refine s_iastore dX0_giveBack_42 (trX0_1 ho) hb3.1 hb3.2 ?_
      refine s_iinc (ls' := [(2, vI (xw (x2 + 1))), (0, vR o)]) (j := 1) dX0_giveBack_43 rfl (Nat.le_of_ble_eq_true rfl) rfl ?_
      refine s_goto (tgt := 23) dX0_giveBack_46 rfl ?_
      exact s_sub (ks := [1, 0]) rfl (ih o (xw (x2 + 1)) (mset F (o + 2) x2.toNat (F (o + 1) x2.toNat)) _ ho h hq)
theorem fX0_giveBack_ok {Qr : Option PV → Mem → Prop} : ∀ (o : Nat) (x1 : Int) (F : Mem) (res : Mem) (ho : isK o 0), fX0_giveBack o x1 F = some res → Qr none res → PR cX0_giveBack (zX0_giveBack Qr) 0 [(0, vR o), (1, vI x1)] [] F := by
  intro o x1 F res ho h hq
  refine s_iload_n (j := 1) dX0_giveBack_0 rfl rfl ?_
  refine s_if_lt (tgt := 10) dX0_giveBack_1 rfl (fun hc1 => ?_) (fun hc1 => ?_)
  · have h := ifp hc1 h
    have h := Option.some.inj h
    subst h
    exact s_return dX0_giveBack_10 rfl hq
  · have h := ifn hc1 h
    refine s_iload_n (j := 1) dX0_giveBack_4 rfl rfl ?_
    refine s_bipush dX0_giveBack_5 rfl (cin rfl) ?_
    refine s_icmp_lt (tgt := 11) dX0_giveBack_7 rfl (fun hc2 => ?_) (fun hc2 => ?_)
    · have h := ifp hc2 h
      refine s_aload_n (j := 0) dX0_giveBack_11 rfl rfl ?_
      refine s_getR dX0_giveBack_12 flX0_25 ho ?_
      refine s_iload_n (j := 1) dX0_giveBack_15 rfl rfl ?_
      refine s_iconst dX0_giveBack_16 (cin rfl) ?_
      obtain ⟨hb3, h⟩ := gd h
      refine s_zastore dX0_giveBack_17 (trX0_4 ho) hb3.1 hb3.2 (Or.inr rfl) ?_
      refine s_aload_n (j := 0) dX0_giveBack_18 rfl rfl ?_
      refine s_getI dX0_giveBack_19 flX0_28 ho ?_
      refine s_istore_n (ls' := [(2, vI ((mset F (o + 5) x1.toNat 1) o 5)), (0, vR o), (1, vI x1)]) dX0_giveBack_22 rfl (Nat.le_of_ble_eq_true rfl) rfl ?_
      exact s_sub (ks := [1, 0]) rfl (fX0_giveBack_b23_ok FU o ((mset F (o + 5) x1.toNat 1) o 5) (mset F (o + 5) x1.toNat 1) _ ho h hq)
    · have h := ifn hc2 h
      have h := Option.some.inj h
      subst h
      exact s_return dX0_giveBack_10 rfl hq
def gX0_giveBack : XG := fun As F r F' => ∃ o : Nat, ∃ x1 : Int, ∃ res : Mem, As = [vR o, vI x1] ∧ isK o 0 ∧ fX0_giveBack o x1 F = some res ∧ r = none ∧ F' = res
theorem ctX0_giveBack : xCT yX0_giveBack cX0_giveBack 3 (none) 0 0 gX0_giveBack := xmet (by decide +kernel) (fun As F r F' hg => by obtain ⟨o, x1, res, rfl, ho, h, rfl, rfl⟩ := hg; exact Nat.le_of_ble_eq_true rfl) (fun As F r F' hg => by obtain ⟨o, x1, res, rfl, ho, h, rfl, rfl⟩ := hg; exact fX0_giveBack_ok o x1 _ _ ho h ⟨rfl, rfl⟩)
theorem mcX0_giveBack : Cond.code yX0_giveBack cX0_giveBack 3 (none) ∈ xw_T ∧ Cond.initialized yX0_giveBack.cls ∈ xw_T ∧ Cond.instanceMethod yX0_giveBack ∈ xw_T ∧ Cond.selects yX0_giveBack.cls yX0_giveBack yX0_giveBack ∈ xw_T := ⟨(xinT 943 (by decide +kernel) (by decide +kernel)), (xinT 122 (by decide +kernel) (by decide +kernel)), (xinT 942 (by decide +kernel) (by decide +kernel)), (xinT 20 (by decide +kernel) (by decide +kernel))⟩
theorem clX0_77 {fr lo : Nat} (h1 : 0 + 1 ≤ fr) (h2 : 8 + (3 + 11) + 0 ≤ lo) : xCall RX0 fr lo 0 77 0 1 gX0_giveBack := ⟨_, _, _, _, _, _, ctX0_giveBack, h1, h2, mcX0_giveBack.1, (xinT 940 (by decide +kernel) (by decide +kernel)), mcX0_giveBack.2.1, ⟨by decide +kernel, by decide +kernel, by decide +kernel⟩, by rw [if_pos rfl]; exact ⟨mcX0_giveBack.2.2.1, mcX0_giveBack.2.2.2, _, _, rfl⟩⟩
theorem dX0_handOver_0 : decode cX0_handOver 0 = .ok (.aload_n 0, 1) := by decide +kernel
theorem dX0_handOver_1 : decode cX0_handOver 1 = .ok (.getfield 28, 3) := by decide +kernel
theorem dX0_handOver_4 : decode cX0_handOver 4 = .ok (.istore_n 3, 1) := by decide +kernel
theorem dX0_handOver_5 : decode cX0_handOver 5 = .ok (.iload_n 3, 1) := by decide +kernel
theorem dX0_handOver_6 : decode cX0_handOver 6 = .ok (.aload_n 0, 1) := by decide +kernel
theorem dX0_handOver_7 : decode cX0_handOver 7 = .ok (.getfield 32, 3) := by decide +kernel
theorem dX0_handOver_10 : decode cX0_handOver 10 = .ok (.if_icmp .ge 27, 3) := by decide +kernel
theorem dX0_handOver_13 : decode cX0_handOver 13 = .ok (.aload_n 0, 1) := by decide +kernel
theorem dX0_handOver_14 : decode cX0_handOver 14 = .ok (.getfield 15, 3) := by decide +kernel
theorem dX0_handOver_17 : decode cX0_handOver 17 = .ok (.iload_n 3, 1) := by decide +kernel
theorem dX0_handOver_18 : decode cX0_handOver 18 = .ok (.iload_n 1, 1) := by decide +kernel
theorem dX0_handOver_19 : decode cX0_handOver 19 = .ok (.iastore, 1) := by decide +kernel
theorem dX0_handOver_20 : decode cX0_handOver 20 = .ok (.iload_n 2, 1) := by decide +kernel
theorem dX0_handOver_21 : decode cX0_handOver 21 = .ok (.ifCond .eq 10, 3) := by decide +kernel
theorem dX0_handOver_24 : decode cX0_handOver 24 = .ok (.aload_n 0, 1) := by decide +kernel
theorem dX0_handOver_25 : decode cX0_handOver 25 = .ok (.getfield 9, 3) := by decide +kernel
theorem dX0_handOver_28 : decode cX0_handOver 28 = .ok (.iload_n 3, 1) := by decide +kernel
theorem dX0_handOver_29 : decode cX0_handOver 29 = .ok (.iload_n 1, 1) := by decide +kernel
theorem dX0_handOver_30 : decode cX0_handOver 30 = .ok (.iastore, 1) := by decide +kernel
theorem dX0_handOver_31 : decode cX0_handOver 31 = .ok (.iinc 3 1, 3) := by decide +kernel
theorem dX0_handOver_34 : decode cX0_handOver 34 = .ok (.goto (-29), 3) := by decide +kernel
theorem dX0_handOver_37 : decode cX0_handOver 37 = .ok (.return_, 1) := by decide +kernel
def zX0_handOver (Qr : Option PV → Mem → Prop) : XZ := (RX0, 0, 0, 4, none, Qr)
noncomputable def fX0_handOver_b5 : Nat → Nat → Int → Int → Int → Mem → Option Mem
  | 0, _, _, _, _, _ => none
  | n + 1, o, x1, x2, x3, F =>
    if (F o 6) ≤ x3 then
      some F
    else
      if (0 : Int) ≤ x3 ∧ x3 < (alen (o + 2) : Int) then
        if x2 = 0 then
          fX0_handOver_b5 n o x1 x2 (xw (x3 + 1)) (mset F (o + 2) x3.toNat x1)
        else
          if (0 : Int) ≤ x3 ∧ x3 < (alen (o + 1) : Int) then
            fX0_handOver_b5 n o x1 x2 (xw (x3 + 1)) (mset (mset F (o + 2) x3.toNat x1) (o + 1) x3.toNat x1)
          else none
      else none
noncomputable def fX0_handOver (o : Nat) (x1 : Int) (x2 : Int) (F : Mem) : Option Mem :=
  fX0_handOver_b5 FU o x1 x2 (F o 5) F
theorem fX0_handOver_b5_ok {Qr : Option PV → Mem → Prop}  : ∀ (n : Nat) (o : Nat) (x1 : Int) (x2 : Int) (x3 : Int) (F : Mem) (res : Mem) (ho : isK o 0), fX0_handOver_b5 n o x1 x2 x3 F = some res → Qr none res → PR cX0_handOver (zX0_handOver Qr) 5 [(0, vR o), (1, vI x1), (2, vI x2), (3, vI x3)] [] F := by
  intro n
  induction n with
  | zero => intro o x1 x2 x3 F res ho h hq; exact nomatch (show (none : Option _) = some _ from h)
  | succ n ih =>
    intro o x1 x2 x3 F res ho h hq
    refine s_iload_n (j := 3) dX0_handOver_5 rfl rfl ?_
    refine s_aload_n (j := 0) dX0_handOver_6 rfl rfl ?_
    refine s_getI dX0_handOver_7 flX0_32 ho ?_
    refine s_icmp_ge (tgt := 37) dX0_handOver_10 rfl (fun hc1 => ?_) (fun hc1 => ?_)
    · have h := ifp hc1 h
      have h := Option.some.inj h
      subst h
      exact s_return dX0_handOver_37 rfl hq
    · have h := ifn hc1 h
      refine s_aload_n (j := 0) dX0_handOver_13 rfl rfl ?_
      refine s_getR dX0_handOver_14 flX0_15 ho ?_
      refine s_iload_n (j := 3) dX0_handOver_17 rfl rfl ?_
      refine s_iload_n (j := 1) dX0_handOver_18 rfl rfl ?_
      obtain ⟨hb2, h⟩ := gd h
      refine s_iastore dX0_handOver_19 (trX0_1 ho) hb2.1 hb2.2 ?_
      refine s_iload_n (j := 2) dX0_handOver_20 rfl rfl ?_
      refine s_if_eq (tgt := 31) dX0_handOver_21 rfl (fun hc3 => ?_) (fun hc3 => ?_)
      · have h := ifp hc3 h
        refine s_iinc (ls' := [(3, vI (xw (x3 + 1))), (0, vR o), (1, vI x1), (2, vI x2)]) (j := 3) dX0_handOver_31 rfl (Nat.le_of_ble_eq_true rfl) rfl ?_
        refine s_goto (tgt := 5) dX0_handOver_34 rfl ?_
        exact s_sub (ks := [1, 2, 3, 0]) rfl (ih o x1 x2 (xw (x3 + 1)) (mset F (o + 2) x3.toNat x1) _ ho h hq)
      · have h := ifn hc3 h
        refine s_aload_n (j := 0) dX0_handOver_24 rfl rfl ?_
        refine s_getR dX0_handOver_25 flX0_9 ho ?_
        refine s_iload_n (j := 3) dX0_handOver_28 rfl rfl ?_
        refine s_iload_n (j := 1) dX0_handOver_29 rfl rfl ?_
        obtain ⟨hb4, h⟩ := gd h
        refine s_iastore dX0_handOver_30 (trX0_0 ho) hb4.1 hb4.2 ?_
        refine s_iinc (ls' := [(3, vI (xw (x3 + 1))), (0, vR o), (1, vI x1), (2, vI x2)]) (j := 3) dX0_handOver_31 rfl (Nat.le_of_ble_eq_true rfl) rfl ?_
        refine s_goto (tgt := 5) dX0_handOver_34 rfl ?_
        exact s_sub (ks := [1, 2, 3, 0]) rfl (ih o x1 x2 (xw (x3 + 1)) (mset (mset F (o + 2) x3.toNat x1) (o + 1) x3.toNat x1) _ ho h hq)
theorem fX0_handOver_ok {Qr : Option PV → Mem → Prop} : ∀ (o : Nat) (x1 : Int) (x2 : Int) (F : Mem) (res : Mem) (ho : isK o 0), fX0_handOver o x1 x2 F = some res → Qr none res → PR cX0_handOver (zX0_handOver Qr) 0 [(0, vR o), (1, vI x1), (2, vI x2)] [] F := by
  intro o x1 x2 F res ho h hq
  refine s_aload_n (j := 0) dX0_handOver_0 rfl rfl ?_
  refine s_getI dX0_handOver_1 flX0_28 ho ?_
  refine s_istore_n (ls' := [(3, vI (F o 5)), (0, vR o), (1, vI x1), (2, vI x2)]) dX0_handOver_4 rfl (Nat.le_of_ble_eq_true rfl) rfl ?_
  exact s_sub (ks := [1, 2, 3, 0]) rfl (fX0_handOver_b5_ok FU o x1 x2 (F o 5) F _ ho h hq)
def gX0_handOver : XG := fun As F r F' => ∃ o : Nat, ∃ x1 : Int, ∃ x2 : Int, ∃ res : Mem, As = [vR o, vI x1, vI x2] ∧ isK o 0 ∧ fX0_handOver o x1 x2 F = some res ∧ r = none ∧ F' = res
theorem ctX0_handOver : xCT yX0_handOver cX0_handOver 4 (none) 0 0 gX0_handOver := xmet (by decide +kernel) (fun As F r F' hg => by obtain ⟨o, x1, x2, res, rfl, ho, h, rfl, rfl⟩ := hg; exact Nat.le_of_ble_eq_true rfl) (fun As F r F' hg => by obtain ⟨o, x1, x2, res, rfl, ho, h, rfl, rfl⟩ := hg; exact fX0_handOver_ok o x1 x2 _ _ ho h ⟨rfl, rfl⟩)
theorem mcX0_handOver : Cond.code yX0_handOver cX0_handOver 4 (none) ∈ xw_T ∧ Cond.initialized yX0_handOver.cls ∈ xw_T ∧ Cond.instanceMethod yX0_handOver ∈ xw_T ∧ Cond.selects yX0_handOver.cls yX0_handOver yX0_handOver ∈ xw_T := ⟨(xinT 939 (by decide +kernel) (by decide +kernel)), (xinT 122 (by decide +kernel) (by decide +kernel)), (xinT 938 (by decide +kernel) (by decide +kernel)), (xinT 19 (by decide +kernel) (by decide +kernel))⟩
theorem clX0_73 {fr lo : Nat} (h1 : 0 + 1 ≤ fr) (h2 : 8 + (4 + 11) + 0 ≤ lo) : xCall RX0 fr lo 0 73 0 2 gX0_handOver := ⟨_, _, _, _, _, _, ctX0_handOver, h1, h2, mcX0_handOver.1, (xinT 936 (by decide +kernel) (by decide +kernel)), mcX0_handOver.2.1, ⟨by decide +kernel, by decide +kernel, by decide +kernel⟩, by rw [if_pos rfl]; exact ⟨mcX0_handOver.2.2.1, mcX0_handOver.2.2.2, _, _, rfl⟩⟩
theorem dX0_carryOut_0 : decode cX0_carryOut 0 = .ok (.aload_n 1, 1) := by decide +kernel
theorem dX0_carryOut_1 : decode cX0_carryOut 1 = .ok (.iload_n 2, 1) := by decide +kernel
theorem dX0_carryOut_2 : decode cX0_carryOut 2 = .ok (.iconst 1, 1) := by decide +kernel
theorem dX0_carryOut_3 : decode cX0_carryOut 3 = .ok (.invokevirtual 43, 3) := by decide +kernel
theorem dX0_carryOut_6 : decode cX0_carryOut 6 = .ok (.istore_n 3, 1) := by decide +kernel
theorem dX0_carryOut_7 : decode cX0_carryOut 7 = .ok (.aload_n 1, 1) := by decide +kernel
theorem dX0_carryOut_8 : decode cX0_carryOut 8 = .ok (.iload_n 2, 1) := by decide +kernel
theorem dX0_carryOut_9 : decode cX0_carryOut 9 = .ok (.iconst 2, 1) := by decide +kernel
theorem dX0_carryOut_10 : decode cX0_carryOut 10 = .ok (.invokevirtual 43, 3) := by decide +kernel
theorem dX0_carryOut_13 : decode cX0_carryOut 13 = .ok (.istore 4, 2) := by decide +kernel
theorem dX0_carryOut_15 : decode cX0_carryOut 15 = .ok (.aload_n 1, 1) := by decide +kernel
theorem dX0_carryOut_16 : decode cX0_carryOut 16 = .ok (.iload_n 2, 1) := by decide +kernel
theorem dX0_carryOut_17 : decode cX0_carryOut 17 = .ok (.iconst 0, 1) := by decide +kernel
theorem dX0_carryOut_18 : decode cX0_carryOut 18 = .ok (.invokevirtual 43, 3) := by decide +kernel
theorem dX0_carryOut_21 : decode cX0_carryOut 21 = .ok (.tableswitch 94 0 5 #[39, 48, 58, 68, 76, 86], 39) := by decide +kernel
theorem dX0_carryOut_60 : decode cX0_carryOut 60 = .ok (.aload_n 0, 1) := by decide +kernel
theorem dX0_carryOut_61 : decode cX0_carryOut 61 = .ok (.iload_n 3, 1) := by decide +kernel
theorem dX0_carryOut_62 : decode cX0_carryOut 62 = .ok (.iconst 1, 1) := by decide +kernel
theorem dX0_carryOut_63 : decode cX0_carryOut 63 = .ok (.invokevirtual 73, 3) := by decide +kernel
theorem dX0_carryOut_66 : decode cX0_carryOut 66 = .ok (.goto 49, 3) := by decide +kernel
theorem dX0_carryOut_69 : decode cX0_carryOut 69 = .ok (.aload_n 0, 1) := by decide +kernel
theorem dX0_carryOut_70 : decode cX0_carryOut 70 = .ok (.iload 4, 2) := by decide +kernel
theorem dX0_carryOut_72 : decode cX0_carryOut 72 = .ok (.iconst 1, 1) := by decide +kernel
theorem dX0_carryOut_73 : decode cX0_carryOut 73 = .ok (.invokevirtual 73, 3) := by decide +kernel
theorem dX0_carryOut_76 : decode cX0_carryOut 76 = .ok (.goto 39, 3) := by decide +kernel
theorem dX0_carryOut_79 : decode cX0_carryOut 79 = .ok (.aload_n 0, 1) := by decide +kernel
theorem dX0_carryOut_80 : decode cX0_carryOut 80 = .ok (.iload 4, 2) := by decide +kernel
theorem dX0_carryOut_82 : decode cX0_carryOut 82 = .ok (.iconst 0, 1) := by decide +kernel
theorem dX0_carryOut_83 : decode cX0_carryOut 83 = .ok (.invokevirtual 73, 3) := by decide +kernel
theorem dX0_carryOut_86 : decode cX0_carryOut 86 = .ok (.goto 29, 3) := by decide +kernel
theorem dX0_carryOut_89 : decode cX0_carryOut 89 = .ok (.aload_n 0, 1) := by decide +kernel
theorem dX0_carryOut_90 : decode cX0_carryOut 90 = .ok (.iload_n 3, 1) := by decide +kernel
theorem dX0_carryOut_91 : decode cX0_carryOut 91 = .ok (.invokevirtual 77, 3) := by decide +kernel
theorem dX0_carryOut_94 : decode cX0_carryOut 94 = .ok (.goto 21, 3) := by decide +kernel
theorem dX0_carryOut_97 : decode cX0_carryOut 97 = .ok (.aload_n 0, 1) := by decide +kernel
theorem dX0_carryOut_98 : decode cX0_carryOut 98 = .ok (.iload_n 3, 1) := by decide +kernel
theorem dX0_carryOut_99 : decode cX0_carryOut 99 = .ok (.iload 4, 2) := by decide +kernel
theorem dX0_carryOut_101 : decode cX0_carryOut 101 = .ok (.invokevirtual 81, 3) := by decide +kernel
theorem dX0_carryOut_104 : decode cX0_carryOut 104 = .ok (.goto 11, 3) := by decide +kernel
theorem dX0_carryOut_107 : decode cX0_carryOut 107 = .ok (.aload_n 0, 1) := by decide +kernel
theorem dX0_carryOut_108 : decode cX0_carryOut 108 = .ok (.iload_n 3, 1) := by decide +kernel
theorem dX0_carryOut_109 : decode cX0_carryOut 109 = .ok (.invokevirtual 85, 3) := by decide +kernel
theorem dX0_carryOut_112 : decode cX0_carryOut 112 = .ok (.goto 3, 3) := by decide +kernel
theorem dX0_carryOut_115 : decode cX0_carryOut 115 = .ok (.return_, 1) := by decide +kernel
def zX0_carryOut (Qr : Option PV → Mem → Prop) : XZ := (RX0, 2, 46, 5, none, Qr)
noncomputable def fX0_carryOut (o : Nat) (x1 : Nat) (x2 : Int) (F : Mem) : Option Mem :=
  if x1 = 0 then none else
  (fX3_cell x1 x2 1 F).bind fun r2 =>
  if x1 = 0 then none else
  (fX3_cell x1 x2 2 F).bind fun r5 =>
  if x1 = 0 then none else
  (fX3_cell x1 x2 0 F).bind fun r8 =>
  if r8 = 0 then
    (fX0_handOver o r2 1 F).bind fun q11 =>
    some q11
  else
  if r8 = 1 then
    (fX0_handOver o r5 1 F).bind fun q14 =>
    some q14
  else
  if r8 = 2 then
    (fX0_handOver o r5 0 F).bind fun q17 =>
    some q17
  else
  if r8 = 3 then
    (fX0_giveBack o r2 F).bind fun q20 =>
    some q20
  else
  if r8 = 4 then
    (fX0_bequeath o r2 r5 F).bind fun q23 =>
    some q23
  else
  if r8 = 5 then
    (fX0_bury o r2 F).bind fun q26 =>
    some q26
  else
  some F
theorem fX0_carryOut_ok {Qr : Option PV → Mem → Prop} : ∀ (o : Nat) (x1 : Nat) (x2 : Int) (F : Mem) (res : Mem) (ho : isK o 0) (hx1 : x1 = 0 ∨ isK x1 3), fX0_carryOut o x1 x2 F = some res → Qr none res → PR cX0_carryOut (zX0_carryOut Qr) 0 [(0, vR o), (1, vR x1), (2, vI x2)] [] F := by
  intro o x1 x2 F res ho hx1 h hq
  refine s_aload_n (j := 1) dX0_carryOut_0 rfl rfl ?_
  refine s_iload_n (j := 2) dX0_carryOut_1 rfl rfl ?_
  refine s_iconst dX0_carryOut_2 (cin rfl) ?_
  obtain ⟨hn1, h⟩ := gdn h
  obtain ⟨r2, hv3, h⟩ := bnd h
  refine s_callV (As := [vI x2, vI 1]) (rest := []) (r := (some (vI r2))) (F' := F) dX0_carryOut_3 (clX0_43 (Nat.le_of_ble_eq_true rfl) (Nat.le_of_ble_eq_true rfl)) (hx1.resolve_left hn1) rfl ⟨_, _, _, _, rfl, (hx1.resolve_left hn1), hv3, rfl, rfl⟩ rfl (Nat.le_of_ble_eq_true rfl) ?_
  refine s_istore_n (ls' := [(3, vI r2), (0, vR o), (1, vR x1), (2, vI x2)]) dX0_carryOut_6 rfl (Nat.le_of_ble_eq_true rfl) rfl ?_
  refine s_aload_n (j := 2) dX0_carryOut_7 rfl rfl ?_
  refine s_iload_n (j := 3) dX0_carryOut_8 rfl rfl ?_
  refine s_iconst dX0_carryOut_9 (cin rfl) ?_
  obtain ⟨hn4, h⟩ := gdn h
  obtain ⟨r5, hv6, h⟩ := bnd h
  refine s_callV (As := [vI x2, vI 2]) (rest := []) (r := (some (vI r5))) (F' := F) dX0_carryOut_10 (clX0_43 (Nat.le_of_ble_eq_true rfl) (Nat.le_of_ble_eq_true rfl)) (hx1.resolve_left hn4) rfl ⟨_, _, _, _, rfl, (hx1.resolve_left hn4), hv6, rfl, rfl⟩ rfl (Nat.le_of_ble_eq_true rfl) ?_
  refine s_istore dX0_carryOut_13 (Nat.le_of_ble_eq_true rfl) rfl ?_
  refine s_aload_n (j := 3) dX0_carryOut_15 rfl rfl ?_
  refine s_iload_n (j := 4) dX0_carryOut_16 rfl rfl ?_
  refine s_iconst dX0_carryOut_17 (cin rfl) ?_
  obtain ⟨hn7, h⟩ := gdn h
  obtain ⟨r8, hv9, h⟩ := bnd h
  refine s_callV (As := [vI x2, vI 0]) (rest := []) (r := (some (vI r8))) (F' := F) dX0_carryOut_18 (clX0_43 (Nat.le_of_ble_eq_true rfl) (Nat.le_of_ble_eq_true rfl)) (hx1.resolve_left hn7) rfl ⟨_, _, _, _, rfl, (hx1.resolve_left hn7), hv9, rfl, rfl⟩ rfl (Nat.le_of_ble_eq_true rfl) ?_
  by_cases hc10 : r8 = 0
  · have h := ifp hc10 h
    refine s_tabIn (tgt := 60) (off := 39) dX0_carryOut_21 (by omega) (by omega) (by rw [hc10]; rfl) rfl ?_
    refine s_aload_n (j := 2) dX0_carryOut_60 rfl rfl ?_
    refine s_iload_n (j := 1) dX0_carryOut_61 rfl rfl ?_
    refine s_iconst dX0_carryOut_62 (cin rfl) ?_
    obtain ⟨q11, hv12, h⟩ := bnd h
    refine s_callV (As := [vI r2, vI 1]) (rest := []) (r := none) (F' := q11) dX0_carryOut_63 (clX0_73 (Nat.le_of_ble_eq_true rfl) (Nat.le_of_ble_eq_true rfl)) ho rfl ⟨_, _, _, _, rfl, ho, hv12, rfl, rfl⟩ rfl (Nat.le_of_ble_eq_true rfl) ?_
    refine s_goto (tgt := 115) dX0_carryOut_66 rfl ?_
    have h := Option.some.inj h
    subst h
    exact s_return dX0_carryOut_115 rfl hq
  have h := ifn hc10 h
  by_cases hc13 : r8 = 1
  · have h := ifp hc13 h
    refine s_tabIn (tgt := 69) (off := 48) dX0_carryOut_21 (by omega) (by omega) (by rw [hc13]; rfl) rfl ?_
    refine s_aload_n (j := 2) dX0_carryOut_69 rfl rfl ?_
    refine s_iload (j := 0) dX0_carryOut_70 rfl ?_
    refine s_iconst dX0_carryOut_72 (cin rfl) ?_
    obtain ⟨q14, hv15, h⟩ := bnd h
    refine s_callV (As := [vI r5, vI 1]) (rest := []) (r := none) (F' := q14) dX0_carryOut_73 (clX0_73 (Nat.le_of_ble_eq_true rfl) (Nat.le_of_ble_eq_true rfl)) ho rfl ⟨_, _, _, _, rfl, ho, hv15, rfl, rfl⟩ rfl (Nat.le_of_ble_eq_true rfl) ?_
    refine s_goto (tgt := 115) dX0_carryOut_76 rfl ?_
    have h := Option.some.inj h
    subst h
    exact s_return dX0_carryOut_115 rfl hq
  have h := ifn hc13 h
  by_cases hc16 : r8 = 2
  · have h := ifp hc16 h
    refine s_tabIn (tgt := 79) (off := 58) dX0_carryOut_21 (by omega) (by omega) (by rw [hc16]; rfl) rfl ?_
    refine s_aload_n (j := 2) dX0_carryOut_79 rfl rfl ?_
    refine s_iload (j := 0) dX0_carryOut_80 rfl ?_
    refine s_iconst dX0_carryOut_82 (cin rfl) ?_
    obtain ⟨q17, hv18, h⟩ := bnd h
    refine s_callV (As := [vI r5, vI 0]) (rest := []) (r := none) (F' := q17) dX0_carryOut_83 (clX0_73 (Nat.le_of_ble_eq_true rfl) (Nat.le_of_ble_eq_true rfl)) ho rfl ⟨_, _, _, _, rfl, ho, hv18, rfl, rfl⟩ rfl (Nat.le_of_ble_eq_true rfl) ?_
    refine s_goto (tgt := 115) dX0_carryOut_86 rfl ?_
    have h := Option.some.inj h
    subst h
    exact s_return dX0_carryOut_115 rfl hq
  have h := ifn hc16 h
  by_cases hc19 : r8 = 3
  · have h := ifp hc19 h
    refine s_tabIn (tgt := 89) (off := 68) dX0_carryOut_21 (by omega) (by omega) (by rw [hc19]; rfl) rfl ?_
    refine s_aload_n (j := 2) dX0_carryOut_89 rfl rfl ?_
    refine s_iload_n (j := 1) dX0_carryOut_90 rfl rfl ?_
    obtain ⟨q20, hv21, h⟩ := bnd h
    refine s_callV (As := [vI r2]) (rest := []) (r := none) (F' := q20) dX0_carryOut_91 (clX0_77 (Nat.le_of_ble_eq_true rfl) (Nat.le_of_ble_eq_true rfl)) ho rfl ⟨_, _, _, rfl, ho, hv21, rfl, rfl⟩ rfl (Nat.le_of_ble_eq_true rfl) ?_
    refine s_goto (tgt := 115) dX0_carryOut_94 rfl ?_
    have h := Option.some.inj h
    subst h
    exact s_return dX0_carryOut_115 rfl hq
  have h := ifn hc19 h
  by_cases hc22 : r8 = 4
  · have h := ifp hc22 h
    refine s_tabIn (tgt := 97) (off := 76) dX0_carryOut_21 (by omega) (by omega) (by rw [hc22]; rfl) rfl ?_
    refine s_aload_n (j := 2) dX0_carryOut_97 rfl rfl ?_
    refine s_iload_n (j := 1) dX0_carryOut_98 rfl rfl ?_
    refine s_iload (j := 0) dX0_carryOut_99 rfl ?_
    obtain ⟨q23, hv24, h⟩ := bnd h
    refine s_callV (As := [vI r2, vI r5]) (rest := []) (r := none) (F' := q23) dX0_carryOut_101 (clX0_81 (Nat.le_of_ble_eq_true rfl) (Nat.le_of_ble_eq_true rfl)) ho rfl ⟨_, _, _, _, rfl, ho, hv24, rfl, rfl⟩ rfl (Nat.le_of_ble_eq_true rfl) ?_
    refine s_goto (tgt := 115) dX0_carryOut_104 rfl ?_
    have h := Option.some.inj h
    subst h
    exact s_return dX0_carryOut_115 rfl hq
  have h := ifn hc22 h
  by_cases hc25 : r8 = 5
  · have h := ifp hc25 h
    refine s_tabIn (tgt := 107) (off := 86) dX0_carryOut_21 (by omega) (by omega) (by rw [hc25]; rfl) rfl ?_
    refine s_aload_n (j := 2) dX0_carryOut_107 rfl rfl ?_
    refine s_iload_n (j := 1) dX0_carryOut_108 rfl rfl ?_
    obtain ⟨q26, hv27, h⟩ := bnd h
    refine s_callV (As := [vI r2]) (rest := []) (r := none) (F' := q26) dX0_carryOut_109 (clX0_85 (Nat.le_of_ble_eq_true rfl) (Nat.le_of_ble_eq_true rfl)) ho rfl ⟨_, _, _, rfl, ho, hv27, rfl, rfl⟩ rfl (Nat.le_of_ble_eq_true rfl) ?_
    refine s_goto (tgt := 115) dX0_carryOut_112 rfl ?_
    have h := Option.some.inj h
    subst h
    exact s_return dX0_carryOut_115 rfl hq
  have h := ifn hc25 h
  refine s_tabOut (tgt := 115) dX0_carryOut_21 (by omega) rfl ?_
  have h := Option.some.inj h
  subst h
  exact s_return dX0_carryOut_115 rfl hq
def gX0_carryOut : XG := fun As F r F' => ∃ o : Nat, ∃ x1 : Nat, ∃ x2 : Int, ∃ res : Mem, As = [vR o, vR x1, vI x2] ∧ isK o 0 ∧ (x1 = 0 ∨ isK x1 3) ∧ fX0_carryOut o x1 x2 F = some res ∧ r = none ∧ F' = res
theorem ctX0_carryOut : xCT yX0_carryOut cX0_carryOut 5 (none) 2 46 gX0_carryOut := xmet (by decide +kernel) (fun As F r F' hg => by obtain ⟨o, x1, x2, res, rfl, ho, hx1, h, rfl, rfl⟩ := hg; exact Nat.le_of_ble_eq_true rfl) (fun As F r F' hg => by obtain ⟨o, x1, x2, res, rfl, ho, hx1, h, rfl, rfl⟩ := hg; exact fX0_carryOut_ok o x1 x2 _ _ ho hx1 h ⟨rfl, rfl⟩)
theorem mcX0_carryOut : Cond.code yX0_carryOut cX0_carryOut 5 (none) ∈ xw_T ∧ Cond.initialized yX0_carryOut.cls ∈ xw_T ∧ Cond.instanceMethod yX0_carryOut ∈ xw_T ∧ Cond.selects yX0_carryOut.cls yX0_carryOut yX0_carryOut ∈ xw_T := ⟨(xinT 935 (by decide +kernel) (by decide +kernel)), (xinT 122 (by decide +kernel) (by decide +kernel)), (xinT 934 (by decide +kernel) (by decide +kernel)), (xinT 18 (by decide +kernel) (by decide +kernel))⟩
theorem clX0_55 {fr lo : Nat} (h1 : 2 + 1 ≤ fr) (h2 : 8 + (5 + 11) + 46 ≤ lo) : xCall RX0 fr lo 0 55 0 2 gX0_carryOut := ⟨_, _, _, _, _, _, ctX0_carryOut, h1, h2, mcX0_carryOut.1, (xinT 932 (by decide +kernel) (by decide +kernel)), mcX0_carryOut.2.1, ⟨by decide +kernel, by decide +kernel, by decide +kernel⟩, by rw [if_pos rfl]; exact ⟨mcX0_carryOut.2.2.1, mcX0_carryOut.2.2.2, _, _, rfl⟩⟩
theorem dX0_findSlots_0 : decode cX0_findSlots 0 = .ok (.aload_n 1, 1) := by decide +kernel
theorem dX0_findSlots_1 : decode cX0_findSlots 1 = .ok (.iload_n 2, 1) := by decide +kernel
theorem dX0_findSlots_2 : decode cX0_findSlots 2 = .ok (.iconst 0, 1) := by decide +kernel
theorem dX0_findSlots_3 : decode cX0_findSlots 3 = .ok (.invokevirtual 43, 3) := by decide +kernel
theorem dX0_findSlots_6 : decode cX0_findSlots 6 = .ok (.ifCond .ne 7, 3) := by decide +kernel
theorem dX0_findSlots_9 : decode cX0_findSlots 9 = .ok (.iconst 2, 1) := by decide +kernel
theorem dX0_findSlots_10 : decode cX0_findSlots 10 = .ok (.goto 4, 3) := by decide +kernel
theorem dX0_findSlots_13 : decode cX0_findSlots 13 = .ok (.iconst 3, 1) := by decide +kernel
theorem dX0_findSlots_14 : decode cX0_findSlots 14 = .ok (.istore_n 3, 1) := by decide +kernel
theorem dX0_findSlots_15 : decode cX0_findSlots 15 = .ok (.aload_n 1, 1) := by decide +kernel
theorem dX0_findSlots_16 : decode cX0_findSlots 16 = .ok (.iload_n 2, 1) := by decide +kernel
theorem dX0_findSlots_17 : decode cX0_findSlots 17 = .ok (.iload_n 3, 1) := by decide +kernel
theorem dX0_findSlots_18 : decode cX0_findSlots 18 = .ok (.invokevirtual 43, 3) := by decide +kernel
theorem dX0_findSlots_21 : decode cX0_findSlots 21 = .ok (.bipush 48, 2) := by decide +kernel
theorem dX0_findSlots_23 : decode cX0_findSlots 23 = .ok (.imul, 1) := by decide +kernel
theorem dX0_findSlots_24 : decode cX0_findSlots 24 = .ok (.istore 4, 2) := by decide +kernel
theorem dX0_findSlots_26 : decode cX0_findSlots 26 = .ok (.aload_n 0, 1) := by decide +kernel
theorem dX0_findSlots_27 : decode cX0_findSlots 27 = .ok (.iconst 0, 1) := by decide +kernel
theorem dX0_findSlots_28 : decode cX0_findSlots 28 = .ok (.iload 4, 2) := by decide +kernel
theorem dX0_findSlots_30 : decode cX0_findSlots 30 = .ok (.aload_n 1, 1) := by decide +kernel
theorem dX0_findSlots_31 : decode cX0_findSlots 31 = .ok (.iload_n 2, 1) := by decide +kernel
theorem dX0_findSlots_32 : decode cX0_findSlots 32 = .ok (.iload_n 3, 1) := by decide +kernel
theorem dX0_findSlots_33 : decode cX0_findSlots 33 = .ok (.iconst 1, 1) := by decide +kernel
theorem dX0_findSlots_34 : decode cX0_findSlots 34 = .ok (.iadd, 1) := by decide +kernel
theorem dX0_findSlots_35 : decode cX0_findSlots 35 = .ok (.invokevirtual 43, 3) := by decide +kernel
theorem dX0_findSlots_38 : decode cX0_findSlots 38 = .ok (.iadd, 1) := by decide +kernel
theorem dX0_findSlots_39 : decode cX0_findSlots 39 = .ok (.invokestatic 70, 3) := by decide +kernel
theorem dX0_findSlots_42 : decode cX0_findSlots 42 = .ok (.putfield 28, 3) := by decide +kernel
theorem dX0_findSlots_45 : decode cX0_findSlots 45 = .ok (.aload_n 0, 1) := by decide +kernel
theorem dX0_findSlots_46 : decode cX0_findSlots 46 = .ok (.sipush 336, 3) := by decide +kernel
theorem dX0_findSlots_49 : decode cX0_findSlots 49 = .ok (.iload 4, 2) := by decide +kernel
theorem dX0_findSlots_51 : decode cX0_findSlots 51 = .ok (.aload_n 1, 1) := by decide +kernel
theorem dX0_findSlots_52 : decode cX0_findSlots 52 = .ok (.iload_n 2, 1) := by decide +kernel
theorem dX0_findSlots_53 : decode cX0_findSlots 53 = .ok (.iload_n 3, 1) := by decide +kernel
theorem dX0_findSlots_54 : decode cX0_findSlots 54 = .ok (.iconst 2, 1) := by decide +kernel
theorem dX0_findSlots_55 : decode cX0_findSlots 55 = .ok (.iadd, 1) := by decide +kernel
theorem dX0_findSlots_56 : decode cX0_findSlots 56 = .ok (.invokevirtual 43, 3) := by decide +kernel
theorem dX0_findSlots_59 : decode cX0_findSlots 59 = .ok (.iadd, 1) := by decide +kernel
theorem dX0_findSlots_60 : decode cX0_findSlots 60 = .ok (.invokestatic 58, 3) := by decide +kernel
theorem dX0_findSlots_63 : decode cX0_findSlots 63 = .ok (.putfield 32, 3) := by decide +kernel
theorem dX0_findSlots_66 : decode cX0_findSlots 66 = .ok (.return_, 1) := by decide +kernel
def zX0_findSlots (Qr : Option PV → Mem → Prop) : XZ := (RX0, 1, 40, 5, none, Qr)
noncomputable def fX0_findSlots_b14 (o : Nat) (x1 : Nat) (x2 : Int) (s0 : Int) (F : Mem) : Option Mem :=
  if x1 = 0 then none else
  (fX3_cell x1 x2 s0 F).bind fun r2 =>
  if x1 = 0 then none else
  (fX3_cell x1 x2 (xw (s0 + 1)) F).bind fun r5 =>
  if x1 = 0 then none else
  (fX3_cell x1 x2 (xw (s0 + 2)) (mset F o 5 (xmax 0 (xw ((xw (r2 * 48)) + r5))))).bind fun r8 =>
  some (mset (mset F o 5 (xmax 0 (xw ((xw (r2 * 48)) + r5)))) o 6 (xmin 336 (xw ((xw (r2 * 48)) + r8))))
noncomputable def fX0_findSlots (o : Nat) (x1 : Nat) (x2 : Int) (F : Mem) : Option Mem :=
  if x1 = 0 then none else
  (fX3_cell x1 x2 0 F).bind fun r2 =>
  if r2 ≠ 0 then
    fX0_findSlots_b14 o x1 x2 3 F
  else
    fX0_findSlots_b14 o x1 x2 2 F
theorem fX0_findSlots_b14_ok {Qr : Option PV → Mem → Prop}  : ∀ (o : Nat) (x1 : Nat) (x2 : Int) (s0 : Int) (F : Mem) (res : Mem) (ho : isK o 0) (hx1 : x1 = 0 ∨ isK x1 3), fX0_findSlots_b14 o x1 x2 s0 F = some res → Qr none res → PR cX0_findSlots (zX0_findSlots Qr) 14 [(0, vR o), (1, vR x1), (2, vI x2)] [vI s0] F := by
  intro o x1 x2 s0 F res ho hx1 h hq
  refine s_istore_n (ls' := [(3, vI s0), (0, vR o), (1, vR x1), (2, vI x2)]) dX0_findSlots_14 rfl (Nat.le_of_ble_eq_true rfl) rfl ?_
  refine s_aload_n (j := 2) dX0_findSlots_15 rfl rfl ?_
  refine s_iload_n (j := 3) dX0_findSlots_16 rfl rfl ?_
  refine s_iload_n (j := 0) dX0_findSlots_17 rfl rfl ?_
  obtain ⟨hn1, h⟩ := gdn h
  obtain ⟨r2, hv3, h⟩ := bnd h
  refine s_callV (As := [vI x2, vI s0]) (rest := []) (r := (some (vI r2))) (F' := F) dX0_findSlots_18 (clX0_43 (Nat.le_of_ble_eq_true rfl) (Nat.le_of_ble_eq_true rfl)) (hx1.resolve_left hn1) rfl ⟨_, _, _, _, rfl, (hx1.resolve_left hn1), hv3, rfl, rfl⟩ rfl (Nat.le_of_ble_eq_true rfl) ?_
  refine s_bipush dX0_findSlots_21 rfl (cin rfl) ?_
  refine s_imul dX0_findSlots_23 ?_
  refine s_istore dX0_findSlots_24 (Nat.le_of_ble_eq_true rfl) rfl ?_
  refine s_aload_n (j := 2) dX0_findSlots_26 rfl rfl ?_
  refine s_iconst dX0_findSlots_27 (cin rfl) ?_
  refine s_iload (j := 0) dX0_findSlots_28 rfl ?_
  refine s_aload_n (j := 3) dX0_findSlots_30 rfl rfl ?_
  refine s_iload_n (j := 4) dX0_findSlots_31 rfl rfl ?_
  refine s_iload_n (j := 1) dX0_findSlots_32 rfl rfl ?_
  refine s_iconst dX0_findSlots_33 (cin rfl) ?_
  refine s_iadd dX0_findSlots_34 ?_
  obtain ⟨hn4, h⟩ := gdn h
  obtain ⟨r5, hv6, h⟩ := bnd h
  refine s_callV (As := [vI x2, vI (xw (s0 + 1))]) (rest := [vI (xw (r2 * 48)), vI 0, vR o]) (r := (some (vI r5))) (F' := F) dX0_findSlots_35 (clX0_43 (Nat.le_of_ble_eq_true rfl) (Nat.le_of_ble_eq_true rfl)) (hx1.resolve_left hn4) rfl ⟨_, _, _, _, rfl, (hx1.resolve_left hn4), hv6, rfl, rfl⟩ rfl (Nat.le_of_ble_eq_true rfl) ?_
  refine s_iadd dX0_findSlots_38 ?_
  refine s_mmax dX0_findSlots_39 mtX0_70 (Nat.le_of_ble_eq_true rfl) ?_
  refine s_putI dX0_findSlots_42 flX0_28 fpX0_5 ho ?_
  refine s_aload_n (j := 2) dX0_findSlots_45 rfl rfl ?_
  refine s_sipush dX0_findSlots_46 rfl (cin rfl) ?_
  refine s_iload (j := 0) dX0_findSlots_49 rfl ?_
  refine s_aload_n (j := 3) dX0_findSlots_51 rfl rfl ?_
  refine s_iload_n (j := 4) dX0_findSlots_52 rfl rfl ?_
  refine s_iload_n (j := 1) dX0_findSlots_53 rfl rfl ?_
  refine s_iconst dX0_findSlots_54 (cin rfl) ?_
  refine s_iadd dX0_findSlots_55 ?_
  obtain ⟨hn7, h⟩ := gdn h
  obtain ⟨r8, hv9, h⟩ := bnd h
  refine s_callV (As := [vI x2, vI (xw (s0 + 2))]) (rest := [vI (xw (r2 * 48)), vI 336, vR o]) (r := (some (vI r8))) (F' := mset F o 5 (xmax 0 (xw ((xw (r2 * 48)) + r5)))) dX0_findSlots_56 (clX0_43 (Nat.le_of_ble_eq_true rfl) (Nat.le_of_ble_eq_true rfl)) (hx1.resolve_left hn7) rfl ⟨_, _, _, _, rfl, (hx1.resolve_left hn7), hv9, rfl, rfl⟩ rfl (Nat.le_of_ble_eq_true rfl) ?_
  refine s_iadd dX0_findSlots_59 ?_
  refine s_mmin dX0_findSlots_60 mtX0_58 (Nat.le_of_ble_eq_true rfl) ?_
  refine s_putI dX0_findSlots_63 flX0_32 fpX0_6 ho ?_
  have h := Option.some.inj h
  subst h
  exact s_return dX0_findSlots_66 rfl hq
theorem fX0_findSlots_ok {Qr : Option PV → Mem → Prop} : ∀ (o : Nat) (x1 : Nat) (x2 : Int) (F : Mem) (res : Mem) (ho : isK o 0) (hx1 : x1 = 0 ∨ isK x1 3), fX0_findSlots o x1 x2 F = some res → Qr none res → PR cX0_findSlots (zX0_findSlots Qr) 0 [(0, vR o), (1, vR x1), (2, vI x2)] [] F := by
  intro o x1 x2 F res ho hx1 h hq
  refine s_aload_n (j := 1) dX0_findSlots_0 rfl rfl ?_
  refine s_iload_n (j := 2) dX0_findSlots_1 rfl rfl ?_
  refine s_iconst dX0_findSlots_2 (cin rfl) ?_
  obtain ⟨hn1, h⟩ := gdn h
  obtain ⟨r2, hv3, h⟩ := bnd h
  refine s_callV (As := [vI x2, vI 0]) (rest := []) (r := (some (vI r2))) (F' := F) dX0_findSlots_3 (clX0_43 (Nat.le_of_ble_eq_true rfl) (Nat.le_of_ble_eq_true rfl)) (hx1.resolve_left hn1) rfl ⟨_, _, _, _, rfl, (hx1.resolve_left hn1), hv3, rfl, rfl⟩ rfl (Nat.le_of_ble_eq_true rfl) ?_
  refine s_if_ne (tgt := 13) dX0_findSlots_6 rfl (fun hc4 => ?_) (fun hc4 => ?_)
  · have h := ifp hc4 h
    refine s_iconst dX0_findSlots_13 (cin rfl) ?_
    exact s_sub (ks := [0, 1, 2]) rfl (fX0_findSlots_b14_ok o x1 x2 3 F _ ho hx1 h hq)
  · have h := ifn hc4 h
    refine s_iconst dX0_findSlots_9 (cin rfl) ?_
    refine s_goto (tgt := 14) dX0_findSlots_10 rfl ?_
    exact s_sub (ks := [0, 1, 2]) rfl (fX0_findSlots_b14_ok o x1 x2 2 F _ ho hx1 h hq)
def gX0_findSlots : XG := fun As F r F' => ∃ o : Nat, ∃ x1 : Nat, ∃ x2 : Int, ∃ res : Mem, As = [vR o, vR x1, vI x2] ∧ isK o 0 ∧ (x1 = 0 ∨ isK x1 3) ∧ fX0_findSlots o x1 x2 F = some res ∧ r = none ∧ F' = res
theorem ctX0_findSlots : xCT yX0_findSlots cX0_findSlots 5 (none) 1 40 gX0_findSlots := xmet (by decide +kernel) (fun As F r F' hg => by obtain ⟨o, x1, x2, res, rfl, ho, hx1, h, rfl, rfl⟩ := hg; exact Nat.le_of_ble_eq_true rfl) (fun As F r F' hg => by obtain ⟨o, x1, x2, res, rfl, ho, hx1, h, rfl, rfl⟩ := hg; exact fX0_findSlots_ok o x1 x2 _ _ ho hx1 h ⟨rfl, rfl⟩)
theorem mcX0_findSlots : Cond.code yX0_findSlots cX0_findSlots 5 (none) ∈ xw_T ∧ Cond.initialized yX0_findSlots.cls ∈ xw_T ∧ Cond.instanceMethod yX0_findSlots ∈ xw_T ∧ Cond.selects yX0_findSlots.cls yX0_findSlots yX0_findSlots ∈ xw_T := ⟨(xinT 917 (by decide +kernel) (by decide +kernel)), (xinT 122 (by decide +kernel) (by decide +kernel)), (xinT 916 (by decide +kernel) (by decide +kernel)), (xinT 14 (by decide +kernel) (by decide +kernel))⟩
theorem clX0_47 {fr lo : Nat} (h1 : 1 + 1 ≤ fr) (h2 : 8 + (5 + 11) + 40 ≤ lo) : xCall RX0 fr lo 0 47 0 2 gX0_findSlots := ⟨_, _, _, _, _, _, ctX0_findSlots, h1, h2, mcX0_findSlots.1, (xinT 914 (by decide +kernel) (by decide +kernel)), mcX0_findSlots.2.1, ⟨by decide +kernel, by decide +kernel, by decide +kernel⟩, by rw [if_pos rfl]; exact ⟨mcX0_findSlots.2.2.1, mcX0_findSlots.2.2.2, _, _, rfl⟩⟩
theorem dX0_replay_0 : decode cX0_replay 0 = .ok (.aload_n 0, 1) := by decide +kernel
theorem dX0_replay_1 : decode cX0_replay 1 = .ok (.invokevirtual 35, 3) := by decide +kernel
theorem dX0_replay_4 : decode cX0_replay 4 = .ok (.iconst 0, 1) := by decide +kernel
theorem dX0_replay_5 : decode cX0_replay 5 = .ok (.istore_n 3, 1) := by decide +kernel
theorem dX0_replay_6 : decode cX0_replay 6 = .ok (.iload_n 3, 1) := by decide +kernel
theorem dX0_replay_7 : decode cX0_replay 7 = .ok (.iload_n 2, 1) := by decide +kernel
theorem dX0_replay_8 : decode cX0_replay 8 = .ok (.if_icmp .ge 59, 3) := by decide +kernel
theorem dX0_replay_11 : decode cX0_replay 11 = .ok (.iload_n 3, 1) := by decide +kernel
theorem dX0_replay_12 : decode cX0_replay 12 = .ok (.aload_n 1, 1) := by decide +kernel
theorem dX0_replay_13 : decode cX0_replay 13 = .ok (.getfield 38, 3) := by decide +kernel
theorem dX0_replay_16 : decode cX0_replay 16 = .ok (.if_icmp .ge 51, 3) := by decide +kernel
theorem dX0_replay_19 : decode cX0_replay 19 = .ok (.aload_n 0, 1) := by decide +kernel
theorem dX0_replay_20 : decode cX0_replay 20 = .ok (.aload_n 1, 1) := by decide +kernel
theorem dX0_replay_21 : decode cX0_replay 21 = .ok (.aload_n 1, 1) := by decide +kernel
theorem dX0_replay_22 : decode cX0_replay 22 = .ok (.iload_n 3, 1) := by decide +kernel
theorem dX0_replay_23 : decode cX0_replay 23 = .ok (.iconst 0, 1) := by decide +kernel
theorem dX0_replay_24 : decode cX0_replay 24 = .ok (.invokevirtual 43, 3) := by decide +kernel
theorem dX0_replay_27 : decode cX0_replay 27 = .ok (.iconst 3, 1) := by decide +kernel
theorem dX0_replay_28 : decode cX0_replay 28 = .ok (.if_icmp .ne 12, 3) := by decide +kernel
theorem dX0_replay_31 : decode cX0_replay 31 = .ok (.aload_n 1, 1) := by decide +kernel
theorem dX0_replay_32 : decode cX0_replay 32 = .ok (.iload_n 3, 1) := by decide +kernel
theorem dX0_replay_33 : decode cX0_replay 33 = .ok (.iconst 1, 1) := by decide +kernel
theorem dX0_replay_34 : decode cX0_replay 34 = .ok (.invokevirtual 43, 3) := by decide +kernel
theorem dX0_replay_37 : decode cX0_replay 37 = .ok (.goto 4, 3) := by decide +kernel
theorem dX0_replay_40 : decode cX0_replay 40 = .ok (.iload_n 3, 1) := by decide +kernel
theorem dX0_replay_41 : decode cX0_replay 41 = .ok (.invokevirtual 47, 3) := by decide +kernel
theorem dX0_replay_44 : decode cX0_replay 44 = .ok (.aload_n 0, 1) := by decide +kernel
theorem dX0_replay_45 : decode cX0_replay 45 = .ok (.aload_n 1, 1) := by decide +kernel
theorem dX0_replay_46 : decode cX0_replay 46 = .ok (.iload_n 3, 1) := by decide +kernel
theorem dX0_replay_47 : decode cX0_replay 47 = .ok (.invokevirtual 51, 3) := by decide +kernel
theorem dX0_replay_50 : decode cX0_replay 50 = .ok (.ifCond .ne 5, 3) := by decide +kernel
theorem dX0_replay_53 : decode cX0_replay 53 = .ok (.iload_n 3, 1) := by decide +kernel
theorem dX0_replay_54 : decode cX0_replay 54 = .ok (.ireturn, 1) := by decide +kernel
theorem dX0_replay_55 : decode cX0_replay 55 = .ok (.aload_n 0, 1) := by decide +kernel
theorem dX0_replay_56 : decode cX0_replay 56 = .ok (.aload_n 1, 1) := by decide +kernel
theorem dX0_replay_57 : decode cX0_replay 57 = .ok (.iload_n 3, 1) := by decide +kernel
theorem dX0_replay_58 : decode cX0_replay 58 = .ok (.invokevirtual 55, 3) := by decide +kernel
theorem dX0_replay_61 : decode cX0_replay 61 = .ok (.iinc 3 1, 3) := by decide +kernel
theorem dX0_replay_64 : decode cX0_replay 64 = .ok (.goto (-58), 3) := by decide +kernel
theorem dX0_replay_67 : decode cX0_replay 67 = .ok (.iload_n 2, 1) := by decide +kernel
theorem dX0_replay_68 : decode cX0_replay 68 = .ok (.aload_n 1, 1) := by decide +kernel
theorem dX0_replay_69 : decode cX0_replay 69 = .ok (.getfield 38, 3) := by decide +kernel
theorem dX0_replay_72 : decode cX0_replay 72 = .ok (.invokestatic 58, 3) := by decide +kernel
theorem dX0_replay_75 : decode cX0_replay 75 = .ok (.ireturn, 1) := by decide +kernel
def zX0_replay (Qr : Option PV → Mem → Prop) : XZ := (RX0, 3, 70, 4, some FieldType.int, Qr)
noncomputable def fX0_replay_b67 (x1 : Nat) (x2 : Int) (F : Mem) : Option (Int × Mem) :=
  if x1 = 0 then none else
  some (xmin x2 (F x1 3), F)
noncomputable def fX0_replay_b41 (k6 : Nat → Nat → Int → Int → Mem → Option (Int × Mem)) (o : Nat) (x1 : Nat) (x2 : Int) (x3 : Int) (s0 : Nat) (s1 : Nat) (s2 : Int) (F : Mem) : Option (Int × Mem) :=
  (fX0_findSlots s0 s1 s2 F).bind fun q1 =>
  (fX0_canBe o x1 x3 q1).bind fun r3 =>
  if r3 ≠ 0 then
    (fX0_carryOut o x1 x3 q1).bind fun q6 =>
    k6 o x1 x2 (xw (x3 + 1)) q6
  else
    some (x3, q1)
noncomputable def fX0_replay_b6 : Nat → Nat → Nat → Int → Int → Mem → Option (Int × Mem)
  | 0, _, _, _, _, _ => none
  | n + 1, o, x1, x2, x3, F =>
    if x2 ≤ x3 then
      fX0_replay_b67 x1 x2 F
    else
      if x1 = 0 then none else
      if (F x1 3) ≤ x3 then
        fX0_replay_b67 x1 x2 F
      else
        if x1 = 0 then none else
        (fX3_cell x1 x3 0 F).bind fun r5 =>
        if r5 ≠ 3 then
          fX0_replay_b41 (fX0_replay_b6 n) o x1 x2 x3 o x1 x3 F
        else
          if x1 = 0 then none else
          (fX3_cell x1 x3 1 F).bind fun r9 =>
          fX0_replay_b41 (fX0_replay_b6 n) o x1 x2 x3 o x1 r9 F
noncomputable def fX0_replay (o : Nat) (x1 : Nat) (x2 : Int) (F : Mem) : Option (Int × Mem) :=
  (fX0_clear o F).bind fun q1 =>
  fX0_replay_b6 FU o x1 x2 0 q1
theorem fX0_replay_b67_ok {Qr : Option PV → Mem → Prop}  : ∀ (x1 : Nat) (x2 : Int) (F : Mem) (res : (Int × Mem)) (hx1 : x1 = 0 ∨ isK x1 3), fX0_replay_b67 x1 x2 F = some res → Qr (some (vI res.1)) res.2 → PR cX0_replay (zX0_replay Qr) 67 [(1, vR x1), (2, vI x2)] [] F := by
  intro x1 x2 F res hx1 h hq
  refine s_iload_n (j := 1) dX0_replay_67 rfl rfl ?_
  refine s_aload_n (j := 0) dX0_replay_68 rfl rfl ?_
  obtain ⟨hn1, h⟩ := gdn h
  refine s_getI dX0_replay_69 flX0_38 (hx1.resolve_left hn1) ?_
  refine s_mmin dX0_replay_72 mtX0_58 (Nat.le_of_ble_eq_true rfl) ?_
  have h := Option.some.inj h
  subst h
  exact s_ireturn dX0_replay_75 rfl hq
theorem fX0_replay_b41_ok {Qr : Option PV → Mem → Prop}  (k6 : Nat → Nat → Int → Int → Mem → Option (Int × Mem)) (hk6 : ∀ (o : Nat) (x1 : Nat) (x2 : Int) (x3 : Int) (F : Mem) (res : (Int × Mem)) (ho : isK o 0) (hx1 : x1 = 0 ∨ isK x1 3), k6 o x1 x2 x3 F = some res → Qr (some (vI res.1)) res.2 → PR cX0_replay (zX0_replay Qr) 6 [(0, vR o), (1, vR x1), (2, vI x2), (3, vI x3)] [] F) : ∀ (o : Nat) (x1 : Nat) (x2 : Int) (x3 : Int) (s0 : Nat) (s1 : Nat) (s2 : Int) (F : Mem) (res : (Int × Mem)) (ho : isK o 0) (hx1 : x1 = 0 ∨ isK x1 3) (hs0 : isK s0 0) (hs1 : s1 = 0 ∨ isK s1 3), fX0_replay_b41 k6 o x1 x2 x3 s0 s1 s2 F = some res → Qr (some (vI res.1)) res.2 → PR cX0_replay (zX0_replay Qr) 41 [(0, vR o), (1, vR x1), (2, vI x2), (3, vI x3)] [vI s2, vR s1, vR s0] F := by
  intro o x1 x2 x3 s0 s1 s2 F res ho hx1 hs0 hs1 h hq
  obtain ⟨q1, hv2, h⟩ := bnd h
  refine s_callV (As := [vR s1, vI s2]) (rest := []) (r := none) (F' := q1) dX0_replay_41 (clX0_47 (Nat.le_of_ble_eq_true rfl) (Nat.le_of_ble_eq_true rfl)) hs0 rfl ⟨_, _, _, _, rfl, hs0, hs1, hv2, rfl, rfl⟩ rfl (Nat.le_of_ble_eq_true rfl) ?_
  refine s_aload_n (j := 0) dX0_replay_44 rfl rfl ?_
  refine s_aload_n (j := 1) dX0_replay_45 rfl rfl ?_
  refine s_iload_n (j := 3) dX0_replay_46 rfl rfl ?_
  obtain ⟨r3, hv4, h⟩ := bnd h
  refine s_callV (As := [vR x1, vI x3]) (rest := []) (r := (some (vI r3))) (F' := q1) dX0_replay_47 (clX0_51 (Nat.le_of_ble_eq_true rfl) (Nat.le_of_ble_eq_true rfl)) ho rfl ⟨_, _, _, _, rfl, ho, hx1, hv4, rfl, rfl⟩ rfl (Nat.le_of_ble_eq_true rfl) ?_
  refine s_if_ne (tgt := 55) dX0_replay_50 rfl (fun hc5 => ?_) (fun hc5 => ?_)
  · have h := ifp hc5 h
    refine s_aload_n (j := 0) dX0_replay_55 rfl rfl ?_
    refine s_aload_n (j := 1) dX0_replay_56 rfl rfl ?_
    refine s_iload_n (j := 3) dX0_replay_57 rfl rfl ?_
    obtain ⟨q6, hv7, h⟩ := bnd h
    refine s_callV (As := [vR x1, vI x3]) (rest := []) (r := none) (F' := q6) dX0_replay_58 (clX0_55 (Nat.le_of_ble_eq_true rfl) (Nat.le_of_ble_eq_true rfl)) ho rfl ⟨_, _, _, _, rfl, ho, hx1, hv7, rfl, rfl⟩ rfl (Nat.le_of_ble_eq_true rfl) ?_
    refine s_iinc (ls' := [(3, vI (xw (x3 + 1))), (0, vR o), (1, vR x1), (2, vI x2)]) (j := 3) dX0_replay_61 rfl (Nat.le_of_ble_eq_true rfl) rfl ?_
    refine s_goto (tgt := 6) dX0_replay_64 rfl ?_
    exact s_sub (ks := [1, 2, 3, 0]) rfl (hk6 o x1 x2 (xw (x3 + 1)) q6 _ ho hx1 h hq)
  · have h := ifn hc5 h
    refine s_iload_n (j := 3) dX0_replay_53 rfl rfl ?_
    have h := Option.some.inj h
    subst h
    exact s_ireturn dX0_replay_54 rfl hq
theorem fX0_replay_b6_ok {Qr : Option PV → Mem → Prop}  : ∀ (n : Nat) (o : Nat) (x1 : Nat) (x2 : Int) (x3 : Int) (F : Mem) (res : (Int × Mem)) (ho : isK o 0) (hx1 : x1 = 0 ∨ isK x1 3), fX0_replay_b6 n o x1 x2 x3 F = some res → Qr (some (vI res.1)) res.2 → PR cX0_replay (zX0_replay Qr) 6 [(0, vR o), (1, vR x1), (2, vI x2), (3, vI x3)] [] F := by
  intro n
  induction n with
  | zero => intro o x1 x2 x3 F res ho hx1 h hq; exact nomatch (show (none : Option _) = some _ from h)
  | succ n ih =>
    intro o x1 x2 x3 F res ho hx1 h hq
    refine s_iload_n (j := 3) dX0_replay_6 rfl rfl ?_
    refine s_iload_n (j := 2) dX0_replay_7 rfl rfl ?_
    refine s_icmp_ge (tgt := 67) dX0_replay_8 rfl (fun hc1 => ?_) (fun hc1 => ?_)
    · have h := ifp hc1 h
      exact s_sub (ks := [1, 2]) rfl (fX0_replay_b67_ok x1 x2 F _ hx1 h hq)
    · have h := ifn hc1 h
      refine s_iload_n (j := 3) dX0_replay_11 rfl rfl ?_
      refine s_aload_n (j := 1) dX0_replay_12 rfl rfl ?_
      obtain ⟨hn2, h⟩ := gdn h
      refine s_getI dX0_replay_13 flX0_38 (hx1.resolve_left hn2) ?_
      refine s_icmp_ge (tgt := 67) dX0_replay_16 rfl (fun hc3 => ?_) (fun hc3 => ?_)
      · have h := ifp hc3 h
        exact s_sub (ks := [1, 2]) rfl (fX0_replay_b67_ok x1 x2 F _ hx1 h hq)
      · have h := ifn hc3 h
        refine s_aload_n (j := 0) dX0_replay_19 rfl rfl ?_
        refine s_aload_n (j := 1) dX0_replay_20 rfl rfl ?_
        refine s_aload_n (j := 1) dX0_replay_21 rfl rfl ?_
        refine s_iload_n (j := 3) dX0_replay_22 rfl rfl ?_
        refine s_iconst dX0_replay_23 (cin rfl) ?_
        obtain ⟨hn4, h⟩ := gdn h
        obtain ⟨r5, hv6, h⟩ := bnd h
        refine s_callV (As := [vI x3, vI 0]) (rest := [vR x1, vR o]) (r := (some (vI r5))) (F' := F) dX0_replay_24 (clX0_43 (Nat.le_of_ble_eq_true rfl) (Nat.le_of_ble_eq_true rfl)) (hx1.resolve_left hn4) rfl ⟨_, _, _, _, rfl, (hx1.resolve_left hn4), hv6, rfl, rfl⟩ rfl (Nat.le_of_ble_eq_true rfl) ?_
        refine s_iconst dX0_replay_27 (cin rfl) ?_
        refine s_icmp_ne (tgt := 40) dX0_replay_28 rfl (fun hc7 => ?_) (fun hc7 => ?_)
        · have h := ifp hc7 h
          refine s_iload_n (j := 3) dX0_replay_40 rfl rfl ?_
          exact s_sub (ks := [0, 1, 2, 3]) rfl (fX0_replay_b41_ok (fX0_replay_b6 n) ih o x1 x2 x3 o x1 x3 F _ ho hx1 ho hx1 h hq)
        · have h := ifn hc7 h
          refine s_aload_n (j := 1) dX0_replay_31 rfl rfl ?_
          refine s_iload_n (j := 3) dX0_replay_32 rfl rfl ?_
          refine s_iconst dX0_replay_33 (cin rfl) ?_
          obtain ⟨hn8, h⟩ := gdn h
          obtain ⟨r9, hv10, h⟩ := bnd h
          refine s_callV (As := [vI x3, vI 1]) (rest := [vR x1, vR o]) (r := (some (vI r9))) (F' := F) dX0_replay_34 (clX0_43 (Nat.le_of_ble_eq_true rfl) (Nat.le_of_ble_eq_true rfl)) (hx1.resolve_left hn8) rfl ⟨_, _, _, _, rfl, (hx1.resolve_left hn8), hv10, rfl, rfl⟩ rfl (Nat.le_of_ble_eq_true rfl) ?_
          refine s_goto (tgt := 41) dX0_replay_37 rfl ?_
          exact s_sub (ks := [0, 1, 2, 3]) rfl (fX0_replay_b41_ok (fX0_replay_b6 n) ih o x1 x2 x3 o x1 r9 F _ ho hx1 ho hx1 h hq)
theorem fX0_replay_ok {Qr : Option PV → Mem → Prop} : ∀ (o : Nat) (x1 : Nat) (x2 : Int) (F : Mem) (res : (Int × Mem)) (ho : isK o 0) (hx1 : x1 = 0 ∨ isK x1 3), fX0_replay o x1 x2 F = some res → Qr (some (vI res.1)) res.2 → PR cX0_replay (zX0_replay Qr) 0 [(0, vR o), (1, vR x1), (2, vI x2)] [] F := by
  intro o x1 x2 F res ho hx1 h hq
  refine s_aload_n (j := 0) dX0_replay_0 rfl rfl ?_
  obtain ⟨q1, hv2, h⟩ := bnd h
  refine s_callV (As := []) (rest := []) (r := none) (F' := q1) dX0_replay_1 (clX0_35 (Nat.le_of_ble_eq_true rfl) (Nat.le_of_ble_eq_true rfl)) ho rfl ⟨_, _, rfl, ho, hv2, rfl, rfl⟩ rfl (Nat.le_of_ble_eq_true rfl) ?_
  refine s_iconst dX0_replay_4 (cin rfl) ?_
  refine s_istore_n (ls' := [(3, vI 0), (0, vR o), (1, vR x1), (2, vI x2)]) dX0_replay_5 rfl (Nat.le_of_ble_eq_true rfl) rfl ?_
  exact s_sub (ks := [1, 2, 3, 0]) rfl (fX0_replay_b6_ok FU o x1 x2 0 q1 _ ho hx1 h hq)
def gX0_replay : XG := fun As F r F' => ∃ o : Nat, ∃ x1 : Nat, ∃ x2 : Int, ∃ res : (Int × Mem), As = [vR o, vR x1, vI x2] ∧ isK o 0 ∧ (x1 = 0 ∨ isK x1 3) ∧ fX0_replay o x1 x2 F = some res ∧ r = some (vI res.1) ∧ F' = res.2
theorem ctX0_replay : xCT yX0_replay cX0_replay 4 (some FieldType.int) 3 70 gX0_replay := xmet (by decide +kernel) (fun As F r F' hg => by obtain ⟨o, x1, x2, res, rfl, ho, hx1, h, rfl, rfl⟩ := hg; exact Nat.le_of_ble_eq_true rfl) (fun As F r F' hg => by obtain ⟨o, x1, x2, res, rfl, ho, hx1, h, rfl, rfl⟩ := hg; exact fX0_replay_ok o x1 x2 _ _ ho hx1 h ⟨rfl, rfl⟩)
theorem mcX0_replay : Cond.code yX0_replay cX0_replay 4 (some FieldType.int) ∈ xw_T ∧ Cond.initialized yX0_replay.cls ∈ xw_T ∧ Cond.instanceMethod yX0_replay ∈ xw_T ∧ Cond.selects yX0_replay.cls yX0_replay yX0_replay ∈ xw_T := ⟨(xinT 908 (by decide +kernel) (by decide +kernel)), (xinT 122 (by decide +kernel) (by decide +kernel)), (xinT 906 (by decide +kernel) (by decide +kernel)), (xinT 907 (by decide +kernel) (by decide +kernel))⟩
theorem clX9_212 {fr lo : Nat} (h1 : 3 + 1 ≤ fr) (h2 : 8 + (4 + 11) + 70 ≤ lo) : xCall RX9 fr lo 0 212 0 2 gX0_replay := ⟨_, _, _, _, _, _, ctX0_replay, h1, h2, mcX0_replay.1, (xinT 905 (by decide +kernel) (by decide +kernel)), mcX0_replay.2.1, ⟨by decide +kernel, by decide +kernel, by decide +kernel⟩, by rw [if_pos rfl]; exact ⟨mcX0_replay.2.2.1, mcX0_replay.2.2.2, _, _, rfl⟩⟩
theorem dX0_mayWork_0 : decode cX0_mayWork 0 = .ok (.aload_n 0, 1) := by decide +kernel
theorem dX0_mayWork_1 : decode cX0_mayWork 1 = .ok (.getfield 15, 3) := by decide +kernel
theorem dX0_mayWork_4 : decode cX0_mayWork 4 = .ok (.iload_n 1, 1) := by decide +kernel
theorem dX0_mayWork_5 : decode cX0_mayWork 5 = .ok (.bipush 48, 2) := by decide +kernel
theorem dX0_mayWork_7 : decode cX0_mayWork 7 = .ok (.imul, 1) := by decide +kernel
theorem dX0_mayWork_8 : decode cX0_mayWork 8 = .ok (.iload_n 2, 1) := by decide +kernel
theorem dX0_mayWork_9 : decode cX0_mayWork 9 = .ok (.iadd, 1) := by decide +kernel
theorem dX0_mayWork_10 : decode cX0_mayWork 10 = .ok (.iaload, 1) := by decide +kernel
theorem dX0_mayWork_11 : decode cX0_mayWork 11 = .ok (.istore 4, 2) := by decide +kernel
theorem dX0_mayWork_13 : decode cX0_mayWork 13 = .ok (.iload 4, 2) := by decide +kernel
theorem dX0_mayWork_15 : decode cX0_mayWork 15 = .ok (.iconst (-1), 1) := by decide +kernel
theorem dX0_mayWork_16 : decode cX0_mayWork 16 = .ok (.if_icmp .eq 9, 3) := by decide +kernel
theorem dX0_mayWork_19 : decode cX0_mayWork 19 = .ok (.iload 4, 2) := by decide +kernel
theorem dX0_mayWork_21 : decode cX0_mayWork 21 = .ok (.iload_n 3, 1) := by decide +kernel
theorem dX0_mayWork_22 : decode cX0_mayWork 22 = .ok (.if_icmp .ne 7, 3) := by decide +kernel
theorem dX0_mayWork_25 : decode cX0_mayWork 25 = .ok (.iconst 1, 1) := by decide +kernel
theorem dX0_mayWork_26 : decode cX0_mayWork 26 = .ok (.goto 4, 3) := by decide +kernel
theorem dX0_mayWork_29 : decode cX0_mayWork 29 = .ok (.iconst 0, 1) := by decide +kernel
theorem dX0_mayWork_30 : decode cX0_mayWork 30 = .ok (.ireturn, 1) := by decide +kernel
def zX0_mayWork (Qr : Option PV → Mem → Prop) : XZ := (RX0, 0, 0, 5, some FieldType.boolean, Qr)
noncomputable def fX0_mayWork (o : Nat) (x1 : Int) (x2 : Int) (x3 : Int) (F : Mem) : Option Int :=
  if (0 : Int) ≤ (xw ((xw (x1 * 48)) + x2)) ∧ (xw ((xw (x1 * 48)) + x2)) < (alen (o + 2) : Int) then
    if (F (o + 2) (xw ((xw (x1 * 48)) + x2)).toNat) = (-1) then
      some 1
    else
      if (F (o + 2) (xw ((xw (x1 * 48)) + x2)).toNat) ≠ x3 then
        some 0
      else
        some 1
  else none
theorem fX0_mayWork_ok {Qr : Option PV → Mem → Prop} : ∀ (o : Nat) (x1 : Int) (x2 : Int) (x3 : Int) (F : Mem) (res : Int) (ho : isK o 0), fX0_mayWork o x1 x2 x3 F = some res → Qr (some (vI res)) F → PR cX0_mayWork (zX0_mayWork Qr) 0 [(0, vR o), (1, vI x1), (2, vI x2), (3, vI x3)] [] F := by
  intro o x1 x2 x3 F res ho h hq
  refine s_aload_n (j := 0) dX0_mayWork_0 rfl rfl ?_
  refine s_getR dX0_mayWork_1 flX0_15 ho ?_
  refine s_iload_n (j := 1) dX0_mayWork_4 rfl rfl ?_
  refine s_bipush dX0_mayWork_5 rfl (cin rfl) ?_
  refine s_imul dX0_mayWork_7 ?_
  refine s_iload_n (j := 2) dX0_mayWork_8 rfl rfl ?_
  refine s_iadd dX0_mayWork_9 ?_
  obtain ⟨hb1, h⟩ := gd h
  refine s_iaload dX0_mayWork_10 (trX0_1 ho) hb1.1 hb1.2 ?_
  refine s_istore (ls' := [(4, vI (F (o + 2) (xw ((xw (x1 * 48)) + x2)).toNat)), (0, vR o), (1, vI x1), (2, vI x2), (3, vI x3)]) dX0_mayWork_11 (Nat.le_of_ble_eq_true rfl) rfl ?_
  refine s_iload (j := 0) dX0_mayWork_13 rfl ?_
  refine s_iconst dX0_mayWork_15 (cin rfl) ?_
  refine s_icmp_eq (tgt := 25) dX0_mayWork_16 rfl (fun hc2 => ?_) (fun hc2 => ?_)
  · have h := ifp hc2 h
    refine s_iconst dX0_mayWork_25 (cin rfl) ?_
    refine s_goto (tgt := 30) dX0_mayWork_26 rfl ?_
    have h := Option.some.inj h
    subst h
    exact s_zreturn dX0_mayWork_30 rfl (Or.inr rfl) hq
  · have h := ifn hc2 h
    refine s_iload (j := 0) dX0_mayWork_19 rfl ?_
    refine s_iload_n (j := 4) dX0_mayWork_21 rfl rfl ?_
    refine s_icmp_ne (tgt := 29) dX0_mayWork_22 rfl (fun hc3 => ?_) (fun hc3 => ?_)
    · have h := ifp hc3 h
      refine s_iconst dX0_mayWork_29 (cin rfl) ?_
      have h := Option.some.inj h
      subst h
      exact s_zreturn dX0_mayWork_30 rfl (Or.inl rfl) hq
    · have h := ifn hc3 h
      refine s_iconst dX0_mayWork_25 (cin rfl) ?_
      refine s_goto (tgt := 30) dX0_mayWork_26 rfl ?_
      have h := Option.some.inj h
      subst h
      exact s_zreturn dX0_mayWork_30 rfl (Or.inr rfl) hq
def gX0_mayWork : XG := fun As F r F' => ∃ o : Nat, ∃ x1 : Int, ∃ x2 : Int, ∃ x3 : Int, ∃ res : Int, As = [vR o, vI x1, vI x2, vI x3] ∧ isK o 0 ∧ fX0_mayWork o x1 x2 x3 F = some res ∧ r = some (vI res) ∧ F' = F
theorem ctX0_mayWork : xCT yX0_mayWork cX0_mayWork 5 (some FieldType.boolean) 0 0 gX0_mayWork := xmet (by decide +kernel) (fun As F r F' hg => by obtain ⟨o, x1, x2, x3, res, rfl, ho, h, rfl, rfl⟩ := hg; exact Nat.le_of_ble_eq_true rfl) (fun As F r F' hg => by obtain ⟨o, x1, x2, x3, res, rfl, ho, h, rfl, rfl⟩ := hg; exact fX0_mayWork_ok o x1 x2 x3 _ _ ho h ⟨rfl, rfl⟩)
theorem mcX0_mayWork : Cond.code yX0_mayWork cX0_mayWork 5 (some FieldType.boolean) ∈ xw_T ∧ Cond.initialized yX0_mayWork.cls ∈ xw_T ∧ Cond.instanceMethod yX0_mayWork ∈ xw_T ∧ Cond.selects yX0_mayWork.cls yX0_mayWork yX0_mayWork ∈ xw_T := ⟨(xinT 989 (by decide +kernel) (by decide +kernel)), (xinT 122 (by decide +kernel) (by decide +kernel)), (xinT 987 (by decide +kernel) (by decide +kernel)), (xinT 988 (by decide +kernel) (by decide +kernel))⟩
theorem clX1_99 {fr lo : Nat} (h1 : 0 + 1 ≤ fr) (h2 : 8 + (5 + 11) + 0 ≤ lo) : xCall RX1 fr lo 0 99 0 3 gX0_mayWork := ⟨_, _, _, _, _, _, ctX0_mayWork, h1, h2, mcX0_mayWork.1, (xinT 1039 (by decide +kernel) (by decide +kernel)), mcX0_mayWork.2.1, ⟨by decide +kernel, by decide +kernel, by decide +kernel⟩, by rw [if_pos rfl]; exact ⟨mcX0_mayWork.2.2.1, mcX0_mayWork.2.2.2, _, _, rfl⟩⟩
theorem clX9_385 {fr lo : Nat} (h1 : 0 + 1 ≤ fr) (h2 : 8 + (5 + 11) + 0 ≤ lo) : xCall RX9 fr lo 0 385 0 3 gX0_mayWork := ⟨_, _, _, _, _, _, ctX0_mayWork, h1, h2, mcX0_mayWork.1, (xinT 986 (by decide +kernel) (by decide +kernel)), mcX0_mayWork.2.1, ⟨by decide +kernel, by decide +kernel, by decide +kernel⟩, by rw [if_pos rfl]; exact ⟨mcX0_mayWork.2.2.1, mcX0_mayWork.2.2.2, _, _, rfl⟩⟩
theorem dX0_slotsOf_0 : decode cX0_slotsOf 0 = .ok (.iconst 0, 1) := by decide +kernel
theorem dX0_slotsOf_1 : decode cX0_slotsOf 1 = .ok (.istore_n 3, 1) := by decide +kernel
theorem dX0_slotsOf_2 : decode cX0_slotsOf 2 = .ok (.iconst 0, 1) := by decide +kernel
theorem dX0_slotsOf_3 : decode cX0_slotsOf 3 = .ok (.istore 4, 2) := by decide +kernel
theorem dX0_slotsOf_5 : decode cX0_slotsOf 5 = .ok (.iload 4, 2) := by decide +kernel
theorem dX0_slotsOf_7 : decode cX0_slotsOf 7 = .ok (.aload_n 1, 1) := by decide +kernel
theorem dX0_slotsOf_8 : decode cX0_slotsOf 8 = .ok (.arraylength, 1) := by decide +kernel
theorem dX0_slotsOf_9 : decode cX0_slotsOf 9 = .ok (.if_icmp .ge 25, 3) := by decide +kernel
theorem dX0_slotsOf_12 : decode cX0_slotsOf 12 = .ok (.iload_n 3, 1) := by decide +kernel
theorem dX0_slotsOf_13 : decode cX0_slotsOf 13 = .ok (.aload_n 1, 1) := by decide +kernel
theorem dX0_slotsOf_14 : decode cX0_slotsOf 14 = .ok (.iload 4, 2) := by decide +kernel
theorem dX0_slotsOf_16 : decode cX0_slotsOf 16 = .ok (.iaload, 1) := by decide +kernel
theorem dX0_slotsOf_17 : decode cX0_slotsOf 17 = .ok (.iload_n 2, 1) := by decide +kernel
theorem dX0_slotsOf_18 : decode cX0_slotsOf 18 = .ok (.if_icmp .ne 7, 3) := by decide +kernel
theorem dX0_slotsOf_21 : decode cX0_slotsOf 21 = .ok (.iconst 1, 1) := by decide +kernel
theorem dX0_slotsOf_22 : decode cX0_slotsOf 22 = .ok (.goto 4, 3) := by decide +kernel
theorem dX0_slotsOf_25 : decode cX0_slotsOf 25 = .ok (.iconst 0, 1) := by decide +kernel
theorem dX0_slotsOf_26 : decode cX0_slotsOf 26 = .ok (.iadd, 1) := by decide +kernel
theorem dX0_slotsOf_27 : decode cX0_slotsOf 27 = .ok (.istore_n 3, 1) := by decide +kernel
theorem dX0_slotsOf_28 : decode cX0_slotsOf 28 = .ok (.iinc 4 1, 3) := by decide +kernel
theorem dX0_slotsOf_31 : decode cX0_slotsOf 31 = .ok (.goto (-26), 3) := by decide +kernel
theorem dX0_slotsOf_34 : decode cX0_slotsOf 34 = .ok (.iload_n 3, 1) := by decide +kernel
theorem dX0_slotsOf_35 : decode cX0_slotsOf 35 = .ok (.ireturn, 1) := by decide +kernel
def zX0_slotsOf (Qr : Option PV → Mem → Prop) : XZ := (RX0, 0, 0, 5, some FieldType.int, Qr)
noncomputable def fX0_slotsOf_b5 (F : Mem) : Nat → Nat → Int → Int → Int → Option Int
  | 0, _, _, _, _ => none
  | n + 1, x1, x2, x3, x4 =>
    if x1 = 0 then none else
    if (alen x1 : Int) ≤ x4 then
      some x3
    else
      if x1 = 0 then none else
      if (0 : Int) ≤ x4 ∧ x4 < (alen x1 : Int) then
        if (F x1 x4.toNat) ≠ x2 then
          fX0_slotsOf_b5 F n x1 x2 (xw (x3 + 0)) (xw (x4 + 1))
        else
          fX0_slotsOf_b5 F n x1 x2 (xw (x3 + 1)) (xw (x4 + 1))
      else none
noncomputable def fX0_slotsOf (o : Nat) (x1 : Nat) (x2 : Int) (F : Mem) : Option Int :=
  fX0_slotsOf_b5 F FU x1 x2 0 0
theorem fX0_slotsOf_b5_ok {Qr : Option PV → Mem → Prop}  (F : Mem) : ∀ (n : Nat) (x1 : Nat) (x2 : Int) (x3 : Int) (x4 : Int) (res : Int) (hx1 : x1 = 0 ∨ isA x1 0), fX0_slotsOf_b5 F n x1 x2 x3 x4 = some res → Qr (some (vI res)) F → PR cX0_slotsOf (zX0_slotsOf Qr) 5 [(1, vR x1), (2, vI x2), (3, vI x3), (4, vI x4)] [] F := by
  intro n
  induction n with
  | zero => intro x1 x2 x3 x4 res hx1 h hq; exact nomatch (show (none : Option _) = some _ from h)
  | succ n ih =>
    intro x1 x2 x3 x4 res hx1 h hq
    refine s_iload (j := 3) dX0_slotsOf_5 rfl ?_
    refine s_aload_n (j := 0) dX0_slotsOf_7 rfl rfl ?_
    obtain ⟨hn1, h⟩ := gdn h
    refine s_alen dX0_slotsOf_8 (hx1.resolve_left hn1) ?_
    refine s_icmp_ge (tgt := 34) dX0_slotsOf_9 rfl (fun hc2 => ?_) (fun hc2 => ?_)
    · have h := ifp hc2 h
      refine s_iload_n (j := 2) dX0_slotsOf_34 rfl rfl ?_
      have h := Option.some.inj h
      subst h
      exact s_ireturn dX0_slotsOf_35 rfl hq
    · have h := ifn hc2 h
      refine s_iload_n (j := 2) dX0_slotsOf_12 rfl rfl ?_
      refine s_aload_n (j := 0) dX0_slotsOf_13 rfl rfl ?_
      refine s_iload (j := 3) dX0_slotsOf_14 rfl ?_
      obtain ⟨hn3, h⟩ := gdn h
      obtain ⟨hb4, h⟩ := gd h
      refine s_iaload dX0_slotsOf_16 (hx1.resolve_left hn3) hb4.1 hb4.2 ?_
      refine s_iload_n (j := 1) dX0_slotsOf_17 rfl rfl ?_
      refine s_icmp_ne (tgt := 25) dX0_slotsOf_18 rfl (fun hc5 => ?_) (fun hc5 => ?_)
      · have h := ifp hc5 h
        refine s_iconst dX0_slotsOf_25 (cin rfl) ?_
        refine s_iadd dX0_slotsOf_26 ?_
        refine s_istore_n (ls' := [(3, vI (xw (x3 + 0))), (1, vR x1), (2, vI x2), (4, vI x4)]) dX0_slotsOf_27 rfl (Nat.le_of_ble_eq_true rfl) rfl ?_
        refine s_iinc (j := 3) dX0_slotsOf_28 rfl (Nat.le_of_ble_eq_true rfl) rfl ?_
        refine s_goto (tgt := 5) dX0_slotsOf_31 rfl ?_
        exact s_sub (ks := [2, 3, 1, 0]) rfl (ih x1 x2 (xw (x3 + 0)) (xw (x4 + 1)) _ hx1 h hq)
      · have h := ifn hc5 h
        refine s_iconst dX0_slotsOf_21 (cin rfl) ?_
        refine s_goto (tgt := 26) dX0_slotsOf_22 rfl ?_
        refine s_iadd dX0_slotsOf_26 ?_
        refine s_istore_n (ls' := [(3, vI (xw (x3 + 1))), (1, vR x1), (2, vI x2), (4, vI x4)]) dX0_slotsOf_27 rfl (Nat.le_of_ble_eq_true rfl) rfl ?_
        refine s_iinc (j := 3) dX0_slotsOf_28 rfl (Nat.le_of_ble_eq_true rfl) rfl ?_
        refine s_goto (tgt := 5) dX0_slotsOf_31 rfl ?_
        exact s_sub (ks := [2, 3, 1, 0]) rfl (ih x1 x2 (xw (x3 + 1)) (xw (x4 + 1)) _ hx1 h hq)
theorem fX0_slotsOf_ok {Qr : Option PV → Mem → Prop} : ∀ (o : Nat) (x1 : Nat) (x2 : Int) (F : Mem) (res : Int) (ho : isK o 0) (hx1 : x1 = 0 ∨ isA x1 0), fX0_slotsOf o x1 x2 F = some res → Qr (some (vI res)) F → PR cX0_slotsOf (zX0_slotsOf Qr) 0 [(0, vR o), (1, vR x1), (2, vI x2)] [] F := by
  intro o x1 x2 F res ho hx1 h hq
  refine s_iconst dX0_slotsOf_0 (cin rfl) ?_
  refine s_istore_n (ls' := [(3, vI 0), (0, vR o), (1, vR x1), (2, vI x2)]) dX0_slotsOf_1 rfl (Nat.le_of_ble_eq_true rfl) rfl ?_
  refine s_iconst dX0_slotsOf_2 (cin rfl) ?_
  refine s_istore dX0_slotsOf_3 (Nat.le_of_ble_eq_true rfl) rfl ?_
  exact s_sub (ks := [3, 4, 1, 0]) rfl (fX0_slotsOf_b5_ok F FU x1 x2 0 0 _ hx1 h hq)
def gX0_slotsOf : XG := fun As F r F' => ∃ o : Nat, ∃ x1 : Nat, ∃ x2 : Int, ∃ res : Int, As = [vR o, vR x1, vI x2] ∧ isK o 0 ∧ (x1 = 0 ∨ isA x1 0) ∧ fX0_slotsOf o x1 x2 F = some res ∧ r = some (vI res) ∧ F' = F
theorem ctX0_slotsOf : xCT yX0_slotsOf cX0_slotsOf 5 (some FieldType.int) 0 0 gX0_slotsOf := xmet (by decide +kernel) (fun As F r F' hg => by obtain ⟨o, x1, x2, res, rfl, ho, hx1, h, rfl, rfl⟩ := hg; exact Nat.le_of_ble_eq_true rfl) (fun As F r F' hg => by obtain ⟨o, x1, x2, res, rfl, ho, hx1, h, rfl, rfl⟩ := hg; exact fX0_slotsOf_ok o x1 x2 _ _ ho hx1 h ⟨rfl, rfl⟩)
theorem mcX0_slotsOf : Cond.code yX0_slotsOf cX0_slotsOf 5 (some FieldType.int) ∈ xw_T ∧ Cond.initialized yX0_slotsOf.cls ∈ xw_T ∧ Cond.instanceMethod yX0_slotsOf ∈ xw_T ∧ Cond.selects yX0_slotsOf.cls yX0_slotsOf yX0_slotsOf ∈ xw_T := ⟨(xinT 975 (by decide +kernel) (by decide +kernel)), (xinT 122 (by decide +kernel) (by decide +kernel)), (xinT 973 (by decide +kernel) (by decide +kernel)), (xinT 974 (by decide +kernel) (by decide +kernel))⟩
theorem clX9_228 {fr lo : Nat} (h1 : 0 + 1 ≤ fr) (h2 : 8 + (5 + 11) + 0 ≤ lo) : xCall RX9 fr lo 0 228 0 2 gX0_slotsOf := ⟨_, _, _, _, _, _, ctX0_slotsOf, h1, h2, mcX0_slotsOf.1, (xinT 972 (by decide +kernel) (by decide +kernel)), mcX0_slotsOf.2.1, ⟨by decide +kernel, by decide +kernel, by decide +kernel⟩, by rw [if_pos rfl]; exact ⟨mcX0_slotsOf.2.2.1, mcX0_slotsOf.2.2.2, _, _, rfl⟩⟩
theorem dX0_slotsHeldUnlike_0 : decode cX0_slotsHeldUnlike 0 = .ok (.iconst 0, 1) := by decide +kernel
theorem dX0_slotsHeldUnlike_1 : decode cX0_slotsHeldUnlike 1 = .ok (.istore_n 2, 1) := by decide +kernel
theorem dX0_slotsHeldUnlike_2 : decode cX0_slotsHeldUnlike 2 = .ok (.iconst 0, 1) := by decide +kernel
theorem dX0_slotsHeldUnlike_3 : decode cX0_slotsHeldUnlike 3 = .ok (.istore_n 3, 1) := by decide +kernel
theorem dX0_slotsHeldUnlike_4 : decode cX0_slotsHeldUnlike 4 = .ok (.iload_n 3, 1) := by decide +kernel
theorem dX0_slotsHeldUnlike_5 : decode cX0_slotsHeldUnlike 5 = .ok (.sipush 336, 3) := by decide +kernel
theorem dX0_slotsHeldUnlike_8 : decode cX0_slotsHeldUnlike 8 = .ok (.if_icmp .ge 32, 3) := by decide +kernel
theorem dX0_slotsHeldUnlike_11 : decode cX0_slotsHeldUnlike 11 = .ok (.iload_n 2, 1) := by decide +kernel
theorem dX0_slotsHeldUnlike_12 : decode cX0_slotsHeldUnlike 12 = .ok (.aload_n 0, 1) := by decide +kernel
theorem dX0_slotsHeldUnlike_13 : decode cX0_slotsHeldUnlike 13 = .ok (.getfield 15, 3) := by decide +kernel
theorem dX0_slotsHeldUnlike_16 : decode cX0_slotsHeldUnlike 16 = .ok (.iload_n 3, 1) := by decide +kernel
theorem dX0_slotsHeldUnlike_17 : decode cX0_slotsHeldUnlike 17 = .ok (.iaload, 1) := by decide +kernel
theorem dX0_slotsHeldUnlike_18 : decode cX0_slotsHeldUnlike 18 = .ok (.aload_n 1, 1) := by decide +kernel
theorem dX0_slotsHeldUnlike_19 : decode cX0_slotsHeldUnlike 19 = .ok (.getfield 15, 3) := by decide +kernel
theorem dX0_slotsHeldUnlike_22 : decode cX0_slotsHeldUnlike 22 = .ok (.iload_n 3, 1) := by decide +kernel
theorem dX0_slotsHeldUnlike_23 : decode cX0_slotsHeldUnlike 23 = .ok (.iaload, 1) := by decide +kernel
theorem dX0_slotsHeldUnlike_24 : decode cX0_slotsHeldUnlike 24 = .ok (.if_icmp .ne 7, 3) := by decide +kernel
theorem dX0_slotsHeldUnlike_27 : decode cX0_slotsHeldUnlike 27 = .ok (.iconst 0, 1) := by decide +kernel
theorem dX0_slotsHeldUnlike_28 : decode cX0_slotsHeldUnlike 28 = .ok (.goto 4, 3) := by decide +kernel
theorem dX0_slotsHeldUnlike_31 : decode cX0_slotsHeldUnlike 31 = .ok (.iconst 1, 1) := by decide +kernel
theorem dX0_slotsHeldUnlike_32 : decode cX0_slotsHeldUnlike 32 = .ok (.iadd, 1) := by decide +kernel
theorem dX0_slotsHeldUnlike_33 : decode cX0_slotsHeldUnlike 33 = .ok (.istore_n 2, 1) := by decide +kernel
theorem dX0_slotsHeldUnlike_34 : decode cX0_slotsHeldUnlike 34 = .ok (.iinc 3 1, 3) := by decide +kernel
theorem dX0_slotsHeldUnlike_37 : decode cX0_slotsHeldUnlike 37 = .ok (.goto (-33), 3) := by decide +kernel
theorem dX0_slotsHeldUnlike_40 : decode cX0_slotsHeldUnlike 40 = .ok (.iload_n 2, 1) := by decide +kernel
theorem dX0_slotsHeldUnlike_41 : decode cX0_slotsHeldUnlike 41 = .ok (.ireturn, 1) := by decide +kernel
def zX0_slotsHeldUnlike (Qr : Option PV → Mem → Prop) : XZ := (RX0, 0, 0, 4, some FieldType.int, Qr)
noncomputable def fX0_slotsHeldUnlike_b4 (F : Mem) : Nat → Nat → Nat → Int → Int → Option Int
  | 0, _, _, _, _ => none
  | n + 1, o, x1, x2, x3 =>
    if 336 ≤ x3 then
      some x2
    else
      if (0 : Int) ≤ x3 ∧ x3 < (alen (o + 2) : Int) then
        if x1 = 0 then none else
        if (0 : Int) ≤ x3 ∧ x3 < (alen (x1 + 2) : Int) then
          if (F (o + 2) x3.toNat) ≠ (F (x1 + 2) x3.toNat) then
            fX0_slotsHeldUnlike_b4 F n o x1 (xw (x2 + 1)) (xw (x3 + 1))
          else
            fX0_slotsHeldUnlike_b4 F n o x1 (xw (x2 + 0)) (xw (x3 + 1))
        else none
      else none
noncomputable def fX0_slotsHeldUnlike (o : Nat) (x1 : Nat) (F : Mem) : Option Int :=
  fX0_slotsHeldUnlike_b4 F FU o x1 0 0
theorem fX0_slotsHeldUnlike_b4_ok {Qr : Option PV → Mem → Prop}  (F : Mem) : ∀ (n : Nat) (o : Nat) (x1 : Nat) (x2 : Int) (x3 : Int) (res : Int) (ho : isK o 0) (hx1 : x1 = 0 ∨ isK x1 0), fX0_slotsHeldUnlike_b4 F n o x1 x2 x3 = some res → Qr (some (vI res)) F → PR cX0_slotsHeldUnlike (zX0_slotsHeldUnlike Qr) 4 [(0, vR o), (1, vR x1), (2, vI x2), (3, vI x3)] [] F := by
  intro n
  induction n with
  | zero => intro o x1 x2 x3 res ho hx1 h hq; exact nomatch (show (none : Option _) = some _ from h)
  | succ n ih =>
    intro o x1 x2 x3 res ho hx1 h hq
    refine s_iload_n (j := 3) dX0_slotsHeldUnlike_4 rfl rfl ?_
    refine s_sipush dX0_slotsHeldUnlike_5 rfl (cin rfl) ?_
    refine s_icmp_ge (tgt := 40) dX0_slotsHeldUnlike_8 rfl (fun hc1 => ?_) (fun hc1 => ?_)
    · have h := ifp hc1 h
      refine s_iload_n (j := 2) dX0_slotsHeldUnlike_40 rfl rfl ?_
      have h := Option.some.inj h
      subst h
      exact s_ireturn dX0_slotsHeldUnlike_41 rfl hq
    · have h := ifn hc1 h
      refine s_iload_n (j := 2) dX0_slotsHeldUnlike_11 rfl rfl ?_
      refine s_aload_n (j := 0) dX0_slotsHeldUnlike_12 rfl rfl ?_
      refine s_getR dX0_slotsHeldUnlike_13 flX0_15 ho ?_
      refine s_iload_n (j := 3) dX0_slotsHeldUnlike_16 rfl rfl ?_
      obtain ⟨hb2, h⟩ := gd h
      refine s_iaload dX0_slotsHeldUnlike_17 (trX0_1 ho) hb2.1 hb2.2 ?_
      refine s_aload_n (j := 1) dX0_slotsHeldUnlike_18 rfl rfl ?_
      obtain ⟨hn3, h⟩ := gdn h
      refine s_getR dX0_slotsHeldUnlike_19 flX0_15 (hx1.resolve_left hn3) ?_
      refine s_iload_n (j := 3) dX0_slotsHeldUnlike_22 rfl rfl ?_
      obtain ⟨hb4, h⟩ := gd h
      refine s_iaload dX0_slotsHeldUnlike_23 (trX0_1 (hx1.resolve_left hn3)) hb4.1 hb4.2 ?_
      refine s_icmp_ne (tgt := 31) dX0_slotsHeldUnlike_24 rfl (fun hc5 => ?_) (fun hc5 => ?_)
      · have h := ifp hc5 h
        refine s_iconst dX0_slotsHeldUnlike_31 (cin rfl) ?_
        refine s_iadd dX0_slotsHeldUnlike_32 ?_
        refine s_istore_n (ls' := [(2, vI (xw (x2 + 1))), (0, vR o), (1, vR x1), (3, vI x3)]) dX0_slotsHeldUnlike_33 rfl (Nat.le_of_ble_eq_true rfl) rfl ?_
        refine s_iinc (j := 3) dX0_slotsHeldUnlike_34 rfl (Nat.le_of_ble_eq_true rfl) rfl ?_
        refine s_goto (tgt := 4) dX0_slotsHeldUnlike_37 rfl ?_
        exact s_sub (ks := [2, 3, 1, 0]) rfl (ih o x1 (xw (x2 + 1)) (xw (x3 + 1)) _ ho hx1 h hq)
      · have h := ifn hc5 h
        refine s_iconst dX0_slotsHeldUnlike_27 (cin rfl) ?_
        refine s_goto (tgt := 32) dX0_slotsHeldUnlike_28 rfl ?_
        refine s_iadd dX0_slotsHeldUnlike_32 ?_
        refine s_istore_n (ls' := [(2, vI (xw (x2 + 0))), (0, vR o), (1, vR x1), (3, vI x3)]) dX0_slotsHeldUnlike_33 rfl (Nat.le_of_ble_eq_true rfl) rfl ?_
        refine s_iinc (j := 3) dX0_slotsHeldUnlike_34 rfl (Nat.le_of_ble_eq_true rfl) rfl ?_
        refine s_goto (tgt := 4) dX0_slotsHeldUnlike_37 rfl ?_
        exact s_sub (ks := [2, 3, 1, 0]) rfl (ih o x1 (xw (x2 + 0)) (xw (x3 + 1)) _ ho hx1 h hq)
theorem fX0_slotsHeldUnlike_ok {Qr : Option PV → Mem → Prop} : ∀ (o : Nat) (x1 : Nat) (F : Mem) (res : Int) (ho : isK o 0) (hx1 : x1 = 0 ∨ isK x1 0), fX0_slotsHeldUnlike o x1 F = some res → Qr (some (vI res)) F → PR cX0_slotsHeldUnlike (zX0_slotsHeldUnlike Qr) 0 [(0, vR o), (1, vR x1)] [] F := by
  intro o x1 F res ho hx1 h hq
  refine s_iconst dX0_slotsHeldUnlike_0 (cin rfl) ?_
  refine s_istore_n (ls' := [(2, vI 0), (0, vR o), (1, vR x1)]) dX0_slotsHeldUnlike_1 rfl (Nat.le_of_ble_eq_true rfl) rfl ?_
  refine s_iconst dX0_slotsHeldUnlike_2 (cin rfl) ?_
  refine s_istore_n dX0_slotsHeldUnlike_3 rfl (Nat.le_of_ble_eq_true rfl) rfl ?_
  exact s_sub (ks := [2, 3, 1, 0]) rfl (fX0_slotsHeldUnlike_b4_ok F FU o x1 0 0 _ ho hx1 h hq)
def gX0_slotsHeldUnlike : XG := fun As F r F' => ∃ o : Nat, ∃ x1 : Nat, ∃ res : Int, As = [vR o, vR x1] ∧ isK o 0 ∧ (x1 = 0 ∨ isK x1 0) ∧ fX0_slotsHeldUnlike o x1 F = some res ∧ r = some (vI res) ∧ F' = F
theorem ctX0_slotsHeldUnlike : xCT yX0_slotsHeldUnlike cX0_slotsHeldUnlike 4 (some FieldType.int) 0 0 gX0_slotsHeldUnlike := xmet (by decide +kernel) (fun As F r F' hg => by obtain ⟨o, x1, res, rfl, ho, hx1, h, rfl, rfl⟩ := hg; exact Nat.le_of_ble_eq_true rfl) (fun As F r F' hg => by obtain ⟨o, x1, res, rfl, ho, hx1, h, rfl, rfl⟩ := hg; exact fX0_slotsHeldUnlike_ok o x1 _ _ ho hx1 h ⟨rfl, rfl⟩)
theorem mcX0_slotsHeldUnlike : Cond.code yX0_slotsHeldUnlike cX0_slotsHeldUnlike 4 (some FieldType.int) ∈ xw_T ∧ Cond.initialized yX0_slotsHeldUnlike.cls ∈ xw_T ∧ Cond.instanceMethod yX0_slotsHeldUnlike ∈ xw_T ∧ Cond.selects yX0_slotsHeldUnlike.cls yX0_slotsHeldUnlike yX0_slotsHeldUnlike ∈ xw_T := ⟨(xinT 997 (by decide +kernel) (by decide +kernel)), (xinT 122 (by decide +kernel) (by decide +kernel)), (xinT 995 (by decide +kernel) (by decide +kernel)), (xinT 996 (by decide +kernel) (by decide +kernel))⟩
theorem clX9_242 {fr lo : Nat} (h1 : 0 + 1 ≤ fr) (h2 : 8 + (4 + 11) + 0 ≤ lo) : xCall RX9 fr lo 0 242 0 1 gX0_slotsHeldUnlike := ⟨_, _, _, _, _, _, ctX0_slotsHeldUnlike, h1, h2, mcX0_slotsHeldUnlike.1, (xinT 994 (by decide +kernel) (by decide +kernel)), mcX0_slotsHeldUnlike.2.1, ⟨by decide +kernel, by decide +kernel, by decide +kernel⟩, by rw [if_pos rfl]; exact ⟨mcX0_slotsHeldUnlike.2.2.1, mcX0_slotsHeldUnlike.2.2.2, _, _, rfl⟩⟩
