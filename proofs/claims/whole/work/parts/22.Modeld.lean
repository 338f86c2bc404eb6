theorem dX10_longest_0 : decode cX10_longest 0 = .ok (.iconst 0, 1) := by decide +kernel
theorem dX10_longest_1 : decode cX10_longest 1 = .ok (.istore_n 1, 1) := by decide +kernel
theorem dX10_longest_2 : decode cX10_longest 2 = .ok (.iconst 0, 1) := by decide +kernel
theorem dX10_longest_3 : decode cX10_longest 3 = .ok (.istore_n 2, 1) := by decide +kernel
theorem dX10_longest_4 : decode cX10_longest 4 = .ok (.iconst (-1), 1) := by decide +kernel
theorem dX10_longest_5 : decode cX10_longest 5 = .ok (.istore_n 3, 1) := by decide +kernel
theorem dX10_longest_6 : decode cX10_longest 6 = .ok (.iconst 0, 1) := by decide +kernel
theorem dX10_longest_7 : decode cX10_longest 7 = .ok (.istore 4, 2) := by decide +kernel
theorem dX10_longest_9 : decode cX10_longest 9 = .ok (.iload 4, 2) := by decide +kernel
theorem dX10_longest_11 : decode cX10_longest 11 = .ok (.aload_n 0, 1) := by decide +kernel
theorem dX10_longest_12 : decode cX10_longest 12 = .ok (.iconst 0, 1) := by decide +kernel
theorem dX10_longest_13 : decode cX10_longest 13 = .ok (.invokevirtual 181, 3) := by decide +kernel
theorem dX10_longest_16 : decode cX10_longest 16 = .ok (.if_icmp .ge 59, 3) := by decide +kernel
theorem dX10_longest_19 : decode cX10_longest 19 = .ok (.aload_n 0, 1) := by decide +kernel
theorem dX10_longest_20 : decode cX10_longest 20 = .ok (.iload 4, 2) := by decide +kernel
theorem dX10_longest_22 : decode cX10_longest 22 = .ok (.invokevirtual 359, 3) := by decide +kernel
theorem dX10_longest_25 : decode cX10_longest 25 = .ok (.aload_n 0, 1) := by decide +kernel
theorem dX10_longest_26 : decode cX10_longest 26 = .ok (.getfield 333, 3) := by decide +kernel
theorem dX10_longest_29 : decode cX10_longest 29 = .ok (.iconst (-1), 1) := by decide +kernel
theorem dX10_longest_30 : decode cX10_longest 30 = .ok (.if_icmp .ne 7, 3) := by decide +kernel
theorem dX10_longest_33 : decode cX10_longest 33 = .ok (.iconst 0, 1) := by decide +kernel
theorem dX10_longest_34 : decode cX10_longest 34 = .ok (.goto 18, 3) := by decide +kernel
theorem dX10_longest_37 : decode cX10_longest 37 = .ok (.aload_n 0, 1) := by decide +kernel
theorem dX10_longest_38 : decode cX10_longest 38 = .ok (.getfield 333, 3) := by decide +kernel
theorem dX10_longest_41 : decode cX10_longest 41 = .ok (.iload_n 3, 1) := by decide +kernel
theorem dX10_longest_42 : decode cX10_longest 42 = .ok (.if_icmp .ne 9, 3) := by decide +kernel
theorem dX10_longest_45 : decode cX10_longest 45 = .ok (.iload_n 2, 1) := by decide +kernel
theorem dX10_longest_46 : decode cX10_longest 46 = .ok (.iconst 1, 1) := by decide +kernel
theorem dX10_longest_47 : decode cX10_longest 47 = .ok (.iadd, 1) := by decide +kernel
theorem dX10_longest_48 : decode cX10_longest 48 = .ok (.goto 4, 3) := by decide +kernel
theorem dX10_longest_51 : decode cX10_longest 51 = .ok (.iconst 1, 1) := by decide +kernel
theorem dX10_longest_52 : decode cX10_longest 52 = .ok (.istore_n 2, 1) := by decide +kernel
theorem dX10_longest_53 : decode cX10_longest 53 = .ok (.aload_n 0, 1) := by decide +kernel
theorem dX10_longest_54 : decode cX10_longest 54 = .ok (.getfield 333, 3) := by decide +kernel
theorem dX10_longest_57 : decode cX10_longest 57 = .ok (.istore_n 3, 1) := by decide +kernel
theorem dX10_longest_58 : decode cX10_longest 58 = .ok (.iload_n 2, 1) := by decide +kernel
theorem dX10_longest_59 : decode cX10_longest 59 = .ok (.iload_n 1, 1) := by decide +kernel
theorem dX10_longest_60 : decode cX10_longest 60 = .ok (.if_icmp .le 7, 3) := by decide +kernel
theorem dX10_longest_63 : decode cX10_longest 63 = .ok (.iload_n 2, 1) := by decide +kernel
theorem dX10_longest_64 : decode cX10_longest 64 = .ok (.goto 4, 3) := by decide +kernel
theorem dX10_longest_67 : decode cX10_longest 67 = .ok (.iload_n 1, 1) := by decide +kernel
theorem dX10_longest_68 : decode cX10_longest 68 = .ok (.istore_n 1, 1) := by decide +kernel
theorem dX10_longest_69 : decode cX10_longest 69 = .ok (.iinc 4 1, 3) := by decide +kernel
theorem dX10_longest_72 : decode cX10_longest 72 = .ok (.goto (-63), 3) := by decide +kernel
theorem dX10_longest_75 : decode cX10_longest 75 = .ok (.iload_n 1, 1) := by decide +kernel
theorem dX10_longest_76 : decode cX10_longest 76 = .ok (.ireturn, 1) := by decide +kernel
def zX10_longest (Qr : Option PV → Mem → Prop) : XZ := (RX10, 5, 122, 5, some FieldType.int, Qr)
noncomputable def fX10_longest_b52 (k9 : Nat → Int → Int → Int → Int → Mem → Option (Int × Mem)) (o : Nat) (x1 : Int) (x4 : Int) (s0 : Int) (F : Mem) : Option (Int × Mem) :=
  if s0 ≤ x1 then
    k9 o x1 s0 (F o 38) (xw (x4 + 1)) F
  else
    k9 o s0 s0 (F o 38) (xw (x4 + 1)) F
noncomputable def fX10_longest_b9 : Nat → Nat → Int → Int → Int → Int → Mem → Option (Int × Mem)
  | 0, _, _, _, _, _, _ => none
  | n + 1, o, x1, x2, x3, x4, F =>
    (fX10_of o 0 F).bind fun r1 =>
    if r1 ≤ x4 then
      some (x1, F)
    else
      (fX10_walksTo o x4 F).bind fun q4 =>
      if (q4 o 38) ≠ (-1) then
        if (q4 o 38) ≠ x3 then
          fX10_longest_b52 (fX10_longest_b9 n) o x1 x4 1 q4
        else
          fX10_longest_b52 (fX10_longest_b9 n) o x1 x4 (xw (x2 + 1)) q4
      else
        fX10_longest_b52 (fX10_longest_b9 n) o x1 x4 0 q4
noncomputable def fX10_longest (o : Nat) (F : Mem) : Option (Int × Mem) :=
  fX10_longest_b9 FU o 0 0 (-1) 0 F
theorem fX10_longest_b52_ok {Qr : Option PV → Mem → Prop}  (k9 : Nat → Int → Int → Int → Int → Mem → Option (Int × Mem)) (hk9 : ∀ (o : Nat) (x1 : Int) (x2 : Int) (x3 : Int) (x4 : Int) (F : Mem) (res : (Int × Mem)) (ho : isK o 10), k9 o x1 x2 x3 x4 F = some res → Qr (some (vI res.1)) res.2 → PR cX10_longest (zX10_longest Qr) 9 [(0, vR o), (1, vI x1), (2, vI x2), (3, vI x3), (4, vI x4)] [] F) : ∀ (o : Nat) (x1 : Int) (x4 : Int) (s0 : Int) (F : Mem) (res : (Int × Mem)) (ho : isK o 10), fX10_longest_b52 k9 o x1 x4 s0 F = some res → Qr (some (vI res.1)) res.2 → PR cX10_longest (zX10_longest Qr) 52 [(0, vR o), (1, vI x1), (4, vI x4)] [vI s0] F := by
  intro o x1 x4 s0 F res ho h hq
  refine s_istore_n (ls' := [(2, vI s0), (0, vR o), (1, vI x1), (4, vI x4)]) dX10_longest_52 rfl (Nat.le_of_ble_eq_true rfl) rfl ?_
  refine s_aload_n (j := 1) dX10_longest_53 rfl rfl ?_
  refine s_getI dX10_longest_54 flX10_333 ho ?_
  refine s_istore_n dX10_longest_57 rfl (Nat.le_of_ble_eq_true rfl) rfl ?_
  refine s_iload_n (j := 1) dX10_longest_58 rfl rfl ?_
  refine s_iload_n (j := 3) dX10_longest_59 rfl rfl ?_
  refine s_icmp_le (tgt := 67) dX10_longest_60 rfl (fun hc1 => ?_) (fun hc1 => ?_)
  · have h := ifp hc1 h
    refine s_iload_n (j := 3) dX10_longest_67 rfl rfl ?_
    refine s_istore_n (ls' := [(1, vI x1), (3, vI (F o 38)), (2, vI s0), (0, vR o), (4, vI x4)]) dX10_longest_68 rfl (Nat.le_of_ble_eq_true rfl) rfl ?_
    refine s_iinc (j := 4) dX10_longest_69 rfl (Nat.le_of_ble_eq_true rfl) rfl ?_
    refine s_goto (tgt := 9) dX10_longest_72 rfl ?_
    exact s_sub (ks := [4, 1, 3, 2, 0]) rfl (hk9 o x1 s0 (F o 38) (xw (x4 + 1)) F _ ho h hq)
  · have h := ifn hc1 h
    refine s_iload_n (j := 1) dX10_longest_63 rfl rfl ?_
    refine s_goto (tgt := 68) dX10_longest_64 rfl ?_
    refine s_istore_n (ls' := [(1, vI s0), (3, vI (F o 38)), (2, vI s0), (0, vR o), (4, vI x4)]) dX10_longest_68 rfl (Nat.le_of_ble_eq_true rfl) rfl ?_
    refine s_iinc (j := 4) dX10_longest_69 rfl (Nat.le_of_ble_eq_true rfl) rfl ?_
    refine s_goto (tgt := 9) dX10_longest_72 rfl ?_
    exact s_sub (ks := [4, 1, 3, 2, 0]) rfl (hk9 o s0 s0 (F o 38) (xw (x4 + 1)) F _ ho h hq)
theorem fX10_longest_b9_ok {Qr : Option PV → Mem → Prop}  : ∀ (n : Nat) (o : Nat) (x1 : Int) (x2 : Int) (x3 : Int) (x4 : Int) (F : Mem) (res : (Int × Mem)) (ho : isK o 10), fX10_longest_b9 n o x1 x2 x3 x4 F = some res → Qr (some (vI res.1)) res.2 → PR cX10_longest (zX10_longest Qr) 9 [(0, vR o), (1, vI x1), (2, vI x2), (3, vI x3), (4, vI x4)] [] F := by
  intro n
  induction n with
  | zero => intro o x1 x2 x3 x4 F res ho h hq; exact nomatch (show (none : Option _) = some _ from h)
  | succ n ih =>
    intro o x1 x2 x3 x4 F res ho h hq
    refine s_iload (j := 4) dX10_longest_9 rfl ?_
    refine s_aload_n (j := 0) dX10_longest_11 rfl rfl ?_
    refine s_iconst dX10_longest_12 (cin rfl) ?_
    obtain ⟨r1, hv2, h⟩ := bnd h
    refine s_callV (As := [vI 0]) (rest := [vI x4]) (r := (some (vI r1))) (F' := F) dX10_longest_13 (clX10_181 (Nat.le_of_ble_eq_true rfl) (Nat.le_of_ble_eq_true rfl)) ho rfl ⟨_, _, _, rfl, ho, hv2, rfl, rfl⟩ rfl (Nat.le_of_ble_eq_true rfl) ?_
    refine s_icmp_ge (tgt := 75) dX10_longest_16 rfl (fun hc3 => ?_) (fun hc3 => ?_)
    · have h := ifp hc3 h
      refine s_iload_n (j := 1) dX10_longest_75 rfl rfl ?_
      have h := Option.some.inj h
      subst h
      exact s_ireturn dX10_longest_76 rfl hq
    · have h := ifn hc3 h
      refine s_aload_n (j := 0) dX10_longest_19 rfl rfl ?_
      refine s_iload (j := 4) dX10_longest_20 rfl ?_
      obtain ⟨q4, hv5, h⟩ := bnd h
      refine s_callV (As := [vI x4]) (rest := []) (r := none) (F' := q4) dX10_longest_22 (clX10_359 (Nat.le_of_ble_eq_true rfl) (Nat.le_of_ble_eq_true rfl)) ho rfl ⟨_, _, _, rfl, ho, hv5, rfl, rfl⟩ rfl (Nat.le_of_ble_eq_true rfl) ?_
      refine s_aload_n (j := 0) dX10_longest_25 rfl rfl ?_
      refine s_getI dX10_longest_26 flX10_333 ho ?_
      refine s_iconst dX10_longest_29 (cin rfl) ?_
      refine s_icmp_ne (tgt := 37) dX10_longest_30 rfl (fun hc6 => ?_) (fun hc6 => ?_)
      · have h := ifp hc6 h
        refine s_aload_n (j := 0) dX10_longest_37 rfl rfl ?_
        refine s_getI dX10_longest_38 flX10_333 ho ?_
        refine s_iload_n (j := 3) dX10_longest_41 rfl rfl ?_
        refine s_icmp_ne (tgt := 51) dX10_longest_42 rfl (fun hc7 => ?_) (fun hc7 => ?_)
        · have h := ifp hc7 h
          refine s_iconst dX10_longest_51 (cin rfl) ?_
          exact s_sub (ks := [0, 1, 4]) rfl (fX10_longest_b52_ok (fX10_longest_b9 n) ih o x1 x4 1 q4 _ ho h hq)
        · have h := ifn hc7 h
          refine s_iload_n (j := 2) dX10_longest_45 rfl rfl ?_
          refine s_iconst dX10_longest_46 (cin rfl) ?_
          refine s_iadd dX10_longest_47 ?_
          refine s_goto (tgt := 52) dX10_longest_48 rfl ?_
          exact s_sub (ks := [0, 1, 4]) rfl (fX10_longest_b52_ok (fX10_longest_b9 n) ih o x1 x4 (xw (x2 + 1)) q4 _ ho h hq)
      · have h := ifn hc6 h
        refine s_iconst dX10_longest_33 (cin rfl) ?_
        refine s_goto (tgt := 52) dX10_longest_34 rfl ?_
        exact s_sub (ks := [0, 1, 4]) rfl (fX10_longest_b52_ok (fX10_longest_b9 n) ih o x1 x4 0 q4 _ ho h hq)
theorem fX10_longest_ok {Qr : Option PV → Mem → Prop} : ∀ (o : Nat) (F : Mem) (res : (Int × Mem)) (ho : isK o 10), fX10_longest o F = some res → Qr (some (vI res.1)) res.2 → PR cX10_longest (zX10_longest Qr) 0 [(0, vR o)] [] F := by
  intro o F res ho h hq
  refine s_iconst dX10_longest_0 (cin rfl) ?_
  refine s_istore_n (ls' := [(1, vI 0), (0, vR o)]) dX10_longest_1 rfl (Nat.le_of_ble_eq_true rfl) rfl ?_
  refine s_iconst dX10_longest_2 (cin rfl) ?_
  refine s_istore_n dX10_longest_3 rfl (Nat.le_of_ble_eq_true rfl) rfl ?_
  refine s_iconst dX10_longest_4 (cin rfl) ?_
  refine s_istore_n (ls' := [(3, vI (-1)), (2, vI 0), (1, vI 0), (0, vR o)]) dX10_longest_5 rfl (Nat.le_of_ble_eq_true rfl) rfl ?_
  refine s_iconst dX10_longest_6 (cin rfl) ?_
  refine s_istore dX10_longest_7 (Nat.le_of_ble_eq_true rfl) rfl ?_
  exact s_sub (ks := [4, 3, 2, 1, 0]) rfl (fX10_longest_b9_ok FU o 0 0 (-1) 0 F _ ho h hq)
def gX10_longest : XG := fun As F r F' => ∃ o : Nat, ∃ res : (Int × Mem), As = [vR o] ∧ isK o 10 ∧ fX10_longest o F = some res ∧ r = some (vI res.1) ∧ F' = res.2
theorem ctX10_longest : xCT yX10_longest cX10_longest 5 (some FieldType.int) 5 122 gX10_longest := xmet (by decide +kernel) (fun As F r F' hg => by obtain ⟨o, res, rfl, ho, h, rfl, rfl⟩ := hg; exact Nat.le_of_ble_eq_true rfl) (fun As F r F' hg => by obtain ⟨o, res, rfl, ho, h, rfl, rfl⟩ := hg; exact fX10_longest_ok o _ _ ho h ⟨rfl, rfl⟩)
theorem mcX10_longest : Cond.code yX10_longest cX10_longest 5 (some FieldType.int) ∈ xw_T ∧ Cond.initialized yX10_longest.cls ∈ xw_T ∧ Cond.instanceMethod yX10_longest ∈ xw_T ∧ Cond.selects yX10_longest.cls yX10_longest yX10_longest ∈ xw_T := ⟨(xinT 1870 (by decide +kernel) (by decide +kernel)), (xinT 127 (by decide +kernel) (by decide +kernel)), (xinT 1869 (by decide +kernel) (by decide +kernel)), (xinT 105 (by decide +kernel) (by decide +kernel))⟩
theorem clX10_399 {fr lo : Nat} (h1 : 5 + 1 ≤ fr) (h2 : 8 + (5 + 11) + 122 ≤ lo) : xCall RX10 fr lo 0 399 10 0 gX10_longest := ⟨_, _, _, _, _, _, ctX10_longest, h1, h2, mcX10_longest.1, (xinT 1867 (by decide +kernel) (by decide +kernel)), mcX10_longest.2.1, ⟨by decide +kernel, by decide +kernel, by decide +kernel⟩, by rw [if_pos rfl]; exact ⟨mcX10_longest.2.2.1, mcX10_longest.2.2.2, _, _, rfl⟩⟩
theorem dX10_dearest_0 : decode cX10_dearest 0 = .ok (.iconst (-1), 1) := by decide +kernel
theorem dX10_dearest_1 : decode cX10_dearest 1 = .ok (.istore_n 1, 1) := by decide +kernel
theorem dX10_dearest_2 : decode cX10_dearest 2 = .ok (.iconst 0, 1) := by decide +kernel
theorem dX10_dearest_3 : decode cX10_dearest 3 = .ok (.istore_n 2, 1) := by decide +kernel
theorem dX10_dearest_4 : decode cX10_dearest 4 = .ok (.iconst 0, 1) := by decide +kernel
theorem dX10_dearest_5 : decode cX10_dearest 5 = .ok (.istore_n 3, 1) := by decide +kernel
theorem dX10_dearest_6 : decode cX10_dearest 6 = .ok (.iload_n 3, 1) := by decide +kernel
theorem dX10_dearest_7 : decode cX10_dearest 7 = .ok (.aload_n 0, 1) := by decide +kernel
theorem dX10_dearest_8 : decode cX10_dearest 8 = .ok (.iconst 0, 1) := by decide +kernel
theorem dX10_dearest_9 : decode cX10_dearest 9 = .ok (.invokevirtual 181, 3) := by decide +kernel
theorem dX10_dearest_12 : decode cX10_dearest 12 = .ok (.if_icmp .ge 34, 3) := by decide +kernel
theorem dX10_dearest_15 : decode cX10_dearest 15 = .ok (.aload_n 0, 1) := by decide +kernel
theorem dX10_dearest_16 : decode cX10_dearest 16 = .ok (.iconst (-1), 1) := by decide +kernel
theorem dX10_dearest_17 : decode cX10_dearest 17 = .ok (.iload_n 3, 1) := by decide +kernel
theorem dX10_dearest_18 : decode cX10_dearest 18 = .ok (.iload_n 3, 1) := by decide +kernel
theorem dX10_dearest_19 : decode cX10_dearest 19 = .ok (.iconst 1, 1) := by decide +kernel
theorem dX10_dearest_20 : decode cX10_dearest 20 = .ok (.iadd, 1) := by decide +kernel
theorem dX10_dearest_21 : decode cX10_dearest 21 = .ok (.invokevirtual 368, 3) := by decide +kernel
theorem dX10_dearest_24 : decode cX10_dearest 24 = .ok (.istore 4, 2) := by decide +kernel
theorem dX10_dearest_26 : decode cX10_dearest 26 = .ok (.iload 4, 2) := by decide +kernel
theorem dX10_dearest_28 : decode cX10_dearest 28 = .ok (.iload_n 2, 1) := by decide +kernel
theorem dX10_dearest_29 : decode cX10_dearest 29 = .ok (.if_icmp .gt 6, 3) := by decide +kernel
theorem dX10_dearest_32 : decode cX10_dearest 32 = .ok (.goto 8, 3) := by decide +kernel
theorem dX10_dearest_35 : decode cX10_dearest 35 = .ok (.iload_n 3, 1) := by decide +kernel
theorem dX10_dearest_36 : decode cX10_dearest 36 = .ok (.istore_n 1, 1) := by decide +kernel
theorem dX10_dearest_37 : decode cX10_dearest 37 = .ok (.iload 4, 2) := by decide +kernel
theorem dX10_dearest_39 : decode cX10_dearest 39 = .ok (.istore_n 2, 1) := by decide +kernel
theorem dX10_dearest_40 : decode cX10_dearest 40 = .ok (.iinc 3 1, 3) := by decide +kernel
theorem dX10_dearest_43 : decode cX10_dearest 43 = .ok (.goto (-37), 3) := by decide +kernel
theorem dX10_dearest_46 : decode cX10_dearest 46 = .ok (.iload_n 1, 1) := by decide +kernel
theorem dX10_dearest_47 : decode cX10_dearest 47 = .ok (.ireturn, 1) := by decide +kernel
def zX10_dearest (Qr : Option PV → Mem → Prop) : XZ := (RX10, 6, 146, 5, some FieldType.int, Qr)
noncomputable def fX10_dearest_b6 : Nat → Nat → Int → Int → Int → Mem → Option (Int × Mem)
  | 0, _, _, _, _, _ => none
  | n + 1, o, x1, x2, x3, F =>
    (fX10_of o 0 F).bind fun r1 =>
    if r1 ≤ x3 then
      some (x1, F)
    else
      (fX10_worthOf o (-1) x3 (xw (x3 + 1)) F).bind fun q4 =>
      if x2 < q4.1 then
        fX10_dearest_b6 n o x3 q4.1 (xw (x3 + 1)) q4.2
      else
        fX10_dearest_b6 n o x1 x2 (xw (x3 + 1)) q4.2
noncomputable def fX10_dearest (o : Nat) (F : Mem) : Option (Int × Mem) :=
  fX10_dearest_b6 FU o (-1) 0 0 F
theorem fX10_dearest_b6_ok {Qr : Option PV → Mem → Prop}  : ∀ (n : Nat) (o : Nat) (x1 : Int) (x2 : Int) (x3 : Int) (F : Mem) (res : (Int × Mem)) (ho : isK o 10), fX10_dearest_b6 n o x1 x2 x3 F = some res → Qr (some (vI res.1)) res.2 → PR cX10_dearest (zX10_dearest Qr) 6 [(0, vR o), (1, vI x1), (2, vI x2), (3, vI x3)] [] F := by
  intro n
  induction n with
  | zero => intro o x1 x2 x3 F res ho h hq; exact nomatch (show (none : Option _) = some _ from h)
  | succ n ih =>
    intro o x1 x2 x3 F res ho h hq
    refine s_iload_n (j := 3) dX10_dearest_6 rfl rfl ?_
    refine s_aload_n (j := 0) dX10_dearest_7 rfl rfl ?_
    refine s_iconst dX10_dearest_8 (cin rfl) ?_
    obtain ⟨r1, hv2, h⟩ := bnd h
    refine s_callV (As := [vI 0]) (rest := [vI x3]) (r := (some (vI r1))) (F' := F) dX10_dearest_9 (clX10_181 (Nat.le_of_ble_eq_true rfl) (Nat.le_of_ble_eq_true rfl)) ho rfl ⟨_, _, _, rfl, ho, hv2, rfl, rfl⟩ rfl (Nat.le_of_ble_eq_true rfl) ?_
    refine s_icmp_ge (tgt := 46) dX10_dearest_12 rfl (fun hc3 => ?_) (fun hc3 => ?_)
    · have h := ifp hc3 h
      refine s_iload_n (j := 1) dX10_dearest_46 rfl rfl ?_
      have h := Option.some.inj h
      subst h
      exact s_ireturn dX10_dearest_47 rfl hq
    · have h := ifn hc3 h
      refine s_aload_n (j := 0) dX10_dearest_15 rfl rfl ?_
      refine s_iconst dX10_dearest_16 (cin rfl) ?_
      refine s_iload_n (j := 3) dX10_dearest_17 rfl rfl ?_
      refine s_iload_n (j := 3) dX10_dearest_18 rfl rfl ?_
      refine s_iconst dX10_dearest_19 (cin rfl) ?_
      refine s_iadd dX10_dearest_20 ?_
      obtain ⟨q4, hv5, h⟩ := bnd h
      refine s_callV (As := [vI (-1), vI x3, vI (xw (x3 + 1))]) (rest := []) (r := (some (vI q4.1))) (F' := q4.2) dX10_dearest_21 (clX10_368 (Nat.le_of_ble_eq_true rfl) (Nat.le_of_ble_eq_true rfl)) ho rfl ⟨_, _, _, _, _, rfl, ho, hv5, rfl, rfl⟩ rfl (Nat.le_of_ble_eq_true rfl) ?_
      refine s_istore (ls' := [(4, vI q4.1), (0, vR o), (1, vI x1), (2, vI x2), (3, vI x3)]) dX10_dearest_24 (Nat.le_of_ble_eq_true rfl) rfl ?_
      refine s_iload (j := 0) dX10_dearest_26 rfl ?_
      refine s_iload_n (j := 3) dX10_dearest_28 rfl rfl ?_
      refine s_icmp_gt (tgt := 35) dX10_dearest_29 rfl (fun hc6 => ?_) (fun hc6 => ?_)
      · have h := ifp hc6 h
        refine s_iload_n (j := 4) dX10_dearest_35 rfl rfl ?_
        refine s_istore_n (ls' := [(1, vI x3), (4, vI q4.1), (0, vR o), (2, vI x2), (3, vI x3)]) dX10_dearest_36 rfl (Nat.le_of_ble_eq_true rfl) rfl ?_
        refine s_iload (j := 1) dX10_dearest_37 rfl ?_
        refine s_istore_n dX10_dearest_39 rfl (Nat.le_of_ble_eq_true rfl) rfl ?_
        refine s_iinc (ls' := [(3, vI (xw (x3 + 1))), (2, vI q4.1), (1, vI x3), (4, vI q4.1), (0, vR o)]) (j := 4) dX10_dearest_40 rfl (Nat.le_of_ble_eq_true rfl) rfl ?_
        refine s_goto (tgt := 6) dX10_dearest_43 rfl ?_
        exact s_sub (ks := [4, 2, 1, 0]) rfl (ih o x3 q4.1 (xw (x3 + 1)) q4.2 _ ho h hq)
      · have h := ifn hc6 h
        refine s_goto (tgt := 40) dX10_dearest_32 rfl ?_
        refine s_iinc (ls' := [(3, vI (xw (x3 + 1))), (4, vI q4.1), (0, vR o), (1, vI x1), (2, vI x2)]) (j := 4) dX10_dearest_40 rfl (Nat.le_of_ble_eq_true rfl) rfl ?_
        refine s_goto (tgt := 6) dX10_dearest_43 rfl ?_
        exact s_sub (ks := [2, 3, 4, 0]) rfl (ih o x1 x2 (xw (x3 + 1)) q4.2 _ ho h hq)
theorem fX10_dearest_ok {Qr : Option PV → Mem → Prop} : ∀ (o : Nat) (F : Mem) (res : (Int × Mem)) (ho : isK o 10), fX10_dearest o F = some res → Qr (some (vI res.1)) res.2 → PR cX10_dearest (zX10_dearest Qr) 0 [(0, vR o)] [] F := by
  intro o F res ho h hq
  refine s_iconst dX10_dearest_0 (cin rfl) ?_
  refine s_istore_n (ls' := [(1, vI (-1)), (0, vR o)]) dX10_dearest_1 rfl (Nat.le_of_ble_eq_true rfl) rfl ?_
  refine s_iconst dX10_dearest_2 (cin rfl) ?_
  refine s_istore_n dX10_dearest_3 rfl (Nat.le_of_ble_eq_true rfl) rfl ?_
  refine s_iconst dX10_dearest_4 (cin rfl) ?_
  refine s_istore_n (ls' := [(3, vI 0), (2, vI 0), (1, vI (-1)), (0, vR o)]) dX10_dearest_5 rfl (Nat.le_of_ble_eq_true rfl) rfl ?_
  exact s_sub (ks := [3, 2, 1, 0]) rfl (fX10_dearest_b6_ok FU o (-1) 0 0 F _ ho h hq)
def gX10_dearest : XG := fun As F r F' => ∃ o : Nat, ∃ res : (Int × Mem), As = [vR o] ∧ isK o 10 ∧ fX10_dearest o F = some res ∧ r = some (vI res.1) ∧ F' = res.2
theorem ctX10_dearest : xCT yX10_dearest cX10_dearest 5 (some FieldType.int) 6 146 gX10_dearest := xmet (by decide +kernel) (fun As F r F' hg => by obtain ⟨o, res, rfl, ho, h, rfl, rfl⟩ := hg; exact Nat.le_of_ble_eq_true rfl) (fun As F r F' hg => by obtain ⟨o, res, rfl, ho, h, rfl, rfl⟩ := hg; exact fX10_dearest_ok o _ _ ho h ⟨rfl, rfl⟩)
theorem mcX10_dearest : Cond.code yX10_dearest cX10_dearest 5 (some FieldType.int) ∈ xw_T ∧ Cond.initialized yX10_dearest.cls ∈ xw_T ∧ Cond.instanceMethod yX10_dearest ∈ xw_T ∧ Cond.selects yX10_dearest.cls yX10_dearest yX10_dearest ∈ xw_T := ⟨(xinT 1874 (by decide +kernel) (by decide +kernel)), (xinT 127 (by decide +kernel) (by decide +kernel)), (xinT 1873 (by decide +kernel) (by decide +kernel)), (xinT 106 (by decide +kernel) (by decide +kernel))⟩
theorem clX10_402 {fr lo : Nat} (h1 : 6 + 1 ≤ fr) (h2 : 8 + (5 + 11) + 146 ≤ lo) : xCall RX10 fr lo 0 402 10 0 gX10_dearest := ⟨_, _, _, _, _, _, ctX10_dearest, h1, h2, mcX10_dearest.1, (xinT 1871 (by decide +kernel) (by decide +kernel)), mcX10_dearest.2.1, ⟨by decide +kernel, by decide +kernel, by decide +kernel⟩, by rw [if_pos rfl]; exact ⟨mcX10_dearest.2.2.1, mcX10_dearest.2.2.2, _, _, rfl⟩⟩
theorem dX10_lessonOf_0 : decode cX10_lessonOf 0 = .ok (.aload_n 0, 1) := by decide +kernel
theorem dX10_lessonOf_1 : decode cX10_lessonOf 1 = .ok (.invokevirtual 390, 3) := by decide +kernel
theorem dX10_lessonOf_4 : decode cX10_lessonOf 4 = .ok (.istore_n 1, 1) := by decide +kernel
theorem dX10_lessonOf_5 : decode cX10_lessonOf 5 = .ok (.iconst (-1), 1) := by decide +kernel
theorem dX10_lessonOf_6 : decode cX10_lessonOf 6 = .ok (.istore_n 2, 1) := by decide +kernel
theorem dX10_lessonOf_7 : decode cX10_lessonOf 7 = .ok (.iconst 0, 1) := by decide +kernel
theorem dX10_lessonOf_8 : decode cX10_lessonOf 8 = .ok (.istore_n 3, 1) := by decide +kernel
theorem dX10_lessonOf_9 : decode cX10_lessonOf 9 = .ok (.iconst 0, 1) := by decide +kernel
theorem dX10_lessonOf_10 : decode cX10_lessonOf 10 = .ok (.istore 4, 2) := by decide +kernel
theorem dX10_lessonOf_12 : decode cX10_lessonOf 12 = .ok (.iload 4, 2) := by decide +kernel
theorem dX10_lessonOf_14 : decode cX10_lessonOf 14 = .ok (.aload_n 0, 1) := by decide +kernel
theorem dX10_lessonOf_15 : decode cX10_lessonOf 15 = .ok (.iconst 5, 1) := by decide +kernel
theorem dX10_lessonOf_16 : decode cX10_lessonOf 16 = .ok (.invokevirtual 181, 3) := by decide +kernel
theorem dX10_lessonOf_19 : decode cX10_lessonOf 19 = .ok (.if_icmp .ge 43, 3) := by decide +kernel
theorem dX10_lessonOf_22 : decode cX10_lessonOf 22 = .ok (.aload_n 0, 1) := by decide +kernel
theorem dX10_lessonOf_23 : decode cX10_lessonOf 23 = .ok (.iload 4, 2) := by decide +kernel
theorem dX10_lessonOf_25 : decode cX10_lessonOf 25 = .ok (.putfield 20, 3) := by decide +kernel
theorem dX10_lessonOf_28 : decode cX10_lessonOf 28 = .ok (.aload_n 0, 1) := by decide +kernel
theorem dX10_lessonOf_29 : decode cX10_lessonOf 29 = .ok (.invokevirtual 390, 3) := by decide +kernel
theorem dX10_lessonOf_32 : decode cX10_lessonOf 32 = .ok (.iload_n 1, 1) := by decide +kernel
theorem dX10_lessonOf_33 : decode cX10_lessonOf 33 = .ok (.isub, 1) := by decide +kernel
theorem dX10_lessonOf_34 : decode cX10_lessonOf 34 = .ok (.istore 5, 2) := by decide +kernel
theorem dX10_lessonOf_36 : decode cX10_lessonOf 36 = .ok (.aload_n 0, 1) := by decide +kernel
theorem dX10_lessonOf_37 : decode cX10_lessonOf 37 = .ok (.iconst (-1), 1) := by decide +kernel
theorem dX10_lessonOf_38 : decode cX10_lessonOf 38 = .ok (.putfield 20, 3) := by decide +kernel
theorem dX10_lessonOf_41 : decode cX10_lessonOf 41 = .ok (.iload 5, 2) := by decide +kernel
theorem dX10_lessonOf_43 : decode cX10_lessonOf 43 = .ok (.iload_n 3, 1) := by decide +kernel
theorem dX10_lessonOf_44 : decode cX10_lessonOf 44 = .ok (.if_icmp .gt 6, 3) := by decide +kernel
theorem dX10_lessonOf_47 : decode cX10_lessonOf 47 = .ok (.goto 9, 3) := by decide +kernel
theorem dX10_lessonOf_50 : decode cX10_lessonOf 50 = .ok (.iload 4, 2) := by decide +kernel
theorem dX10_lessonOf_52 : decode cX10_lessonOf 52 = .ok (.istore_n 2, 1) := by decide +kernel
theorem dX10_lessonOf_53 : decode cX10_lessonOf 53 = .ok (.iload 5, 2) := by decide +kernel
theorem dX10_lessonOf_55 : decode cX10_lessonOf 55 = .ok (.istore_n 3, 1) := by decide +kernel
theorem dX10_lessonOf_56 : decode cX10_lessonOf 56 = .ok (.iinc 4 1, 3) := by decide +kernel
theorem dX10_lessonOf_59 : decode cX10_lessonOf 59 = .ok (.goto (-47), 3) := by decide +kernel
theorem dX10_lessonOf_62 : decode cX10_lessonOf 62 = .ok (.iload_n 2, 1) := by decide +kernel
theorem dX10_lessonOf_63 : decode cX10_lessonOf 63 = .ok (.ireturn, 1) := by decide +kernel
def zX10_lessonOf (Qr : Option PV → Mem → Prop) : XZ := (RX10, 6, 143, 6, some FieldType.int, Qr)
noncomputable def fX10_lessonOf_b12 : Nat → Nat → Int → Int → Int → Int → Mem → Option (Int × Mem)
  | 0, _, _, _, _, _, _ => none
  | n + 1, o, x1, x2, x3, x4, F =>
    (fX10_of o 5 F).bind fun r1 =>
    if r1 ≤ x4 then
      some (x2, F)
    else
      (fX10_yieldOf o (mset F o 11 x4)).bind fun q4 =>
      if x3 < (xw (q4.1 - x1)) then
        fX10_lessonOf_b12 n o x1 x4 (xw (q4.1 - x1)) (xw (x4 + 1)) (mset q4.2 o 11 (-1))
      else
        fX10_lessonOf_b12 n o x1 x2 x3 (xw (x4 + 1)) (mset q4.2 o 11 (-1))
noncomputable def fX10_lessonOf (o : Nat) (F : Mem) : Option (Int × Mem) :=
  (fX10_yieldOf o F).bind fun q1 =>
  fX10_lessonOf_b12 FU o q1.1 (-1) 0 0 q1.2
theorem fX10_lessonOf_b12_ok {Qr : Option PV → Mem → Prop}  : ∀ (n : Nat) (o : Nat) (x1 : Int) (x2 : Int) (x3 : Int) (x4 : Int) (F : Mem) (res : (Int × Mem)) (ho : isK o 10), fX10_lessonOf_b12 n o x1 x2 x3 x4 F = some res → Qr (some (vI res.1)) res.2 → PR cX10_lessonOf (zX10_lessonOf Qr) 12 [(0, vR o), (1, vI x1), (2, vI x2), (3, vI x3), (4, vI x4)] [] F := by
  intro n
  induction n with
  | zero => intro o x1 x2 x3 x4 F res ho h hq; exact nomatch (show (none : Option _) = some _ from h)
  | succ n ih =>
    intro o x1 x2 x3 x4 F res ho h hq
    refine s_iload (j := 4) dX10_lessonOf_12 rfl ?_
    refine s_aload_n (j := 0) dX10_lessonOf_14 rfl rfl ?_
    refine s_iconst dX10_lessonOf_15 (cin rfl) ?_
    obtain ⟨r1, hv2, h⟩ := bnd h
    refine s_callV (As := [vI 5]) (rest := [vI x4]) (r := (some (vI r1))) (F' := F) dX10_lessonOf_16 (clX10_181 (Nat.le_of_ble_eq_true rfl) (Nat.le_of_ble_eq_true rfl)) ho rfl ⟨_, _, _, rfl, ho, hv2, rfl, rfl⟩ rfl (Nat.le_of_ble_eq_true rfl) ?_
    refine s_icmp_ge (tgt := 62) dX10_lessonOf_19 rfl (fun hc3 => ?_) (fun hc3 => ?_)
    · have h := ifp hc3 h
      refine s_iload_n (j := 2) dX10_lessonOf_62 rfl rfl ?_
      have h := Option.some.inj h
      subst h
      exact s_ireturn dX10_lessonOf_63 rfl hq
    · have h := ifn hc3 h
      refine s_aload_n (j := 0) dX10_lessonOf_22 rfl rfl ?_
      refine s_iload (j := 4) dX10_lessonOf_23 rfl ?_
      refine s_putI dX10_lessonOf_25 flX10_20 fpX10_11 ho ?_
      refine s_aload_n (j := 0) dX10_lessonOf_28 rfl rfl ?_
      obtain ⟨q4, hv5, h⟩ := bnd h
      refine s_callV (As := []) (rest := []) (r := (some (vI q4.1))) (F' := q4.2) dX10_lessonOf_29 (clX10_390 (Nat.le_of_ble_eq_true rfl) (Nat.le_of_ble_eq_true rfl)) ho rfl ⟨_, _, rfl, ho, hv5, rfl, rfl⟩ rfl (Nat.le_of_ble_eq_true rfl) ?_
      refine s_iload_n (j := 1) dX10_lessonOf_32 rfl rfl ?_
      refine s_isub dX10_lessonOf_33 ?_
      refine s_istore (ls' := [(5, vI (xw (q4.1 - x1))), (0, vR o), (1, vI x1), (2, vI x2), (3, vI x3), (4, vI x4)]) dX10_lessonOf_34 (Nat.le_of_ble_eq_true rfl) rfl ?_
      refine s_aload_n (j := 1) dX10_lessonOf_36 rfl rfl ?_
      refine s_iconst dX10_lessonOf_37 (cin rfl) ?_
      refine s_putI dX10_lessonOf_38 flX10_20 fpX10_11 ho ?_
      refine s_iload (j := 0) dX10_lessonOf_41 rfl ?_
      refine s_iload_n (j := 4) dX10_lessonOf_43 rfl rfl ?_
      refine s_icmp_gt (tgt := 50) dX10_lessonOf_44 rfl (fun hc6 => ?_) (fun hc6 => ?_)
      · have h := ifp hc6 h
        refine s_iload (j := 5) dX10_lessonOf_50 rfl ?_
        refine s_istore_n (ls' := [(2, vI x4), (5, vI (xw (q4.1 - x1))), (0, vR o), (1, vI x1), (3, vI x3), (4, vI x4)]) dX10_lessonOf_52 rfl (Nat.le_of_ble_eq_true rfl) rfl ?_
        refine s_iload (j := 1) dX10_lessonOf_53 rfl ?_
        refine s_istore_n dX10_lessonOf_55 rfl (Nat.le_of_ble_eq_true rfl) rfl ?_
        refine s_iinc (ls' := [(4, vI (xw (x4 + 1))), (3, vI (xw (q4.1 - x1))), (2, vI x4), (5, vI (xw (q4.1 - x1))), (0, vR o), (1, vI x1)]) (j := 5) dX10_lessonOf_56 rfl (Nat.le_of_ble_eq_true rfl) rfl ?_
        refine s_goto (tgt := 12) dX10_lessonOf_59 rfl ?_
        exact s_sub (ks := [4, 5, 2, 1, 0]) rfl (ih o x1 x4 (xw (q4.1 - x1)) (xw (x4 + 1)) (mset q4.2 o 11 (-1)) _ ho h hq)
      · have h := ifn hc6 h
        refine s_goto (tgt := 56) dX10_lessonOf_47 rfl ?_
        refine s_iinc (ls' := [(4, vI (xw (x4 + 1))), (5, vI (xw (q4.1 - x1))), (0, vR o), (1, vI x1), (2, vI x2), (3, vI x3)]) (j := 5) dX10_lessonOf_56 rfl (Nat.le_of_ble_eq_true rfl) rfl ?_
        refine s_goto (tgt := 12) dX10_lessonOf_59 rfl ?_
        exact s_sub (ks := [2, 3, 4, 5, 0]) rfl (ih o x1 x2 x3 (xw (x4 + 1)) (mset q4.2 o 11 (-1)) _ ho h hq)
theorem fX10_lessonOf_ok {Qr : Option PV → Mem → Prop} : ∀ (o : Nat) (F : Mem) (res : (Int × Mem)) (ho : isK o 10), fX10_lessonOf o F = some res → Qr (some (vI res.1)) res.2 → PR cX10_lessonOf (zX10_lessonOf Qr) 0 [(0, vR o)] [] F := by
  intro o F res ho h hq
  refine s_aload_n (j := 0) dX10_lessonOf_0 rfl rfl ?_
  obtain ⟨q1, hv2, h⟩ := bnd h
  refine s_callV (As := []) (rest := []) (r := (some (vI q1.1))) (F' := q1.2) dX10_lessonOf_1 (clX10_390 (Nat.le_of_ble_eq_true rfl) (Nat.le_of_ble_eq_true rfl)) ho rfl ⟨_, _, rfl, ho, hv2, rfl, rfl⟩ rfl (Nat.le_of_ble_eq_true rfl) ?_
  refine s_istore_n (ls' := [(1, vI q1.1), (0, vR o)]) dX10_lessonOf_4 rfl (Nat.le_of_ble_eq_true rfl) rfl ?_
  refine s_iconst dX10_lessonOf_5 (cin rfl) ?_
  refine s_istore_n dX10_lessonOf_6 rfl (Nat.le_of_ble_eq_true rfl) rfl ?_
  refine s_iconst dX10_lessonOf_7 (cin rfl) ?_
  refine s_istore_n (ls' := [(3, vI 0), (2, vI (-1)), (1, vI q1.1), (0, vR o)]) dX10_lessonOf_8 rfl (Nat.le_of_ble_eq_true rfl) rfl ?_
  refine s_iconst dX10_lessonOf_9 (cin rfl) ?_
  refine s_istore dX10_lessonOf_10 (Nat.le_of_ble_eq_true rfl) rfl ?_
  exact s_sub (ks := [4, 3, 2, 1, 0]) rfl (fX10_lessonOf_b12_ok FU o q1.1 (-1) 0 0 q1.2 _ ho h hq)
def gX10_lessonOf : XG := fun As F r F' => ∃ o : Nat, ∃ res : (Int × Mem), As = [vR o] ∧ isK o 10 ∧ fX10_lessonOf o F = some res ∧ r = some (vI res.1) ∧ F' = res.2
theorem ctX10_lessonOf : xCT yX10_lessonOf cX10_lessonOf 6 (some FieldType.int) 6 143 gX10_lessonOf := xmet (by decide +kernel) (fun As F r F' hg => by obtain ⟨o, res, rfl, ho, h, rfl, rfl⟩ := hg; exact Nat.le_of_ble_eq_true rfl) (fun As F r F' hg => by obtain ⟨o, res, rfl, ho, h, rfl, rfl⟩ := hg; exact fX10_lessonOf_ok o _ _ ho h ⟨rfl, rfl⟩)
theorem mcX10_lessonOf : Cond.code yX10_lessonOf cX10_lessonOf 6 (some FieldType.int) ∈ xw_T ∧ Cond.initialized yX10_lessonOf.cls ∈ xw_T ∧ Cond.instanceMethod yX10_lessonOf ∈ xw_T ∧ Cond.selects yX10_lessonOf.cls yX10_lessonOf yX10_lessonOf ∈ xw_T := ⟨(xinT 1878 (by decide +kernel) (by decide +kernel)), (xinT 127 (by decide +kernel) (by decide +kernel)), (xinT 1877 (by decide +kernel) (by decide +kernel)), (xinT 107 (by decide +kernel) (by decide +kernel))⟩
theorem clX10_405 {fr lo : Nat} (h1 : 6 + 1 ≤ fr) (h2 : 8 + (6 + 11) + 143 ≤ lo) : xCall RX10 fr lo 0 405 10 0 gX10_lessonOf := ⟨_, _, _, _, _, _, ctX10_lessonOf, h1, h2, mcX10_lessonOf.1, (xinT 1875 (by decide +kernel) (by decide +kernel)), mcX10_lessonOf.2.1, ⟨by decide +kernel, by decide +kernel, by decide +kernel⟩, by rw [if_pos rfl]; exact ⟨mcX10_lessonOf.2.2.1, mcX10_lessonOf.2.2.2, _, _, rfl⟩⟩
theorem dX10_enough_0 : decode cX10_enough 0 = .ok (.aload_n 0, 1) := by decide +kernel
theorem dX10_enough_1 : decode cX10_enough 1 = .ok (.bipush 99, 2) := by decide +kernel
theorem dX10_enough_3 : decode cX10_enough 3 = .ok (.putfield 178, 3) := by decide +kernel
theorem dX10_enough_6 : decode cX10_enough 6 = .ok (.aload_n 0, 1) := by decide +kernel
theorem dX10_enough_7 : decode cX10_enough 7 = .ok (.iconst 1, 1) := by decide +kernel
theorem dX10_enough_8 : decode cX10_enough 8 = .ok (.invokevirtual 349, 3) := by decide +kernel
theorem dX10_enough_11 : decode cX10_enough 11 = .ok (.aload_n 0, 1) := by decide +kernel
theorem dX10_enough_12 : decode cX10_enough 12 = .ok (.invokevirtual 352, 3) := by decide +kernel
theorem dX10_enough_15 : decode cX10_enough 15 = .ok (.istore_n 1, 1) := by decide +kernel
theorem dX10_enough_16 : decode cX10_enough 16 = .ok (.bipush 99, 2) := by decide +kernel
theorem dX10_enough_18 : decode cX10_enough 18 = .ok (.istore_n 2, 1) := by decide +kernel
theorem dX10_enough_19 : decode cX10_enough 19 = .ok (.bipush 98, 2) := by decide +kernel
theorem dX10_enough_21 : decode cX10_enough 21 = .ok (.istore_n 3, 1) := by decide +kernel
theorem dX10_enough_22 : decode cX10_enough 22 = .ok (.iload_n 3, 1) := by decide +kernel
theorem dX10_enough_23 : decode cX10_enough 23 = .ok (.ifCond .le 33, 3) := by decide +kernel
theorem dX10_enough_26 : decode cX10_enough 26 = .ok (.aload_n 0, 1) := by decide +kernel
theorem dX10_enough_27 : decode cX10_enough 27 = .ok (.iload_n 3, 1) := by decide +kernel
theorem dX10_enough_28 : decode cX10_enough 28 = .ok (.putfield 178, 3) := by decide +kernel
theorem dX10_enough_31 : decode cX10_enough 31 = .ok (.aload_n 0, 1) := by decide +kernel
theorem dX10_enough_32 : decode cX10_enough 32 = .ok (.iconst 1, 1) := by decide +kernel
theorem dX10_enough_33 : decode cX10_enough 33 = .ok (.invokevirtual 349, 3) := by decide +kernel
theorem dX10_enough_36 : decode cX10_enough 36 = .ok (.aload_n 0, 1) := by decide +kernel
theorem dX10_enough_37 : decode cX10_enough 37 = .ok (.invokevirtual 352, 3) := by decide +kernel
theorem dX10_enough_40 : decode cX10_enough 40 = .ok (.iload_n 1, 1) := by decide +kernel
theorem dX10_enough_41 : decode cX10_enough 41 = .ok (.if_icmp .ne 7, 3) := by decide +kernel
theorem dX10_enough_44 : decode cX10_enough 44 = .ok (.iload_n 3, 1) := by decide +kernel
theorem dX10_enough_45 : decode cX10_enough 45 = .ok (.goto 4, 3) := by decide +kernel
theorem dX10_enough_48 : decode cX10_enough 48 = .ok (.iload_n 2, 1) := by decide +kernel
theorem dX10_enough_49 : decode cX10_enough 49 = .ok (.istore_n 2, 1) := by decide +kernel
theorem dX10_enough_50 : decode cX10_enough 50 = .ok (.iinc 3 (-1), 3) := by decide +kernel
theorem dX10_enough_53 : decode cX10_enough 53 = .ok (.goto (-31), 3) := by decide +kernel
theorem dX10_enough_56 : decode cX10_enough 56 = .ok (.aload_n 0, 1) := by decide +kernel
theorem dX10_enough_57 : decode cX10_enough 57 = .ok (.iconst 0, 1) := by decide +kernel
theorem dX10_enough_58 : decode cX10_enough 58 = .ok (.putfield 178, 3) := by decide +kernel
theorem dX10_enough_61 : decode cX10_enough 61 = .ok (.iload_n 2, 1) := by decide +kernel
theorem dX10_enough_62 : decode cX10_enough 62 = .ok (.ireturn, 1) := by decide +kernel
def zX10_enough (Qr : Option PV → Mem → Prop) : XZ := (RX10, 5, 121, 4, some FieldType.int, Qr)
noncomputable def fX10_enough_b22 : Nat → Nat → Int → Int → Int → Mem → Option (Int × Mem)
  | 0, _, _, _, _, _ => none
  | n + 1, o, x1, x2, x3, F =>
    if x3 ≤ 0 then
      some (x2, mset F o 12 0)
    else
      (fX10_solves o 1 (mset F o 12 x3)).bind fun q2 =>
      (fX10_gain o q2).bind fun r4 =>
      if r4 ≠ x1 then
        fX10_enough_b22 n o x1 x2 (xw (x3 + (-1))) q2
      else
        fX10_enough_b22 n o x1 x3 (xw (x3 + (-1))) q2
noncomputable def fX10_enough (o : Nat) (F : Mem) : Option (Int × Mem) :=
  (fX10_solves o 1 (mset F o 12 99)).bind fun q1 =>
  (fX10_gain o q1).bind fun r3 =>
  fX10_enough_b22 FU o r3 99 98 q1
theorem fX10_enough_b22_ok {Qr : Option PV → Mem → Prop}  : ∀ (n : Nat) (o : Nat) (x1 : Int) (x2 : Int) (x3 : Int) (F : Mem) (res : (Int × Mem)) (ho : isK o 10), fX10_enough_b22 n o x1 x2 x3 F = some res → Qr (some (vI res.1)) res.2 → PR cX10_enough (zX10_enough Qr) 22 [(0, vR o), (1, vI x1), (2, vI x2), (3, vI x3)] [] F := by
  intro n
  induction n with
  | zero => intro o x1 x2 x3 F res ho h hq; exact nomatch (show (none : Option _) = some _ from h)
  | succ n ih =>
    intro o x1 x2 x3 F res ho h hq
    refine s_iload_n (j := 3) dX10_enough_22 rfl rfl ?_
    refine s_if_le (tgt := 56) dX10_enough_23 rfl (fun hc1 => ?_) (fun hc1 => ?_)
    · have h := ifp hc1 h
      refine s_aload_n (j := 0) dX10_enough_56 rfl rfl ?_
      refine s_iconst dX10_enough_57 (cin rfl) ?_
      refine s_putI dX10_enough_58 flX10_178 fpX10_12 ho ?_
      refine s_iload_n (j := 2) dX10_enough_61 rfl rfl ?_
      have h := Option.some.inj h
      subst h
      exact s_ireturn dX10_enough_62 rfl hq
    · have h := ifn hc1 h
      refine s_aload_n (j := 0) dX10_enough_26 rfl rfl ?_
      refine s_iload_n (j := 3) dX10_enough_27 rfl rfl ?_
      refine s_putI dX10_enough_28 flX10_178 fpX10_12 ho ?_
      refine s_aload_n (j := 0) dX10_enough_31 rfl rfl ?_
      refine s_iconst dX10_enough_32 (cin rfl) ?_
      obtain ⟨q2, hv3, h⟩ := bnd h
      refine s_callV (As := [vI 1]) (rest := []) (r := none) (F' := q2) dX10_enough_33 (clX10_349 (Nat.le_of_ble_eq_true rfl) (Nat.le_of_ble_eq_true rfl)) ho rfl ⟨_, _, _, rfl, ho, hv3, rfl, rfl⟩ rfl (Nat.le_of_ble_eq_true rfl) ?_
      refine s_aload_n (j := 0) dX10_enough_36 rfl rfl ?_
      obtain ⟨r4, hv5, h⟩ := bnd h
      refine s_callV (As := []) (rest := []) (r := (some (vI r4))) (F' := q2) dX10_enough_37 (clX10_352 (Nat.le_of_ble_eq_true rfl) (Nat.le_of_ble_eq_true rfl)) ho rfl ⟨_, _, rfl, ho, hv5, rfl, rfl⟩ rfl (Nat.le_of_ble_eq_true rfl) ?_
      refine s_iload_n (j := 1) dX10_enough_40 rfl rfl ?_
      refine s_icmp_ne (tgt := 48) dX10_enough_41 rfl (fun hc6 => ?_) (fun hc6 => ?_)
      · have h := ifp hc6 h
        refine s_iload_n (j := 2) dX10_enough_48 rfl rfl ?_
        refine s_istore_n (ls' := [(2, vI x2), (0, vR o), (1, vI x1), (3, vI x3)]) dX10_enough_49 rfl (Nat.le_of_ble_eq_true rfl) rfl ?_
        refine s_iinc (j := 3) dX10_enough_50 rfl (Nat.le_of_ble_eq_true rfl) rfl ?_
        refine s_goto (tgt := 22) dX10_enough_53 rfl ?_
        exact s_sub (ks := [2, 3, 1, 0]) rfl (ih o x1 x2 (xw (x3 + (-1))) q2 _ ho h hq)
      · have h := ifn hc6 h
        refine s_iload_n (j := 3) dX10_enough_44 rfl rfl ?_
        refine s_goto (tgt := 49) dX10_enough_45 rfl ?_
        refine s_istore_n (ls' := [(2, vI x3), (0, vR o), (1, vI x1), (3, vI x3)]) dX10_enough_49 rfl (Nat.le_of_ble_eq_true rfl) rfl ?_
        refine s_iinc (j := 3) dX10_enough_50 rfl (Nat.le_of_ble_eq_true rfl) rfl ?_
        refine s_goto (tgt := 22) dX10_enough_53 rfl ?_
        exact s_sub (ks := [2, 3, 1, 0]) rfl (ih o x1 x3 (xw (x3 + (-1))) q2 _ ho h hq)
theorem fX10_enough_ok {Qr : Option PV → Mem → Prop} : ∀ (o : Nat) (F : Mem) (res : (Int × Mem)) (ho : isK o 10), fX10_enough o F = some res → Qr (some (vI res.1)) res.2 → PR cX10_enough (zX10_enough Qr) 0 [(0, vR o)] [] F := by
  intro o F res ho h hq
  refine s_aload_n (j := 0) dX10_enough_0 rfl rfl ?_
  refine s_bipush dX10_enough_1 rfl (cin rfl) ?_
  refine s_putI dX10_enough_3 flX10_178 fpX10_12 ho ?_
  refine s_aload_n (j := 0) dX10_enough_6 rfl rfl ?_
  refine s_iconst dX10_enough_7 (cin rfl) ?_
  obtain ⟨q1, hv2, h⟩ := bnd h
  refine s_callV (As := [vI 1]) (rest := []) (r := none) (F' := q1) dX10_enough_8 (clX10_349 (Nat.le_of_ble_eq_true rfl) (Nat.le_of_ble_eq_true rfl)) ho rfl ⟨_, _, _, rfl, ho, hv2, rfl, rfl⟩ rfl (Nat.le_of_ble_eq_true rfl) ?_
  refine s_aload_n (j := 0) dX10_enough_11 rfl rfl ?_
  obtain ⟨r3, hv4, h⟩ := bnd h
  refine s_callV (As := []) (rest := []) (r := (some (vI r3))) (F' := q1) dX10_enough_12 (clX10_352 (Nat.le_of_ble_eq_true rfl) (Nat.le_of_ble_eq_true rfl)) ho rfl ⟨_, _, rfl, ho, hv4, rfl, rfl⟩ rfl (Nat.le_of_ble_eq_true rfl) ?_
  refine s_istore_n (ls' := [(1, vI r3), (0, vR o)]) dX10_enough_15 rfl (Nat.le_of_ble_eq_true rfl) rfl ?_
  refine s_bipush dX10_enough_16 rfl (cin rfl) ?_
  refine s_istore_n dX10_enough_18 rfl (Nat.le_of_ble_eq_true rfl) rfl ?_
  refine s_bipush dX10_enough_19 rfl (cin rfl) ?_
  refine s_istore_n (ls' := [(3, vI 98), (2, vI 99), (1, vI r3), (0, vR o)]) dX10_enough_21 rfl (Nat.le_of_ble_eq_true rfl) rfl ?_
  exact s_sub (ks := [3, 2, 1, 0]) rfl (fX10_enough_b22_ok FU o r3 99 98 q1 _ ho h hq)
def gX10_enough : XG := fun As F r F' => ∃ o : Nat, ∃ res : (Int × Mem), As = [vR o] ∧ isK o 10 ∧ fX10_enough o F = some res ∧ r = some (vI res.1) ∧ F' = res.2
theorem ctX10_enough : xCT yX10_enough cX10_enough 4 (some FieldType.int) 5 121 gX10_enough := xmet (by decide +kernel) (fun As F r F' hg => by obtain ⟨o, res, rfl, ho, h, rfl, rfl⟩ := hg; exact Nat.le_of_ble_eq_true rfl) (fun As F r F' hg => by obtain ⟨o, res, rfl, ho, h, rfl, rfl⟩ := hg; exact fX10_enough_ok o _ _ ho h ⟨rfl, rfl⟩)
theorem mcX10_enough : Cond.code yX10_enough cX10_enough 4 (some FieldType.int) ∈ xw_T ∧ Cond.initialized yX10_enough.cls ∈ xw_T ∧ Cond.instanceMethod yX10_enough ∈ xw_T ∧ Cond.selects yX10_enough.cls yX10_enough yX10_enough ∈ xw_T := ⟨(xinT 1882 (by decide +kernel) (by decide +kernel)), (xinT 127 (by decide +kernel) (by decide +kernel)), (xinT 1881 (by decide +kernel) (by decide +kernel)), (xinT 108 (by decide +kernel) (by decide +kernel))⟩
theorem clX10_408 {fr lo : Nat} (h1 : 5 + 1 ≤ fr) (h2 : 8 + (4 + 11) + 121 ≤ lo) : xCall RX10 fr lo 0 408 10 0 gX10_enough := ⟨_, _, _, _, _, _, ctX10_enough, h1, h2, mcX10_enough.1, (xinT 1879 (by decide +kernel) (by decide +kernel)), mcX10_enough.2.1, ⟨by decide +kernel, by decide +kernel, by decide +kernel⟩, by rw [if_pos rfl]; exact ⟨mcX10_enough.2.2.1, mcX10_enough.2.2.2, _, _, rfl⟩⟩
theorem dX10_day_0 : decode cX10_day 0 = .ok (.aload_n 0, 1) := by decide +kernel
theorem dX10_day_1 : decode cX10_day 1 = .ok (.iload_n 1, 1) := by decide +kernel
theorem dX10_day_2 : decode cX10_day 2 = .ok (.iload_n 2, 1) := by decide +kernel
theorem dX10_day_3 : decode cX10_day 3 = .ok (.iload_n 3, 1) := by decide +kernel
theorem dX10_day_4 : decode cX10_day 4 = .ok (.iload 4, 2) := by decide +kernel
theorem dX10_day_6 : decode cX10_day 6 = .ok (.iconst 1, 1) := by decide +kernel
theorem dX10_day_7 : decode cX10_day 7 = .ok (.invokevirtual 355, 3) := by decide +kernel
theorem dX10_day_10 : decode cX10_day 10 = .ok (.ifCond .eq 32, 3) := by decide +kernel
theorem dX10_day_13 : decode cX10_day 13 = .ok (.iload 5, 2) := by decide +kernel
theorem dX10_day_15 : decode cX10_day 15 = .ok (.iconst 0, 1) := by decide +kernel
theorem dX10_day_16 : decode cX10_day 16 = .ok (.bipush 7, 2) := by decide +kernel
theorem dX10_day_18 : decode cX10_day 18 = .ok (.invokestatic 115, 3) := by decide +kernel
theorem dX10_day_21 : decode cX10_day 21 = .ok (.ifCond .ne 24, 3) := by decide +kernel
theorem dX10_day_24 : decode cX10_day 24 = .ok (.iload 5, 2) := by decide +kernel
theorem dX10_day_26 : decode cX10_day 26 = .ok (.bipush 10, 2) := by decide +kernel
theorem dX10_day_28 : decode cX10_day 28 = .ok (.bipush 9, 2) := by decide +kernel
theorem dX10_day_30 : decode cX10_day 30 = .ok (.aload_n 0, 1) := by decide +kernel
theorem dX10_day_31 : decode cX10_day 31 = .ok (.iconst 5, 1) := by decide +kernel
theorem dX10_day_32 : decode cX10_day 32 = .ok (.invokevirtual 181, 3) := by decide +kernel
theorem dX10_day_35 : decode cX10_day 35 = .ok (.iadd, 1) := by decide +kernel
theorem dX10_day_36 : decode cX10_day 36 = .ok (.invokestatic 115, 3) := by decide +kernel
theorem dX10_day_39 : decode cX10_day 39 = .ok (.ifCond .ne 6, 3) := by decide +kernel
theorem dX10_day_42 : decode cX10_day 42 = .ok (.bipush (-2), 2) := by decide +kernel
theorem dX10_day_44 : decode cX10_day 44 = .ok (.ireturn, 1) := by decide +kernel
theorem dX10_day_45 : decode cX10_day 45 = .ok (.iload 5, 2) := by decide +kernel
theorem dX10_day_47 : decode cX10_day 47 = .ok (.tableswitch 90 0 7 #[45, 50, 55, 63, 70, 75, 80, 85], 45) := by decide +kernel
theorem dX10_day_92 : decode cX10_day 92 = .ok (.aload_n 0, 1) := by decide +kernel
theorem dX10_day_93 : decode cX10_day 93 = .ok (.invokevirtual 390, 3) := by decide +kernel
theorem dX10_day_96 : decode cX10_day 96 = .ok (.ireturn, 1) := by decide +kernel
theorem dX10_day_97 : decode cX10_day 97 = .ok (.aload_n 0, 1) := by decide +kernel
theorem dX10_day_98 : decode cX10_day 98 = .ok (.invokevirtual 393, 3) := by decide +kernel
theorem dX10_day_101 : decode cX10_day 101 = .ok (.ireturn, 1) := by decide +kernel
theorem dX10_day_102 : decode cX10_day 102 = .ok (.aload_n 0, 1) := by decide +kernel
theorem dX10_day_103 : decode cX10_day 103 = .ok (.bipush (-2), 2) := by decide +kernel
theorem dX10_day_105 : decode cX10_day 105 = .ok (.iconst 1, 1) := by decide +kernel
theorem dX10_day_106 : decode cX10_day 106 = .ok (.invokevirtual 396, 3) := by decide +kernel
theorem dX10_day_109 : decode cX10_day 109 = .ok (.ireturn, 1) := by decide +kernel
theorem dX10_day_110 : decode cX10_day 110 = .ok (.aload_n 0, 1) := by decide +kernel
theorem dX10_day_111 : decode cX10_day 111 = .ok (.iconst (-1), 1) := by decide +kernel
theorem dX10_day_112 : decode cX10_day 112 = .ok (.iconst 1, 1) := by decide +kernel
theorem dX10_day_113 : decode cX10_day 113 = .ok (.invokevirtual 396, 3) := by decide +kernel
theorem dX10_day_116 : decode cX10_day 116 = .ok (.ireturn, 1) := by decide +kernel
theorem dX10_day_117 : decode cX10_day 117 = .ok (.aload_n 0, 1) := by decide +kernel
theorem dX10_day_118 : decode cX10_day 118 = .ok (.invokevirtual 399, 3) := by decide +kernel
theorem dX10_day_121 : decode cX10_day 121 = .ok (.ireturn, 1) := by decide +kernel
theorem dX10_day_122 : decode cX10_day 122 = .ok (.aload_n 0, 1) := by decide +kernel
theorem dX10_day_123 : decode cX10_day 123 = .ok (.invokevirtual 402, 3) := by decide +kernel
theorem dX10_day_126 : decode cX10_day 126 = .ok (.ireturn, 1) := by decide +kernel
theorem dX10_day_127 : decode cX10_day 127 = .ok (.aload_n 0, 1) := by decide +kernel
theorem dX10_day_128 : decode cX10_day 128 = .ok (.invokevirtual 405, 3) := by decide +kernel
theorem dX10_day_131 : decode cX10_day 131 = .ok (.ireturn, 1) := by decide +kernel
theorem dX10_day_132 : decode cX10_day 132 = .ok (.aload_n 0, 1) := by decide +kernel
theorem dX10_day_133 : decode cX10_day 133 = .ok (.invokevirtual 408, 3) := by decide +kernel
theorem dX10_day_136 : decode cX10_day 136 = .ok (.ireturn, 1) := by decide +kernel
theorem dX10_day_137 : decode cX10_day 137 = .ok (.aload_n 0, 1) := by decide +kernel
theorem dX10_day_138 : decode cX10_day 138 = .ok (.iload 5, 2) := by decide +kernel
theorem dX10_day_140 : decode cX10_day 140 = .ok (.bipush 10, 2) := by decide +kernel
theorem dX10_day_142 : decode cX10_day 142 = .ok (.isub, 1) := by decide +kernel
theorem dX10_day_143 : decode cX10_day 143 = .ok (.iconst 0, 1) := by decide +kernel
theorem dX10_day_144 : decode cX10_day 144 = .ok (.invokevirtual 396, 3) := by decide +kernel
theorem dX10_day_147 : decode cX10_day 147 = .ok (.ireturn, 1) := by decide +kernel
def zX10_day (Qr : Option PV → Mem → Prop) : XZ := (RX10, 7, 170, 6, some FieldType.int, Qr)
noncomputable def fX10_day_b45 (o : Nat) (x5 : Int) (F : Mem) : Option (Int × Mem) :=
  if x5 = 0 then
    (fX10_yieldOf o F).bind fun q2 =>
    some (q2.1, q2.2)
  else
  if x5 = 1 then
    (fX10_spoiled o F).bind fun q5 =>
    some (q5.1, q5.2)
  else
  if x5 = 2 then
    (fX10_slotsAt o (-2) 1 F).bind fun q8 =>
    some (q8.1, q8.2)
  else
  if x5 = 3 then
    (fX10_slotsAt o (-1) 1 F).bind fun q11 =>
    some (q11.1, q11.2)
  else
  if x5 = 4 then
    (fX10_longest o F).bind fun q14 =>
    some (q14.1, q14.2)
  else
  if x5 = 5 then
    (fX10_dearest o F).bind fun q17 =>
    some (q17.1, q17.2)
  else
  if x5 = 6 then
    (fX10_lessonOf o F).bind fun q20 =>
    some (q20.1, q20.2)
  else
  if x5 = 7 then
    (fX10_enough o F).bind fun q23 =>
    some (q23.1, q23.2)
  else
  (fX10_slotsAt o (xw (x5 - 10)) 0 F).bind fun q25 =>
  some (q25.1, q25.2)
noncomputable def fX10_day (o : Nat) (x1 : Int) (x2 : Int) (x3 : Int) (x4 : Int) (x5 : Int) (F : Mem) : Option (Int × Mem) :=
  (fX10_isAsked o x1 x2 x3 x4 1 F).bind fun q1 =>
  if q1.1 = 0 then
    some ((-2), q1.2)
  else
    if (fX10_isIn x5 0 7) ≠ 0 then
      fX10_day_b45 o x5 q1.2
    else
      (fX10_of o 5 q1.2).bind fun r5 =>
      if (fX10_isIn x5 10 (xw (9 + r5))) ≠ 0 then
        fX10_day_b45 o x5 q1.2
      else
        some ((-2), q1.2)
theorem fX10_day_b45_ok {Qr : Option PV → Mem → Prop}  : ∀ (o : Nat) (x5 : Int) (F : Mem) (res : (Int × Mem)) (ho : isK o 10), fX10_day_b45 o x5 F = some res → Qr (some (vI res.1)) res.2 → PR cX10_day (zX10_day Qr) 45 [(0, vR o), (5, vI x5)] [] F := by
  intro o x5 F res ho h hq
  refine s_iload (j := 1) dX10_day_45 rfl ?_
  by_cases hc1 : x5 = 0
  · have h := ifp hc1 h
    refine s_tabIn (tgt := 92) (off := 45) dX10_day_47 (by omega) (by omega) (by rw [hc1]; rfl) rfl ?_
    refine s_aload_n (j := 0) dX10_day_92 rfl rfl ?_
    obtain ⟨q2, hv3, h⟩ := bnd h
    refine s_callV (As := []) (rest := []) (r := (some (vI q2.1))) (F' := q2.2) dX10_day_93 (clX10_390 (Nat.le_of_ble_eq_true rfl) (Nat.le_of_ble_eq_true rfl)) ho rfl ⟨_, _, rfl, ho, hv3, rfl, rfl⟩ rfl (Nat.le_of_ble_eq_true rfl) ?_
    have h := Option.some.inj h
    subst h
    exact s_ireturn dX10_day_96 rfl hq
  have h := ifn hc1 h
  by_cases hc4 : x5 = 1
  · have h := ifp hc4 h
    refine s_tabIn (tgt := 97) (off := 50) dX10_day_47 (by omega) (by omega) (by rw [hc4]; rfl) rfl ?_
    refine s_aload_n (j := 0) dX10_day_97 rfl rfl ?_
    obtain ⟨q5, hv6, h⟩ := bnd h
    refine s_callV (As := []) (rest := []) (r := (some (vI q5.1))) (F' := q5.2) dX10_day_98 (clX10_393 (Nat.le_of_ble_eq_true rfl) (Nat.le_of_ble_eq_true rfl)) ho rfl ⟨_, _, rfl, ho, hv6, rfl, rfl⟩ rfl (Nat.le_of_ble_eq_true rfl) ?_
    have h := Option.some.inj h
    subst h
    exact s_ireturn dX10_day_101 rfl hq
  have h := ifn hc4 h
  by_cases hc7 : x5 = 2
  · have h := ifp hc7 h
    refine s_tabIn (tgt := 102) (off := 55) dX10_day_47 (by omega) (by omega) (by rw [hc7]; rfl) rfl ?_
    refine s_aload_n (j := 0) dX10_day_102 rfl rfl ?_
    refine s_bipush dX10_day_103 rfl (cin rfl) ?_
    refine s_iconst dX10_day_105 (cin rfl) ?_
    obtain ⟨q8, hv9, h⟩ := bnd h
    refine s_callV (As := [vI (-2), vI 1]) (rest := []) (r := (some (vI q8.1))) (F' := q8.2) dX10_day_106 (clX10_396 (Nat.le_of_ble_eq_true rfl) (Nat.le_of_ble_eq_true rfl)) ho rfl ⟨_, _, _, _, rfl, ho, hv9, rfl, rfl⟩ rfl (Nat.le_of_ble_eq_true rfl) ?_
    have h := Option.some.inj h
    subst h
    exact s_ireturn dX10_day_109 rfl hq
  have h := ifn hc7 h
  by_cases hc10 : x5 = 3
  · have h := ifp hc10 h
    refine s_tabIn (tgt := 110) (off := 63) dX10_day_47 (by omega) (by omega) (by rw [hc10]; rfl) rfl ?_
    refine s_aload_n (j := 0) dX10_day_110 rfl rfl ?_
    refine s_iconst dX10_day_111 (cin rfl) ?_
    refine s_iconst dX10_day_112 (cin rfl) ?_
    obtain ⟨q11, hv12, h⟩ := bnd h
    refine s_callV (As := [vI (-1), vI 1]) (rest := []) (r := (some (vI q11.1))) (F' := q11.2) dX10_day_113 (clX10_396 (Nat.le_of_ble_eq_true rfl) (Nat.le_of_ble_eq_true rfl)) ho rfl ⟨_, _, _, _, rfl, ho, hv12, rfl, rfl⟩ rfl (Nat.le_of_ble_eq_true rfl) ?_
    have h := Option.some.inj h
    subst h
    exact s_ireturn dX10_day_116 rfl hq
  have h := ifn hc10 h
  by_cases hc13 : x5 = 4
  · have h := ifp hc13 h
    refine s_tabIn (tgt := 117) (off := 70) dX10_day_47 (by omega) (by omega) (by rw [hc13]; rfl) rfl ?_
    refine s_aload_n (j := 0) dX10_day_117 rfl rfl ?_
    obtain ⟨q14, hv15, h⟩ := bnd h
    refine s_callV (As := []) (rest := []) (r := (some (vI q14.1))) (F' := q14.2) dX10_day_118 (clX10_399 (Nat.le_of_ble_eq_true rfl) (Nat.le_of_ble_eq_true rfl)) ho rfl ⟨_, _, rfl, ho, hv15, rfl, rfl⟩ rfl (Nat.le_of_ble_eq_true rfl) ?_
    have h := Option.some.inj h
    subst h
    exact s_ireturn dX10_day_121 rfl hq
  have h := ifn hc13 h
  by_cases hc16 : x5 = 5
  · have h := ifp hc16 h
    refine s_tabIn (tgt := 122) (off := 75) dX10_day_47 (by omega) (by omega) (by rw [hc16]; rfl) rfl ?_
    refine s_aload_n (j := 0) dX10_day_122 rfl rfl ?_
    obtain ⟨q17, hv18, h⟩ := bnd h
    refine s_callV (As := []) (rest := []) (r := (some (vI q17.1))) (F' := q17.2) dX10_day_123 (clX10_402 (Nat.le_of_ble_eq_true rfl) (Nat.le_of_ble_eq_true rfl)) ho rfl ⟨_, _, rfl, ho, hv18, rfl, rfl⟩ rfl (Nat.le_of_ble_eq_true rfl) ?_
    have h := Option.some.inj h
    subst h
    exact s_ireturn dX10_day_126 rfl hq
  have h := ifn hc16 h
  by_cases hc19 : x5 = 6
  · have h := ifp hc19 h
    refine s_tabIn (tgt := 127) (off := 80) dX10_day_47 (by omega) (by omega) (by rw [hc19]; rfl) rfl ?_
    refine s_aload_n (j := 0) dX10_day_127 rfl rfl ?_
    obtain ⟨q20, hv21, h⟩ := bnd h
    refine s_callV (As := []) (rest := []) (r := (some (vI q20.1))) (F' := q20.2) dX10_day_128 (clX10_405 (Nat.le_of_ble_eq_true rfl) (Nat.le_of_ble_eq_true rfl)) ho rfl ⟨_, _, rfl, ho, hv21, rfl, rfl⟩ rfl (Nat.le_of_ble_eq_true rfl) ?_
    have h := Option.some.inj h
    subst h
    exact s_ireturn dX10_day_131 rfl hq
  have h := ifn hc19 h
  by_cases hc22 : x5 = 7
  · have h := ifp hc22 h
    refine s_tabIn (tgt := 132) (off := 85) dX10_day_47 (by omega) (by omega) (by rw [hc22]; rfl) rfl ?_
    refine s_aload_n (j := 0) dX10_day_132 rfl rfl ?_
    obtain ⟨q23, hv24, h⟩ := bnd h
    refine s_callV (As := []) (rest := []) (r := (some (vI q23.1))) (F' := q23.2) dX10_day_133 (clX10_408 (Nat.le_of_ble_eq_true rfl) (Nat.le_of_ble_eq_true rfl)) ho rfl ⟨_, _, rfl, ho, hv24, rfl, rfl⟩ rfl (Nat.le_of_ble_eq_true rfl) ?_
    have h := Option.some.inj h
    subst h
    exact s_ireturn dX10_day_136 rfl hq
  have h := ifn hc22 h
  refine s_tabOut (tgt := 137) dX10_day_47 (by omega) rfl ?_
  refine s_aload_n (j := 0) dX10_day_137 rfl rfl ?_
  refine s_iload (j := 1) dX10_day_138 rfl ?_
  refine s_bipush dX10_day_140 rfl (cin rfl) ?_
  refine s_isub dX10_day_142 ?_
  refine s_iconst dX10_day_143 (cin rfl) ?_
  obtain ⟨q25, hv26, h⟩ := bnd h
  refine s_callV (As := [vI (xw (x5 - 10)), vI 0]) (rest := []) (r := (some (vI q25.1))) (F' := q25.2) dX10_day_144 (clX10_396 (Nat.le_of_ble_eq_true rfl) (Nat.le_of_ble_eq_true rfl)) ho rfl ⟨_, _, _, _, rfl, ho, hv26, rfl, rfl⟩ rfl (Nat.le_of_ble_eq_true rfl) ?_
  have h := Option.some.inj h
  subst h
  exact s_ireturn dX10_day_147 rfl hq
theorem fX10_day_ok {Qr : Option PV → Mem → Prop} : ∀ (o : Nat) (x1 : Int) (x2 : Int) (x3 : Int) (x4 : Int) (x5 : Int) (F : Mem) (res : (Int × Mem)) (ho : isK o 10), fX10_day o x1 x2 x3 x4 x5 F = some res → Qr (some (vI res.1)) res.2 → PR cX10_day (zX10_day Qr) 0 [(0, vR o), (1, vI x1), (2, vI x2), (3, vI x3), (4, vI x4), (5, vI x5)] [] F := by
  intro o x1 x2 x3 x4 x5 F res ho h hq
  refine s_aload_n (j := 0) dX10_day_0 rfl rfl ?_
  refine s_iload_n (j := 1) dX10_day_1 rfl rfl ?_
  refine s_iload_n (j := 2) dX10_day_2 rfl rfl ?_
  refine s_iload_n (j := 3) dX10_day_3 rfl rfl ?_
  refine s_iload (j := 4) dX10_day_4 rfl ?_
  refine s_iconst dX10_day_6 (cin rfl) ?_
  obtain ⟨q1, hv2, h⟩ := bnd h
  refine s_callV (As := [vI x1, vI x2, vI x3, vI x4, vI 1]) (rest := []) (r := (some (vI q1.1))) (F' := q1.2) dX10_day_7 (clX10_355 (Nat.le_of_ble_eq_true rfl) (Nat.le_of_ble_eq_true rfl)) ho rfl ⟨_, _, _, _, _, _, _, rfl, ho, hv2, rfl, rfl⟩ rfl (Nat.le_of_ble_eq_true rfl) ?_
  refine s_if_eq (tgt := 42) dX10_day_10 rfl (fun hc3 => ?_) (fun hc3 => ?_)
  · have h := ifp hc3 h
    refine s_bipush dX10_day_42 rfl (cin rfl) ?_
    have h := Option.some.inj h
    subst h
    exact s_ireturn dX10_day_44 rfl hq
  · have h := ifn hc3 h
    refine s_iload (j := 5) dX10_day_13 rfl ?_
    refine s_iconst dX10_day_15 (cin rfl) ?_
    refine s_bipush dX10_day_16 rfl (cin rfl) ?_
    refine s_callS (As := [vI x5, vI 0, vI 7]) (rest := []) (r := (some (vI (fX10_isIn x5 0 7)))) (F' := q1.2) dX10_day_18 (clX10_115 (Nat.le_of_ble_eq_true rfl) (Nat.le_of_ble_eq_true rfl)) rfl ⟨_, _, _, _, rfl, rfl, rfl, rfl⟩ rfl (Nat.le_of_ble_eq_true rfl) ?_
    refine s_if_ne (tgt := 45) dX10_day_21 rfl (fun hc4 => ?_) (fun hc4 => ?_)
    · have h := ifp hc4 h
      exact s_sub (ks := [0, 5]) rfl (fX10_day_b45_ok o x5 q1.2 _ ho h hq)
    · have h := ifn hc4 h
      refine s_iload (j := 5) dX10_day_24 rfl ?_
      refine s_bipush dX10_day_26 rfl (cin rfl) ?_
      refine s_bipush dX10_day_28 rfl (cin rfl) ?_
      refine s_aload_n (j := 0) dX10_day_30 rfl rfl ?_
      refine s_iconst dX10_day_31 (cin rfl) ?_
      obtain ⟨r5, hv6, h⟩ := bnd h
      refine s_callV (As := [vI 5]) (rest := [vI 9, vI 10, vI x5]) (r := (some (vI r5))) (F' := q1.2) dX10_day_32 (clX10_181 (Nat.le_of_ble_eq_true rfl) (Nat.le_of_ble_eq_true rfl)) ho rfl ⟨_, _, _, rfl, ho, hv6, rfl, rfl⟩ rfl (Nat.le_of_ble_eq_true rfl) ?_
      refine s_iadd dX10_day_35 ?_
      refine s_callS (As := [vI x5, vI 10, vI (xw (9 + r5))]) (rest := []) (r := (some (vI (fX10_isIn x5 10 (xw (9 + r5)))))) (F' := q1.2) dX10_day_36 (clX10_115 (Nat.le_of_ble_eq_true rfl) (Nat.le_of_ble_eq_true rfl)) rfl ⟨_, _, _, _, rfl, rfl, rfl, rfl⟩ rfl (Nat.le_of_ble_eq_true rfl) ?_
      refine s_if_ne (tgt := 45) dX10_day_39 rfl (fun hc7 => ?_) (fun hc7 => ?_)
      · have h := ifp hc7 h
        exact s_sub (ks := [0, 5]) rfl (fX10_day_b45_ok o x5 q1.2 _ ho h hq)
      · have h := ifn hc7 h
        refine s_bipush dX10_day_42 rfl (cin rfl) ?_
        have h := Option.some.inj h
        subst h
        exact s_ireturn dX10_day_44 rfl hq
def gX10_day : XG := fun As F r F' => ∃ o : Nat, ∃ x1 : Int, ∃ x2 : Int, ∃ x3 : Int, ∃ x4 : Int, ∃ x5 : Int, ∃ res : (Int × Mem), As = [vR o, vI x1, vI x2, vI x3, vI x4, vI x5] ∧ isK o 10 ∧ fX10_day o x1 x2 x3 x4 x5 F = some res ∧ r = some (vI res.1) ∧ F' = res.2
theorem ctX10_day : xCT yX10_day cX10_day 6 (some FieldType.int) 7 170 gX10_day := xmet (by decide +kernel) (fun As F r F' hg => by obtain ⟨o, x1, x2, x3, x4, x5, res, rfl, ho, h, rfl, rfl⟩ := hg; exact Nat.le_of_ble_eq_true rfl) (fun As F r F' hg => by obtain ⟨o, x1, x2, x3, x4, x5, res, rfl, ho, h, rfl, rfl⟩ := hg; exact fX10_day_ok o x1 x2 x3 x4 x5 _ _ ho h ⟨rfl, rfl⟩)
theorem mcX10_day : Cond.code yX10_day cX10_day 6 (some FieldType.int) ∈ xw_T ∧ Cond.initialized yX10_day.cls ∈ xw_T ∧ Cond.instanceMethod yX10_day ∈ xw_T ∧ Cond.selects yX10_day.cls yX10_day yX10_day ∈ xw_T := ⟨(xinT 1854 (by decide +kernel) (by decide +kernel)), (xinT 127 (by decide +kernel) (by decide +kernel)), (xinT 1852 (by decide +kernel) (by decide +kernel)), (xinT 1853 (by decide +kernel) (by decide +kernel))⟩
theorem dX10_cross_0 : decode cX10_cross 0 = .ok (.aload_n 0, 1) := by decide +kernel
theorem dX10_cross_1 : decode cX10_cross 1 = .ok (.iconst 2, 1) := by decide +kernel
theorem dX10_cross_2 : decode cX10_cross 2 = .ok (.iload_n 1, 1) := by decide +kernel
theorem dX10_cross_3 : decode cX10_cross 3 = .ok (.invokevirtual 146, 3) := by decide +kernel
theorem dX10_cross_6 : decode cX10_cross 6 = .ok (.ifCond .eq 12, 3) := by decide +kernel
theorem dX10_cross_9 : decode cX10_cross 9 = .ok (.aload_n 0, 1) := by decide +kernel
theorem dX10_cross_10 : decode cX10_cross 10 = .ok (.iconst 2, 1) := by decide +kernel
theorem dX10_cross_11 : decode cX10_cross 11 = .ok (.iload_n 2, 1) := by decide +kernel
theorem dX10_cross_12 : decode cX10_cross 12 = .ok (.invokevirtual 146, 3) := by decide +kernel
theorem dX10_cross_15 : decode cX10_cross 15 = .ok (.ifCond .ne 5, 3) := by decide +kernel
theorem dX10_cross_18 : decode cX10_cross 18 = .ok (.iconst (-1), 1) := by decide +kernel
theorem dX10_cross_19 : decode cX10_cross 19 = .ok (.ireturn, 1) := by decide +kernel
theorem dX10_cross_20 : decode cX10_cross 20 = .ok (.aload_n 0, 1) := by decide +kernel
theorem dX10_cross_21 : decode cX10_cross 21 = .ok (.iload_n 1, 1) := by decide +kernel
theorem dX10_cross_22 : decode cX10_cross 22 = .ok (.bipush 30, 2) := by decide +kernel
theorem dX10_cross_24 : decode cX10_cross 24 = .ok (.invokevirtual 273, 3) := by decide +kernel
theorem dX10_cross_27 : decode cX10_cross 27 = .ok (.iconst 0, 1) := by decide +kernel
theorem dX10_cross_28 : decode cX10_cross 28 = .ok (.istore_n 3, 1) := by decide +kernel
theorem dX10_cross_29 : decode cX10_cross 29 = .ok (.iload_n 3, 1) := by decide +kernel
theorem dX10_cross_30 : decode cX10_cross 30 = .ok (.sipush 336, 3) := by decide +kernel
theorem dX10_cross_33 : decode cX10_cross 33 = .ok (.if_icmp .ge 21, 3) := by decide +kernel
theorem dX10_cross_36 : decode cX10_cross 36 = .ok (.aload_n 0, 1) := by decide +kernel
theorem dX10_cross_37 : decode cX10_cross 37 = .ok (.getfield 58, 3) := by decide +kernel
theorem dX10_cross_40 : decode cX10_cross 40 = .ok (.iload_n 3, 1) := by decide +kernel
theorem dX10_cross_41 : decode cX10_cross 41 = .ok (.aload_n 0, 1) := by decide +kernel
theorem dX10_cross_42 : decode cX10_cross 42 = .ok (.getfield 33, 3) := by decide +kernel
theorem dX10_cross_45 : decode cX10_cross 45 = .ok (.iload_n 3, 1) := by decide +kernel
theorem dX10_cross_46 : decode cX10_cross 46 = .ok (.iaload, 1) := by decide +kernel
theorem dX10_cross_47 : decode cX10_cross 47 = .ok (.iastore, 1) := by decide +kernel
theorem dX10_cross_48 : decode cX10_cross 48 = .ok (.iinc 3 1, 3) := by decide +kernel
theorem dX10_cross_51 : decode cX10_cross 51 = .ok (.goto (-22), 3) := by decide +kernel
theorem dX10_cross_54 : decode cX10_cross 54 = .ok (.aload_n 0, 1) := by decide +kernel
theorem dX10_cross_55 : decode cX10_cross 55 = .ok (.iload_n 2, 1) := by decide +kernel
theorem dX10_cross_56 : decode cX10_cross 56 = .ok (.bipush 30, 2) := by decide +kernel
theorem dX10_cross_58 : decode cX10_cross 58 = .ok (.invokevirtual 273, 3) := by decide +kernel
theorem dX10_cross_61 : decode cX10_cross 61 = .ok (.iconst 0, 1) := by decide +kernel
theorem dX10_cross_62 : decode cX10_cross 62 = .ok (.istore_n 3, 1) := by decide +kernel
theorem dX10_cross_63 : decode cX10_cross 63 = .ok (.iconst 0, 1) := by decide +kernel
theorem dX10_cross_64 : decode cX10_cross 64 = .ok (.istore 4, 2) := by decide +kernel
theorem dX10_cross_66 : decode cX10_cross 66 = .ok (.iload 4, 2) := by decide +kernel
theorem dX10_cross_68 : decode cX10_cross 68 = .ok (.sipush 336, 3) := by decide +kernel
theorem dX10_cross_71 : decode cX10_cross 71 = .ok (.if_icmp .ge 34, 3) := by decide +kernel
theorem dX10_cross_74 : decode cX10_cross 74 = .ok (.iload_n 3, 1) := by decide +kernel
theorem dX10_cross_75 : decode cX10_cross 75 = .ok (.aload_n 0, 1) := by decide +kernel
theorem dX10_cross_76 : decode cX10_cross 76 = .ok (.getfield 58, 3) := by decide +kernel
theorem dX10_cross_79 : decode cX10_cross 79 = .ok (.iload 4, 2) := by decide +kernel
theorem dX10_cross_81 : decode cX10_cross 81 = .ok (.iaload, 1) := by decide +kernel
theorem dX10_cross_82 : decode cX10_cross 82 = .ok (.aload_n 0, 1) := by decide +kernel
theorem dX10_cross_83 : decode cX10_cross 83 = .ok (.getfield 33, 3) := by decide +kernel
theorem dX10_cross_86 : decode cX10_cross 86 = .ok (.iload 4, 2) := by decide +kernel
theorem dX10_cross_88 : decode cX10_cross 88 = .ok (.iaload, 1) := by decide +kernel
theorem dX10_cross_89 : decode cX10_cross 89 = .ok (.if_icmp .ne 7, 3) := by decide +kernel
theorem dX10_cross_92 : decode cX10_cross 92 = .ok (.iconst 0, 1) := by decide +kernel
theorem dX10_cross_93 : decode cX10_cross 93 = .ok (.goto 4, 3) := by decide +kernel
theorem dX10_cross_96 : decode cX10_cross 96 = .ok (.iconst 1, 1) := by decide +kernel
theorem dX10_cross_97 : decode cX10_cross 97 = .ok (.iadd, 1) := by decide +kernel
theorem dX10_cross_98 : decode cX10_cross 98 = .ok (.istore_n 3, 1) := by decide +kernel
theorem dX10_cross_99 : decode cX10_cross 99 = .ok (.iinc 4 1, 3) := by decide +kernel
theorem dX10_cross_102 : decode cX10_cross 102 = .ok (.goto (-36), 3) := by decide +kernel
theorem dX10_cross_105 : decode cX10_cross 105 = .ok (.iload_n 3, 1) := by decide +kernel
theorem dX10_cross_106 : decode cX10_cross 106 = .ok (.ireturn, 1) := by decide +kernel
def zX10_cross (Qr : Option PV → Mem → Prop) : XZ := (RX10, 5, 112, 5, some FieldType.int, Qr)
noncomputable def fX10_cross_b66 : Nat → Nat → Int → Int → Mem → Option (Int × Mem)
  | 0, _, _, _, _ => none
  | n + 1, o, x3, x4, F =>
    if 336 ≤ x4 then
      some (x3, F)
    else
      if (0 : Int) ≤ x4 ∧ x4 < (alen (o + 12) : Int) then
        if (0 : Int) ≤ x4 ∧ x4 < (alen (o + 6) : Int) then
          if (F (o + 12) x4.toNat) ≠ (F (o + 6) x4.toNat) then
            fX10_cross_b66 n o (xw (x3 + 1)) (xw (x4 + 1)) F
          else
            fX10_cross_b66 n o (xw (x3 + 0)) (xw (x4 + 1)) F
        else none
      else none
noncomputable def fX10_cross_b29 : Nat → Nat → Int → Int → Mem → Option (Int × Mem)
  | 0, _, _, _, _ => none
  | n + 1, o, x2, x3, F =>
    if 336 ≤ x3 then
      (fX10_goesBy o x2 30 F).bind fun q2 =>
      fX10_cross_b66 FU o 0 0 q2
    else
      if (0 : Int) ≤ x3 ∧ x3 < (alen (o + 6) : Int) then
        if (0 : Int) ≤ x3 ∧ x3 < (alen (o + 12) : Int) then
          fX10_cross_b29 n o x2 (xw (x3 + 1)) (mset F (o + 12) x3.toNat (F (o + 6) x3.toNat))
        else none
      else none
noncomputable def fX10_cross (o : Nat) (x1 : Int) (x2 : Int) (F : Mem) : Option (Int × Mem) :=
  (fX10_isOf o 2 x1 F).bind fun r1 =>
  if r1 = 0 then
    some ((-1), F)
  else
    (fX10_isOf o 2 x2 F).bind fun r4 =>
    if r4 ≠ 0 then
      (fX10_goesBy o x1 30 F).bind fun q7 =>
      fX10_cross_b29 FU o x2 0 q7
    else
      some ((-1), F)
theorem fX10_cross_b66_ok {Qr : Option PV → Mem → Prop}  : ∀ (n : Nat) (o : Nat) (x3 : Int) (x4 : Int) (F : Mem) (res : (Int × Mem)) (ho : isK o 10), fX10_cross_b66 n o x3 x4 F = some res → Qr (some (vI res.1)) res.2 → PR cX10_cross (zX10_cross Qr) 66 [(0, vR o), (3, vI x3), (4, vI x4)] [] F := by
  intro n
  induction n with
  | zero => intro o x3 x4 F res ho h hq; exact nomatch (show (none : Option _) = some _ from h)
  | succ n ih =>
    intro o x3 x4 F res ho h hq
    refine s_iload (j := 2) dX10_cross_66 rfl ?_
    refine s_sipush dX10_cross_68 rfl (cin rfl) ?_
    refine s_icmp_ge (tgt := 105) dX10_cross_71 rfl (fun hc1 => ?_) (fun hc1 => ?_)
    · have h := ifp hc1 h
      refine s_iload_n (j := 1) dX10_cross_105 rfl rfl ?_
      have h := Option.some.inj h
      subst h
      exact s_ireturn dX10_cross_106 rfl hq
    · have h := ifn hc1 h
      refine s_iload_n (j := 1) dX10_cross_74 rfl rfl ?_
      refine s_aload_n (j := 0) dX10_cross_75 rfl rfl ?_
      refine s_getR dX10_cross_76 flX10_58 ho ?_
      refine s_iload (j := 2) dX10_cross_79 rfl ?_
      obtain ⟨hb2, h⟩ := gd h
      refine s_iaload dX10_cross_81 (trX10_45 ho) hb2.1 hb2.2 ?_
      refine s_aload_n (j := 0) dX10_cross_82 rfl rfl ?_
      refine s_getR dX10_cross_83 flX10_33 ho ?_
      refine s_iload (j := 2) dX10_cross_86 rfl ?_
      obtain ⟨hb3, h⟩ := gd h
      refine s_iaload dX10_cross_88 (trX10_18 ho) hb3.1 hb3.2 ?_
      refine s_icmp_ne (tgt := 96) dX10_cross_89 rfl (fun hc4 => ?_) (fun hc4 => ?_)
      · have h := ifp hc4 h
        refine s_iconst dX10_cross_96 (cin rfl) ?_
        refine s_iadd dX10_cross_97 ?_
        refine s_istore_n (ls' := [(3, vI (xw (x3 + 1))), (0, vR o), (4, vI x4)]) dX10_cross_98 rfl (Nat.le_of_ble_eq_true rfl) rfl ?_
        refine s_iinc (j := 2) dX10_cross_99 rfl (Nat.le_of_ble_eq_true rfl) rfl ?_
        refine s_goto (tgt := 66) dX10_cross_102 rfl ?_
        exact s_sub (ks := [2, 1, 0]) rfl (ih o (xw (x3 + 1)) (xw (x4 + 1)) F _ ho h hq)
      · have h := ifn hc4 h
        refine s_iconst dX10_cross_92 (cin rfl) ?_
        refine s_goto (tgt := 97) dX10_cross_93 rfl ?_
        refine s_iadd dX10_cross_97 ?_
        refine s_istore_n (ls' := [(3, vI (xw (x3 + 0))), (0, vR o), (4, vI x4)]) dX10_cross_98 rfl (Nat.le_of_ble_eq_true rfl) rfl ?_
        refine s_iinc (j := 2) dX10_cross_99 rfl (Nat.le_of_ble_eq_true rfl) rfl ?_
        refine s_goto (tgt := 66) dX10_cross_102 rfl ?_
        exact s_sub (ks := [2, 1, 0]) rfl (ih o (xw (x3 + 0)) (xw (x4 + 1)) F _ ho h hq)
theorem fX10_cross_b29_ok {Qr : Option PV → Mem → Prop}  : ∀ (n : Nat) (o : Nat) (x2 : Int) (x3 : Int) (F : Mem) (res : (Int × Mem)) (ho : isK o 10), fX10_cross_b29 n o x2 x3 F = some res → Qr (some (vI res.1)) res.2 → PR cX10_cross (zX10_cross Qr) 29 [(0, vR o), (2, vI x2), (3, vI x3)] [] F := by
  intro n
  induction n with
  | zero => intro o x2 x3 F res ho h hq; exact nomatch (show (none : Option _) = some _ from h)
  | succ n ih =>
    intro o x2 x3 F res ho h hq
    refine s_iload_n (j := 2) dX10_cross_29 rfl rfl ?_
    refine s_sipush dX10_cross_30 rfl (cin rfl) ?_
    refine s_icmp_ge (tgt := 54) dX10_cross_33 rfl (fun hc1 => ?_) (fun hc1 => ?_)
    · have h := ifp hc1 h
      refine s_aload_n (j := 0) dX10_cross_54 rfl rfl ?_
      refine s_iload_n (j := 1) dX10_cross_55 rfl rfl ?_
      refine s_bipush dX10_cross_56 rfl (cin rfl) ?_
      obtain ⟨q2, hv3, h⟩ := bnd h
      refine s_callV (As := [vI x2, vI 30]) (rest := []) (r := none) (F' := q2) dX10_cross_58 (clX10_273 (Nat.le_of_ble_eq_true rfl) (Nat.le_of_ble_eq_true rfl)) ho rfl ⟨_, _, _, _, rfl, ho, hv3, rfl, rfl⟩ rfl (Nat.le_of_ble_eq_true rfl) ?_
      refine s_iconst dX10_cross_61 (cin rfl) ?_
      refine s_istore_n (ls' := [(3, vI 0), (0, vR o), (2, vI x2)]) dX10_cross_62 rfl (Nat.le_of_ble_eq_true rfl) rfl ?_
      refine s_iconst dX10_cross_63 (cin rfl) ?_
      refine s_istore dX10_cross_64 (Nat.le_of_ble_eq_true rfl) rfl ?_
      exact s_sub (ks := [2, 1, 0]) rfl (fX10_cross_b66_ok FU o 0 0 q2 _ ho h hq)
    · have h := ifn hc1 h
      refine s_aload_n (j := 0) dX10_cross_36 rfl rfl ?_
      refine s_getR dX10_cross_37 flX10_58 ho ?_
      refine s_iload_n (j := 2) dX10_cross_40 rfl rfl ?_
      refine s_aload_n (j := 0) dX10_cross_41 rfl rfl ?_
      refine s_getR dX10_cross_42 flX10_33 ho ?_
      refine s_iload_n (j := 2) dX10_cross_45 rfl rfl ?_
      obtain ⟨hb4, h⟩ := gd h
      refine s_iaload dX10_cross_46 (trX10_18 ho) hb4.1 hb4.2 ?_
      obtain ⟨hb5, h⟩ := gd h
      refine s_iastore dX10_cross_47 (trX10_45 ho) hb5.1 hb5.2 ?_
      refine s_iinc (ls' := [(3, vI (xw (x3 + 1))), (0, vR o), (2, vI x2)]) (j := 2) dX10_cross_48 rfl (Nat.le_of_ble_eq_true rfl) rfl ?_
      refine s_goto (tgt := 29) dX10_cross_51 rfl ?_
      exact s_sub (ks := [1, 2, 0]) rfl (ih o x2 (xw (x3 + 1)) (mset F (o + 12) x3.toNat (F (o + 6) x3.toNat)) _ ho h hq)
theorem fX10_cross_ok {Qr : Option PV → Mem → Prop} : ∀ (o : Nat) (x1 : Int) (x2 : Int) (F : Mem) (res : (Int × Mem)) (ho : isK o 10), fX10_cross o x1 x2 F = some res → Qr (some (vI res.1)) res.2 → PR cX10_cross (zX10_cross Qr) 0 [(0, vR o), (1, vI x1), (2, vI x2)] [] F := by
  intro o x1 x2 F res ho h hq
  refine s_aload_n (j := 0) dX10_cross_0 rfl rfl ?_
  refine s_iconst dX10_cross_1 (cin rfl) ?_
  refine s_iload_n (j := 1) dX10_cross_2 rfl rfl ?_
  obtain ⟨r1, hv2, h⟩ := bnd h
  refine s_callV (As := [vI 2, vI x1]) (rest := []) (r := (some (vI r1))) (F' := F) dX10_cross_3 (clX10_146 (Nat.le_of_ble_eq_true rfl) (Nat.le_of_ble_eq_true rfl)) ho rfl ⟨_, _, _, _, rfl, ho, hv2, rfl, rfl⟩ rfl (Nat.le_of_ble_eq_true rfl) ?_
  refine s_if_eq (tgt := 18) dX10_cross_6 rfl (fun hc3 => ?_) (fun hc3 => ?_)
  · have h := ifp hc3 h
    refine s_iconst dX10_cross_18 (cin rfl) ?_
    have h := Option.some.inj h
    subst h
    exact s_ireturn dX10_cross_19 rfl hq
  · have h := ifn hc3 h
    refine s_aload_n (j := 0) dX10_cross_9 rfl rfl ?_
    refine s_iconst dX10_cross_10 (cin rfl) ?_
    refine s_iload_n (j := 2) dX10_cross_11 rfl rfl ?_
    obtain ⟨r4, hv5, h⟩ := bnd h
    refine s_callV (As := [vI 2, vI x2]) (rest := []) (r := (some (vI r4))) (F' := F) dX10_cross_12 (clX10_146 (Nat.le_of_ble_eq_true rfl) (Nat.le_of_ble_eq_true rfl)) ho rfl ⟨_, _, _, _, rfl, ho, hv5, rfl, rfl⟩ rfl (Nat.le_of_ble_eq_true rfl) ?_
    refine s_if_ne (tgt := 20) dX10_cross_15 rfl (fun hc6 => ?_) (fun hc6 => ?_)
    · have h := ifp hc6 h
      refine s_aload_n (j := 0) dX10_cross_20 rfl rfl ?_
      refine s_iload_n (j := 1) dX10_cross_21 rfl rfl ?_
      refine s_bipush dX10_cross_22 rfl (cin rfl) ?_
      obtain ⟨q7, hv8, h⟩ := bnd h
      refine s_callV (As := [vI x1, vI 30]) (rest := []) (r := none) (F' := q7) dX10_cross_24 (clX10_273 (Nat.le_of_ble_eq_true rfl) (Nat.le_of_ble_eq_true rfl)) ho rfl ⟨_, _, _, _, rfl, ho, hv8, rfl, rfl⟩ rfl (Nat.le_of_ble_eq_true rfl) ?_
      refine s_iconst dX10_cross_27 (cin rfl) ?_
      refine s_istore_n (ls' := [(3, vI 0), (0, vR o), (1, vI x1), (2, vI x2)]) dX10_cross_28 rfl (Nat.le_of_ble_eq_true rfl) rfl ?_
      exact s_sub (ks := [1, 3, 0]) rfl (fX10_cross_b29_ok FU o x2 0 q7 _ ho h hq)
    · have h := ifn hc6 h
      refine s_iconst dX10_cross_18 (cin rfl) ?_
      have h := Option.some.inj h
      subst h
      exact s_ireturn dX10_cross_19 rfl hq
def gX10_cross : XG := fun As F r F' => ∃ o : Nat, ∃ x1 : Int, ∃ x2 : Int, ∃ res : (Int × Mem), As = [vR o, vI x1, vI x2] ∧ isK o 10 ∧ fX10_cross o x1 x2 F = some res ∧ r = some (vI res.1) ∧ F' = res.2
theorem ctX10_cross : xCT yX10_cross cX10_cross 5 (some FieldType.int) 5 112 gX10_cross := xmet (by decide +kernel) (fun As F r F' hg => by obtain ⟨o, x1, x2, res, rfl, ho, h, rfl, rfl⟩ := hg; exact Nat.le_of_ble_eq_true rfl) (fun As F r F' hg => by obtain ⟨o, x1, x2, res, rfl, ho, h, rfl, rfl⟩ := hg; exact fX10_cross_ok o x1 x2 _ _ ho h ⟨rfl, rfl⟩)
theorem mcX10_cross : Cond.code yX10_cross cX10_cross 5 (some FieldType.int) ∈ xw_T ∧ Cond.initialized yX10_cross.cls ∈ xw_T ∧ Cond.instanceMethod yX10_cross ∈ xw_T ∧ Cond.selects yX10_cross.cls yX10_cross yX10_cross ∈ xw_T := ⟨(xinT 1886 (by decide +kernel) (by decide +kernel)), (xinT 127 (by decide +kernel) (by decide +kernel)), (xinT 1884 (by decide +kernel) (by decide +kernel)), (xinT 1885 (by decide +kernel) (by decide +kernel))⟩
theorem dX10_error_0 : decode cX10_error 0 = .ok (.aload_n 0, 1) := by decide +kernel
theorem dX10_error_1 : decode cX10_error 1 = .ok (.iconst 3, 1) := by decide +kernel
theorem dX10_error_2 : decode cX10_error 2 = .ok (.iload_n 1, 1) := by decide +kernel
theorem dX10_error_3 : decode cX10_error 3 = .ok (.invokevirtual 146, 3) := by decide +kernel
theorem dX10_error_6 : decode cX10_error 6 = .ok (.ifCond .ne 6, 3) := by decide +kernel
theorem dX10_error_9 : decode cX10_error 9 = .ok (.bipush (-2), 2) := by decide +kernel
theorem dX10_error_11 : decode cX10_error 11 = .ok (.ireturn, 1) := by decide +kernel
theorem dX10_error_12 : decode cX10_error 12 = .ok (.iconst 3, 1) := by decide +kernel
theorem dX10_error_13 : decode cX10_error 13 = .ok (.iload_n 1, 1) := by decide +kernel
theorem dX10_error_14 : decode cX10_error 14 = .ok (.invokestatic 169, 3) := by decide +kernel
theorem dX10_error_17 : decode cX10_error 17 = .ok (.istore 4, 2) := by decide +kernel
theorem dX10_error_19 : decode cX10_error 19 = .ok (.iload_n 2, 1) := by decide +kernel
theorem dX10_error_20 : decode cX10_error 20 = .ok (.iconst (-1), 1) := by decide +kernel
theorem dX10_error_21 : decode cX10_error 21 = .ok (.if_icmp .ne 20, 3) := by decide +kernel
theorem dX10_error_24 : decode cX10_error 24 = .ok (.iload_n 3, 1) := by decide +kernel
theorem dX10_error_25 : decode cX10_error 25 = .ok (.ifCond .ne 13, 3) := by decide +kernel
theorem dX10_error_28 : decode cX10_error 28 = .ok (.aload_n 0, 1) := by decide +kernel
theorem dX10_error_29 : decode cX10_error 29 = .ok (.getfield 7, 3) := by decide +kernel
theorem dX10_error_32 : decode cX10_error 32 = .ok (.iload 4, 2) := by decide +kernel
theorem dX10_error_34 : decode cX10_error 34 = .ok (.iaload, 1) := by decide +kernel
theorem dX10_error_35 : decode cX10_error 35 = .ok (.goto 5, 3) := by decide +kernel
theorem dX10_error_38 : decode cX10_error 38 = .ok (.bipush (-2), 2) := by decide +kernel
theorem dX10_error_40 : decode cX10_error 40 = .ok (.ireturn, 1) := by decide +kernel
theorem dX10_error_41 : decode cX10_error 41 = .ok (.iload_n 2, 1) := by decide +kernel
theorem dX10_error_42 : decode cX10_error 42 = .ok (.iconst 0, 1) := by decide +kernel
theorem dX10_error_43 : decode cX10_error 43 = .ok (.aload_n 0, 1) := by decide +kernel
theorem dX10_error_44 : decode cX10_error 44 = .ok (.getfield 7, 3) := by decide +kernel
theorem dX10_error_47 : decode cX10_error 47 = .ok (.iload 4, 2) := by decide +kernel
theorem dX10_error_49 : decode cX10_error 49 = .ok (.iaload, 1) := by decide +kernel
theorem dX10_error_50 : decode cX10_error 50 = .ok (.iconst 1, 1) := by decide +kernel
theorem dX10_error_51 : decode cX10_error 51 = .ok (.isub, 1) := by decide +kernel
theorem dX10_error_52 : decode cX10_error 52 = .ok (.invokestatic 115, 3) := by decide +kernel
theorem dX10_error_55 : decode cX10_error 55 = .ok (.ifCond .eq 30, 3) := by decide +kernel
theorem dX10_error_58 : decode cX10_error 58 = .ok (.iload_n 3, 1) := by decide +kernel
theorem dX10_error_59 : decode cX10_error 59 = .ok (.iconst 0, 1) := by decide +kernel
theorem dX10_error_60 : decode cX10_error 60 = .ok (.iconst 1, 1) := by decide +kernel
theorem dX10_error_61 : decode cX10_error 61 = .ok (.invokestatic 115, 3) := by decide +kernel
theorem dX10_error_64 : decode cX10_error 64 = .ok (.ifCond .eq 21, 3) := by decide +kernel
theorem dX10_error_67 : decode cX10_error 67 = .ok (.aload_n 0, 1) := by decide +kernel
theorem dX10_error_68 : decode cX10_error 68 = .ok (.getfield 7, 3) := by decide +kernel
theorem dX10_error_71 : decode cX10_error 71 = .ok (.iload 4, 2) := by decide +kernel
theorem dX10_error_73 : decode cX10_error 73 = .ok (.iconst 1, 1) := by decide +kernel
theorem dX10_error_74 : decode cX10_error 74 = .ok (.iadd, 1) := by decide +kernel
theorem dX10_error_75 : decode cX10_error 75 = .ok (.iconst 2, 1) := by decide +kernel
theorem dX10_error_76 : decode cX10_error 76 = .ok (.iload_n 2, 1) := by decide +kernel
theorem dX10_error_77 : decode cX10_error 77 = .ok (.imul, 1) := by decide +kernel
theorem dX10_error_78 : decode cX10_error 78 = .ok (.iadd, 1) := by decide +kernel
theorem dX10_error_79 : decode cX10_error 79 = .ok (.iload_n 3, 1) := by decide +kernel
theorem dX10_error_80 : decode cX10_error 80 = .ok (.iadd, 1) := by decide +kernel
theorem dX10_error_81 : decode cX10_error 81 = .ok (.iaload, 1) := by decide +kernel
theorem dX10_error_82 : decode cX10_error 82 = .ok (.goto 5, 3) := by decide +kernel
theorem dX10_error_85 : decode cX10_error 85 = .ok (.bipush (-2), 2) := by decide +kernel
theorem dX10_error_87 : decode cX10_error 87 = .ok (.ireturn, 1) := by decide +kernel
def zX10_error (Qr : Option PV → Mem → Prop) : XZ := (RX10, 2, 44, 5, some FieldType.int, Qr)
noncomputable def fX10_error (o : Nat) (x1 : Int) (x2 : Int) (x3 : Int) (F : Mem) : Option Int :=
  (fX10_isOf o 3 x1 F).bind fun r1 =>
  if r1 ≠ 0 then
    if x2 ≠ (-1) then
      if (0 : Int) ≤ (fX10_placeOf 3 x1) ∧ (fX10_placeOf 3 x1) < (alen (o + 1) : Int) then
        if (fX10_isIn x2 0 (xw ((F (o + 1) (fX10_placeOf 3 x1).toNat) - 1))) = 0 then
          some (-2)
        else
          if (fX10_isIn x3 0 1) = 0 then
            some (-2)
          else
            if (0 : Int) ≤ (xw ((xw ((xw ((fX10_placeOf 3 x1) + 1)) + (xw (2 * x2)))) + x3)) ∧ (xw ((xw ((xw ((fX10_placeOf 3 x1) + 1)) + (xw (2 * x2)))) + x3)) < (alen (o + 1) : Int) then
              some (F (o + 1) (xw ((xw ((xw ((fX10_placeOf 3 x1) + 1)) + (xw (2 * x2)))) + x3)).toNat)
            else none
      else none
    else
      if x3 ≠ 0 then
        some (-2)
      else
        if (0 : Int) ≤ (fX10_placeOf 3 x1) ∧ (fX10_placeOf 3 x1) < (alen (o + 1) : Int) then
          some (F (o + 1) (fX10_placeOf 3 x1).toNat)
        else none
  else
    some (-2)
theorem fX10_error_ok {Qr : Option PV → Mem → Prop} : ∀ (o : Nat) (x1 : Int) (x2 : Int) (x3 : Int) (F : Mem) (res : Int) (ho : isK o 10), fX10_error o x1 x2 x3 F = some res → Qr (some (vI res)) F → PR cX10_error (zX10_error Qr) 0 [(0, vR o), (1, vI x1), (2, vI x2), (3, vI x3)] [] F := by
  intro o x1 x2 x3 F res ho h hq
  refine s_aload_n (j := 0) dX10_error_0 rfl rfl ?_
  refine s_iconst dX10_error_1 (cin rfl) ?_
  refine s_iload_n (j := 1) dX10_error_2 rfl rfl ?_
  obtain ⟨r1, hv2, h⟩ := bnd h
  refine s_callV (As := [vI 3, vI x1]) (rest := []) (r := (some (vI r1))) (F' := F) dX10_error_3 (clX10_146 (Nat.le_of_ble_eq_true rfl) (Nat.le_of_ble_eq_true rfl)) ho rfl ⟨_, _, _, _, rfl, ho, hv2, rfl, rfl⟩ rfl (Nat.le_of_ble_eq_true rfl) ?_
  refine s_if_ne (tgt := 12) dX10_error_6 rfl (fun hc3 => ?_) (fun hc3 => ?_)
  · have h := ifp hc3 h
    refine s_iconst dX10_error_12 (cin rfl) ?_
    refine s_iload_n (j := 1) dX10_error_13 rfl rfl ?_
    refine s_callS (As := [vI 3, vI x1]) (rest := []) (r := (some (vI (fX10_placeOf 3 x1)))) (F' := F) dX10_error_14 (clX10_169 (Nat.le_of_ble_eq_true rfl) (Nat.le_of_ble_eq_true rfl)) rfl ⟨_, _, _, rfl, rfl, rfl, rfl⟩ rfl (Nat.le_of_ble_eq_true rfl) ?_
    refine s_istore (ls' := [(4, vI (fX10_placeOf 3 x1)), (0, vR o), (1, vI x1), (2, vI x2), (3, vI x3)]) dX10_error_17 (Nat.le_of_ble_eq_true rfl) rfl ?_
    refine s_iload_n (j := 3) dX10_error_19 rfl rfl ?_
    refine s_iconst dX10_error_20 (cin rfl) ?_
    refine s_icmp_ne (tgt := 41) dX10_error_21 rfl (fun hc4 => ?_) (fun hc4 => ?_)
    · have h := ifp hc4 h
      refine s_iload_n (j := 3) dX10_error_41 rfl rfl ?_
      refine s_iconst dX10_error_42 (cin rfl) ?_
      refine s_aload_n (j := 1) dX10_error_43 rfl rfl ?_
      refine s_getR dX10_error_44 flX10_7 ho ?_
      refine s_iload (j := 0) dX10_error_47 rfl ?_
      obtain ⟨hb5, h⟩ := gd h
      refine s_iaload dX10_error_49 (trX10_0 ho) hb5.1 hb5.2 ?_
      refine s_iconst dX10_error_50 (cin rfl) ?_
      refine s_isub dX10_error_51 ?_
      refine s_callS (As := [vI x2, vI 0, vI (xw ((F (o + 1) (fX10_placeOf 3 x1).toNat) - 1))]) (rest := []) (r := (some (vI (fX10_isIn x2 0 (xw ((F (o + 1) (fX10_placeOf 3 x1).toNat) - 1)))))) (F' := F) dX10_error_52 (clX10_115 (Nat.le_of_ble_eq_true rfl) (Nat.le_of_ble_eq_true rfl)) rfl ⟨_, _, _, _, rfl, rfl, rfl, rfl⟩ rfl (Nat.le_of_ble_eq_true rfl) ?_
      refine s_if_eq (tgt := 85) dX10_error_55 rfl (fun hc6 => ?_) (fun hc6 => ?_)
      · have h := ifp hc6 h
        refine s_bipush dX10_error_85 rfl (cin rfl) ?_
        have h := Option.some.inj h
        subst h
        exact s_ireturn dX10_error_87 rfl hq
      · have h := ifn hc6 h
        refine s_iload_n (j := 4) dX10_error_58 rfl rfl ?_
        refine s_iconst dX10_error_59 (cin rfl) ?_
        refine s_iconst dX10_error_60 (cin rfl) ?_
        refine s_callS (As := [vI x3, vI 0, vI 1]) (rest := []) (r := (some (vI (fX10_isIn x3 0 1)))) (F' := F) dX10_error_61 (clX10_115 (Nat.le_of_ble_eq_true rfl) (Nat.le_of_ble_eq_true rfl)) rfl ⟨_, _, _, _, rfl, rfl, rfl, rfl⟩ rfl (Nat.le_of_ble_eq_true rfl) ?_
        refine s_if_eq (tgt := 85) dX10_error_64 rfl (fun hc7 => ?_) (fun hc7 => ?_)
        · have h := ifp hc7 h
          refine s_bipush dX10_error_85 rfl (cin rfl) ?_
          have h := Option.some.inj h
          subst h
          exact s_ireturn dX10_error_87 rfl hq
        · have h := ifn hc7 h
          refine s_aload_n (j := 1) dX10_error_67 rfl rfl ?_
          refine s_getR dX10_error_68 flX10_7 ho ?_
          refine s_iload (j := 0) dX10_error_71 rfl ?_
          refine s_iconst dX10_error_73 (cin rfl) ?_
          refine s_iadd dX10_error_74 ?_
          refine s_iconst dX10_error_75 (cin rfl) ?_
          refine s_iload_n (j := 3) dX10_error_76 rfl rfl ?_
          refine s_imul dX10_error_77 ?_
          refine s_iadd dX10_error_78 ?_
          refine s_iload_n (j := 4) dX10_error_79 rfl rfl ?_
          refine s_iadd dX10_error_80 ?_
          obtain ⟨hb8, h⟩ := gd h
          refine s_iaload dX10_error_81 (trX10_0 ho) hb8.1 hb8.2 ?_
          refine s_goto (tgt := 87) dX10_error_82 rfl ?_
          have h := Option.some.inj h
          subst h
          exact s_ireturn dX10_error_87 rfl hq
    · have h := ifn hc4 h
      refine s_iload_n (j := 4) dX10_error_24 rfl rfl ?_
      refine s_if_ne (tgt := 38) dX10_error_25 rfl (fun hc9 => ?_) (fun hc9 => ?_)
      · have h := ifp hc9 h
        refine s_bipush dX10_error_38 rfl (cin rfl) ?_
        have h := Option.some.inj h
        subst h
        exact s_ireturn dX10_error_40 rfl hq
      · have h := ifn hc9 h
        refine s_aload_n (j := 1) dX10_error_28 rfl rfl ?_
        refine s_getR dX10_error_29 flX10_7 ho ?_
        refine s_iload (j := 0) dX10_error_32 rfl ?_
        obtain ⟨hb10, h⟩ := gd h
        refine s_iaload dX10_error_34 (trX10_0 ho) hb10.1 hb10.2 ?_
        refine s_goto (tgt := 40) dX10_error_35 rfl ?_
        have h := Option.some.inj h
        subst h
        exact s_ireturn dX10_error_40 rfl hq
  · have h := ifn hc3 h
    refine s_bipush dX10_error_9 rfl (cin rfl) ?_
    have h := Option.some.inj h
    subst h
    exact s_ireturn dX10_error_11 rfl hq
def gX10_error : XG := fun As F r F' => ∃ o : Nat, ∃ x1 : Int, ∃ x2 : Int, ∃ x3 : Int, ∃ res : Int, As = [vR o, vI x1, vI x2, vI x3] ∧ isK o 10 ∧ fX10_error o x1 x2 x3 F = some res ∧ r = some (vI res) ∧ F' = F
theorem ctX10_error : xCT yX10_error cX10_error 5 (some FieldType.int) 2 44 gX10_error := xmet (by decide +kernel) (fun As F r F' hg => by obtain ⟨o, x1, x2, x3, res, rfl, ho, h, rfl, rfl⟩ := hg; exact Nat.le_of_ble_eq_true rfl) (fun As F r F' hg => by obtain ⟨o, x1, x2, x3, res, rfl, ho, h, rfl, rfl⟩ := hg; exact fX10_error_ok o x1 x2 x3 _ _ ho h ⟨rfl, rfl⟩)
theorem mcX10_error : Cond.code yX10_error cX10_error 5 (some FieldType.int) ∈ xw_T ∧ Cond.initialized yX10_error.cls ∈ xw_T ∧ Cond.instanceMethod yX10_error ∈ xw_T ∧ Cond.selects yX10_error.cls yX10_error yX10_error ∈ xw_T := ⟨(xinT 1890 (by decide +kernel) (by decide +kernel)), (xinT 127 (by decide +kernel) (by decide +kernel)), (xinT 1888 (by decide +kernel) (by decide +kernel)), (xinT 1889 (by decide +kernel) (by decide +kernel))⟩
theorem dX10_madeOf_0 : decode cX10_madeOf 0 = .ok (.iload_n 2, 1) := by decide +kernel
theorem dX10_madeOf_1 : decode cX10_madeOf 1 = .ok (.istore_n 3, 1) := by decide +kernel
theorem dX10_madeOf_2 : decode cX10_madeOf 2 = .ok (.iconst 0, 1) := by decide +kernel
theorem dX10_madeOf_3 : decode cX10_madeOf 3 = .ok (.istore 4, 2) := by decide +kernel
theorem dX10_madeOf_5 : decode cX10_madeOf 5 = .ok (.iload 4, 2) := by decide +kernel
theorem dX10_madeOf_7 : decode cX10_madeOf 7 = .ok (.aload_n 0, 1) := by decide +kernel
theorem dX10_madeOf_8 : decode cX10_madeOf 8 = .ok (.iconst 0, 1) := by decide +kernel
theorem dX10_madeOf_9 : decode cX10_madeOf 9 = .ok (.invokevirtual 181, 3) := by decide +kernel
theorem dX10_madeOf_12 : decode cX10_madeOf 12 = .ok (.if_icmp .ge 41, 3) := by decide +kernel
theorem dX10_madeOf_15 : decode cX10_madeOf 15 = .ok (.aload_n 0, 1) := by decide +kernel
theorem dX10_madeOf_16 : decode cX10_madeOf 16 = .ok (.iload_n 1, 1) := by decide +kernel
theorem dX10_madeOf_17 : decode cX10_madeOf 17 = .ok (.invokevirtual 189, 3) := by decide +kernel
theorem dX10_madeOf_20 : decode cX10_madeOf 20 = .ok (.ifCond .eq 33, 3) := by decide +kernel
theorem dX10_madeOf_23 : decode cX10_madeOf 23 = .ok (.aload_n 0, 1) := by decide +kernel
theorem dX10_madeOf_24 : decode cX10_madeOf 24 = .ok (.iload_n 1, 1) := by decide +kernel
theorem dX10_madeOf_25 : decode cX10_madeOf 25 = .ok (.iload 4, 2) := by decide +kernel
theorem dX10_madeOf_27 : decode cX10_madeOf 27 = .ok (.iconst 0, 1) := by decide +kernel
theorem dX10_madeOf_28 : decode cX10_madeOf 28 = .ok (.invokevirtual 223, 3) := by decide +kernel
theorem dX10_madeOf_31 : decode cX10_madeOf 31 = .ok (.istore 5, 2) := by decide +kernel
theorem dX10_madeOf_33 : decode cX10_madeOf 33 = .ok (.iload_n 3, 1) := by decide +kernel
theorem dX10_madeOf_34 : decode cX10_madeOf 34 = .ok (.iload 5, 2) := by decide +kernel
theorem dX10_madeOf_36 : decode cX10_madeOf 36 = .ok (.if_icmp .ge 6, 3) := by decide +kernel
theorem dX10_madeOf_39 : decode cX10_madeOf 39 = .ok (.iload 4, 2) := by decide +kernel
theorem dX10_madeOf_41 : decode cX10_madeOf 41 = .ok (.ireturn, 1) := by decide +kernel
theorem dX10_madeOf_42 : decode cX10_madeOf 42 = .ok (.iload_n 3, 1) := by decide +kernel
theorem dX10_madeOf_43 : decode cX10_madeOf 43 = .ok (.iload 5, 2) := by decide +kernel
theorem dX10_madeOf_45 : decode cX10_madeOf 45 = .ok (.isub, 1) := by decide +kernel
theorem dX10_madeOf_46 : decode cX10_madeOf 46 = .ok (.istore_n 3, 1) := by decide +kernel
theorem dX10_madeOf_47 : decode cX10_madeOf 47 = .ok (.iinc 4 1, 3) := by decide +kernel
theorem dX10_madeOf_50 : decode cX10_madeOf 50 = .ok (.goto (-45), 3) := by decide +kernel
theorem dX10_madeOf_53 : decode cX10_madeOf 53 = .ok (.iconst (-1), 1) := by decide +kernel
theorem dX10_madeOf_54 : decode cX10_madeOf 54 = .ok (.ireturn, 1) := by decide +kernel
def zX10_madeOf (Qr : Option PV → Mem → Prop) : XZ := (RX10, 4, 90, 6, some FieldType.int, Qr)
noncomputable def fX10_madeOf_b5 (F : Mem) : Nat → Nat → Int → Int → Int → Option Int
  | 0, _, _, _, _ => none
  | n + 1, o, x1, x3, x4 =>
    (fX10_of o 0 F).bind fun r1 =>
    if r1 ≤ x4 then
      some (-1)
    else
      (fX10_isHouse o x1 F).bind fun r4 =>
      if r4 = 0 then
        some (-1)
      else
        (fX10_rowsIn o x1 x4 0 F).bind fun r7 =>
        if r7 ≤ x3 then
          fX10_madeOf_b5 F n o x1 (xw (x3 - r7)) (xw (x4 + 1))
        else
          some x4
noncomputable def fX10_madeOf (o : Nat) (x1 : Int) (x2 : Int) (F : Mem) : Option Int :=
  fX10_madeOf_b5 F FU o x1 x2 0
theorem fX10_madeOf_b5_ok {Qr : Option PV → Mem → Prop}  (F : Mem) : ∀ (n : Nat) (o : Nat) (x1 : Int) (x3 : Int) (x4 : Int) (res : Int) (ho : isK o 10), fX10_madeOf_b5 F n o x1 x3 x4 = some res → Qr (some (vI res)) F → PR cX10_madeOf (zX10_madeOf Qr) 5 [(0, vR o), (1, vI x1), (3, vI x3), (4, vI x4)] [] F := by
  intro n
  induction n with
  | zero => intro o x1 x3 x4 res ho h hq; exact nomatch (show (none : Option _) = some _ from h)
  | succ n ih =>
    intro o x1 x3 x4 res ho h hq
    refine s_iload (j := 3) dX10_madeOf_5 rfl ?_
    refine s_aload_n (j := 0) dX10_madeOf_7 rfl rfl ?_
    refine s_iconst dX10_madeOf_8 (cin rfl) ?_
    obtain ⟨r1, hv2, h⟩ := bnd h
    refine s_callV (As := [vI 0]) (rest := [vI x4]) (r := (some (vI r1))) (F' := F) dX10_madeOf_9 (clX10_181 (Nat.le_of_ble_eq_true rfl) (Nat.le_of_ble_eq_true rfl)) ho rfl ⟨_, _, _, rfl, ho, hv2, rfl, rfl⟩ rfl (Nat.le_of_ble_eq_true rfl) ?_
    refine s_icmp_ge (tgt := 53) dX10_madeOf_12 rfl (fun hc3 => ?_) (fun hc3 => ?_)
    · have h := ifp hc3 h
      refine s_iconst dX10_madeOf_53 (cin rfl) ?_
      have h := Option.some.inj h
      subst h
      exact s_ireturn dX10_madeOf_54 rfl hq
    · have h := ifn hc3 h
      refine s_aload_n (j := 0) dX10_madeOf_15 rfl rfl ?_
      refine s_iload_n (j := 1) dX10_madeOf_16 rfl rfl ?_
      obtain ⟨r4, hv5, h⟩ := bnd h
      refine s_callV (As := [vI x1]) (rest := []) (r := (some (vI r4))) (F' := F) dX10_madeOf_17 (clX10_189 (Nat.le_of_ble_eq_true rfl) (Nat.le_of_ble_eq_true rfl)) ho rfl ⟨_, _, _, rfl, ho, hv5, rfl, rfl⟩ rfl (Nat.le_of_ble_eq_true rfl) ?_
      refine s_if_eq (tgt := 53) dX10_madeOf_20 rfl (fun hc6 => ?_) (fun hc6 => ?_)
      · have h := ifp hc6 h
        refine s_iconst dX10_madeOf_53 (cin rfl) ?_
        have h := Option.some.inj h
        subst h
        exact s_ireturn dX10_madeOf_54 rfl hq
      · have h := ifn hc6 h
        refine s_aload_n (j := 0) dX10_madeOf_23 rfl rfl ?_
        refine s_iload_n (j := 1) dX10_madeOf_24 rfl rfl ?_
        refine s_iload (j := 3) dX10_madeOf_25 rfl ?_
        refine s_iconst dX10_madeOf_27 (cin rfl) ?_
        obtain ⟨r7, hv8, h⟩ := bnd h
        refine s_callV (As := [vI x1, vI x4, vI 0]) (rest := []) (r := (some (vI r7))) (F' := F) dX10_madeOf_28 (clX10_223 (Nat.le_of_ble_eq_true rfl) (Nat.le_of_ble_eq_true rfl)) ho rfl ⟨_, _, _, _, _, rfl, ho, hv8, rfl, rfl⟩ rfl (Nat.le_of_ble_eq_true rfl) ?_
        refine s_istore (ls' := [(5, vI r7), (0, vR o), (1, vI x1), (3, vI x3), (4, vI x4)]) dX10_madeOf_31 (Nat.le_of_ble_eq_true rfl) rfl ?_
        refine s_iload_n (j := 3) dX10_madeOf_33 rfl rfl ?_
        refine s_iload (j := 0) dX10_madeOf_34 rfl ?_
        refine s_icmp_ge (tgt := 42) dX10_madeOf_36 rfl (fun hc9 => ?_) (fun hc9 => ?_)
        · have h := ifp hc9 h
          refine s_iload_n (j := 3) dX10_madeOf_42 rfl rfl ?_
          refine s_iload (j := 0) dX10_madeOf_43 rfl ?_
          refine s_isub dX10_madeOf_45 ?_
          refine s_istore_n (ls' := [(3, vI (xw (x3 - r7))), (5, vI r7), (0, vR o), (1, vI x1), (4, vI x4)]) dX10_madeOf_46 rfl (Nat.le_of_ble_eq_true rfl) rfl ?_
          refine s_iinc (j := 4) dX10_madeOf_47 rfl (Nat.le_of_ble_eq_true rfl) rfl ?_
          refine s_goto (tgt := 5) dX10_madeOf_50 rfl ?_
          exact s_sub (ks := [3, 4, 1, 0]) rfl (ih o x1 (xw (x3 - r7)) (xw (x4 + 1)) _ ho h hq)
        · have h := ifn hc9 h
          refine s_iload (j := 4) dX10_madeOf_39 rfl ?_
          have h := Option.some.inj h
          subst h
          exact s_ireturn dX10_madeOf_41 rfl hq
theorem fX10_madeOf_ok {Qr : Option PV → Mem → Prop} : ∀ (o : Nat) (x1 : Int) (x2 : Int) (F : Mem) (res : Int) (ho : isK o 10), fX10_madeOf o x1 x2 F = some res → Qr (some (vI res)) F → PR cX10_madeOf (zX10_madeOf Qr) 0 [(0, vR o), (1, vI x1), (2, vI x2)] [] F := by
  intro o x1 x2 F res ho h hq
  refine s_iload_n (j := 2) dX10_madeOf_0 rfl rfl ?_
  refine s_istore_n (ls' := [(3, vI x2), (0, vR o), (1, vI x1), (2, vI x2)]) dX10_madeOf_1 rfl (Nat.le_of_ble_eq_true rfl) rfl ?_
  refine s_iconst dX10_madeOf_2 (cin rfl) ?_
  refine s_istore dX10_madeOf_3 (Nat.le_of_ble_eq_true rfl) rfl ?_
  exact s_sub (ks := [2, 3, 1, 0]) rfl (fX10_madeOf_b5_ok F FU o x1 x2 0 _ ho h hq)
def gX10_madeOf : XG := fun As F r F' => ∃ o : Nat, ∃ x1 : Int, ∃ x2 : Int, ∃ res : Int, As = [vR o, vI x1, vI x2] ∧ isK o 10 ∧ fX10_madeOf o x1 x2 F = some res ∧ r = some (vI res) ∧ F' = F
theorem ctX10_madeOf : xCT yX10_madeOf cX10_madeOf 6 (some FieldType.int) 4 90 gX10_madeOf := xmet (by decide +kernel) (fun As F r F' hg => by obtain ⟨o, x1, x2, res, rfl, ho, h, rfl, rfl⟩ := hg; exact Nat.le_of_ble_eq_true rfl) (fun As F r F' hg => by obtain ⟨o, x1, x2, res, rfl, ho, h, rfl, rfl⟩ := hg; exact fX10_madeOf_ok o x1 x2 _ _ ho h ⟨rfl, rfl⟩)
theorem mcX10_madeOf : Cond.code yX10_madeOf cX10_madeOf 6 (some FieldType.int) ∈ xw_T ∧ Cond.initialized yX10_madeOf.cls ∈ xw_T ∧ Cond.instanceMethod yX10_madeOf ∈ xw_T ∧ Cond.selects yX10_madeOf.cls yX10_madeOf yX10_madeOf ∈ xw_T := ⟨(xinT 1898 (by decide +kernel) (by decide +kernel)), (xinT 127 (by decide +kernel) (by decide +kernel)), (xinT 1897 (by decide +kernel) (by decide +kernel)), (xinT 109 (by decide +kernel) (by decide +kernel))⟩
theorem clX10_411 {fr lo : Nat} (h1 : 4 + 1 ≤ fr) (h2 : 8 + (6 + 11) + 90 ≤ lo) : xCall RX10 fr lo 0 411 10 2 gX10_madeOf := ⟨_, _, _, _, _, _, ctX10_madeOf, h1, h2, mcX10_madeOf.1, (xinT 1895 (by decide +kernel) (by decide +kernel)), mcX10_madeOf.2.1, ⟨by decide +kernel, by decide +kernel, by decide +kernel⟩, by rw [if_pos rfl]; exact ⟨mcX10_madeOf.2.2.1, mcX10_madeOf.2.2.2, _, _, rfl⟩⟩
theorem dX10_isExplained_0 : decode cX10_isExplained 0 = .ok (.iconst 3, 1) := by decide +kernel
theorem dX10_isExplained_1 : decode cX10_isExplained 1 = .ok (.iload_n 1, 1) := by decide +kernel
theorem dX10_isExplained_2 : decode cX10_isExplained 2 = .ok (.invokestatic 169, 3) := by decide +kernel
theorem dX10_isExplained_5 : decode cX10_isExplained 5 = .ok (.iconst 1, 1) := by decide +kernel
theorem dX10_isExplained_6 : decode cX10_isExplained 6 = .ok (.iadd, 1) := by decide +kernel
theorem dX10_isExplained_7 : decode cX10_isExplained 7 = .ok (.iconst 2, 1) := by decide +kernel
theorem dX10_isExplained_8 : decode cX10_isExplained 8 = .ok (.iload_n 2, 1) := by decide +kernel
theorem dX10_isExplained_9 : decode cX10_isExplained 9 = .ok (.imul, 1) := by decide +kernel
theorem dX10_isExplained_10 : decode cX10_isExplained 10 = .ok (.iadd, 1) := by decide +kernel
theorem dX10_isExplained_11 : decode cX10_isExplained 11 = .ok (.istore_n 3, 1) := by decide +kernel
theorem dX10_isExplained_12 : decode cX10_isExplained 12 = .ok (.aload_n 0, 1) := by decide +kernel
theorem dX10_isExplained_13 : decode cX10_isExplained 13 = .ok (.aload_n 0, 1) := by decide +kernel
theorem dX10_isExplained_14 : decode cX10_isExplained 14 = .ok (.getfield 7, 3) := by decide +kernel
theorem dX10_isExplained_17 : decode cX10_isExplained 17 = .ok (.iload_n 3, 1) := by decide +kernel
theorem dX10_isExplained_18 : decode cX10_isExplained 18 = .ok (.iaload, 1) := by decide +kernel
theorem dX10_isExplained_19 : decode cX10_isExplained 19 = .ok (.aload_n 0, 1) := by decide +kernel
theorem dX10_isExplained_20 : decode cX10_isExplained 20 = .ok (.getfield 7, 3) := by decide +kernel
theorem dX10_isExplained_23 : decode cX10_isExplained 23 = .ok (.iload_n 3, 1) := by decide +kernel
theorem dX10_isExplained_24 : decode cX10_isExplained 24 = .ok (.iconst 1, 1) := by decide +kernel
theorem dX10_isExplained_25 : decode cX10_isExplained 25 = .ok (.iadd, 1) := by decide +kernel
theorem dX10_isExplained_26 : decode cX10_isExplained 26 = .ok (.iaload, 1) := by decide +kernel
theorem dX10_isExplained_27 : decode cX10_isExplained 27 = .ok (.invokevirtual 411, 3) := by decide +kernel
theorem dX10_isExplained_30 : decode cX10_isExplained 30 = .ok (.istore 4, 2) := by decide +kernel
theorem dX10_isExplained_32 : decode cX10_isExplained 32 = .ok (.iload 4, 2) := by decide +kernel
theorem dX10_isExplained_34 : decode cX10_isExplained 34 = .ok (.iconst (-1), 1) := by decide +kernel
theorem dX10_isExplained_35 : decode cX10_isExplained 35 = .ok (.if_icmp .eq 43, 3) := by decide +kernel
theorem dX10_isExplained_38 : decode cX10_isExplained 38 = .ok (.aload_n 0, 1) := by decide +kernel
theorem dX10_isExplained_39 : decode cX10_isExplained 39 = .ok (.aload_n 0, 1) := by decide +kernel
theorem dX10_isExplained_40 : decode cX10_isExplained 40 = .ok (.getfield 7, 3) := by decide +kernel
theorem dX10_isExplained_43 : decode cX10_isExplained 43 = .ok (.iload_n 3, 1) := by decide +kernel
theorem dX10_isExplained_44 : decode cX10_isExplained 44 = .ok (.iaload, 1) := by decide +kernel
theorem dX10_isExplained_45 : decode cX10_isExplained 45 = .ok (.aload_n 0, 1) := by decide +kernel
theorem dX10_isExplained_46 : decode cX10_isExplained 46 = .ok (.getfield 27, 3) := by decide +kernel
theorem dX10_isExplained_49 : decode cX10_isExplained 49 = .ok (.iload 4, 2) := by decide +kernel
theorem dX10_isExplained_51 : decode cX10_isExplained 51 = .ok (.iaload, 1) := by decide +kernel
theorem dX10_isExplained_52 : decode cX10_isExplained 52 = .ok (.aload_n 0, 1) := by decide +kernel
theorem dX10_isExplained_53 : decode cX10_isExplained 53 = .ok (.getfield 7, 3) := by decide +kernel
theorem dX10_isExplained_56 : decode cX10_isExplained 56 = .ok (.iload_n 3, 1) := by decide +kernel
theorem dX10_isExplained_57 : decode cX10_isExplained 57 = .ok (.iaload, 1) := by decide +kernel
theorem dX10_isExplained_58 : decode cX10_isExplained 58 = .ok (.if_icmp .ne 7, 3) := by decide +kernel
theorem dX10_isExplained_61 : decode cX10_isExplained 61 = .ok (.iconst 1, 1) := by decide +kernel
theorem dX10_isExplained_62 : decode cX10_isExplained 62 = .ok (.goto 4, 3) := by decide +kernel
theorem dX10_isExplained_65 : decode cX10_isExplained 65 = .ok (.iconst 0, 1) := by decide +kernel
theorem dX10_isExplained_66 : decode cX10_isExplained 66 = .ok (.iload 4, 2) := by decide +kernel
theorem dX10_isExplained_68 : decode cX10_isExplained 68 = .ok (.invokevirtual 215, 3) := by decide +kernel
theorem dX10_isExplained_71 : decode cX10_isExplained 71 = .ok (.ifCond .ne 7, 3) := by decide +kernel
theorem dX10_isExplained_74 : decode cX10_isExplained 74 = .ok (.iconst 1, 1) := by decide +kernel
theorem dX10_isExplained_75 : decode cX10_isExplained 75 = .ok (.goto 4, 3) := by decide +kernel
theorem dX10_isExplained_78 : decode cX10_isExplained 78 = .ok (.iconst 0, 1) := by decide +kernel
theorem dX10_isExplained_79 : decode cX10_isExplained 79 = .ok (.ireturn, 1) := by decide +kernel
def zX10_isExplained (Qr : Option PV → Mem → Prop) : XZ := (RX10, 5, 115, 5, some FieldType.boolean, Qr)
noncomputable def fX10_isExplained_b66 (F : Mem) (x4 : Int) (s0 : Nat) (s1 : Int) (s2 : Int) : Option Int :=
  (fX10_sees s0 s1 s2 x4 F).bind fun r1 =>
  if r1 ≠ 0 then
    some 0
  else
    some 1
noncomputable def fX10_isExplained (o : Nat) (x1 : Int) (x2 : Int) (F : Mem) : Option Int :=
  if (0 : Int) ≤ (xw ((xw ((fX10_placeOf 3 x1) + 1)) + (xw (2 * x2)))) ∧ (xw ((xw ((fX10_placeOf 3 x1) + 1)) + (xw (2 * x2)))) < (alen (o + 1) : Int) then
    if (0 : Int) ≤ (xw ((xw ((xw ((fX10_placeOf 3 x1) + 1)) + (xw (2 * x2)))) + 1)) ∧ (xw ((xw ((xw ((fX10_placeOf 3 x1) + 1)) + (xw (2 * x2)))) + 1)) < (alen (o + 1) : Int) then
      (fX10_madeOf o (F (o + 1) (xw ((xw ((fX10_placeOf 3 x1) + 1)) + (xw (2 * x2)))).toNat) (F (o + 1) (xw ((xw ((xw ((fX10_placeOf 3 x1) + 1)) + (xw (2 * x2)))) + 1)).toNat) F).bind fun r3 =>
      if r3 = (-1) then
        some 0
      else
        if (0 : Int) ≤ (xw ((xw ((fX10_placeOf 3 x1) + 1)) + (xw (2 * x2)))) ∧ (xw ((xw ((fX10_placeOf 3 x1) + 1)) + (xw (2 * x2)))) < (alen (o + 1) : Int) then
          if (0 : Int) ≤ r3 ∧ r3 < (alen (o + 4) : Int) then
            if (0 : Int) ≤ (xw ((xw ((fX10_placeOf 3 x1) + 1)) + (xw (2 * x2)))) ∧ (xw ((xw ((fX10_placeOf 3 x1) + 1)) + (xw (2 * x2)))) < (alen (o + 1) : Int) then
              if (F (o + 4) r3.toNat) ≠ (F (o + 1) (xw ((xw ((fX10_placeOf 3 x1) + 1)) + (xw (2 * x2)))).toNat) then
                fX10_isExplained_b66 F r3 o (F (o + 1) (xw ((xw ((fX10_placeOf 3 x1) + 1)) + (xw (2 * x2)))).toNat) 0
              else
                fX10_isExplained_b66 F r3 o (F (o + 1) (xw ((xw ((fX10_placeOf 3 x1) + 1)) + (xw (2 * x2)))).toNat) 1
            else none
          else none
        else none
    else none
  else none
theorem fX10_isExplained_b66_ok {Qr : Option PV → Mem → Prop}  (F : Mem) : ∀ (x4 : Int) (s0 : Nat) (s1 : Int) (s2 : Int) (res : Int) (hs0 : isK s0 10), fX10_isExplained_b66 F x4 s0 s1 s2 = some res → Qr (some (vI res)) F → PR cX10_isExplained (zX10_isExplained Qr) 66 [(4, vI x4)] [vI s2, vI s1, vR s0] F := by
  intro x4 s0 s1 s2 res hs0 h hq
  refine s_iload (j := 0) dX10_isExplained_66 rfl ?_
  obtain ⟨r1, hv2, h⟩ := bnd h
  refine s_callV (As := [vI s1, vI s2, vI x4]) (rest := []) (r := (some (vI r1))) (F' := F) dX10_isExplained_68 (clX10_215 (Nat.le_of_ble_eq_true rfl) (Nat.le_of_ble_eq_true rfl)) hs0 rfl ⟨_, _, _, _, _, rfl, hs0, hv2, rfl, rfl⟩ rfl (Nat.le_of_ble_eq_true rfl) ?_
  refine s_if_ne (tgt := 78) dX10_isExplained_71 rfl (fun hc3 => ?_) (fun hc3 => ?_)
  · have h := ifp hc3 h
    refine s_iconst dX10_isExplained_78 (cin rfl) ?_
    have h := Option.some.inj h
    subst h
    exact s_zreturn dX10_isExplained_79 rfl (Or.inl rfl) hq
  · have h := ifn hc3 h
    refine s_iconst dX10_isExplained_74 (cin rfl) ?_
    refine s_goto (tgt := 79) dX10_isExplained_75 rfl ?_
    have h := Option.some.inj h
    subst h
    exact s_zreturn dX10_isExplained_79 rfl (Or.inr rfl) hq
theorem fX10_isExplained_ok {Qr : Option PV → Mem → Prop} : ∀ (o : Nat) (x1 : Int) (x2 : Int) (F : Mem) (res : Int) (ho : isK o 10), fX10_isExplained o x1 x2 F = some res → Qr (some (vI res)) F → PR cX10_isExplained (zX10_isExplained Qr) 0 [(0, vR o), (1, vI x1), (2, vI x2)] [] F := by
  intro o x1 x2 F res ho h hq
  refine s_iconst dX10_isExplained_0 (cin rfl) ?_
  refine s_iload_n (j := 1) dX10_isExplained_1 rfl rfl ?_
  refine s_callS (As := [vI 3, vI x1]) (rest := []) (r := (some (vI (fX10_placeOf 3 x1)))) (F' := F) dX10_isExplained_2 (clX10_169 (Nat.le_of_ble_eq_true rfl) (Nat.le_of_ble_eq_true rfl)) rfl ⟨_, _, _, rfl, rfl, rfl, rfl⟩ rfl (Nat.le_of_ble_eq_true rfl) ?_
  refine s_iconst dX10_isExplained_5 (cin rfl) ?_
  refine s_iadd dX10_isExplained_6 ?_
  refine s_iconst dX10_isExplained_7 (cin rfl) ?_
  refine s_iload_n (j := 2) dX10_isExplained_8 rfl rfl ?_
  refine s_imul dX10_isExplained_9 ?_
  refine s_iadd dX10_isExplained_10 ?_
  refine s_istore_n (ls' := [(3, vI (xw ((xw ((fX10_placeOf 3 x1) + 1)) + (xw (2 * x2))))), (0, vR o), (1, vI x1), (2, vI x2)]) dX10_isExplained_11 rfl (Nat.le_of_ble_eq_true rfl) rfl ?_
  refine s_aload_n (j := 1) dX10_isExplained_12 rfl rfl ?_
  refine s_aload_n (j := 1) dX10_isExplained_13 rfl rfl ?_
  refine s_getR dX10_isExplained_14 flX10_7 ho ?_
  refine s_iload_n (j := 0) dX10_isExplained_17 rfl rfl ?_
  obtain ⟨hb1, h⟩ := gd h
  refine s_iaload dX10_isExplained_18 (trX10_0 ho) hb1.1 hb1.2 ?_
  refine s_aload_n (j := 1) dX10_isExplained_19 rfl rfl ?_
  refine s_getR dX10_isExplained_20 flX10_7 ho ?_
  refine s_iload_n (j := 0) dX10_isExplained_23 rfl rfl ?_
  refine s_iconst dX10_isExplained_24 (cin rfl) ?_
  refine s_iadd dX10_isExplained_25 ?_
  obtain ⟨hb2, h⟩ := gd h
  refine s_iaload dX10_isExplained_26 (trX10_0 ho) hb2.1 hb2.2 ?_
  obtain ⟨r3, hv4, h⟩ := bnd h
  refine s_callV (As := [vI (F (o + 1) (xw ((xw ((fX10_placeOf 3 x1) + 1)) + (xw (2 * x2)))).toNat), vI (F (o + 1) (xw ((xw ((xw ((fX10_placeOf 3 x1) + 1)) + (xw (2 * x2)))) + 1)).toNat)]) (rest := []) (r := (some (vI r3))) (F' := F) dX10_isExplained_27 (clX10_411 (Nat.le_of_ble_eq_true rfl) (Nat.le_of_ble_eq_true rfl)) ho rfl ⟨_, _, _, _, rfl, ho, hv4, rfl, rfl⟩ rfl (Nat.le_of_ble_eq_true rfl) ?_
  refine s_istore dX10_isExplained_30 (Nat.le_of_ble_eq_true rfl) rfl ?_
  refine s_iload (j := 0) dX10_isExplained_32 rfl ?_
  refine s_iconst dX10_isExplained_34 (cin rfl) ?_
  refine s_icmp_eq (tgt := 78) dX10_isExplained_35 rfl (fun hc5 => ?_) (fun hc5 => ?_)
  · have h := ifp hc5 h
    refine s_iconst dX10_isExplained_78 (cin rfl) ?_
    have h := Option.some.inj h
    subst h
    exact s_zreturn dX10_isExplained_79 rfl (Or.inl rfl) hq
  · have h := ifn hc5 h
    refine s_aload_n (j := 2) dX10_isExplained_38 rfl rfl ?_
    refine s_aload_n (j := 2) dX10_isExplained_39 rfl rfl ?_
    refine s_getR dX10_isExplained_40 flX10_7 ho ?_
    refine s_iload_n (j := 1) dX10_isExplained_43 rfl rfl ?_
    obtain ⟨hb6, h⟩ := gd h
    refine s_iaload dX10_isExplained_44 (trX10_0 ho) hb6.1 hb6.2 ?_
    refine s_aload_n (j := 2) dX10_isExplained_45 rfl rfl ?_
    refine s_getR dX10_isExplained_46 flX10_27 ho ?_
    refine s_iload (j := 0) dX10_isExplained_49 rfl ?_
    obtain ⟨hb7, h⟩ := gd h
    refine s_iaload dX10_isExplained_51 (trX10_14 ho) hb7.1 hb7.2 ?_
    refine s_aload_n (j := 2) dX10_isExplained_52 rfl rfl ?_
    refine s_getR dX10_isExplained_53 flX10_7 ho ?_
    refine s_iload_n (j := 1) dX10_isExplained_56 rfl rfl ?_
    obtain ⟨hb8, h⟩ := gd h
    refine s_iaload dX10_isExplained_57 (trX10_0 ho) hb8.1 hb8.2 ?_
    refine s_icmp_ne (tgt := 65) dX10_isExplained_58 rfl (fun hc9 => ?_) (fun hc9 => ?_)
    · have h := ifp hc9 h
      refine s_iconst dX10_isExplained_65 (cin rfl) ?_
      exact s_sub (ks := [0]) rfl (fX10_isExplained_b66_ok F r3 o (F (o + 1) (xw ((xw ((fX10_placeOf 3 x1) + 1)) + (xw (2 * x2)))).toNat) 0 _ ho h hq)
    · have h := ifn hc9 h
      refine s_iconst dX10_isExplained_61 (cin rfl) ?_
      refine s_goto (tgt := 66) dX10_isExplained_62 rfl ?_
      exact s_sub (ks := [0]) rfl (fX10_isExplained_b66_ok F r3 o (F (o + 1) (xw ((xw ((fX10_placeOf 3 x1) + 1)) + (xw (2 * x2)))).toNat) 1 _ ho h hq)
def gX10_isExplained : XG := fun As F r F' => ∃ o : Nat, ∃ x1 : Int, ∃ x2 : Int, ∃ res : Int, As = [vR o, vI x1, vI x2] ∧ isK o 10 ∧ fX10_isExplained o x1 x2 F = some res ∧ r = some (vI res) ∧ F' = F
theorem ctX10_isExplained : xCT yX10_isExplained cX10_isExplained 5 (some FieldType.boolean) 5 115 gX10_isExplained := xmet (by decide +kernel) (fun As F r F' hg => by obtain ⟨o, x1, x2, res, rfl, ho, h, rfl, rfl⟩ := hg; exact Nat.le_of_ble_eq_true rfl) (fun As F r F' hg => by obtain ⟨o, x1, x2, res, rfl, ho, h, rfl, rfl⟩ := hg; exact fX10_isExplained_ok o x1 x2 _ _ ho h ⟨rfl, rfl⟩)
theorem mcX10_isExplained : Cond.code yX10_isExplained cX10_isExplained 5 (some FieldType.boolean) ∈ xw_T ∧ Cond.initialized yX10_isExplained.cls ∈ xw_T ∧ Cond.instanceMethod yX10_isExplained ∈ xw_T ∧ Cond.selects yX10_isExplained.cls yX10_isExplained yX10_isExplained ∈ xw_T := ⟨(xinT 1906 (by decide +kernel) (by decide +kernel)), (xinT 127 (by decide +kernel) (by decide +kernel)), (xinT 1905 (by decide +kernel) (by decide +kernel)), (xinT 111 (by decide +kernel) (by decide +kernel))⟩
theorem clX10_414 {fr lo : Nat} (h1 : 5 + 1 ≤ fr) (h2 : 8 + (5 + 11) + 115 ≤ lo) : xCall RX10 fr lo 0 414 10 2 gX10_isExplained := ⟨_, _, _, _, _, _, ctX10_isExplained, h1, h2, mcX10_isExplained.1, (xinT 1903 (by decide +kernel) (by decide +kernel)), mcX10_isExplained.2.1, ⟨by decide +kernel, by decide +kernel, by decide +kernel⟩, by rw [if_pos rfl]; exact ⟨mcX10_isExplained.2.2.1, mcX10_isExplained.2.2.2, _, _, rfl⟩⟩
theorem dX10_explained_0 : decode cX10_explained 0 = .ok (.iconst 0, 1) := by decide +kernel
theorem dX10_explained_1 : decode cX10_explained 1 = .ok (.istore_n 2, 1) := by decide +kernel
theorem dX10_explained_2 : decode cX10_explained 2 = .ok (.iconst 0, 1) := by decide +kernel
theorem dX10_explained_3 : decode cX10_explained 3 = .ok (.istore_n 3, 1) := by decide +kernel
theorem dX10_explained_4 : decode cX10_explained 4 = .ok (.iload_n 3, 1) := by decide +kernel
theorem dX10_explained_5 : decode cX10_explained 5 = .ok (.aload_n 0, 1) := by decide +kernel
theorem dX10_explained_6 : decode cX10_explained 6 = .ok (.getfield 7, 3) := by decide +kernel
theorem dX10_explained_9 : decode cX10_explained 9 = .ok (.iconst 3, 1) := by decide +kernel
theorem dX10_explained_10 : decode cX10_explained 10 = .ok (.iload_n 1, 1) := by decide +kernel
theorem dX10_explained_11 : decode cX10_explained 11 = .ok (.invokestatic 169, 3) := by decide +kernel
theorem dX10_explained_14 : decode cX10_explained 14 = .ok (.iaload, 1) := by decide +kernel
theorem dX10_explained_15 : decode cX10_explained 15 = .ok (.if_icmp .ge 26, 3) := by decide +kernel
theorem dX10_explained_18 : decode cX10_explained 18 = .ok (.iload_n 2, 1) := by decide +kernel
theorem dX10_explained_19 : decode cX10_explained 19 = .ok (.aload_n 0, 1) := by decide +kernel
theorem dX10_explained_20 : decode cX10_explained 20 = .ok (.iload_n 1, 1) := by decide +kernel
theorem dX10_explained_21 : decode cX10_explained 21 = .ok (.iload_n 3, 1) := by decide +kernel
theorem dX10_explained_22 : decode cX10_explained 22 = .ok (.invokevirtual 414, 3) := by decide +kernel
theorem dX10_explained_25 : decode cX10_explained 25 = .ok (.ifCond .eq 7, 3) := by decide +kernel
theorem dX10_explained_28 : decode cX10_explained 28 = .ok (.iconst 1, 1) := by decide +kernel
theorem dX10_explained_29 : decode cX10_explained 29 = .ok (.goto 4, 3) := by decide +kernel
theorem dX10_explained_32 : decode cX10_explained 32 = .ok (.iconst 0, 1) := by decide +kernel
theorem dX10_explained_33 : decode cX10_explained 33 = .ok (.iadd, 1) := by decide +kernel
theorem dX10_explained_34 : decode cX10_explained 34 = .ok (.istore_n 2, 1) := by decide +kernel
theorem dX10_explained_35 : decode cX10_explained 35 = .ok (.iinc 3 1, 3) := by decide +kernel
theorem dX10_explained_38 : decode cX10_explained 38 = .ok (.goto (-34), 3) := by decide +kernel
theorem dX10_explained_41 : decode cX10_explained 41 = .ok (.iload_n 2, 1) := by decide +kernel
theorem dX10_explained_42 : decode cX10_explained 42 = .ok (.ireturn, 1) := by decide +kernel
def zX10_explained (Qr : Option PV → Mem → Prop) : XZ := (RX10, 6, 139, 4, some FieldType.int, Qr)
noncomputable def fX10_explained_b4 (F : Mem) : Nat → Nat → Int → Int → Int → Option Int
  | 0, _, _, _, _ => none
  | n + 1, o, x1, x2, x3 =>
    if (0 : Int) ≤ (fX10_placeOf 3 x1) ∧ (fX10_placeOf 3 x1) < (alen (o + 1) : Int) then
      if (F (o + 1) (fX10_placeOf 3 x1).toNat) ≤ x3 then
        some x2
      else
        (fX10_isExplained o x1 x3 F).bind fun r3 =>
        if r3 = 0 then
          fX10_explained_b4 F n o x1 (xw (x2 + 0)) (xw (x3 + 1))
        else
          fX10_explained_b4 F n o x1 (xw (x2 + 1)) (xw (x3 + 1))
    else none
noncomputable def fX10_explained (o : Nat) (x1 : Int) (F : Mem) : Option Int :=
  fX10_explained_b4 F FU o x1 0 0
theorem fX10_explained_b4_ok {Qr : Option PV → Mem → Prop}  (F : Mem) : ∀ (n : Nat) (o : Nat) (x1 : Int) (x2 : Int) (x3 : Int) (res : Int) (ho : isK o 10), fX10_explained_b4 F n o x1 x2 x3 = some res → Qr (some (vI res)) F → PR cX10_explained (zX10_explained Qr) 4 [(0, vR o), (1, vI x1), (2, vI x2), (3, vI x3)] [] F := by
  intro n
  induction n with
  | zero => intro o x1 x2 x3 res ho h hq; exact nomatch (show (none : Option _) = some _ from h)
  | succ n ih =>
    intro o x1 x2 x3 res ho h hq
    refine s_iload_n (j := 3) dX10_explained_4 rfl rfl ?_
    refine s_aload_n (j := 0) dX10_explained_5 rfl rfl ?_
    refine s_getR dX10_explained_6 flX10_7 ho ?_
    refine s_iconst dX10_explained_9 (cin rfl) ?_
    refine s_iload_n (j := 1) dX10_explained_10 rfl rfl ?_
    refine s_callS (As := [vI 3, vI x1]) (rest := [vR (o + 1), vI x3]) (r := (some (vI (fX10_placeOf 3 x1)))) (F' := F) dX10_explained_11 (clX10_169 (Nat.le_of_ble_eq_true rfl) (Nat.le_of_ble_eq_true rfl)) rfl ⟨_, _, _, rfl, rfl, rfl, rfl⟩ rfl (Nat.le_of_ble_eq_true rfl) ?_
    obtain ⟨hb1, h⟩ := gd h
    refine s_iaload dX10_explained_14 (trX10_0 ho) hb1.1 hb1.2 ?_
    refine s_icmp_ge (tgt := 41) dX10_explained_15 rfl (fun hc2 => ?_) (fun hc2 => ?_)
    · have h := ifp hc2 h
      refine s_iload_n (j := 2) dX10_explained_41 rfl rfl ?_
      have h := Option.some.inj h
      subst h
      exact s_ireturn dX10_explained_42 rfl hq
    · have h := ifn hc2 h
      refine s_iload_n (j := 2) dX10_explained_18 rfl rfl ?_
      refine s_aload_n (j := 0) dX10_explained_19 rfl rfl ?_
      refine s_iload_n (j := 1) dX10_explained_20 rfl rfl ?_
      refine s_iload_n (j := 3) dX10_explained_21 rfl rfl ?_
      obtain ⟨r3, hv4, h⟩ := bnd h
      refine s_callV (As := [vI x1, vI x3]) (rest := [vI x2]) (r := (some (vI r3))) (F' := F) dX10_explained_22 (clX10_414 (Nat.le_of_ble_eq_true rfl) (Nat.le_of_ble_eq_true rfl)) ho rfl ⟨_, _, _, _, rfl, ho, hv4, rfl, rfl⟩ rfl (Nat.le_of_ble_eq_true rfl) ?_
      refine s_if_eq (tgt := 32) dX10_explained_25 rfl (fun hc5 => ?_) (fun hc5 => ?_)
      · have h := ifp hc5 h
        refine s_iconst dX10_explained_32 (cin rfl) ?_
        refine s_iadd dX10_explained_33 ?_
        refine s_istore_n (ls' := [(2, vI (xw (x2 + 0))), (0, vR o), (1, vI x1), (3, vI x3)]) dX10_explained_34 rfl (Nat.le_of_ble_eq_true rfl) rfl ?_
        refine s_iinc (j := 3) dX10_explained_35 rfl (Nat.le_of_ble_eq_true rfl) rfl ?_
        refine s_goto (tgt := 4) dX10_explained_38 rfl ?_
        exact s_sub (ks := [2, 3, 1, 0]) rfl (ih o x1 (xw (x2 + 0)) (xw (x3 + 1)) _ ho h hq)
      · have h := ifn hc5 h
        refine s_iconst dX10_explained_28 (cin rfl) ?_
        refine s_goto (tgt := 33) dX10_explained_29 rfl ?_
        refine s_iadd dX10_explained_33 ?_
        refine s_istore_n (ls' := [(2, vI (xw (x2 + 1))), (0, vR o), (1, vI x1), (3, vI x3)]) dX10_explained_34 rfl (Nat.le_of_ble_eq_true rfl) rfl ?_
        refine s_iinc (j := 3) dX10_explained_35 rfl (Nat.le_of_ble_eq_true rfl) rfl ?_
        refine s_goto (tgt := 4) dX10_explained_38 rfl ?_
        exact s_sub (ks := [2, 3, 1, 0]) rfl (ih o x1 (xw (x2 + 1)) (xw (x3 + 1)) _ ho h hq)
theorem fX10_explained_ok {Qr : Option PV → Mem → Prop} : ∀ (o : Nat) (x1 : Int) (F : Mem) (res : Int) (ho : isK o 10), fX10_explained o x1 F = some res → Qr (some (vI res)) F → PR cX10_explained (zX10_explained Qr) 0 [(0, vR o), (1, vI x1)] [] F := by
  intro o x1 F res ho h hq
  refine s_iconst dX10_explained_0 (cin rfl) ?_
  refine s_istore_n (ls' := [(2, vI 0), (0, vR o), (1, vI x1)]) dX10_explained_1 rfl (Nat.le_of_ble_eq_true rfl) rfl ?_
  refine s_iconst dX10_explained_2 (cin rfl) ?_
  refine s_istore_n dX10_explained_3 rfl (Nat.le_of_ble_eq_true rfl) rfl ?_
  exact s_sub (ks := [2, 3, 1, 0]) rfl (fX10_explained_b4_ok F FU o x1 0 0 _ ho h hq)
def gX10_explained : XG := fun As F r F' => ∃ o : Nat, ∃ x1 : Int, ∃ res : Int, As = [vR o, vI x1] ∧ isK o 10 ∧ fX10_explained o x1 F = some res ∧ r = some (vI res) ∧ F' = F
theorem ctX10_explained : xCT yX10_explained cX10_explained 4 (some FieldType.int) 6 139 gX10_explained := xmet (by decide +kernel) (fun As F r F' hg => by obtain ⟨o, x1, res, rfl, ho, h, rfl, rfl⟩ := hg; exact Nat.le_of_ble_eq_true rfl) (fun As F r F' hg => by obtain ⟨o, x1, res, rfl, ho, h, rfl, rfl⟩ := hg; exact fX10_explained_ok o x1 _ _ ho h ⟨rfl, rfl⟩)
theorem mcX10_explained : Cond.code yX10_explained cX10_explained 4 (some FieldType.int) ∈ xw_T ∧ Cond.initialized yX10_explained.cls ∈ xw_T ∧ Cond.instanceMethod yX10_explained ∈ xw_T ∧ Cond.selects yX10_explained.cls yX10_explained yX10_explained ∈ xw_T := ⟨(xinT 1902 (by decide +kernel) (by decide +kernel)), (xinT 127 (by decide +kernel) (by decide +kernel)), (xinT 1901 (by decide +kernel) (by decide +kernel)), (xinT 110 (by decide +kernel) (by decide +kernel))⟩
theorem clX10_420 {fr lo : Nat} (h1 : 6 + 1 ≤ fr) (h2 : 8 + (4 + 11) + 139 ≤ lo) : xCall RX10 fr lo 0 420 10 1 gX10_explained := ⟨_, _, _, _, _, _, ctX10_explained, h1, h2, mcX10_explained.1, (xinT 1899 (by decide +kernel) (by decide +kernel)), mcX10_explained.2.1, ⟨by decide +kernel, by decide +kernel, by decide +kernel⟩, by rw [if_pos rfl]; exact ⟨mcX10_explained.2.2.1, mcX10_explained.2.2.2, _, _, rfl⟩⟩
theorem dX10_isTold_0 : decode cX10_isTold 0 = .ok (.iconst 3, 1) := by decide +kernel
theorem dX10_isTold_1 : decode cX10_isTold 1 = .ok (.iload_n 1, 1) := by decide +kernel
theorem dX10_isTold_2 : decode cX10_isTold 2 = .ok (.invokestatic 169, 3) := by decide +kernel
theorem dX10_isTold_5 : decode cX10_isTold 5 = .ok (.istore 4, 2) := by decide +kernel
theorem dX10_isTold_7 : decode cX10_isTold 7 = .ok (.iconst 0, 1) := by decide +kernel
theorem dX10_isTold_8 : decode cX10_isTold 8 = .ok (.istore 5, 2) := by decide +kernel
theorem dX10_isTold_10 : decode cX10_isTold 10 = .ok (.iconst 0, 1) := by decide +kernel
theorem dX10_isTold_11 : decode cX10_isTold 11 = .ok (.istore 6, 2) := by decide +kernel
theorem dX10_isTold_13 : decode cX10_isTold 13 = .ok (.iload 6, 2) := by decide +kernel
theorem dX10_isTold_15 : decode cX10_isTold 15 = .ok (.aload_n 0, 1) := by decide +kernel
theorem dX10_isTold_16 : decode cX10_isTold 16 = .ok (.getfield 7, 3) := by decide +kernel
theorem dX10_isTold_19 : decode cX10_isTold 19 = .ok (.iload 4, 2) := by decide +kernel
theorem dX10_isTold_21 : decode cX10_isTold 21 = .ok (.iaload, 1) := by decide +kernel
theorem dX10_isTold_22 : decode cX10_isTold 22 = .ok (.if_icmp .ge 57, 3) := by decide +kernel
theorem dX10_isTold_25 : decode cX10_isTold 25 = .ok (.iload 5, 2) := by decide +kernel
theorem dX10_isTold_27 : decode cX10_isTold 27 = .ok (.ifCond .ne 39, 3) := by decide +kernel
theorem dX10_isTold_30 : decode cX10_isTold 30 = .ok (.aload_n 0, 1) := by decide +kernel
theorem dX10_isTold_31 : decode cX10_isTold 31 = .ok (.getfield 7, 3) := by decide +kernel
theorem dX10_isTold_34 : decode cX10_isTold 34 = .ok (.iload 4, 2) := by decide +kernel
theorem dX10_isTold_36 : decode cX10_isTold 36 = .ok (.iconst 1, 1) := by decide +kernel
theorem dX10_isTold_37 : decode cX10_isTold 37 = .ok (.iadd, 1) := by decide +kernel
theorem dX10_isTold_38 : decode cX10_isTold 38 = .ok (.iconst 2, 1) := by decide +kernel
theorem dX10_isTold_39 : decode cX10_isTold 39 = .ok (.iload 6, 2) := by decide +kernel
theorem dX10_isTold_41 : decode cX10_isTold 41 = .ok (.imul, 1) := by decide +kernel
theorem dX10_isTold_42 : decode cX10_isTold 42 = .ok (.iadd, 1) := by decide +kernel
theorem dX10_isTold_43 : decode cX10_isTold 43 = .ok (.iaload, 1) := by decide +kernel
theorem dX10_isTold_44 : decode cX10_isTold 44 = .ok (.iload_n 2, 1) := by decide +kernel
theorem dX10_isTold_45 : decode cX10_isTold 45 = .ok (.if_icmp .ne 25, 3) := by decide +kernel
theorem dX10_isTold_48 : decode cX10_isTold 48 = .ok (.aload_n 0, 1) := by decide +kernel
theorem dX10_isTold_49 : decode cX10_isTold 49 = .ok (.getfield 7, 3) := by decide +kernel
theorem dX10_isTold_52 : decode cX10_isTold 52 = .ok (.iload 4, 2) := by decide +kernel
theorem dX10_isTold_54 : decode cX10_isTold 54 = .ok (.iconst 2, 1) := by decide +kernel
theorem dX10_isTold_55 : decode cX10_isTold 55 = .ok (.iadd, 1) := by decide +kernel
theorem dX10_isTold_56 : decode cX10_isTold 56 = .ok (.iconst 2, 1) := by decide +kernel
theorem dX10_isTold_57 : decode cX10_isTold 57 = .ok (.iload 6, 2) := by decide +kernel
theorem dX10_isTold_59 : decode cX10_isTold 59 = .ok (.imul, 1) := by decide +kernel
theorem dX10_isTold_60 : decode cX10_isTold 60 = .ok (.iadd, 1) := by decide +kernel
theorem dX10_isTold_61 : decode cX10_isTold 61 = .ok (.iaload, 1) := by decide +kernel
theorem dX10_isTold_62 : decode cX10_isTold 62 = .ok (.iload_n 3, 1) := by decide +kernel
theorem dX10_isTold_63 : decode cX10_isTold 63 = .ok (.if_icmp .ne 7, 3) := by decide +kernel
theorem dX10_isTold_66 : decode cX10_isTold 66 = .ok (.iconst 1, 1) := by decide +kernel
theorem dX10_isTold_67 : decode cX10_isTold 67 = .ok (.goto 4, 3) := by decide +kernel
theorem dX10_isTold_70 : decode cX10_isTold 70 = .ok (.iconst 0, 1) := by decide +kernel
theorem dX10_isTold_71 : decode cX10_isTold 71 = .ok (.istore 5, 2) := by decide +kernel
theorem dX10_isTold_73 : decode cX10_isTold 73 = .ok (.iinc 6 1, 3) := by decide +kernel
theorem dX10_isTold_76 : decode cX10_isTold 76 = .ok (.goto (-63), 3) := by decide +kernel
theorem dX10_isTold_79 : decode cX10_isTold 79 = .ok (.iload 5, 2) := by decide +kernel
theorem dX10_isTold_81 : decode cX10_isTold 81 = .ok (.ireturn, 1) := by decide +kernel
def zX10_isTold (Qr : Option PV → Mem → Prop) : XZ := (RX10, 1, 21, 7, some FieldType.boolean, Qr)
noncomputable def fX10_isTold_b13 (F : Mem) : Nat → Nat → Int → Int → Int → Int → Int → Option Int
  | 0, _, _, _, _, _, _ => none
  | n + 1, o, x2, x3, x4, x5, x6 =>
    if (0 : Int) ≤ x4 ∧ x4 < (alen (o + 1) : Int) then
      if (F (o + 1) x4.toNat) ≤ x6 then
        if x5 = 0 ∨ x5 = 1 then
          some x5
        else none
      else
        if x5 ≠ 0 then
          fX10_isTold_b13 F n o x2 x3 x4 1 (xw (x6 + 1))
        else
          if (0 : Int) ≤ (xw ((xw (x4 + 1)) + (xw (2 * x6)))) ∧ (xw ((xw (x4 + 1)) + (xw (2 * x6)))) < (alen (o + 1) : Int) then
            if (F (o + 1) (xw ((xw (x4 + 1)) + (xw (2 * x6)))).toNat) ≠ x2 then
              fX10_isTold_b13 F n o x2 x3 x4 0 (xw (x6 + 1))
            else
              if (0 : Int) ≤ (xw ((xw (x4 + 2)) + (xw (2 * x6)))) ∧ (xw ((xw (x4 + 2)) + (xw (2 * x6)))) < (alen (o + 1) : Int) then
                if (F (o + 1) (xw ((xw (x4 + 2)) + (xw (2 * x6)))).toNat) ≠ x3 then
                  fX10_isTold_b13 F n o x2 x3 x4 0 (xw (x6 + 1))
                else
                  fX10_isTold_b13 F n o x2 x3 x4 1 (xw (x6 + 1))
              else none
          else none
    else none
noncomputable def fX10_isTold (o : Nat) (x1 : Int) (x2 : Int) (x3 : Int) (F : Mem) : Option Int :=
  fX10_isTold_b13 F FU o x2 x3 (fX10_placeOf 3 x1) 0 0
theorem fX10_isTold_b13_ok {Qr : Option PV → Mem → Prop}  (F : Mem) : ∀ (n : Nat) (o : Nat) (x2 : Int) (x3 : Int) (x4 : Int) (x5 : Int) (x6 : Int) (res : Int) (ho : isK o 10), fX10_isTold_b13 F n o x2 x3 x4 x5 x6 = some res → Qr (some (vI res)) F → PR cX10_isTold (zX10_isTold Qr) 13 [(0, vR o), (2, vI x2), (3, vI x3), (4, vI x4), (5, vI x5), (6, vI x6)] [] F := by
  intro n
  induction n with
  | zero => intro o x2 x3 x4 x5 x6 res ho h hq; exact nomatch (show (none : Option _) = some _ from h)
  | succ n ih =>
    intro o x2 x3 x4 x5 x6 res ho h hq
    refine s_iload (j := 5) dX10_isTold_13 rfl ?_
    refine s_aload_n (j := 0) dX10_isTold_15 rfl rfl ?_
    refine s_getR dX10_isTold_16 flX10_7 ho ?_
    refine s_iload (j := 3) dX10_isTold_19 rfl ?_
    obtain ⟨hb1, h⟩ := gd h
    refine s_iaload dX10_isTold_21 (trX10_0 ho) hb1.1 hb1.2 ?_
    refine s_icmp_ge (tgt := 79) dX10_isTold_22 rfl (fun hc2 => ?_) (fun hc2 => ?_)
    · have h := ifp hc2 h
      refine s_iload (j := 4) dX10_isTold_79 rfl ?_
      obtain ⟨hb3, h⟩ := gd h
      have h := Option.some.inj h
      subst h
      exact s_zreturn dX10_isTold_81 rfl hb3 hq
    · have h := ifn hc2 h
      refine s_iload (j := 4) dX10_isTold_25 rfl ?_
      refine s_if_ne (tgt := 66) dX10_isTold_27 rfl (fun hc4 => ?_) (fun hc4 => ?_)
      · have h := ifp hc4 h
        refine s_iconst dX10_isTold_66 (cin rfl) ?_
        refine s_goto (tgt := 71) dX10_isTold_67 rfl ?_
        refine s_istore (ls' := [(5, vI 1), (0, vR o), (2, vI x2), (3, vI x3), (4, vI x4), (6, vI x6)]) dX10_isTold_71 (Nat.le_of_ble_eq_true rfl) rfl ?_
        refine s_iinc (j := 5) dX10_isTold_73 rfl (Nat.le_of_ble_eq_true rfl) rfl ?_
        refine s_goto (tgt := 13) dX10_isTold_76 rfl ?_
        exact s_sub (ks := [2, 3, 4, 5, 1, 0]) rfl (ih o x2 x3 x4 1 (xw (x6 + 1)) _ ho h hq)
      · have h := ifn hc4 h
        refine s_aload_n (j := 0) dX10_isTold_30 rfl rfl ?_
        refine s_getR dX10_isTold_31 flX10_7 ho ?_
        refine s_iload (j := 3) dX10_isTold_34 rfl ?_
        refine s_iconst dX10_isTold_36 (cin rfl) ?_
        refine s_iadd dX10_isTold_37 ?_
        refine s_iconst dX10_isTold_38 (cin rfl) ?_
        refine s_iload (j := 5) dX10_isTold_39 rfl ?_
        refine s_imul dX10_isTold_41 ?_
        refine s_iadd dX10_isTold_42 ?_
        obtain ⟨hb5, h⟩ := gd h
        refine s_iaload dX10_isTold_43 (trX10_0 ho) hb5.1 hb5.2 ?_
        refine s_iload_n (j := 1) dX10_isTold_44 rfl rfl ?_
        refine s_icmp_ne (tgt := 70) dX10_isTold_45 rfl (fun hc6 => ?_) (fun hc6 => ?_)
        · have h := ifp hc6 h
          refine s_iconst dX10_isTold_70 (cin rfl) ?_
          refine s_istore (ls' := [(5, vI 0), (0, vR o), (2, vI x2), (3, vI x3), (4, vI x4), (6, vI x6)]) dX10_isTold_71 (Nat.le_of_ble_eq_true rfl) rfl ?_
          refine s_iinc (j := 5) dX10_isTold_73 rfl (Nat.le_of_ble_eq_true rfl) rfl ?_
          refine s_goto (tgt := 13) dX10_isTold_76 rfl ?_
          exact s_sub (ks := [2, 3, 4, 5, 1, 0]) rfl (ih o x2 x3 x4 0 (xw (x6 + 1)) _ ho h hq)
        · have h := ifn hc6 h
          refine s_aload_n (j := 0) dX10_isTold_48 rfl rfl ?_
          refine s_getR dX10_isTold_49 flX10_7 ho ?_
          refine s_iload (j := 3) dX10_isTold_52 rfl ?_
          refine s_iconst dX10_isTold_54 (cin rfl) ?_
          refine s_iadd dX10_isTold_55 ?_
          refine s_iconst dX10_isTold_56 (cin rfl) ?_
          refine s_iload (j := 5) dX10_isTold_57 rfl ?_
          refine s_imul dX10_isTold_59 ?_
          refine s_iadd dX10_isTold_60 ?_
          obtain ⟨hb7, h⟩ := gd h
          refine s_iaload dX10_isTold_61 (trX10_0 ho) hb7.1 hb7.2 ?_
          refine s_iload_n (j := 2) dX10_isTold_62 rfl rfl ?_
          refine s_icmp_ne (tgt := 70) dX10_isTold_63 rfl (fun hc8 => ?_) (fun hc8 => ?_)
          · have h := ifp hc8 h
            refine s_iconst dX10_isTold_70 (cin rfl) ?_
            refine s_istore (ls' := [(5, vI 0), (0, vR o), (2, vI x2), (3, vI x3), (4, vI x4), (6, vI x6)]) dX10_isTold_71 (Nat.le_of_ble_eq_true rfl) rfl ?_
            refine s_iinc (j := 5) dX10_isTold_73 rfl (Nat.le_of_ble_eq_true rfl) rfl ?_
            refine s_goto (tgt := 13) dX10_isTold_76 rfl ?_
            exact s_sub (ks := [2, 3, 4, 5, 1, 0]) rfl (ih o x2 x3 x4 0 (xw (x6 + 1)) _ ho h hq)
          · have h := ifn hc8 h
            refine s_iconst dX10_isTold_66 (cin rfl) ?_
            refine s_goto (tgt := 71) dX10_isTold_67 rfl ?_
            refine s_istore (ls' := [(5, vI 1), (0, vR o), (2, vI x2), (3, vI x3), (4, vI x4), (6, vI x6)]) dX10_isTold_71 (Nat.le_of_ble_eq_true rfl) rfl ?_
            refine s_iinc (j := 5) dX10_isTold_73 rfl (Nat.le_of_ble_eq_true rfl) rfl ?_
            refine s_goto (tgt := 13) dX10_isTold_76 rfl ?_
            exact s_sub (ks := [2, 3, 4, 5, 1, 0]) rfl (ih o x2 x3 x4 1 (xw (x6 + 1)) _ ho h hq)
theorem fX10_isTold_ok {Qr : Option PV → Mem → Prop} : ∀ (o : Nat) (x1 : Int) (x2 : Int) (x3 : Int) (F : Mem) (res : Int) (ho : isK o 10), fX10_isTold o x1 x2 x3 F = some res → Qr (some (vI res)) F → PR cX10_isTold (zX10_isTold Qr) 0 [(0, vR o), (1, vI x1), (2, vI x2), (3, vI x3)] [] F := by
  intro o x1 x2 x3 F res ho h hq
  refine s_iconst dX10_isTold_0 (cin rfl) ?_
  refine s_iload_n (j := 1) dX10_isTold_1 rfl rfl ?_
  refine s_callS (As := [vI 3, vI x1]) (rest := []) (r := (some (vI (fX10_placeOf 3 x1)))) (F' := F) dX10_isTold_2 (clX10_169 (Nat.le_of_ble_eq_true rfl) (Nat.le_of_ble_eq_true rfl)) rfl ⟨_, _, _, rfl, rfl, rfl, rfl⟩ rfl (Nat.le_of_ble_eq_true rfl) ?_
  refine s_istore (ls' := [(4, vI (fX10_placeOf 3 x1)), (0, vR o), (1, vI x1), (2, vI x2), (3, vI x3)]) dX10_isTold_5 (Nat.le_of_ble_eq_true rfl) rfl ?_
  refine s_iconst dX10_isTold_7 (cin rfl) ?_
  refine s_istore dX10_isTold_8 (Nat.le_of_ble_eq_true rfl) rfl ?_
  refine s_iconst dX10_isTold_10 (cin rfl) ?_
  refine s_istore (ls' := [(6, vI 0), (5, vI 0), (4, vI (fX10_placeOf 3 x1)), (0, vR o), (1, vI x1), (2, vI x2), (3, vI x3)]) dX10_isTold_11 (Nat.le_of_ble_eq_true rfl) rfl ?_
  exact s_sub (ks := [3, 5, 6, 2, 1, 0]) rfl (fX10_isTold_b13_ok F FU o x2 x3 (fX10_placeOf 3 x1) 0 0 _ ho h hq)
def gX10_isTold : XG := fun As F r F' => ∃ o : Nat, ∃ x1 : Int, ∃ x2 : Int, ∃ x3 : Int, ∃ res : Int, As = [vR o, vI x1, vI x2, vI x3] ∧ isK o 10 ∧ fX10_isTold o x1 x2 x3 F = some res ∧ r = some (vI res) ∧ F' = F
theorem ctX10_isTold : xCT yX10_isTold cX10_isTold 7 (some FieldType.boolean) 1 21 gX10_isTold := xmet (by decide +kernel) (fun As F r F' hg => by obtain ⟨o, x1, x2, x3, res, rfl, ho, h, rfl, rfl⟩ := hg; exact Nat.le_of_ble_eq_true rfl) (fun As F r F' hg => by obtain ⟨o, x1, x2, x3, res, rfl, ho, h, rfl, rfl⟩ := hg; exact fX10_isTold_ok o x1 x2 x3 _ _ ho h ⟨rfl, rfl⟩)
theorem mcX10_isTold : Cond.code yX10_isTold cX10_isTold 7 (some FieldType.boolean) ∈ xw_T ∧ Cond.initialized yX10_isTold.cls ∈ xw_T ∧ Cond.instanceMethod yX10_isTold ∈ xw_T ∧ Cond.selects yX10_isTold.cls yX10_isTold yX10_isTold ∈ xw_T := ⟨(xinT 1914 (by decide +kernel) (by decide +kernel)), (xinT 127 (by decide +kernel) (by decide +kernel)), (xinT 1913 (by decide +kernel) (by decide +kernel)), (xinT 113 (by decide +kernel) (by decide +kernel))⟩
theorem clX10_417 {fr lo : Nat} (h1 : 1 + 1 ≤ fr) (h2 : 8 + (7 + 11) + 21 ≤ lo) : xCall RX10 fr lo 0 417 10 3 gX10_isTold := ⟨_, _, _, _, _, _, ctX10_isTold, h1, h2, mcX10_isTold.1, (xinT 1911 (by decide +kernel) (by decide +kernel)), mcX10_isTold.2.1, ⟨by decide +kernel, by decide +kernel, by decide +kernel⟩, by rw [if_pos rfl]; exact ⟨mcX10_isTold.2.2.1, mcX10_isTold.2.2.2, _, _, rfl⟩⟩
theorem dX10_untold_0 : decode cX10_untold 0 = .ok (.iconst 0, 1) := by decide +kernel
theorem dX10_untold_1 : decode cX10_untold 1 = .ok (.istore_n 2, 1) := by decide +kernel
theorem dX10_untold_2 : decode cX10_untold 2 = .ok (.iconst 0, 1) := by decide +kernel
theorem dX10_untold_3 : decode cX10_untold 3 = .ok (.istore_n 3, 1) := by decide +kernel
theorem dX10_untold_4 : decode cX10_untold 4 = .ok (.iload_n 3, 1) := by decide +kernel
theorem dX10_untold_5 : decode cX10_untold 5 = .ok (.aload_n 0, 1) := by decide +kernel
theorem dX10_untold_6 : decode cX10_untold 6 = .ok (.iconst 5, 1) := by decide +kernel
theorem dX10_untold_7 : decode cX10_untold 7 = .ok (.invokevirtual 181, 3) := by decide +kernel
theorem dX10_untold_10 : decode cX10_untold 10 = .ok (.if_icmp .ge 124, 3) := by decide +kernel
theorem dX10_untold_13 : decode cX10_untold 13 = .ok (.iconst 0, 1) := by decide +kernel
theorem dX10_untold_14 : decode cX10_untold 14 = .ok (.istore 4, 2) := by decide +kernel
theorem dX10_untold_16 : decode cX10_untold 16 = .ok (.iconst 0, 1) := by decide +kernel
theorem dX10_untold_17 : decode cX10_untold 17 = .ok (.istore 5, 2) := by decide +kernel
theorem dX10_untold_19 : decode cX10_untold 19 = .ok (.iload 5, 2) := by decide +kernel
theorem dX10_untold_21 : decode cX10_untold 21 = .ok (.aload_n 0, 1) := by decide +kernel
theorem dX10_untold_22 : decode cX10_untold 22 = .ok (.iconst 0, 1) := by decide +kernel
theorem dX10_untold_23 : decode cX10_untold 23 = .ok (.invokevirtual 181, 3) := by decide +kernel
theorem dX10_untold_26 : decode cX10_untold 26 = .ok (.if_icmp .ge 102, 3) := by decide +kernel
theorem dX10_untold_29 : decode cX10_untold 29 = .ok (.aload_n 0, 1) := by decide +kernel
theorem dX10_untold_30 : decode cX10_untold 30 = .ok (.iload_n 3, 1) := by decide +kernel
theorem dX10_untold_31 : decode cX10_untold 31 = .ok (.aload_n 0, 1) := by decide +kernel
theorem dX10_untold_32 : decode cX10_untold 32 = .ok (.getfield 27, 3) := by decide +kernel
theorem dX10_untold_35 : decode cX10_untold 35 = .ok (.iload 5, 2) := by decide +kernel
theorem dX10_untold_37 : decode cX10_untold 37 = .ok (.iaload, 1) := by decide +kernel
theorem dX10_untold_38 : decode cX10_untold 38 = .ok (.iload_n 3, 1) := by decide +kernel
theorem dX10_untold_39 : decode cX10_untold 39 = .ok (.if_icmp .ne 7, 3) := by decide +kernel
theorem dX10_untold_42 : decode cX10_untold 42 = .ok (.iconst 1, 1) := by decide +kernel
theorem dX10_untold_43 : decode cX10_untold 43 = .ok (.goto 4, 3) := by decide +kernel
theorem dX10_untold_46 : decode cX10_untold 46 = .ok (.iconst 0, 1) := by decide +kernel
theorem dX10_untold_47 : decode cX10_untold 47 = .ok (.iload 5, 2) := by decide +kernel
theorem dX10_untold_49 : decode cX10_untold 49 = .ok (.invokevirtual 215, 3) := by decide +kernel
theorem dX10_untold_52 : decode cX10_untold 52 = .ok (.ifCond .ne 7, 3) := by decide +kernel
theorem dX10_untold_55 : decode cX10_untold 55 = .ok (.iconst 1, 1) := by decide +kernel
theorem dX10_untold_56 : decode cX10_untold 56 = .ok (.goto 4, 3) := by decide +kernel
theorem dX10_untold_59 : decode cX10_untold 59 = .ok (.iconst 0, 1) := by decide +kernel
theorem dX10_untold_60 : decode cX10_untold 60 = .ok (.istore 6, 2) := by decide +kernel
theorem dX10_untold_62 : decode cX10_untold 62 = .ok (.aload_n 0, 1) := by decide +kernel
theorem dX10_untold_63 : decode cX10_untold 63 = .ok (.iload_n 3, 1) := by decide +kernel
theorem dX10_untold_64 : decode cX10_untold 64 = .ok (.iload 5, 2) := by decide +kernel
theorem dX10_untold_66 : decode cX10_untold 66 = .ok (.iconst 0, 1) := by decide +kernel
theorem dX10_untold_67 : decode cX10_untold 67 = .ok (.invokevirtual 223, 3) := by decide +kernel
theorem dX10_untold_70 : decode cX10_untold 70 = .ok (.istore 7, 2) := by decide +kernel
theorem dX10_untold_72 : decode cX10_untold 72 = .ok (.iconst 0, 1) := by decide +kernel
theorem dX10_untold_73 : decode cX10_untold 73 = .ok (.istore 8, 2) := by decide +kernel
theorem dX10_untold_75 : decode cX10_untold 75 = .ok (.iload 8, 2) := by decide +kernel
theorem dX10_untold_77 : decode cX10_untold 77 = .ok (.iload 7, 2) := by decide +kernel
theorem dX10_untold_79 : decode cX10_untold 79 = .ok (.if_icmp .ge 36, 3) := by decide +kernel
theorem dX10_untold_82 : decode cX10_untold 82 = .ok (.iload_n 2, 1) := by decide +kernel
theorem dX10_untold_83 : decode cX10_untold 83 = .ok (.iload 6, 2) := by decide +kernel
theorem dX10_untold_85 : decode cX10_untold 85 = .ok (.ifCond .eq 21, 3) := by decide +kernel
theorem dX10_untold_88 : decode cX10_untold 88 = .ok (.aload_n 0, 1) := by decide +kernel
theorem dX10_untold_89 : decode cX10_untold 89 = .ok (.iload_n 1, 1) := by decide +kernel
theorem dX10_untold_90 : decode cX10_untold 90 = .ok (.iload_n 3, 1) := by decide +kernel
theorem dX10_untold_91 : decode cX10_untold 91 = .ok (.iload 4, 2) := by decide +kernel
theorem dX10_untold_93 : decode cX10_untold 93 = .ok (.iload 8, 2) := by decide +kernel
theorem dX10_untold_95 : decode cX10_untold 95 = .ok (.iadd, 1) := by decide +kernel
theorem dX10_untold_96 : decode cX10_untold 96 = .ok (.invokevirtual 417, 3) := by decide +kernel
theorem dX10_untold_99 : decode cX10_untold 99 = .ok (.ifCond .ne 7, 3) := by decide +kernel
theorem dX10_untold_102 : decode cX10_untold 102 = .ok (.iconst 1, 1) := by decide +kernel
theorem dX10_untold_103 : decode cX10_untold 103 = .ok (.goto 4, 3) := by decide +kernel
theorem dX10_untold_106 : decode cX10_untold 106 = .ok (.iconst 0, 1) := by decide +kernel
theorem dX10_untold_107 : decode cX10_untold 107 = .ok (.iadd, 1) := by decide +kernel
theorem dX10_untold_108 : decode cX10_untold 108 = .ok (.istore_n 2, 1) := by decide +kernel
theorem dX10_untold_109 : decode cX10_untold 109 = .ok (.iinc 8 1, 3) := by decide +kernel
theorem dX10_untold_112 : decode cX10_untold 112 = .ok (.goto (-37), 3) := by decide +kernel
theorem dX10_untold_115 : decode cX10_untold 115 = .ok (.iload 4, 2) := by decide +kernel
theorem dX10_untold_117 : decode cX10_untold 117 = .ok (.iload 7, 2) := by decide +kernel
theorem dX10_untold_119 : decode cX10_untold 119 = .ok (.iadd, 1) := by decide +kernel
theorem dX10_untold_120 : decode cX10_untold 120 = .ok (.istore 4, 2) := by decide +kernel
theorem dX10_untold_122 : decode cX10_untold 122 = .ok (.iinc 5 1, 3) := by decide +kernel
theorem dX10_untold_125 : decode cX10_untold 125 = .ok (.goto (-106), 3) := by decide +kernel
theorem dX10_untold_128 : decode cX10_untold 128 = .ok (.iinc 3 1, 3) := by decide +kernel
theorem dX10_untold_131 : decode cX10_untold 131 = .ok (.goto (-127), 3) := by decide +kernel
theorem dX10_untold_134 : decode cX10_untold 134 = .ok (.iload_n 2, 1) := by decide +kernel
theorem dX10_untold_135 : decode cX10_untold 135 = .ok (.ireturn, 1) := by decide +kernel
def zX10_untold (Qr : Option PV → Mem → Prop) : XZ := (RX10, 4, 90, 9, some FieldType.int, Qr)
noncomputable def fX10_untold_b75 (F : Mem) (k4 : Nat → Int → Int → Int → Option Int) (k19 : Nat → Int → Int → Int → Int → Int → Option Int) : Nat → Nat → Int → Int → Int → Int → Int → Int → Int → Int → Option Int
  | 0, _, _, _, _, _, _, _, _, _ => none
  | n + 1, o, x1, x2, x3, x4, x5, x6, x7, x8 =>
    if x7 ≤ x8 then
      k19 o x1 x2 x3 (xw (x4 + x7)) (xw (x5 + 1))
    else
      if x6 = 0 then
        fX10_untold_b75 F k4 k19 n o x1 (xw (x2 + 0)) x3 x4 x5 x6 x7 (xw (x8 + 1))
      else
        (fX10_isTold o x1 x3 (xw (x4 + x8)) F).bind fun r3 =>
        if r3 ≠ 0 then
          fX10_untold_b75 F k4 k19 n o x1 (xw (x2 + 0)) x3 x4 x5 x6 x7 (xw (x8 + 1))
        else
          fX10_untold_b75 F k4 k19 n o x1 (xw (x2 + 1)) x3 x4 x5 x6 x7 (xw (x8 + 1))
noncomputable def fX10_untold_b60 (F : Mem) (k4 : Nat → Int → Int → Int → Option Int) (k19 : Nat → Int → Int → Int → Int → Int → Option Int) (o : Nat) (x1 : Int) (x2 : Int) (x3 : Int) (x4 : Int) (x5 : Int) (s0 : Int) : Option Int :=
  (fX10_rowsIn o x3 x5 0 F).bind fun r1 =>
  fX10_untold_b75 F k4 k19 FU o x1 x2 x3 x4 x5 s0 r1 0
noncomputable def fX10_untold_b47 (F : Mem) (k4 : Nat → Int → Int → Int → Option Int) (k19 : Nat → Int → Int → Int → Int → Int → Option Int) (o : Nat) (x1 : Int) (x2 : Int) (x3 : Int) (x4 : Int) (x5 : Int) (s0 : Nat) (s1 : Int) (s2 : Int) : Option Int :=
  (fX10_sees s0 s1 s2 x5 F).bind fun r1 =>
  if r1 ≠ 0 then
    fX10_untold_b60 F k4 k19 o x1 x2 x3 x4 x5 0
  else
    fX10_untold_b60 F k4 k19 o x1 x2 x3 x4 x5 1
noncomputable def fX10_untold_b19 (F : Mem) (k4 : Nat → Int → Int → Int → Option Int) : Nat → Nat → Int → Int → Int → Int → Int → Option Int
  | 0, _, _, _, _, _, _ => none
  | n + 1, o, x1, x2, x3, x4, x5 =>
    (fX10_of o 0 F).bind fun r1 =>
    if r1 ≤ x5 then
      k4 o x1 x2 (xw (x3 + 1))
    else
      if (0 : Int) ≤ x5 ∧ x5 < (alen (o + 4) : Int) then
        if (F (o + 4) x5.toNat) ≠ x3 then
          fX10_untold_b47 F k4 (fX10_untold_b19 F k4 n) o x1 x2 x3 x4 x5 o x3 0
        else
          fX10_untold_b47 F k4 (fX10_untold_b19 F k4 n) o x1 x2 x3 x4 x5 o x3 1
      else none
noncomputable def fX10_untold_b4 (F : Mem) : Nat → Nat → Int → Int → Int → Option Int
  | 0, _, _, _, _ => none
  | n + 1, o, x1, x2, x3 =>
    (fX10_of o 5 F).bind fun r1 =>
    if r1 ≤ x3 then
      some x2
    else
      fX10_untold_b19 F (fX10_untold_b4 F n) FU o x1 x2 x3 0 0
noncomputable def fX10_untold (o : Nat) (x1 : Int) (F : Mem) : Option Int :=
  fX10_untold_b4 F FU o x1 0 0
theorem fX10_untold_b75_ok {Qr : Option PV → Mem → Prop}  (F : Mem) (k4 : Nat → Int → Int → Int → Option Int) (k19 : Nat → Int → Int → Int → Int → Int → Option Int) (hk4 : ∀ (o : Nat) (x1 : Int) (x2 : Int) (x3 : Int) (res : Int) (ho : isK o 10), k4 o x1 x2 x3 = some res → Qr (some (vI res)) F → PR cX10_untold (zX10_untold Qr) 4 [(0, vR o), (1, vI x1), (2, vI x2), (3, vI x3)] [] F) (hk19 : ∀ (o : Nat) (x1 : Int) (x2 : Int) (x3 : Int) (x4 : Int) (x5 : Int) (res : Int) (ho : isK o 10), k19 o x1 x2 x3 x4 x5 = some res → Qr (some (vI res)) F → PR cX10_untold (zX10_untold Qr) 19 [(0, vR o), (1, vI x1), (2, vI x2), (3, vI x3), (4, vI x4), (5, vI x5)] [] F) : ∀ (n : Nat) (o : Nat) (x1 : Int) (x2 : Int) (x3 : Int) (x4 : Int) (x5 : Int) (x6 : Int) (x7 : Int) (x8 : Int) (res : Int) (ho : isK o 10), fX10_untold_b75 F k4 k19 n o x1 x2 x3 x4 x5 x6 x7 x8 = some res → Qr (some (vI res)) F → PR cX10_untold (zX10_untold Qr) 75 [(0, vR o), (1, vI x1), (2, vI x2), (3, vI x3), (4, vI x4), (5, vI x5), (6, vI x6), (7, vI x7), (8, vI x8)] [] F := by
  intro n
  induction n with
  | zero => intro o x1 x2 x3 x4 x5 x6 x7 x8 res ho h hq; exact nomatch (show (none : Option _) = some _ from h)
  | succ n ih =>
    intro o x1 x2 x3 x4 x5 x6 x7 x8 res ho h hq
    refine s_iload (j := 8) dX10_untold_75 rfl ?_
    refine s_iload (j := 7) dX10_untold_77 rfl ?_
    refine s_icmp_ge (tgt := 115) dX10_untold_79 rfl (fun hc1 => ?_) (fun hc1 => ?_)
    · have h := ifp hc1 h
      refine s_iload (j := 4) dX10_untold_115 rfl ?_
      refine s_iload (j := 7) dX10_untold_117 rfl ?_
      refine s_iadd dX10_untold_119 ?_
      refine s_istore (ls' := [(4, vI (xw (x4 + x7))), (0, vR o), (1, vI x1), (2, vI x2), (3, vI x3), (5, vI x5), (6, vI x6), (7, vI x7), (8, vI x8)]) dX10_untold_120 (Nat.le_of_ble_eq_true rfl) rfl ?_
      refine s_iinc (j := 5) dX10_untold_122 rfl (Nat.le_of_ble_eq_true rfl) rfl ?_
      refine s_goto (tgt := 19) dX10_untold_125 rfl ?_
      exact s_sub (ks := [2, 3, 4, 5, 1, 0]) rfl (hk19 o x1 x2 x3 (xw (x4 + x7)) (xw (x5 + 1)) _ ho h hq)
    · have h := ifn hc1 h
      refine s_iload_n (j := 2) dX10_untold_82 rfl rfl ?_
      refine s_iload (j := 6) dX10_untold_83 rfl ?_
      refine s_if_eq (tgt := 106) dX10_untold_85 rfl (fun hc2 => ?_) (fun hc2 => ?_)
      · have h := ifp hc2 h
        refine s_iconst dX10_untold_106 (cin rfl) ?_
        refine s_iadd dX10_untold_107 ?_
        refine s_istore_n (ls' := [(2, vI (xw (x2 + 0))), (0, vR o), (1, vI x1), (3, vI x3), (4, vI x4), (5, vI x5), (6, vI x6), (7, vI x7), (8, vI x8)]) dX10_untold_108 rfl (Nat.le_of_ble_eq_true rfl) rfl ?_
        refine s_iinc (j := 8) dX10_untold_109 rfl (Nat.le_of_ble_eq_true rfl) rfl ?_
        refine s_goto (tgt := 75) dX10_untold_112 rfl ?_
        exact s_sub (ks := [2, 3, 1, 4, 5, 6, 7, 8, 0]) rfl (ih o x1 (xw (x2 + 0)) x3 x4 x5 x6 x7 (xw (x8 + 1)) _ ho h hq)
      · have h := ifn hc2 h
        refine s_aload_n (j := 0) dX10_untold_88 rfl rfl ?_
        refine s_iload_n (j := 1) dX10_untold_89 rfl rfl ?_
        refine s_iload_n (j := 3) dX10_untold_90 rfl rfl ?_
        refine s_iload (j := 4) dX10_untold_91 rfl ?_
        refine s_iload (j := 8) dX10_untold_93 rfl ?_
        refine s_iadd dX10_untold_95 ?_
        obtain ⟨r3, hv4, h⟩ := bnd h
        refine s_callV (As := [vI x1, vI x3, vI (xw (x4 + x8))]) (rest := [vI x2]) (r := (some (vI r3))) (F' := F) dX10_untold_96 (clX10_417 (Nat.le_of_ble_eq_true rfl) (Nat.le_of_ble_eq_true rfl)) ho rfl ⟨_, _, _, _, _, rfl, ho, hv4, rfl, rfl⟩ rfl (Nat.le_of_ble_eq_true rfl) ?_
        refine s_if_ne (tgt := 106) dX10_untold_99 rfl (fun hc5 => ?_) (fun hc5 => ?_)
        · have h := ifp hc5 h
          refine s_iconst dX10_untold_106 (cin rfl) ?_
          refine s_iadd dX10_untold_107 ?_
          refine s_istore_n (ls' := [(2, vI (xw (x2 + 0))), (0, vR o), (1, vI x1), (3, vI x3), (4, vI x4), (5, vI x5), (6, vI x6), (7, vI x7), (8, vI x8)]) dX10_untold_108 rfl (Nat.le_of_ble_eq_true rfl) rfl ?_
          refine s_iinc (j := 8) dX10_untold_109 rfl (Nat.le_of_ble_eq_true rfl) rfl ?_
          refine s_goto (tgt := 75) dX10_untold_112 rfl ?_
          exact s_sub (ks := [2, 3, 1, 4, 5, 6, 7, 8, 0]) rfl (ih o x1 (xw (x2 + 0)) x3 x4 x5 x6 x7 (xw (x8 + 1)) _ ho h hq)
        · have h := ifn hc5 h
          refine s_iconst dX10_untold_102 (cin rfl) ?_
          refine s_goto (tgt := 107) dX10_untold_103 rfl ?_
          refine s_iadd dX10_untold_107 ?_
          refine s_istore_n (ls' := [(2, vI (xw (x2 + 1))), (0, vR o), (1, vI x1), (3, vI x3), (4, vI x4), (5, vI x5), (6, vI x6), (7, vI x7), (8, vI x8)]) dX10_untold_108 rfl (Nat.le_of_ble_eq_true rfl) rfl ?_
          refine s_iinc (j := 8) dX10_untold_109 rfl (Nat.le_of_ble_eq_true rfl) rfl ?_
          refine s_goto (tgt := 75) dX10_untold_112 rfl ?_
          exact s_sub (ks := [2, 3, 1, 4, 5, 6, 7, 8, 0]) rfl (ih o x1 (xw (x2 + 1)) x3 x4 x5 x6 x7 (xw (x8 + 1)) _ ho h hq)
theorem fX10_untold_b60_ok {Qr : Option PV → Mem → Prop}  (F : Mem) (k4 : Nat → Int → Int → Int → Option Int) (k19 : Nat → Int → Int → Int → Int → Int → Option Int) (hk4 : ∀ (o : Nat) (x1 : Int) (x2 : Int) (x3 : Int) (res : Int) (ho : isK o 10), k4 o x1 x2 x3 = some res → Qr (some (vI res)) F → PR cX10_untold (zX10_untold Qr) 4 [(0, vR o), (1, vI x1), (2, vI x2), (3, vI x3)] [] F) (hk19 : ∀ (o : Nat) (x1 : Int) (x2 : Int) (x3 : Int) (x4 : Int) (x5 : Int) (res : Int) (ho : isK o 10), k19 o x1 x2 x3 x4 x5 = some res → Qr (some (vI res)) F → PR cX10_untold (zX10_untold Qr) 19 [(0, vR o), (1, vI x1), (2, vI x2), (3, vI x3), (4, vI x4), (5, vI x5)] [] F) : ∀ (o : Nat) (x1 : Int) (x2 : Int) (x3 : Int) (x4 : Int) (x5 : Int) (s0 : Int) (res : Int) (ho : isK o 10), fX10_untold_b60 F k4 k19 o x1 x2 x3 x4 x5 s0 = some res → Qr (some (vI res)) F → PR cX10_untold (zX10_untold Qr) 60 [(0, vR o), (1, vI x1), (2, vI x2), (3, vI x3), (4, vI x4), (5, vI x5)] [vI s0] F := by
  intro o x1 x2 x3 x4 x5 s0 res ho h hq
  refine s_istore (ls' := [(6, vI s0), (0, vR o), (1, vI x1), (2, vI x2), (3, vI x3), (4, vI x4), (5, vI x5)]) dX10_untold_60 (Nat.le_of_ble_eq_true rfl) rfl ?_
  refine s_aload_n (j := 1) dX10_untold_62 rfl rfl ?_
  refine s_iload_n (j := 4) dX10_untold_63 rfl rfl ?_
  refine s_iload (j := 6) dX10_untold_64 rfl ?_
  refine s_iconst dX10_untold_66 (cin rfl) ?_
  obtain ⟨r1, hv2, h⟩ := bnd h
  refine s_callV (As := [vI x3, vI x5, vI 0]) (rest := []) (r := (some (vI r1))) (F' := F) dX10_untold_67 (clX10_223 (Nat.le_of_ble_eq_true rfl) (Nat.le_of_ble_eq_true rfl)) ho rfl ⟨_, _, _, _, _, rfl, ho, hv2, rfl, rfl⟩ rfl (Nat.le_of_ble_eq_true rfl) ?_
  refine s_istore dX10_untold_70 (Nat.le_of_ble_eq_true rfl) rfl ?_
  refine s_iconst dX10_untold_72 (cin rfl) ?_
  refine s_istore (ls' := [(8, vI 0), (7, vI r1), (6, vI s0), (0, vR o), (1, vI x1), (2, vI x2), (3, vI x3), (4, vI x4), (5, vI x5)]) dX10_untold_73 (Nat.le_of_ble_eq_true rfl) rfl ?_
  exact s_sub (ks := [3, 4, 5, 6, 7, 8, 2, 1, 0]) rfl (fX10_untold_b75_ok F k4 k19 hk4 hk19 FU o x1 x2 x3 x4 x5 s0 r1 0 _ ho h hq)
theorem fX10_untold_b47_ok {Qr : Option PV → Mem → Prop}  (F : Mem) (k4 : Nat → Int → Int → Int → Option Int) (k19 : Nat → Int → Int → Int → Int → Int → Option Int) (hk4 : ∀ (o : Nat) (x1 : Int) (x2 : Int) (x3 : Int) (res : Int) (ho : isK o 10), k4 o x1 x2 x3 = some res → Qr (some (vI res)) F → PR cX10_untold (zX10_untold Qr) 4 [(0, vR o), (1, vI x1), (2, vI x2), (3, vI x3)] [] F) (hk19 : ∀ (o : Nat) (x1 : Int) (x2 : Int) (x3 : Int) (x4 : Int) (x5 : Int) (res : Int) (ho : isK o 10), k19 o x1 x2 x3 x4 x5 = some res → Qr (some (vI res)) F → PR cX10_untold (zX10_untold Qr) 19 [(0, vR o), (1, vI x1), (2, vI x2), (3, vI x3), (4, vI x4), (5, vI x5)] [] F) : ∀ (o : Nat) (x1 : Int) (x2 : Int) (x3 : Int) (x4 : Int) (x5 : Int) (s0 : Nat) (s1 : Int) (s2 : Int) (res : Int) (ho : isK o 10) (hs0 : isK s0 10), fX10_untold_b47 F k4 k19 o x1 x2 x3 x4 x5 s0 s1 s2 = some res → Qr (some (vI res)) F → PR cX10_untold (zX10_untold Qr) 47 [(0, vR o), (1, vI x1), (2, vI x2), (3, vI x3), (4, vI x4), (5, vI x5)] [vI s2, vI s1, vR s0] F := by
  intro o x1 x2 x3 x4 x5 s0 s1 s2 res ho hs0 h hq
  refine s_iload (j := 5) dX10_untold_47 rfl ?_
  obtain ⟨r1, hv2, h⟩ := bnd h
  refine s_callV (As := [vI s1, vI s2, vI x5]) (rest := []) (r := (some (vI r1))) (F' := F) dX10_untold_49 (clX10_215 (Nat.le_of_ble_eq_true rfl) (Nat.le_of_ble_eq_true rfl)) hs0 rfl ⟨_, _, _, _, _, rfl, hs0, hv2, rfl, rfl⟩ rfl (Nat.le_of_ble_eq_true rfl) ?_
  refine s_if_ne (tgt := 59) dX10_untold_52 rfl (fun hc3 => ?_) (fun hc3 => ?_)
  · have h := ifp hc3 h
    refine s_iconst dX10_untold_59 (cin rfl) ?_
    exact s_sub (ks := [0, 1, 2, 3, 4, 5]) rfl (fX10_untold_b60_ok F k4 k19 hk4 hk19 o x1 x2 x3 x4 x5 0 _ ho h hq)
  · have h := ifn hc3 h
    refine s_iconst dX10_untold_55 (cin rfl) ?_
    refine s_goto (tgt := 60) dX10_untold_56 rfl ?_
    exact s_sub (ks := [0, 1, 2, 3, 4, 5]) rfl (fX10_untold_b60_ok F k4 k19 hk4 hk19 o x1 x2 x3 x4 x5 1 _ ho h hq)
theorem fX10_untold_b19_ok {Qr : Option PV → Mem → Prop}  (F : Mem) (k4 : Nat → Int → Int → Int → Option Int) (hk4 : ∀ (o : Nat) (x1 : Int) (x2 : Int) (x3 : Int) (res : Int) (ho : isK o 10), k4 o x1 x2 x3 = some res → Qr (some (vI res)) F → PR cX10_untold (zX10_untold Qr) 4 [(0, vR o), (1, vI x1), (2, vI x2), (3, vI x3)] [] F) : ∀ (n : Nat) (o : Nat) (x1 : Int) (x2 : Int) (x3 : Int) (x4 : Int) (x5 : Int) (res : Int) (ho : isK o 10), fX10_untold_b19 F k4 n o x1 x2 x3 x4 x5 = some res → Qr (some (vI res)) F → PR cX10_untold (zX10_untold Qr) 19 [(0, vR o), (1, vI x1), (2, vI x2), (3, vI x3), (4, vI x4), (5, vI x5)] [] F := by
  intro n
  induction n with
  | zero => intro o x1 x2 x3 x4 x5 res ho h hq; exact nomatch (show (none : Option _) = some _ from h)
  | succ n ih =>
    intro o x1 x2 x3 x4 x5 res ho h hq
    refine s_iload (j := 5) dX10_untold_19 rfl ?_
    refine s_aload_n (j := 0) dX10_untold_21 rfl rfl ?_
    refine s_iconst dX10_untold_22 (cin rfl) ?_
    obtain ⟨r1, hv2, h⟩ := bnd h
    refine s_callV (As := [vI 0]) (rest := [vI x5]) (r := (some (vI r1))) (F' := F) dX10_untold_23 (clX10_181 (Nat.le_of_ble_eq_true rfl) (Nat.le_of_ble_eq_true rfl)) ho rfl ⟨_, _, _, rfl, ho, hv2, rfl, rfl⟩ rfl (Nat.le_of_ble_eq_true rfl) ?_
    refine s_icmp_ge (tgt := 128) dX10_untold_26 rfl (fun hc3 => ?_) (fun hc3 => ?_)
    · have h := ifp hc3 h
      refine s_iinc (ls' := [(3, vI (xw (x3 + 1))), (0, vR o), (1, vI x1), (2, vI x2), (4, vI x4), (5, vI x5)]) (j := 3) dX10_untold_128 rfl (Nat.le_of_ble_eq_true rfl) rfl ?_
      refine s_goto (tgt := 4) dX10_untold_131 rfl ?_
      exact s_sub (ks := [1, 2, 3, 0]) rfl (hk4 o x1 x2 (xw (x3 + 1)) _ ho h hq)
    · have h := ifn hc3 h
      refine s_aload_n (j := 0) dX10_untold_29 rfl rfl ?_
      refine s_iload_n (j := 3) dX10_untold_30 rfl rfl ?_
      refine s_aload_n (j := 0) dX10_untold_31 rfl rfl ?_
      refine s_getR dX10_untold_32 flX10_27 ho ?_
      refine s_iload (j := 5) dX10_untold_35 rfl ?_
      obtain ⟨hb4, h⟩ := gd h
      refine s_iaload dX10_untold_37 (trX10_14 ho) hb4.1 hb4.2 ?_
      refine s_iload_n (j := 3) dX10_untold_38 rfl rfl ?_
      refine s_icmp_ne (tgt := 46) dX10_untold_39 rfl (fun hc5 => ?_) (fun hc5 => ?_)
      · have h := ifp hc5 h
        refine s_iconst dX10_untold_46 (cin rfl) ?_
        exact s_sub (ks := [0, 1, 2, 3, 4, 5]) rfl (fX10_untold_b47_ok F k4 (fX10_untold_b19 F k4 n) hk4 ih o x1 x2 x3 x4 x5 o x3 0 _ ho ho h hq)
      · have h := ifn hc5 h
        refine s_iconst dX10_untold_42 (cin rfl) ?_
        refine s_goto (tgt := 47) dX10_untold_43 rfl ?_
        exact s_sub (ks := [0, 1, 2, 3, 4, 5]) rfl (fX10_untold_b47_ok F k4 (fX10_untold_b19 F k4 n) hk4 ih o x1 x2 x3 x4 x5 o x3 1 _ ho ho h hq)
theorem fX10_untold_b4_ok {Qr : Option PV → Mem → Prop}  (F : Mem) : ∀ (n : Nat) (o : Nat) (x1 : Int) (x2 : Int) (x3 : Int) (res : Int) (ho : isK o 10), fX10_untold_b4 F n o x1 x2 x3 = some res → Qr (some (vI res)) F → PR cX10_untold (zX10_untold Qr) 4 [(0, vR o), (1, vI x1), (2, vI x2), (3, vI x3)] [] F := by
  intro n
  induction n with
  | zero => intro o x1 x2 x3 res ho h hq; exact nomatch (show (none : Option _) = some _ from h)
  | succ n ih =>
    intro o x1 x2 x3 res ho h hq
    refine s_iload_n (j := 3) dX10_untold_4 rfl rfl ?_
    refine s_aload_n (j := 0) dX10_untold_5 rfl rfl ?_
    refine s_iconst dX10_untold_6 (cin rfl) ?_
    obtain ⟨r1, hv2, h⟩ := bnd h
    refine s_callV (As := [vI 5]) (rest := [vI x3]) (r := (some (vI r1))) (F' := F) dX10_untold_7 (clX10_181 (Nat.le_of_ble_eq_true rfl) (Nat.le_of_ble_eq_true rfl)) ho rfl ⟨_, _, _, rfl, ho, hv2, rfl, rfl⟩ rfl (Nat.le_of_ble_eq_true rfl) ?_
    refine s_icmp_ge (tgt := 134) dX10_untold_10 rfl (fun hc3 => ?_) (fun hc3 => ?_)
    · have h := ifp hc3 h
      refine s_iload_n (j := 2) dX10_untold_134 rfl rfl ?_
      have h := Option.some.inj h
      subst h
      exact s_ireturn dX10_untold_135 rfl hq
    · have h := ifn hc3 h
      refine s_iconst dX10_untold_13 (cin rfl) ?_
      refine s_istore (ls' := [(4, vI 0), (0, vR o), (1, vI x1), (2, vI x2), (3, vI x3)]) dX10_untold_14 (Nat.le_of_ble_eq_true rfl) rfl ?_
      refine s_iconst dX10_untold_16 (cin rfl) ?_
      refine s_istore dX10_untold_17 (Nat.le_of_ble_eq_true rfl) rfl ?_
      exact s_sub (ks := [2, 3, 4, 5, 1, 0]) rfl (fX10_untold_b19_ok F (fX10_untold_b4 F n) ih FU o x1 x2 x3 0 0 _ ho h hq)
theorem fX10_untold_ok {Qr : Option PV → Mem → Prop} : ∀ (o : Nat) (x1 : Int) (F : Mem) (res : Int) (ho : isK o 10), fX10_untold o x1 F = some res → Qr (some (vI res)) F → PR cX10_untold (zX10_untold Qr) 0 [(0, vR o), (1, vI x1)] [] F := by
  intro o x1 F res ho h hq
  refine s_iconst dX10_untold_0 (cin rfl) ?_
  refine s_istore_n (ls' := [(2, vI 0), (0, vR o), (1, vI x1)]) dX10_untold_1 rfl (Nat.le_of_ble_eq_true rfl) rfl ?_
  refine s_iconst dX10_untold_2 (cin rfl) ?_
  refine s_istore_n dX10_untold_3 rfl (Nat.le_of_ble_eq_true rfl) rfl ?_
  exact s_sub (ks := [2, 3, 1, 0]) rfl (fX10_untold_b4_ok F FU o x1 0 0 _ ho h hq)
def gX10_untold : XG := fun As F r F' => ∃ o : Nat, ∃ x1 : Int, ∃ res : Int, As = [vR o, vI x1] ∧ isK o 10 ∧ fX10_untold o x1 F = some res ∧ r = some (vI res) ∧ F' = F
theorem ctX10_untold : xCT yX10_untold cX10_untold 9 (some FieldType.int) 4 90 gX10_untold := xmet (by decide +kernel) (fun As F r F' hg => by obtain ⟨o, x1, res, rfl, ho, h, rfl, rfl⟩ := hg; exact Nat.le_of_ble_eq_true rfl) (fun As F r F' hg => by obtain ⟨o, x1, res, rfl, ho, h, rfl, rfl⟩ := hg; exact fX10_untold_ok o x1 _ _ ho h ⟨rfl, rfl⟩)
theorem mcX10_untold : Cond.code yX10_untold cX10_untold 9 (some FieldType.int) ∈ xw_T ∧ Cond.initialized yX10_untold.cls ∈ xw_T ∧ Cond.instanceMethod yX10_untold ∈ xw_T ∧ Cond.selects yX10_untold.cls yX10_untold yX10_untold ∈ xw_T := ⟨(xinT 1910 (by decide +kernel) (by decide +kernel)), (xinT 127 (by decide +kernel) (by decide +kernel)), (xinT 1909 (by decide +kernel) (by decide +kernel)), (xinT 112 (by decide +kernel) (by decide +kernel))⟩
theorem clX10_423 {fr lo : Nat} (h1 : 4 + 1 ≤ fr) (h2 : 8 + (9 + 11) + 90 ≤ lo) : xCall RX10 fr lo 0 423 10 1 gX10_untold := ⟨_, _, _, _, _, _, ctX10_untold, h1, h2, mcX10_untold.1, (xinT 1907 (by decide +kernel) (by decide +kernel)), mcX10_untold.2.1, ⟨by decide +kernel, by decide +kernel, by decide +kernel⟩, by rw [if_pos rfl]; exact ⟨mcX10_untold.2.2.1, mcX10_untold.2.2.2, _, _, rfl⟩⟩
theorem dX10_culprit_0 : decode cX10_culprit 0 = .ok (.iconst 3, 1) := by decide +kernel
theorem dX10_culprit_1 : decode cX10_culprit 1 = .ok (.iload_n 1, 1) := by decide +kernel
theorem dX10_culprit_2 : decode cX10_culprit 2 = .ok (.invokestatic 169, 3) := by decide +kernel
theorem dX10_culprit_5 : decode cX10_culprit 5 = .ok (.istore_n 2, 1) := by decide +kernel
theorem dX10_culprit_6 : decode cX10_culprit 6 = .ok (.iconst (-1), 1) := by decide +kernel
theorem dX10_culprit_7 : decode cX10_culprit 7 = .ok (.istore_n 3, 1) := by decide +kernel
theorem dX10_culprit_8 : decode cX10_culprit 8 = .ok (.iconst 0, 1) := by decide +kernel
theorem dX10_culprit_9 : decode cX10_culprit 9 = .ok (.istore 4, 2) := by decide +kernel
theorem dX10_culprit_11 : decode cX10_culprit 11 = .ok (.iconst 0, 1) := by decide +kernel
theorem dX10_culprit_12 : decode cX10_culprit 12 = .ok (.istore 5, 2) := by decide +kernel
theorem dX10_culprit_14 : decode cX10_culprit 14 = .ok (.iload 5, 2) := by decide +kernel
theorem dX10_culprit_16 : decode cX10_culprit 16 = .ok (.aload_n 0, 1) := by decide +kernel
theorem dX10_culprit_17 : decode cX10_culprit 17 = .ok (.iconst 5, 1) := by decide +kernel
theorem dX10_culprit_18 : decode cX10_culprit 18 = .ok (.invokevirtual 181, 3) := by decide +kernel
theorem dX10_culprit_21 : decode cX10_culprit 21 = .ok (.if_icmp .ge 109, 3) := by decide +kernel
theorem dX10_culprit_24 : decode cX10_culprit 24 = .ok (.iconst 0, 1) := by decide +kernel
theorem dX10_culprit_25 : decode cX10_culprit 25 = .ok (.istore 6, 2) := by decide +kernel
theorem dX10_culprit_27 : decode cX10_culprit 27 = .ok (.iconst 0, 1) := by decide +kernel
theorem dX10_culprit_28 : decode cX10_culprit 28 = .ok (.istore 7, 2) := by decide +kernel
theorem dX10_culprit_30 : decode cX10_culprit 30 = .ok (.iload 7, 2) := by decide +kernel
theorem dX10_culprit_32 : decode cX10_culprit 32 = .ok (.aload_n 0, 1) := by decide +kernel
theorem dX10_culprit_33 : decode cX10_culprit 33 = .ok (.getfield 7, 3) := by decide +kernel
theorem dX10_culprit_36 : decode cX10_culprit 36 = .ok (.iload_n 2, 1) := by decide +kernel
theorem dX10_culprit_37 : decode cX10_culprit 37 = .ok (.iaload, 1) := by decide +kernel
theorem dX10_culprit_38 : decode cX10_culprit 38 = .ok (.if_icmp .ge 69, 3) := by decide +kernel
theorem dX10_culprit_41 : decode cX10_culprit 41 = .ok (.iload 6, 2) := by decide +kernel
theorem dX10_culprit_43 : decode cX10_culprit 43 = .ok (.aload_n 0, 1) := by decide +kernel
theorem dX10_culprit_44 : decode cX10_culprit 44 = .ok (.iload_n 1, 1) := by decide +kernel
theorem dX10_culprit_45 : decode cX10_culprit 45 = .ok (.iload 7, 2) := by decide +kernel
theorem dX10_culprit_47 : decode cX10_culprit 47 = .ok (.invokevirtual 414, 3) := by decide +kernel
theorem dX10_culprit_50 : decode cX10_culprit 50 = .ok (.ifCond .eq 47, 3) := by decide +kernel
theorem dX10_culprit_53 : decode cX10_culprit 53 = .ok (.aload_n 0, 1) := by decide +kernel
theorem dX10_culprit_54 : decode cX10_culprit 54 = .ok (.getfield 27, 3) := by decide +kernel
theorem dX10_culprit_57 : decode cX10_culprit 57 = .ok (.aload_n 0, 1) := by decide +kernel
theorem dX10_culprit_58 : decode cX10_culprit 58 = .ok (.aload_n 0, 1) := by decide +kernel
theorem dX10_culprit_59 : decode cX10_culprit 59 = .ok (.getfield 7, 3) := by decide +kernel
theorem dX10_culprit_62 : decode cX10_culprit 62 = .ok (.iload_n 2, 1) := by decide +kernel
theorem dX10_culprit_63 : decode cX10_culprit 63 = .ok (.iconst 1, 1) := by decide +kernel
theorem dX10_culprit_64 : decode cX10_culprit 64 = .ok (.iadd, 1) := by decide +kernel
theorem dX10_culprit_65 : decode cX10_culprit 65 = .ok (.iconst 2, 1) := by decide +kernel
theorem dX10_culprit_66 : decode cX10_culprit 66 = .ok (.iload 7, 2) := by decide +kernel
theorem dX10_culprit_68 : decode cX10_culprit 68 = .ok (.imul, 1) := by decide +kernel
theorem dX10_culprit_69 : decode cX10_culprit 69 = .ok (.iadd, 1) := by decide +kernel
theorem dX10_culprit_70 : decode cX10_culprit 70 = .ok (.iaload, 1) := by decide +kernel
theorem dX10_culprit_71 : decode cX10_culprit 71 = .ok (.aload_n 0, 1) := by decide +kernel
theorem dX10_culprit_72 : decode cX10_culprit 72 = .ok (.getfield 7, 3) := by decide +kernel
theorem dX10_culprit_75 : decode cX10_culprit 75 = .ok (.iload_n 2, 1) := by decide +kernel
theorem dX10_culprit_76 : decode cX10_culprit 76 = .ok (.iconst 2, 1) := by decide +kernel
theorem dX10_culprit_77 : decode cX10_culprit 77 = .ok (.iadd, 1) := by decide +kernel
theorem dX10_culprit_78 : decode cX10_culprit 78 = .ok (.iconst 2, 1) := by decide +kernel
theorem dX10_culprit_79 : decode cX10_culprit 79 = .ok (.iload 7, 2) := by decide +kernel
theorem dX10_culprit_81 : decode cX10_culprit 81 = .ok (.imul, 1) := by decide +kernel
theorem dX10_culprit_82 : decode cX10_culprit 82 = .ok (.iadd, 1) := by decide +kernel
theorem dX10_culprit_83 : decode cX10_culprit 83 = .ok (.iaload, 1) := by decide +kernel
theorem dX10_culprit_84 : decode cX10_culprit 84 = .ok (.invokevirtual 411, 3) := by decide +kernel
theorem dX10_culprit_87 : decode cX10_culprit 87 = .ok (.iaload, 1) := by decide +kernel
theorem dX10_culprit_88 : decode cX10_culprit 88 = .ok (.iload 5, 2) := by decide +kernel
theorem dX10_culprit_90 : decode cX10_culprit 90 = .ok (.if_icmp .ne 7, 3) := by decide +kernel
theorem dX10_culprit_93 : decode cX10_culprit 93 = .ok (.iconst 1, 1) := by decide +kernel
theorem dX10_culprit_94 : decode cX10_culprit 94 = .ok (.goto 4, 3) := by decide +kernel
theorem dX10_culprit_97 : decode cX10_culprit 97 = .ok (.iconst 0, 1) := by decide +kernel
theorem dX10_culprit_98 : decode cX10_culprit 98 = .ok (.iadd, 1) := by decide +kernel
theorem dX10_culprit_99 : decode cX10_culprit 99 = .ok (.istore 6, 2) := by decide +kernel
theorem dX10_culprit_101 : decode cX10_culprit 101 = .ok (.iinc 7 1, 3) := by decide +kernel
theorem dX10_culprit_104 : decode cX10_culprit 104 = .ok (.goto (-74), 3) := by decide +kernel
theorem dX10_culprit_107 : decode cX10_culprit 107 = .ok (.iload 6, 2) := by decide +kernel
theorem dX10_culprit_109 : decode cX10_culprit 109 = .ok (.iload 4, 2) := by decide +kernel
theorem dX10_culprit_111 : decode cX10_culprit 111 = .ok (.if_icmp .gt 6, 3) := by decide +kernel
theorem dX10_culprit_114 : decode cX10_culprit 114 = .ok (.goto 10, 3) := by decide +kernel
theorem dX10_culprit_117 : decode cX10_culprit 117 = .ok (.iload 5, 2) := by decide +kernel
theorem dX10_culprit_119 : decode cX10_culprit 119 = .ok (.istore_n 3, 1) := by decide +kernel
theorem dX10_culprit_120 : decode cX10_culprit 120 = .ok (.iload 6, 2) := by decide +kernel
theorem dX10_culprit_122 : decode cX10_culprit 122 = .ok (.istore 4, 2) := by decide +kernel
theorem dX10_culprit_124 : decode cX10_culprit 124 = .ok (.iinc 5 1, 3) := by decide +kernel
theorem dX10_culprit_127 : decode cX10_culprit 127 = .ok (.goto (-113), 3) := by decide +kernel
theorem dX10_culprit_130 : decode cX10_culprit 130 = .ok (.iload_n 3, 1) := by decide +kernel
theorem dX10_culprit_131 : decode cX10_culprit 131 = .ok (.ireturn, 1) := by decide +kernel
def zX10_culprit (Qr : Option PV → Mem → Prop) : XZ := (RX10, 6, 139, 8, some FieldType.int, Qr)
noncomputable def fX10_culprit_b30 (F : Mem) (k14 : Nat → Int → Int → Int → Int → Int → Option Int) : Nat → Nat → Int → Int → Int → Int → Int → Int → Int → Option Int
  | 0, _, _, _, _, _, _, _, _ => none
  | n + 1, o, x1, x2, x3, x4, x5, x6, x7 =>
    if (0 : Int) ≤ x2 ∧ x2 < (alen (o + 1) : Int) then
      if (F (o + 1) x2.toNat) ≤ x7 then
        if x4 < x6 then
          k14 o x1 x2 x5 x6 (xw (x5 + 1))
        else
          k14 o x1 x2 x3 x4 (xw (x5 + 1))
      else
        (fX10_isExplained o x1 x7 F).bind fun r4 =>
        if r4 = 0 then
          fX10_culprit_b30 F k14 n o x1 x2 x3 x4 x5 (xw (x6 + 0)) (xw (x7 + 1))
        else
          if (0 : Int) ≤ (xw ((xw (x2 + 1)) + (xw (2 * x7)))) ∧ (xw ((xw (x2 + 1)) + (xw (2 * x7)))) < (alen (o + 1) : Int) then
            if (0 : Int) ≤ (xw ((xw (x2 + 2)) + (xw (2 * x7)))) ∧ (xw ((xw (x2 + 2)) + (xw (2 * x7)))) < (alen (o + 1) : Int) then
              (fX10_madeOf o (F (o + 1) (xw ((xw (x2 + 1)) + (xw (2 * x7)))).toNat) (F (o + 1) (xw ((xw (x2 + 2)) + (xw (2 * x7)))).toNat) F).bind fun r9 =>
              if (0 : Int) ≤ r9 ∧ r9 < (alen (o + 4) : Int) then
                if (F (o + 4) r9.toNat) ≠ x5 then
                  fX10_culprit_b30 F k14 n o x1 x2 x3 x4 x5 (xw (x6 + 0)) (xw (x7 + 1))
                else
                  fX10_culprit_b30 F k14 n o x1 x2 x3 x4 x5 (xw (x6 + 1)) (xw (x7 + 1))
              else none
            else none
          else none
    else none
noncomputable def fX10_culprit_b14 (F : Mem) : Nat → Nat → Int → Int → Int → Int → Int → Option Int
  | 0, _, _, _, _, _, _ => none
  | n + 1, o, x1, x2, x3, x4, x5 =>
    (fX10_of o 5 F).bind fun r1 =>
    if r1 ≤ x5 then
      some x3
    else
      fX10_culprit_b30 F (fX10_culprit_b14 F n) FU o x1 x2 x3 x4 x5 0 0
noncomputable def fX10_culprit (o : Nat) (x1 : Int) (F : Mem) : Option Int :=
  fX10_culprit_b14 F FU o x1 (fX10_placeOf 3 x1) (-1) 0 0
theorem fX10_culprit_b30_ok {Qr : Option PV → Mem → Prop}  (F : Mem) (k14 : Nat → Int → Int → Int → Int → Int → Option Int) (hk14 : ∀ (o : Nat) (x1 : Int) (x2 : Int) (x3 : Int) (x4 : Int) (x5 : Int) (res : Int) (ho : isK o 10), k14 o x1 x2 x3 x4 x5 = some res → Qr (some (vI res)) F → PR cX10_culprit (zX10_culprit Qr) 14 [(0, vR o), (1, vI x1), (2, vI x2), (3, vI x3), (4, vI x4), (5, vI x5)] [] F) : ∀ (n : Nat) (o : Nat) (x1 : Int) (x2 : Int) (x3 : Int) (x4 : Int) (x5 : Int) (x6 : Int) (x7 : Int) (res : Int) (ho : isK o 10), fX10_culprit_b30 F k14 n o x1 x2 x3 x4 x5 x6 x7 = some res → Qr (some (vI res)) F → PR cX10_culprit (zX10_culprit Qr) 30 [(0, vR o), (1, vI x1), (2, vI x2), (3, vI x3), (4, vI x4), (5, vI x5), (6, vI x6), (7, vI x7)] [] F := by
  intro n
  induction n with
  | zero => intro o x1 x2 x3 x4 x5 x6 x7 res ho h hq; exact nomatch (show (none : Option _) = some _ from h)
  | succ n ih =>
    intro o x1 x2 x3 x4 x5 x6 x7 res ho h hq
    refine s_iload (j := 7) dX10_culprit_30 rfl ?_
    refine s_aload_n (j := 0) dX10_culprit_32 rfl rfl ?_
    refine s_getR dX10_culprit_33 flX10_7 ho ?_
    refine s_iload_n (j := 2) dX10_culprit_36 rfl rfl ?_
    obtain ⟨hb1, h⟩ := gd h
    refine s_iaload dX10_culprit_37 (trX10_0 ho) hb1.1 hb1.2 ?_
    refine s_icmp_ge (tgt := 107) dX10_culprit_38 rfl (fun hc2 => ?_) (fun hc2 => ?_)
    · have h := ifp hc2 h
      refine s_iload (j := 6) dX10_culprit_107 rfl ?_
      refine s_iload (j := 4) dX10_culprit_109 rfl ?_
      refine s_icmp_gt (tgt := 117) dX10_culprit_111 rfl (fun hc3 => ?_) (fun hc3 => ?_)
      · have h := ifp hc3 h
        refine s_iload (j := 5) dX10_culprit_117 rfl ?_
        refine s_istore_n (ls' := [(3, vI x5), (0, vR o), (1, vI x1), (2, vI x2), (4, vI x4), (5, vI x5), (6, vI x6), (7, vI x7)]) dX10_culprit_119 rfl (Nat.le_of_ble_eq_true rfl) rfl ?_
        refine s_iload (j := 6) dX10_culprit_120 rfl ?_
        refine s_istore dX10_culprit_122 (Nat.le_of_ble_eq_true rfl) rfl ?_
        refine s_iinc (ls' := [(5, vI (xw (x5 + 1))), (4, vI x6), (3, vI x5), (0, vR o), (1, vI x1), (2, vI x2), (6, vI x6), (7, vI x7)]) (j := 5) dX10_culprit_124 rfl (Nat.le_of_ble_eq_true rfl) rfl ?_
        refine s_goto (tgt := 14) dX10_culprit_127 rfl ?_
        exact s_sub (ks := [3, 4, 5, 2, 1, 0]) rfl (hk14 o x1 x2 x5 x6 (xw (x5 + 1)) _ ho h hq)
      · have h := ifn hc3 h
        refine s_goto (tgt := 124) dX10_culprit_114 rfl ?_
        refine s_iinc (ls' := [(5, vI (xw (x5 + 1))), (0, vR o), (1, vI x1), (2, vI x2), (3, vI x3), (4, vI x4), (6, vI x6), (7, vI x7)]) (j := 5) dX10_culprit_124 rfl (Nat.le_of_ble_eq_true rfl) rfl ?_
        refine s_goto (tgt := 14) dX10_culprit_127 rfl ?_
        exact s_sub (ks := [1, 2, 3, 4, 5, 0]) rfl (hk14 o x1 x2 x3 x4 (xw (x5 + 1)) _ ho h hq)
    · have h := ifn hc2 h
      refine s_iload (j := 6) dX10_culprit_41 rfl ?_
      refine s_aload_n (j := 0) dX10_culprit_43 rfl rfl ?_
      refine s_iload_n (j := 1) dX10_culprit_44 rfl rfl ?_
      refine s_iload (j := 7) dX10_culprit_45 rfl ?_
      obtain ⟨r4, hv5, h⟩ := bnd h
      refine s_callV (As := [vI x1, vI x7]) (rest := [vI x6]) (r := (some (vI r4))) (F' := F) dX10_culprit_47 (clX10_414 (Nat.le_of_ble_eq_true rfl) (Nat.le_of_ble_eq_true rfl)) ho rfl ⟨_, _, _, _, rfl, ho, hv5, rfl, rfl⟩ rfl (Nat.le_of_ble_eq_true rfl) ?_
      refine s_if_eq (tgt := 97) dX10_culprit_50 rfl (fun hc6 => ?_) (fun hc6 => ?_)
      · have h := ifp hc6 h
        refine s_iconst dX10_culprit_97 (cin rfl) ?_
        refine s_iadd dX10_culprit_98 ?_
        refine s_istore (ls' := [(6, vI (xw (x6 + 0))), (0, vR o), (1, vI x1), (2, vI x2), (3, vI x3), (4, vI x4), (5, vI x5), (7, vI x7)]) dX10_culprit_99 (Nat.le_of_ble_eq_true rfl) rfl ?_
        refine s_iinc (j := 7) dX10_culprit_101 rfl (Nat.le_of_ble_eq_true rfl) rfl ?_
        refine s_goto (tgt := 30) dX10_culprit_104 rfl ?_
        exact s_sub (ks := [2, 3, 4, 5, 6, 7, 1, 0]) rfl (ih o x1 x2 x3 x4 x5 (xw (x6 + 0)) (xw (x7 + 1)) _ ho h hq)
      · have h := ifn hc6 h
        refine s_aload_n (j := 0) dX10_culprit_53 rfl rfl ?_
        refine s_getR dX10_culprit_54 flX10_27 ho ?_
        refine s_aload_n (j := 0) dX10_culprit_57 rfl rfl ?_
        refine s_aload_n (j := 0) dX10_culprit_58 rfl rfl ?_
        refine s_getR dX10_culprit_59 flX10_7 ho ?_
        refine s_iload_n (j := 2) dX10_culprit_62 rfl rfl ?_
        refine s_iconst dX10_culprit_63 (cin rfl) ?_
        refine s_iadd dX10_culprit_64 ?_
        refine s_iconst dX10_culprit_65 (cin rfl) ?_
        refine s_iload (j := 7) dX10_culprit_66 rfl ?_
        refine s_imul dX10_culprit_68 ?_
        refine s_iadd dX10_culprit_69 ?_
        obtain ⟨hb7, h⟩ := gd h
        refine s_iaload dX10_culprit_70 (trX10_0 ho) hb7.1 hb7.2 ?_
        refine s_aload_n (j := 0) dX10_culprit_71 rfl rfl ?_
        refine s_getR dX10_culprit_72 flX10_7 ho ?_
        refine s_iload_n (j := 2) dX10_culprit_75 rfl rfl ?_
        refine s_iconst dX10_culprit_76 (cin rfl) ?_
        refine s_iadd dX10_culprit_77 ?_
        refine s_iconst dX10_culprit_78 (cin rfl) ?_
        refine s_iload (j := 7) dX10_culprit_79 rfl ?_
        refine s_imul dX10_culprit_81 ?_
        refine s_iadd dX10_culprit_82 ?_
        obtain ⟨hb8, h⟩ := gd h
        refine s_iaload dX10_culprit_83 (trX10_0 ho) hb8.1 hb8.2 ?_
        obtain ⟨r9, hv10, h⟩ := bnd h
        refine s_callV (As := [vI (F (o + 1) (xw ((xw (x2 + 1)) + (xw (2 * x7)))).toNat), vI (F (o + 1) (xw ((xw (x2 + 2)) + (xw (2 * x7)))).toNat)]) (rest := [vR (o + 4), vI x6]) (r := (some (vI r9))) (F' := F) dX10_culprit_84 (clX10_411 (Nat.le_of_ble_eq_true rfl) (Nat.le_of_ble_eq_true rfl)) ho rfl ⟨_, _, _, _, rfl, ho, hv10, rfl, rfl⟩ rfl (Nat.le_of_ble_eq_true rfl) ?_
        obtain ⟨hb11, h⟩ := gd h
        refine s_iaload dX10_culprit_87 (trX10_14 ho) hb11.1 hb11.2 ?_
        refine s_iload (j := 5) dX10_culprit_88 rfl ?_
        refine s_icmp_ne (tgt := 97) dX10_culprit_90 rfl (fun hc12 => ?_) (fun hc12 => ?_)
        · have h := ifp hc12 h
          refine s_iconst dX10_culprit_97 (cin rfl) ?_
          refine s_iadd dX10_culprit_98 ?_
          refine s_istore (ls' := [(6, vI (xw (x6 + 0))), (0, vR o), (1, vI x1), (2, vI x2), (3, vI x3), (4, vI x4), (5, vI x5), (7, vI x7)]) dX10_culprit_99 (Nat.le_of_ble_eq_true rfl) rfl ?_
          refine s_iinc (j := 7) dX10_culprit_101 rfl (Nat.le_of_ble_eq_true rfl) rfl ?_
          refine s_goto (tgt := 30) dX10_culprit_104 rfl ?_
          exact s_sub (ks := [2, 3, 4, 5, 6, 7, 1, 0]) rfl (ih o x1 x2 x3 x4 x5 (xw (x6 + 0)) (xw (x7 + 1)) _ ho h hq)
        · have h := ifn hc12 h
          refine s_iconst dX10_culprit_93 (cin rfl) ?_
          refine s_goto (tgt := 98) dX10_culprit_94 rfl ?_
          refine s_iadd dX10_culprit_98 ?_
          refine s_istore (ls' := [(6, vI (xw (x6 + 1))), (0, vR o), (1, vI x1), (2, vI x2), (3, vI x3), (4, vI x4), (5, vI x5), (7, vI x7)]) dX10_culprit_99 (Nat.le_of_ble_eq_true rfl) rfl ?_
          refine s_iinc (j := 7) dX10_culprit_101 rfl (Nat.le_of_ble_eq_true rfl) rfl ?_
          refine s_goto (tgt := 30) dX10_culprit_104 rfl ?_
          exact s_sub (ks := [2, 3, 4, 5, 6, 7, 1, 0]) rfl (ih o x1 x2 x3 x4 x5 (xw (x6 + 1)) (xw (x7 + 1)) _ ho h hq)
theorem fX10_culprit_b14_ok {Qr : Option PV → Mem → Prop}  (F : Mem) : ∀ (n : Nat) (o : Nat) (x1 : Int) (x2 : Int) (x3 : Int) (x4 : Int) (x5 : Int) (res : Int) (ho : isK o 10), fX10_culprit_b14 F n o x1 x2 x3 x4 x5 = some res → Qr (some (vI res)) F → PR cX10_culprit (zX10_culprit Qr) 14 [(0, vR o), (1, vI x1), (2, vI x2), (3, vI x3), (4, vI x4), (5, vI x5)] [] F := by
  intro n
  induction n with
  | zero => intro o x1 x2 x3 x4 x5 res ho h hq; exact nomatch (show (none : Option _) = some _ from h)
  | succ n ih =>
    intro o x1 x2 x3 x4 x5 res ho h hq
    refine s_iload (j := 5) dX10_culprit_14 rfl ?_
    refine s_aload_n (j := 0) dX10_culprit_16 rfl rfl ?_
    refine s_iconst dX10_culprit_17 (cin rfl) ?_
    obtain ⟨r1, hv2, h⟩ := bnd h
    refine s_callV (As := [vI 5]) (rest := [vI x5]) (r := (some (vI r1))) (F' := F) dX10_culprit_18 (clX10_181 (Nat.le_of_ble_eq_true rfl) (Nat.le_of_ble_eq_true rfl)) ho rfl ⟨_, _, _, rfl, ho, hv2, rfl, rfl⟩ rfl (Nat.le_of_ble_eq_true rfl) ?_
    refine s_icmp_ge (tgt := 130) dX10_culprit_21 rfl (fun hc3 => ?_) (fun hc3 => ?_)
    · have h := ifp hc3 h
      refine s_iload_n (j := 3) dX10_culprit_130 rfl rfl ?_
      have h := Option.some.inj h
      subst h
      exact s_ireturn dX10_culprit_131 rfl hq
    · have h := ifn hc3 h
      refine s_iconst dX10_culprit_24 (cin rfl) ?_
      refine s_istore (ls' := [(6, vI 0), (0, vR o), (1, vI x1), (2, vI x2), (3, vI x3), (4, vI x4), (5, vI x5)]) dX10_culprit_25 (Nat.le_of_ble_eq_true rfl) rfl ?_
      refine s_iconst dX10_culprit_27 (cin rfl) ?_
      refine s_istore dX10_culprit_28 (Nat.le_of_ble_eq_true rfl) rfl ?_
      exact s_sub (ks := [2, 3, 4, 5, 6, 7, 1, 0]) rfl (fX10_culprit_b30_ok F (fX10_culprit_b14 F n) ih FU o x1 x2 x3 x4 x5 0 0 _ ho h hq)
theorem fX10_culprit_ok {Qr : Option PV → Mem → Prop} : ∀ (o : Nat) (x1 : Int) (F : Mem) (res : Int) (ho : isK o 10), fX10_culprit o x1 F = some res → Qr (some (vI res)) F → PR cX10_culprit (zX10_culprit Qr) 0 [(0, vR o), (1, vI x1)] [] F := by
  intro o x1 F res ho h hq
  refine s_iconst dX10_culprit_0 (cin rfl) ?_
  refine s_iload_n (j := 1) dX10_culprit_1 rfl rfl ?_
  refine s_callS (As := [vI 3, vI x1]) (rest := []) (r := (some (vI (fX10_placeOf 3 x1)))) (F' := F) dX10_culprit_2 (clX10_169 (Nat.le_of_ble_eq_true rfl) (Nat.le_of_ble_eq_true rfl)) rfl ⟨_, _, _, rfl, rfl, rfl, rfl⟩ rfl (Nat.le_of_ble_eq_true rfl) ?_
  refine s_istore_n (ls' := [(2, vI (fX10_placeOf 3 x1)), (0, vR o), (1, vI x1)]) dX10_culprit_5 rfl (Nat.le_of_ble_eq_true rfl) rfl ?_
  refine s_iconst dX10_culprit_6 (cin rfl) ?_
  refine s_istore_n dX10_culprit_7 rfl (Nat.le_of_ble_eq_true rfl) rfl ?_
  refine s_iconst dX10_culprit_8 (cin rfl) ?_
  refine s_istore (ls' := [(4, vI 0), (3, vI (-1)), (2, vI (fX10_placeOf 3 x1)), (0, vR o), (1, vI x1)]) dX10_culprit_9 (Nat.le_of_ble_eq_true rfl) rfl ?_
  refine s_iconst dX10_culprit_11 (cin rfl) ?_
  refine s_istore dX10_culprit_12 (Nat.le_of_ble_eq_true rfl) rfl ?_
  exact s_sub (ks := [4, 5, 3, 2, 1, 0]) rfl (fX10_culprit_b14_ok F FU o x1 (fX10_placeOf 3 x1) (-1) 0 0 _ ho h hq)
def gX10_culprit : XG := fun As F r F' => ∃ o : Nat, ∃ x1 : Int, ∃ res : Int, As = [vR o, vI x1] ∧ isK o 10 ∧ fX10_culprit o x1 F = some res ∧ r = some (vI res) ∧ F' = F
theorem ctX10_culprit : xCT yX10_culprit cX10_culprit 8 (some FieldType.int) 6 139 gX10_culprit := xmet (by decide +kernel) (fun As F r F' hg => by obtain ⟨o, x1, res, rfl, ho, h, rfl, rfl⟩ := hg; exact Nat.le_of_ble_eq_true rfl) (fun As F r F' hg => by obtain ⟨o, x1, res, rfl, ho, h, rfl, rfl⟩ := hg; exact fX10_culprit_ok o x1 _ _ ho h ⟨rfl, rfl⟩)
theorem mcX10_culprit : Cond.code yX10_culprit cX10_culprit 8 (some FieldType.int) ∈ xw_T ∧ Cond.initialized yX10_culprit.cls ∈ xw_T ∧ Cond.instanceMethod yX10_culprit ∈ xw_T ∧ Cond.selects yX10_culprit.cls yX10_culprit yX10_culprit ∈ xw_T := ⟨(xinT 1918 (by decide +kernel) (by decide +kernel)), (xinT 127 (by decide +kernel) (by decide +kernel)), (xinT 1917 (by decide +kernel) (by decide +kernel)), (xinT 114 (by decide +kernel) (by decide +kernel))⟩
theorem clX10_426 {fr lo : Nat} (h1 : 6 + 1 ≤ fr) (h2 : 8 + (8 + 11) + 139 ≤ lo) : xCall RX10 fr lo 0 426 10 1 gX10_culprit := ⟨_, _, _, _, _, _, ctX10_culprit, h1, h2, mcX10_culprit.1, (xinT 1915 (by decide +kernel) (by decide +kernel)), mcX10_culprit.2.1, ⟨by decide +kernel, by decide +kernel, by decide +kernel⟩, by rw [if_pos rfl]; exact ⟨mcX10_culprit.2.2.1, mcX10_culprit.2.2.2, _, _, rfl⟩⟩
theorem dX10_blame_0 : decode cX10_blame 0 = .ok (.aload_n 0, 1) := by decide +kernel
theorem dX10_blame_1 : decode cX10_blame 1 = .ok (.iload_n 1, 1) := by decide +kernel
theorem dX10_blame_2 : decode cX10_blame 2 = .ok (.iload_n 2, 1) := by decide +kernel
theorem dX10_blame_3 : decode cX10_blame 3 = .ok (.invokevirtual 227, 3) := by decide +kernel
theorem dX10_blame_6 : decode cX10_blame 6 = .ok (.ifCond .eq 12, 3) := by decide +kernel
theorem dX10_blame_9 : decode cX10_blame 9 = .ok (.aload_n 0, 1) := by decide +kernel
theorem dX10_blame_10 : decode cX10_blame 10 = .ok (.iconst 3, 1) := by decide +kernel
theorem dX10_blame_11 : decode cX10_blame 11 = .ok (.iload_n 3, 1) := by decide +kernel
theorem dX10_blame_12 : decode cX10_blame 12 = .ok (.invokevirtual 146, 3) := by decide +kernel
theorem dX10_blame_15 : decode cX10_blame 15 = .ok (.ifCond .ne 6, 3) := by decide +kernel
theorem dX10_blame_18 : decode cX10_blame 18 = .ok (.bipush (-2), 2) := by decide +kernel
theorem dX10_blame_20 : decode cX10_blame 20 = .ok (.ireturn, 1) := by decide +kernel
theorem dX10_blame_21 : decode cX10_blame 21 = .ok (.iconst 3, 1) := by decide +kernel
theorem dX10_blame_22 : decode cX10_blame 22 = .ok (.iload_n 3, 1) := by decide +kernel
theorem dX10_blame_23 : decode cX10_blame 23 = .ok (.invokestatic 169, 3) := by decide +kernel
theorem dX10_blame_26 : decode cX10_blame 26 = .ok (.istore 5, 2) := by decide +kernel
theorem dX10_blame_28 : decode cX10_blame 28 = .ok (.iload 4, 2) := by decide +kernel
theorem dX10_blame_30 : decode cX10_blame 30 = .ok (.bipush 10, 2) := by decide +kernel
theorem dX10_blame_32 : decode cX10_blame 32 = .ok (.bipush 9, 2) := by decide +kernel
theorem dX10_blame_34 : decode cX10_blame 34 = .ok (.aload_n 0, 1) := by decide +kernel
theorem dX10_blame_35 : decode cX10_blame 35 = .ok (.getfield 7, 3) := by decide +kernel
theorem dX10_blame_38 : decode cX10_blame 38 = .ok (.iload 5, 2) := by decide +kernel
theorem dX10_blame_40 : decode cX10_blame 40 = .ok (.iaload, 1) := by decide +kernel
theorem dX10_blame_41 : decode cX10_blame 41 = .ok (.iadd, 1) := by decide +kernel
theorem dX10_blame_42 : decode cX10_blame 42 = .ok (.invokestatic 115, 3) := by decide +kernel
theorem dX10_blame_45 : decode cX10_blame 45 = .ok (.ifCond .eq 42, 3) := by decide +kernel
theorem dX10_blame_48 : decode cX10_blame 48 = .ok (.aload_n 0, 1) := by decide +kernel
theorem dX10_blame_49 : decode cX10_blame 49 = .ok (.aload_n 0, 1) := by decide +kernel
theorem dX10_blame_50 : decode cX10_blame 50 = .ok (.getfield 7, 3) := by decide +kernel
theorem dX10_blame_53 : decode cX10_blame 53 = .ok (.iload 5, 2) := by decide +kernel
theorem dX10_blame_55 : decode cX10_blame 55 = .ok (.iconst 1, 1) := by decide +kernel
theorem dX10_blame_56 : decode cX10_blame 56 = .ok (.iadd, 1) := by decide +kernel
theorem dX10_blame_57 : decode cX10_blame 57 = .ok (.iconst 2, 1) := by decide +kernel
theorem dX10_blame_58 : decode cX10_blame 58 = .ok (.iload 4, 2) := by decide +kernel
theorem dX10_blame_60 : decode cX10_blame 60 = .ok (.bipush 10, 2) := by decide +kernel
theorem dX10_blame_62 : decode cX10_blame 62 = .ok (.isub, 1) := by decide +kernel
theorem dX10_blame_63 : decode cX10_blame 63 = .ok (.imul, 1) := by decide +kernel
theorem dX10_blame_64 : decode cX10_blame 64 = .ok (.iadd, 1) := by decide +kernel
theorem dX10_blame_65 : decode cX10_blame 65 = .ok (.iaload, 1) := by decide +kernel
theorem dX10_blame_66 : decode cX10_blame 66 = .ok (.aload_n 0, 1) := by decide +kernel
theorem dX10_blame_67 : decode cX10_blame 67 = .ok (.getfield 7, 3) := by decide +kernel
theorem dX10_blame_70 : decode cX10_blame 70 = .ok (.iload 5, 2) := by decide +kernel
theorem dX10_blame_72 : decode cX10_blame 72 = .ok (.iconst 2, 1) := by decide +kernel
theorem dX10_blame_73 : decode cX10_blame 73 = .ok (.iadd, 1) := by decide +kernel
theorem dX10_blame_74 : decode cX10_blame 74 = .ok (.iconst 2, 1) := by decide +kernel
theorem dX10_blame_75 : decode cX10_blame 75 = .ok (.iload 4, 2) := by decide +kernel
theorem dX10_blame_77 : decode cX10_blame 77 = .ok (.bipush 10, 2) := by decide +kernel
theorem dX10_blame_79 : decode cX10_blame 79 = .ok (.isub, 1) := by decide +kernel
theorem dX10_blame_80 : decode cX10_blame 80 = .ok (.imul, 1) := by decide +kernel
theorem dX10_blame_81 : decode cX10_blame 81 = .ok (.iadd, 1) := by decide +kernel
theorem dX10_blame_82 : decode cX10_blame 82 = .ok (.iaload, 1) := by decide +kernel
theorem dX10_blame_83 : decode cX10_blame 83 = .ok (.invokevirtual 411, 3) := by decide +kernel
theorem dX10_blame_86 : decode cX10_blame 86 = .ok (.ireturn, 1) := by decide +kernel
theorem dX10_blame_87 : decode cX10_blame 87 = .ok (.iload 4, 2) := by decide +kernel
theorem dX10_blame_89 : decode cX10_blame 89 = .ok (.ifCond .ne 11, 3) := by decide +kernel
theorem dX10_blame_92 : decode cX10_blame 92 = .ok (.aload_n 0, 1) := by decide +kernel
theorem dX10_blame_93 : decode cX10_blame 93 = .ok (.iload_n 3, 1) := by decide +kernel
theorem dX10_blame_94 : decode cX10_blame 94 = .ok (.invokevirtual 420, 3) := by decide +kernel
theorem dX10_blame_97 : decode cX10_blame 97 = .ok (.goto 33, 3) := by decide +kernel
theorem dX10_blame_100 : decode cX10_blame 100 = .ok (.iload 4, 2) := by decide +kernel
theorem dX10_blame_102 : decode cX10_blame 102 = .ok (.iconst 1, 1) := by decide +kernel
theorem dX10_blame_103 : decode cX10_blame 103 = .ok (.if_icmp .ne 11, 3) := by decide +kernel
theorem dX10_blame_106 : decode cX10_blame 106 = .ok (.aload_n 0, 1) := by decide +kernel
theorem dX10_blame_107 : decode cX10_blame 107 = .ok (.iload_n 3, 1) := by decide +kernel
theorem dX10_blame_108 : decode cX10_blame 108 = .ok (.invokevirtual 423, 3) := by decide +kernel
theorem dX10_blame_111 : decode cX10_blame 111 = .ok (.goto 19, 3) := by decide +kernel
theorem dX10_blame_114 : decode cX10_blame 114 = .ok (.iload 4, 2) := by decide +kernel
theorem dX10_blame_116 : decode cX10_blame 116 = .ok (.iconst 2, 1) := by decide +kernel
theorem dX10_blame_117 : decode cX10_blame 117 = .ok (.if_icmp .ne 11, 3) := by decide +kernel
theorem dX10_blame_120 : decode cX10_blame 120 = .ok (.aload_n 0, 1) := by decide +kernel
theorem dX10_blame_121 : decode cX10_blame 121 = .ok (.iload_n 3, 1) := by decide +kernel
theorem dX10_blame_122 : decode cX10_blame 122 = .ok (.invokevirtual 426, 3) := by decide +kernel
theorem dX10_blame_125 : decode cX10_blame 125 = .ok (.goto 5, 3) := by decide +kernel
theorem dX10_blame_128 : decode cX10_blame 128 = .ok (.bipush (-2), 2) := by decide +kernel
theorem dX10_blame_130 : decode cX10_blame 130 = .ok (.ireturn, 1) := by decide +kernel
def zX10_blame (Qr : Option PV → Mem → Prop) : XZ := (RX10, 7, 166, 6, some FieldType.int, Qr)
noncomputable def fX10_blame (o : Nat) (x1 : Int) (x2 : Int) (x3 : Int) (x4 : Int) (F : Mem) : Option (Int × Mem) :=
  (fX10_isRound o x1 x2 F).bind fun q1 =>
  if q1.1 = 0 then
    some ((-2), q1.2)
  else
    (fX10_isOf o 3 x3 q1.2).bind fun r4 =>
    if r4 ≠ 0 then
      if (0 : Int) ≤ (fX10_placeOf 3 x3) ∧ (fX10_placeOf 3 x3) < (alen (o + 1) : Int) then
        if (fX10_isIn x4 10 (xw (9 + (q1.2 (o + 1) (fX10_placeOf 3 x3).toNat)))) = 0 then
          if x4 ≠ 0 then
            if x4 ≠ 1 then
              if x4 ≠ 2 then
                some ((-2), q1.2)
              else
                (fX10_culprit o x3 q1.2).bind fun r12 =>
                some (r12, q1.2)
            else
              (fX10_untold o x3 q1.2).bind fun r14 =>
              some (r14, q1.2)
          else
            (fX10_explained o x3 q1.2).bind fun r16 =>
            some (r16, q1.2)
        else
          if (0 : Int) ≤ (xw ((xw ((fX10_placeOf 3 x3) + 1)) + (xw (2 * (xw (x4 - 10)))))) ∧ (xw ((xw ((fX10_placeOf 3 x3) + 1)) + (xw (2 * (xw (x4 - 10)))))) < (alen (o + 1) : Int) then
            if (0 : Int) ≤ (xw ((xw ((fX10_placeOf 3 x3) + 2)) + (xw (2 * (xw (x4 - 10)))))) ∧ (xw ((xw ((fX10_placeOf 3 x3) + 2)) + (xw (2 * (xw (x4 - 10)))))) < (alen (o + 1) : Int) then
              (fX10_madeOf o (q1.2 (o + 1) (xw ((xw ((fX10_placeOf 3 x3) + 1)) + (xw (2 * (xw (x4 - 10)))))).toNat) (q1.2 (o + 1) (xw ((xw ((fX10_placeOf 3 x3) + 2)) + (xw (2 * (xw (x4 - 10)))))).toNat) q1.2).bind fun r20 =>
              some (r20, q1.2)
            else none
          else none
      else none
    else
      some ((-2), q1.2)
theorem fX10_blame_ok {Qr : Option PV → Mem → Prop} : ∀ (o : Nat) (x1 : Int) (x2 : Int) (x3 : Int) (x4 : Int) (F : Mem) (res : (Int × Mem)) (ho : isK o 10), fX10_blame o x1 x2 x3 x4 F = some res → Qr (some (vI res.1)) res.2 → PR cX10_blame (zX10_blame Qr) 0 [(0, vR o), (1, vI x1), (2, vI x2), (3, vI x3), (4, vI x4)] [] F := by
  intro o x1 x2 x3 x4 F res ho h hq
  refine s_aload_n (j := 0) dX10_blame_0 rfl rfl ?_
  refine s_iload_n (j := 1) dX10_blame_1 rfl rfl ?_
  refine s_iload_n (j := 2) dX10_blame_2 rfl rfl ?_
  obtain ⟨q1, hv2, h⟩ := bnd h
  refine s_callV (As := [vI x1, vI x2]) (rest := []) (r := (some (vI q1.1))) (F' := q1.2) dX10_blame_3 (clX10_227 (Nat.le_of_ble_eq_true rfl) (Nat.le_of_ble_eq_true rfl)) ho rfl ⟨_, _, _, _, rfl, ho, hv2, rfl, rfl⟩ rfl (Nat.le_of_ble_eq_true rfl) ?_
  refine s_if_eq (tgt := 18) dX10_blame_6 rfl (fun hc3 => ?_) (fun hc3 => ?_)
  · have h := ifp hc3 h
    refine s_bipush dX10_blame_18 rfl (cin rfl) ?_
    have h := Option.some.inj h
    subst h
    exact s_ireturn dX10_blame_20 rfl hq
  · have h := ifn hc3 h
    refine s_aload_n (j := 0) dX10_blame_9 rfl rfl ?_
    refine s_iconst dX10_blame_10 (cin rfl) ?_
    refine s_iload_n (j := 3) dX10_blame_11 rfl rfl ?_
    obtain ⟨r4, hv5, h⟩ := bnd h
    refine s_callV (As := [vI 3, vI x3]) (rest := []) (r := (some (vI r4))) (F' := q1.2) dX10_blame_12 (clX10_146 (Nat.le_of_ble_eq_true rfl) (Nat.le_of_ble_eq_true rfl)) ho rfl ⟨_, _, _, _, rfl, ho, hv5, rfl, rfl⟩ rfl (Nat.le_of_ble_eq_true rfl) ?_
    refine s_if_ne (tgt := 21) dX10_blame_15 rfl (fun hc6 => ?_) (fun hc6 => ?_)
    · have h := ifp hc6 h
      refine s_iconst dX10_blame_21 (cin rfl) ?_
      refine s_iload_n (j := 3) dX10_blame_22 rfl rfl ?_
      refine s_callS (As := [vI 3, vI x3]) (rest := []) (r := (some (vI (fX10_placeOf 3 x3)))) (F' := q1.2) dX10_blame_23 (clX10_169 (Nat.le_of_ble_eq_true rfl) (Nat.le_of_ble_eq_true rfl)) rfl ⟨_, _, _, rfl, rfl, rfl, rfl⟩ rfl (Nat.le_of_ble_eq_true rfl) ?_
      refine s_istore (ls' := [(5, vI (fX10_placeOf 3 x3)), (0, vR o), (1, vI x1), (2, vI x2), (3, vI x3), (4, vI x4)]) dX10_blame_26 (Nat.le_of_ble_eq_true rfl) rfl ?_
      refine s_iload (j := 5) dX10_blame_28 rfl ?_
      refine s_bipush dX10_blame_30 rfl (cin rfl) ?_
      refine s_bipush dX10_blame_32 rfl (cin rfl) ?_
      refine s_aload_n (j := 1) dX10_blame_34 rfl rfl ?_
      refine s_getR dX10_blame_35 flX10_7 ho ?_
      refine s_iload (j := 0) dX10_blame_38 rfl ?_
      obtain ⟨hb7, h⟩ := gd h
      refine s_iaload dX10_blame_40 (trX10_0 ho) hb7.1 hb7.2 ?_
      refine s_iadd dX10_blame_41 ?_
      refine s_callS (As := [vI x4, vI 10, vI (xw (9 + (q1.2 (o + 1) (fX10_placeOf 3 x3).toNat)))]) (rest := []) (r := (some (vI (fX10_isIn x4 10 (xw (9 + (q1.2 (o + 1) (fX10_placeOf 3 x3).toNat))))))) (F' := q1.2) dX10_blame_42 (clX10_115 (Nat.le_of_ble_eq_true rfl) (Nat.le_of_ble_eq_true rfl)) rfl ⟨_, _, _, _, rfl, rfl, rfl, rfl⟩ rfl (Nat.le_of_ble_eq_true rfl) ?_
      refine s_if_eq (tgt := 87) dX10_blame_45 rfl (fun hc8 => ?_) (fun hc8 => ?_)
      · have h := ifp hc8 h
        refine s_iload (j := 5) dX10_blame_87 rfl ?_
        refine s_if_ne (tgt := 100) dX10_blame_89 rfl (fun hc9 => ?_) (fun hc9 => ?_)
        · have h := ifp hc9 h
          refine s_iload (j := 5) dX10_blame_100 rfl ?_
          refine s_iconst dX10_blame_102 (cin rfl) ?_
          refine s_icmp_ne (tgt := 114) dX10_blame_103 rfl (fun hc10 => ?_) (fun hc10 => ?_)
          · have h := ifp hc10 h
            refine s_iload (j := 5) dX10_blame_114 rfl ?_
            refine s_iconst dX10_blame_116 (cin rfl) ?_
            refine s_icmp_ne (tgt := 128) dX10_blame_117 rfl (fun hc11 => ?_) (fun hc11 => ?_)
            · have h := ifp hc11 h
              refine s_bipush dX10_blame_128 rfl (cin rfl) ?_
              have h := Option.some.inj h
              subst h
              exact s_ireturn dX10_blame_130 rfl hq
            · have h := ifn hc11 h
              refine s_aload_n (j := 1) dX10_blame_120 rfl rfl ?_
              refine s_iload_n (j := 4) dX10_blame_121 rfl rfl ?_
              obtain ⟨r12, hv13, h⟩ := bnd h
              refine s_callV (As := [vI x3]) (rest := []) (r := (some (vI r12))) (F' := q1.2) dX10_blame_122 (clX10_426 (Nat.le_of_ble_eq_true rfl) (Nat.le_of_ble_eq_true rfl)) ho rfl ⟨_, _, _, rfl, ho, hv13, rfl, rfl⟩ rfl (Nat.le_of_ble_eq_true rfl) ?_
              refine s_goto (tgt := 130) dX10_blame_125 rfl ?_
              have h := Option.some.inj h
              subst h
              exact s_ireturn dX10_blame_130 rfl hq
          · have h := ifn hc10 h
            refine s_aload_n (j := 1) dX10_blame_106 rfl rfl ?_
            refine s_iload_n (j := 4) dX10_blame_107 rfl rfl ?_
            obtain ⟨r14, hv15, h⟩ := bnd h
            refine s_callV (As := [vI x3]) (rest := []) (r := (some (vI r14))) (F' := q1.2) dX10_blame_108 (clX10_423 (Nat.le_of_ble_eq_true rfl) (Nat.le_of_ble_eq_true rfl)) ho rfl ⟨_, _, _, rfl, ho, hv15, rfl, rfl⟩ rfl (Nat.le_of_ble_eq_true rfl) ?_
            refine s_goto (tgt := 130) dX10_blame_111 rfl ?_
            have h := Option.some.inj h
            subst h
            exact s_ireturn dX10_blame_130 rfl hq
        · have h := ifn hc9 h
          refine s_aload_n (j := 1) dX10_blame_92 rfl rfl ?_
          refine s_iload_n (j := 4) dX10_blame_93 rfl rfl ?_
          obtain ⟨r16, hv17, h⟩ := bnd h
          refine s_callV (As := [vI x3]) (rest := []) (r := (some (vI r16))) (F' := q1.2) dX10_blame_94 (clX10_420 (Nat.le_of_ble_eq_true rfl) (Nat.le_of_ble_eq_true rfl)) ho rfl ⟨_, _, _, rfl, ho, hv17, rfl, rfl⟩ rfl (Nat.le_of_ble_eq_true rfl) ?_
          refine s_goto (tgt := 130) dX10_blame_97 rfl ?_
          have h := Option.some.inj h
          subst h
          exact s_ireturn dX10_blame_130 rfl hq
      · have h := ifn hc8 h
        refine s_aload_n (j := 1) dX10_blame_48 rfl rfl ?_
        refine s_aload_n (j := 1) dX10_blame_49 rfl rfl ?_
        refine s_getR dX10_blame_50 flX10_7 ho ?_
        refine s_iload (j := 0) dX10_blame_53 rfl ?_
        refine s_iconst dX10_blame_55 (cin rfl) ?_
        refine s_iadd dX10_blame_56 ?_
        refine s_iconst dX10_blame_57 (cin rfl) ?_
        refine s_iload (j := 5) dX10_blame_58 rfl ?_
        refine s_bipush dX10_blame_60 rfl (cin rfl) ?_
        refine s_isub dX10_blame_62 ?_
        refine s_imul dX10_blame_63 ?_
        refine s_iadd dX10_blame_64 ?_
        obtain ⟨hb18, h⟩ := gd h
        refine s_iaload dX10_blame_65 (trX10_0 ho) hb18.1 hb18.2 ?_
        refine s_aload_n (j := 1) dX10_blame_66 rfl rfl ?_
        refine s_getR dX10_blame_67 flX10_7 ho ?_
        refine s_iload (j := 0) dX10_blame_70 rfl ?_
        refine s_iconst dX10_blame_72 (cin rfl) ?_
        refine s_iadd dX10_blame_73 ?_
        refine s_iconst dX10_blame_74 (cin rfl) ?_
        refine s_iload (j := 5) dX10_blame_75 rfl ?_
        refine s_bipush dX10_blame_77 rfl (cin rfl) ?_
        refine s_isub dX10_blame_79 ?_
        refine s_imul dX10_blame_80 ?_
        refine s_iadd dX10_blame_81 ?_
        obtain ⟨hb19, h⟩ := gd h
        refine s_iaload dX10_blame_82 (trX10_0 ho) hb19.1 hb19.2 ?_
        obtain ⟨r20, hv21, h⟩ := bnd h
        refine s_callV (As := [vI (q1.2 (o + 1) (xw ((xw ((fX10_placeOf 3 x3) + 1)) + (xw (2 * (xw (x4 - 10)))))).toNat), vI (q1.2 (o + 1) (xw ((xw ((fX10_placeOf 3 x3) + 2)) + (xw (2 * (xw (x4 - 10)))))).toNat)]) (rest := []) (r := (some (vI r20))) (F' := q1.2) dX10_blame_83 (clX10_411 (Nat.le_of_ble_eq_true rfl) (Nat.le_of_ble_eq_true rfl)) ho rfl ⟨_, _, _, _, rfl, ho, hv21, rfl, rfl⟩ rfl (Nat.le_of_ble_eq_true rfl) ?_
        have h := Option.some.inj h
        subst h
        exact s_ireturn dX10_blame_86 rfl hq
    · have h := ifn hc6 h
      refine s_bipush dX10_blame_18 rfl (cin rfl) ?_
      have h := Option.some.inj h
      subst h
      exact s_ireturn dX10_blame_20 rfl hq
def gX10_blame : XG := fun As F r F' => ∃ o : Nat, ∃ x1 : Int, ∃ x2 : Int, ∃ x3 : Int, ∃ x4 : Int, ∃ res : (Int × Mem), As = [vR o, vI x1, vI x2, vI x3, vI x4] ∧ isK o 10 ∧ fX10_blame o x1 x2 x3 x4 F = some res ∧ r = some (vI res.1) ∧ F' = res.2
theorem ctX10_blame : xCT yX10_blame cX10_blame 6 (some FieldType.int) 7 166 gX10_blame := xmet (by decide +kernel) (fun As F r F' hg => by obtain ⟨o, x1, x2, x3, x4, res, rfl, ho, h, rfl, rfl⟩ := hg; exact Nat.le_of_ble_eq_true rfl) (fun As F r F' hg => by obtain ⟨o, x1, x2, x3, x4, res, rfl, ho, h, rfl, rfl⟩ := hg; exact fX10_blame_ok o x1 x2 x3 x4 _ _ ho h ⟨rfl, rfl⟩)
theorem mcX10_blame : Cond.code yX10_blame cX10_blame 6 (some FieldType.int) ∈ xw_T ∧ Cond.initialized yX10_blame.cls ∈ xw_T ∧ Cond.instanceMethod yX10_blame ∈ xw_T ∧ Cond.selects yX10_blame.cls yX10_blame yX10_blame ∈ xw_T := ⟨(xinT 1894 (by decide +kernel) (by decide +kernel)), (xinT 127 (by decide +kernel) (by decide +kernel)), (xinT 1892 (by decide +kernel) (by decide +kernel)), (xinT 1893 (by decide +kernel) (by decide +kernel))⟩
theorem dX10_likely_0 : decode cX10_likely 0 = .ok (.aload_n 0, 1) := by decide +kernel
theorem dX10_likely_1 : decode cX10_likely 1 = .ok (.iload_n 1, 1) := by decide +kernel
theorem dX10_likely_2 : decode cX10_likely 2 = .ok (.invokevirtual 184, 3) := by decide +kernel
theorem dX10_likely_5 : decode cX10_likely 5 = .ok (.ifCond .eq 12, 3) := by decide +kernel
theorem dX10_likely_8 : decode cX10_likely 8 = .ok (.aload_n 0, 1) := by decide +kernel
theorem dX10_likely_9 : decode cX10_likely 9 = .ok (.iconst 3, 1) := by decide +kernel
theorem dX10_likely_10 : decode cX10_likely 10 = .ok (.iload_n 2, 1) := by decide +kernel
theorem dX10_likely_11 : decode cX10_likely 11 = .ok (.invokevirtual 146, 3) := by decide +kernel
theorem dX10_likely_14 : decode cX10_likely 14 = .ok (.ifCond .ne 5, 3) := by decide +kernel
theorem dX10_likely_17 : decode cX10_likely 17 = .ok (.iconst (-1), 1) := by decide +kernel
theorem dX10_likely_18 : decode cX10_likely 18 = .ok (.ireturn, 1) := by decide +kernel
theorem dX10_likely_19 : decode cX10_likely 19 = .ok (.iconst (-1), 1) := by decide +kernel
theorem dX10_likely_20 : decode cX10_likely 20 = .ok (.istore_n 3, 1) := by decide +kernel
theorem dX10_likely_21 : decode cX10_likely 21 = .ok (.iconst 0, 1) := by decide +kernel
theorem dX10_likely_22 : decode cX10_likely 22 = .ok (.istore 4, 2) := by decide +kernel
theorem dX10_likely_24 : decode cX10_likely 24 = .ok (.iconst 0, 1) := by decide +kernel
theorem dX10_likely_25 : decode cX10_likely 25 = .ok (.istore 5, 2) := by decide +kernel
theorem dX10_likely_27 : decode cX10_likely 27 = .ok (.iconst 0, 1) := by decide +kernel
theorem dX10_likely_28 : decode cX10_likely 28 = .ok (.istore 6, 2) := by decide +kernel
theorem dX10_likely_30 : decode cX10_likely 30 = .ok (.iload 6, 2) := by decide +kernel
theorem dX10_likely_32 : decode cX10_likely 32 = .ok (.aload_n 0, 1) := by decide +kernel
theorem dX10_likely_33 : decode cX10_likely 33 = .ok (.getfield 7, 3) := by decide +kernel
theorem dX10_likely_36 : decode cX10_likely 36 = .ok (.iconst 1, 1) := by decide +kernel
theorem dX10_likely_37 : decode cX10_likely 37 = .ok (.iaload, 1) := by decide +kernel
theorem dX10_likely_38 : decode cX10_likely 38 = .ok (.if_icmp .ge 68, 3) := by decide +kernel
theorem dX10_likely_41 : decode cX10_likely 41 = .ok (.aload_n 0, 1) := by decide +kernel
theorem dX10_likely_42 : decode cX10_likely 42 = .ok (.iload 6, 2) := by decide +kernel
theorem dX10_likely_44 : decode cX10_likely 44 = .ok (.invokevirtual 211, 3) := by decide +kernel
theorem dX10_likely_47 : decode cX10_likely 47 = .ok (.aload_n 0, 1) := by decide +kernel
theorem dX10_likely_48 : decode cX10_likely 48 = .ok (.iload_n 2, 1) := by decide +kernel
theorem dX10_likely_49 : decode cX10_likely 49 = .ok (.invokevirtual 420, 3) := by decide +kernel
theorem dX10_likely_52 : decode cX10_likely 52 = .ok (.istore 7, 2) := by decide +kernel
theorem dX10_likely_54 : decode cX10_likely 54 = .ok (.aload_n 0, 1) := by decide +kernel
theorem dX10_likely_55 : decode cX10_likely 55 = .ok (.iload_n 2, 1) := by decide +kernel
theorem dX10_likely_56 : decode cX10_likely 56 = .ok (.invokevirtual 423, 3) := by decide +kernel
theorem dX10_likely_59 : decode cX10_likely 59 = .ok (.istore 8, 2) := by decide +kernel
theorem dX10_likely_61 : decode cX10_likely 61 = .ok (.iload_n 3, 1) := by decide +kernel
theorem dX10_likely_62 : decode cX10_likely 62 = .ok (.ifCond .lt 27, 3) := by decide +kernel
theorem dX10_likely_65 : decode cX10_likely 65 = .ok (.iload 7, 2) := by decide +kernel
theorem dX10_likely_67 : decode cX10_likely 67 = .ok (.iload 4, 2) := by decide +kernel
theorem dX10_likely_69 : decode cX10_likely 69 = .ok (.if_icmp .lt 31, 3) := by decide +kernel
theorem dX10_likely_72 : decode cX10_likely 72 = .ok (.iload 7, 2) := by decide +kernel
theorem dX10_likely_74 : decode cX10_likely 74 = .ok (.iload 4, 2) := by decide +kernel
theorem dX10_likely_76 : decode cX10_likely 76 = .ok (.if_icmp .ne 13, 3) := by decide +kernel
theorem dX10_likely_79 : decode cX10_likely 79 = .ok (.iload 8, 2) := by decide +kernel
theorem dX10_likely_81 : decode cX10_likely 81 = .ok (.iload 5, 2) := by decide +kernel
theorem dX10_likely_83 : decode cX10_likely 83 = .ok (.if_icmp .lt 6, 3) := by decide +kernel
theorem dX10_likely_86 : decode cX10_likely 86 = .ok (.goto 14, 3) := by decide +kernel
theorem dX10_likely_89 : decode cX10_likely 89 = .ok (.iload 6, 2) := by decide +kernel
theorem dX10_likely_91 : decode cX10_likely 91 = .ok (.istore_n 3, 1) := by decide +kernel
theorem dX10_likely_92 : decode cX10_likely 92 = .ok (.iload 7, 2) := by decide +kernel
theorem dX10_likely_94 : decode cX10_likely 94 = .ok (.istore 4, 2) := by decide +kernel
theorem dX10_likely_96 : decode cX10_likely 96 = .ok (.iload 8, 2) := by decide +kernel
theorem dX10_likely_98 : decode cX10_likely 98 = .ok (.istore 5, 2) := by decide +kernel
theorem dX10_likely_100 : decode cX10_likely 100 = .ok (.iinc 6 1, 3) := by decide +kernel
theorem dX10_likely_103 : decode cX10_likely 103 = .ok (.goto (-73), 3) := by decide +kernel
theorem dX10_likely_106 : decode cX10_likely 106 = .ok (.iload_n 3, 1) := by decide +kernel
theorem dX10_likely_107 : decode cX10_likely 107 = .ok (.ireturn, 1) := by decide +kernel
def zX10_likely (Qr : Option PV → Mem → Prop) : XZ := (RX10, 7, 162, 9, some FieldType.int, Qr)
noncomputable def fX10_likely_b30 : Nat → Nat → Int → Int → Int → Int → Int → Mem → Option (Int × Mem)
  | 0, _, _, _, _, _, _, _ => none
  | n + 1, o, x2, x3, x4, x5, x6, F =>
    if (0 : Int) ≤ 1 ∧ 1 < (alen (o + 1) : Int) then
      if (F (o + 1) 1) ≤ x6 then
        some (x3, F)
      else
        (fX10_goes o x6 F).bind fun q3 =>
        (fX10_explained o x2 q3).bind fun r5 =>
        (fX10_untold o x2 q3).bind fun r7 =>
        if x3 < 0 then
          fX10_likely_b30 n o x2 x6 r5 r7 (xw (x6 + 1)) q3
        else
          if r5 < x4 then
            fX10_likely_b30 n o x2 x3 x4 x5 (xw (x6 + 1)) q3
          else
            if r5 ≠ x4 then
              fX10_likely_b30 n o x2 x6 r5 r7 (xw (x6 + 1)) q3
            else
              if r7 < x5 then
                fX10_likely_b30 n o x2 x6 r5 r7 (xw (x6 + 1)) q3
              else
                fX10_likely_b30 n o x2 x3 x4 x5 (xw (x6 + 1)) q3
    else none
noncomputable def fX10_likely (o : Nat) (x1 : Int) (x2 : Int) (F : Mem) : Option (Int × Mem) :=
  (fX10_isValley_ o x1 F).bind fun q1 =>
  if q1.1 = 0 then
    some ((-1), q1.2)
  else
    (fX10_isOf o 3 x2 q1.2).bind fun r4 =>
    if r4 ≠ 0 then
      fX10_likely_b30 FU o x2 (-1) 0 0 0 q1.2
    else
      some ((-1), q1.2)
theorem fX10_likely_b30_ok {Qr : Option PV → Mem → Prop}  : ∀ (n : Nat) (o : Nat) (x2 : Int) (x3 : Int) (x4 : Int) (x5 : Int) (x6 : Int) (F : Mem) (res : (Int × Mem)) (ho : isK o 10), fX10_likely_b30 n o x2 x3 x4 x5 x6 F = some res → Qr (some (vI res.1)) res.2 → PR cX10_likely (zX10_likely Qr) 30 [(0, vR o), (2, vI x2), (3, vI x3), (4, vI x4), (5, vI x5), (6, vI x6)] [] F := by
  intro n
  induction n with
  | zero => intro o x2 x3 x4 x5 x6 F res ho h hq; exact nomatch (show (none : Option _) = some _ from h)
  | succ n ih =>
    intro o x2 x3 x4 x5 x6 F res ho h hq
    refine s_iload (j := 5) dX10_likely_30 rfl ?_
    refine s_aload_n (j := 0) dX10_likely_32 rfl rfl ?_
    refine s_getR dX10_likely_33 flX10_7 ho ?_
    refine s_iconst dX10_likely_36 (cin rfl) ?_
    obtain ⟨hb1, h⟩ := gd h
    refine s_iaload dX10_likely_37 (trX10_0 ho) hb1.1 hb1.2 ?_
    refine s_icmp_ge (tgt := 106) dX10_likely_38 rfl (fun hc2 => ?_) (fun hc2 => ?_)
    · have h := ifp hc2 h
      refine s_iload_n (j := 2) dX10_likely_106 rfl rfl ?_
      have h := Option.some.inj h
      subst h
      exact s_ireturn dX10_likely_107 rfl hq
    · have h := ifn hc2 h
      refine s_aload_n (j := 0) dX10_likely_41 rfl rfl ?_
      refine s_iload (j := 5) dX10_likely_42 rfl ?_
      obtain ⟨q3, hv4, h⟩ := bnd h
      refine s_callV (As := [vI x6]) (rest := []) (r := none) (F' := q3) dX10_likely_44 (clX10_211 (Nat.le_of_ble_eq_true rfl) (Nat.le_of_ble_eq_true rfl)) ho rfl ⟨_, _, _, rfl, ho, hv4, rfl, rfl⟩ rfl (Nat.le_of_ble_eq_true rfl) ?_
      refine s_aload_n (j := 0) dX10_likely_47 rfl rfl ?_
      refine s_iload_n (j := 1) dX10_likely_48 rfl rfl ?_
      obtain ⟨r5, hv6, h⟩ := bnd h
      refine s_callV (As := [vI x2]) (rest := []) (r := (some (vI r5))) (F' := q3) dX10_likely_49 (clX10_420 (Nat.le_of_ble_eq_true rfl) (Nat.le_of_ble_eq_true rfl)) ho rfl ⟨_, _, _, rfl, ho, hv6, rfl, rfl⟩ rfl (Nat.le_of_ble_eq_true rfl) ?_
      refine s_istore (ls' := [(7, vI r5), (0, vR o), (2, vI x2), (3, vI x3), (4, vI x4), (5, vI x5), (6, vI x6)]) dX10_likely_52 (Nat.le_of_ble_eq_true rfl) rfl ?_
      refine s_aload_n (j := 1) dX10_likely_54 rfl rfl ?_
      refine s_iload_n (j := 2) dX10_likely_55 rfl rfl ?_
      obtain ⟨r7, hv8, h⟩ := bnd h
      refine s_callV (As := [vI x2]) (rest := []) (r := (some (vI r7))) (F' := q3) dX10_likely_56 (clX10_423 (Nat.le_of_ble_eq_true rfl) (Nat.le_of_ble_eq_true rfl)) ho rfl ⟨_, _, _, rfl, ho, hv8, rfl, rfl⟩ rfl (Nat.le_of_ble_eq_true rfl) ?_
      refine s_istore dX10_likely_59 (Nat.le_of_ble_eq_true rfl) rfl ?_
      refine s_iload_n (j := 4) dX10_likely_61 rfl rfl ?_
      refine s_if_lt (tgt := 89) dX10_likely_62 rfl (fun hc9 => ?_) (fun hc9 => ?_)
      · have h := ifp hc9 h
        refine s_iload (j := 7) dX10_likely_89 rfl ?_
        refine s_istore_n (ls' := [(3, vI x6), (8, vI r7), (7, vI r5), (0, vR o), (2, vI x2), (4, vI x4), (5, vI x5), (6, vI x6)]) dX10_likely_91 rfl (Nat.le_of_ble_eq_true rfl) rfl ?_
        refine s_iload (j := 2) dX10_likely_92 rfl ?_
        refine s_istore dX10_likely_94 (Nat.le_of_ble_eq_true rfl) rfl ?_
        refine s_iload (j := 2) dX10_likely_96 rfl ?_
        refine s_istore (ls' := [(5, vI r7), (4, vI r5), (3, vI x6), (8, vI r7), (7, vI r5), (0, vR o), (2, vI x2), (6, vI x6)]) dX10_likely_98 (Nat.le_of_ble_eq_true rfl) rfl ?_
        refine s_iinc (j := 7) dX10_likely_100 rfl (Nat.le_of_ble_eq_true rfl) rfl ?_
        refine s_goto (tgt := 30) dX10_likely_103 rfl ?_
        exact s_sub (ks := [6, 7, 3, 2, 1, 0]) rfl (ih o x2 x6 r5 r7 (xw (x6 + 1)) q3 _ ho h hq)
      · have h := ifn hc9 h
        refine s_iload (j := 1) dX10_likely_65 rfl ?_
        refine s_iload (j := 5) dX10_likely_67 rfl ?_
        refine s_icmp_lt (tgt := 100) dX10_likely_69 rfl (fun hc10 => ?_) (fun hc10 => ?_)
        · have h := ifp hc10 h
          refine s_iinc (ls' := [(6, vI (xw (x6 + 1))), (8, vI r7), (7, vI r5), (0, vR o), (2, vI x2), (3, vI x3), (4, vI x4), (5, vI x5)]) (j := 7) dX10_likely_100 rfl (Nat.le_of_ble_eq_true rfl) rfl ?_
          refine s_goto (tgt := 30) dX10_likely_103 rfl ?_
          exact s_sub (ks := [3, 4, 5, 6, 7, 0]) rfl (ih o x2 x3 x4 x5 (xw (x6 + 1)) q3 _ ho h hq)
        · have h := ifn hc10 h
          refine s_iload (j := 1) dX10_likely_72 rfl ?_
          refine s_iload (j := 5) dX10_likely_74 rfl ?_
          refine s_icmp_ne (tgt := 89) dX10_likely_76 rfl (fun hc11 => ?_) (fun hc11 => ?_)
          · have h := ifp hc11 h
            refine s_iload (j := 7) dX10_likely_89 rfl ?_
            refine s_istore_n (ls' := [(3, vI x6), (8, vI r7), (7, vI r5), (0, vR o), (2, vI x2), (4, vI x4), (5, vI x5), (6, vI x6)]) dX10_likely_91 rfl (Nat.le_of_ble_eq_true rfl) rfl ?_
            refine s_iload (j := 2) dX10_likely_92 rfl ?_
            refine s_istore dX10_likely_94 (Nat.le_of_ble_eq_true rfl) rfl ?_
            refine s_iload (j := 2) dX10_likely_96 rfl ?_
            refine s_istore (ls' := [(5, vI r7), (4, vI r5), (3, vI x6), (8, vI r7), (7, vI r5), (0, vR o), (2, vI x2), (6, vI x6)]) dX10_likely_98 (Nat.le_of_ble_eq_true rfl) rfl ?_
            refine s_iinc (j := 7) dX10_likely_100 rfl (Nat.le_of_ble_eq_true rfl) rfl ?_
            refine s_goto (tgt := 30) dX10_likely_103 rfl ?_
            exact s_sub (ks := [6, 7, 3, 2, 1, 0]) rfl (ih o x2 x6 r5 r7 (xw (x6 + 1)) q3 _ ho h hq)
          · have h := ifn hc11 h
            refine s_iload (j := 0) dX10_likely_79 rfl ?_
            refine s_iload (j := 6) dX10_likely_81 rfl ?_
            refine s_icmp_lt (tgt := 89) dX10_likely_83 rfl (fun hc12 => ?_) (fun hc12 => ?_)
            · have h := ifp hc12 h
              refine s_iload (j := 7) dX10_likely_89 rfl ?_
              refine s_istore_n (ls' := [(3, vI x6), (8, vI r7), (7, vI r5), (0, vR o), (2, vI x2), (4, vI x4), (5, vI x5), (6, vI x6)]) dX10_likely_91 rfl (Nat.le_of_ble_eq_true rfl) rfl ?_
              refine s_iload (j := 2) dX10_likely_92 rfl ?_
              refine s_istore dX10_likely_94 (Nat.le_of_ble_eq_true rfl) rfl ?_
              refine s_iload (j := 2) dX10_likely_96 rfl ?_
              refine s_istore (ls' := [(5, vI r7), (4, vI r5), (3, vI x6), (8, vI r7), (7, vI r5), (0, vR o), (2, vI x2), (6, vI x6)]) dX10_likely_98 (Nat.le_of_ble_eq_true rfl) rfl ?_
              refine s_iinc (j := 7) dX10_likely_100 rfl (Nat.le_of_ble_eq_true rfl) rfl ?_
              refine s_goto (tgt := 30) dX10_likely_103 rfl ?_
              exact s_sub (ks := [6, 7, 3, 2, 1, 0]) rfl (ih o x2 x6 r5 r7 (xw (x6 + 1)) q3 _ ho h hq)
            · have h := ifn hc12 h
              refine s_goto (tgt := 100) dX10_likely_86 rfl ?_
              refine s_iinc (ls' := [(6, vI (xw (x6 + 1))), (8, vI r7), (7, vI r5), (0, vR o), (2, vI x2), (3, vI x3), (4, vI x4), (5, vI x5)]) (j := 7) dX10_likely_100 rfl (Nat.le_of_ble_eq_true rfl) rfl ?_
              refine s_goto (tgt := 30) dX10_likely_103 rfl ?_
              exact s_sub (ks := [3, 4, 5, 6, 7, 0]) rfl (ih o x2 x3 x4 x5 (xw (x6 + 1)) q3 _ ho h hq)
theorem fX10_likely_ok {Qr : Option PV → Mem → Prop} : ∀ (o : Nat) (x1 : Int) (x2 : Int) (F : Mem) (res : (Int × Mem)) (ho : isK o 10), fX10_likely o x1 x2 F = some res → Qr (some (vI res.1)) res.2 → PR cX10_likely (zX10_likely Qr) 0 [(0, vR o), (1, vI x1), (2, vI x2)] [] F := by
  intro o x1 x2 F res ho h hq
  refine s_aload_n (j := 0) dX10_likely_0 rfl rfl ?_
  refine s_iload_n (j := 1) dX10_likely_1 rfl rfl ?_
  obtain ⟨q1, hv2, h⟩ := bnd h
  refine s_callV (As := [vI x1]) (rest := []) (r := (some (vI q1.1))) (F' := q1.2) dX10_likely_2 (clX10_184 (Nat.le_of_ble_eq_true rfl) (Nat.le_of_ble_eq_true rfl)) ho rfl ⟨_, _, _, rfl, ho, hv2, rfl, rfl⟩ rfl (Nat.le_of_ble_eq_true rfl) ?_
  refine s_if_eq (tgt := 17) dX10_likely_5 rfl (fun hc3 => ?_) (fun hc3 => ?_)
  · have h := ifp hc3 h
    refine s_iconst dX10_likely_17 (cin rfl) ?_
    have h := Option.some.inj h
    subst h
    exact s_ireturn dX10_likely_18 rfl hq
  · have h := ifn hc3 h
    refine s_aload_n (j := 0) dX10_likely_8 rfl rfl ?_
    refine s_iconst dX10_likely_9 (cin rfl) ?_
    refine s_iload_n (j := 2) dX10_likely_10 rfl rfl ?_
    obtain ⟨r4, hv5, h⟩ := bnd h
    refine s_callV (As := [vI 3, vI x2]) (rest := []) (r := (some (vI r4))) (F' := q1.2) dX10_likely_11 (clX10_146 (Nat.le_of_ble_eq_true rfl) (Nat.le_of_ble_eq_true rfl)) ho rfl ⟨_, _, _, _, rfl, ho, hv5, rfl, rfl⟩ rfl (Nat.le_of_ble_eq_true rfl) ?_
    refine s_if_ne (tgt := 19) dX10_likely_14 rfl (fun hc6 => ?_) (fun hc6 => ?_)
    · have h := ifp hc6 h
      refine s_iconst dX10_likely_19 (cin rfl) ?_
      refine s_istore_n (ls' := [(3, vI (-1)), (0, vR o), (1, vI x1), (2, vI x2)]) dX10_likely_20 rfl (Nat.le_of_ble_eq_true rfl) rfl ?_
      refine s_iconst dX10_likely_21 (cin rfl) ?_
      refine s_istore dX10_likely_22 (Nat.le_of_ble_eq_true rfl) rfl ?_
      refine s_iconst dX10_likely_24 (cin rfl) ?_
      refine s_istore (ls' := [(5, vI 0), (4, vI 0), (3, vI (-1)), (0, vR o), (1, vI x1), (2, vI x2)]) dX10_likely_25 (Nat.le_of_ble_eq_true rfl) rfl ?_
      refine s_iconst dX10_likely_27 (cin rfl) ?_
      refine s_istore dX10_likely_28 (Nat.le_of_ble_eq_true rfl) rfl ?_
      exact s_sub (ks := [4, 6, 3, 2, 1, 0]) rfl (fX10_likely_b30_ok FU o x2 (-1) 0 0 0 q1.2 _ ho h hq)
    · have h := ifn hc6 h
      refine s_iconst dX10_likely_17 (cin rfl) ?_
      have h := Option.some.inj h
      subst h
      exact s_ireturn dX10_likely_18 rfl hq
def gX10_likely : XG := fun As F r F' => ∃ o : Nat, ∃ x1 : Int, ∃ x2 : Int, ∃ res : (Int × Mem), As = [vR o, vI x1, vI x2] ∧ isK o 10 ∧ fX10_likely o x1 x2 F = some res ∧ r = some (vI res.1) ∧ F' = res.2
theorem ctX10_likely : xCT yX10_likely cX10_likely 9 (some FieldType.int) 7 162 gX10_likely := xmet (by decide +kernel) (fun As F r F' hg => by obtain ⟨o, x1, x2, res, rfl, ho, h, rfl, rfl⟩ := hg; exact Nat.le_of_ble_eq_true rfl) (fun As F r F' hg => by obtain ⟨o, x1, x2, res, rfl, ho, h, rfl, rfl⟩ := hg; exact fX10_likely_ok o x1 x2 _ _ ho h ⟨rfl, rfl⟩)
theorem mcX10_likely : Cond.code yX10_likely cX10_likely 9 (some FieldType.int) ∈ xw_T ∧ Cond.initialized yX10_likely.cls ∈ xw_T ∧ Cond.instanceMethod yX10_likely ∈ xw_T ∧ Cond.selects yX10_likely.cls yX10_likely yX10_likely ∈ xw_T := ⟨(xinT 1922 (by decide +kernel) (by decide +kernel)), (xinT 127 (by decide +kernel) (by decide +kernel)), (xinT 1920 (by decide +kernel) (by decide +kernel)), (xinT 1921 (by decide +kernel) (by decide +kernel))⟩
theorem dX10_home_0 : decode cX10_home 0 = .ok (.iload 5, 2) := by decide +kernel
theorem dX10_home_2 : decode cX10_home 2 = .ok (.iconst 0, 1) := by decide +kernel
theorem dX10_home_3 : decode cX10_home 3 = .ok (.iconst 1, 1) := by decide +kernel
theorem dX10_home_4 : decode cX10_home 4 = .ok (.invokestatic 115, 3) := by decide +kernel
theorem dX10_home_7 : decode cX10_home 7 = .ok (.ifCond .eq 16, 3) := by decide +kernel
theorem dX10_home_10 : decode cX10_home 10 = .ok (.aload_n 0, 1) := by decide +kernel
theorem dX10_home_11 : decode cX10_home 11 = .ok (.iload_n 1, 1) := by decide +kernel
theorem dX10_home_12 : decode cX10_home 12 = .ok (.iload_n 2, 1) := by decide +kernel
theorem dX10_home_13 : decode cX10_home 13 = .ok (.iload_n 3, 1) := by decide +kernel
theorem dX10_home_14 : decode cX10_home 14 = .ok (.iload 4, 2) := by decide +kernel
theorem dX10_home_16 : decode cX10_home 16 = .ok (.iconst 1, 1) := by decide +kernel
theorem dX10_home_17 : decode cX10_home 17 = .ok (.invokevirtual 355, 3) := by decide +kernel
theorem dX10_home_20 : decode cX10_home 20 = .ok (.ifCond .ne 6, 3) := by decide +kernel
theorem dX10_home_23 : decode cX10_home 23 = .ok (.bipush (-2), 2) := by decide +kernel
theorem dX10_home_25 : decode cX10_home 25 = .ok (.ireturn, 1) := by decide +kernel
theorem dX10_home_26 : decode cX10_home 26 = .ok (.iload 5, 2) := by decide +kernel
theorem dX10_home_28 : decode cX10_home 28 = .ok (.iconst 1, 1) := by decide +kernel
theorem dX10_home_29 : decode cX10_home 29 = .ok (.if_icmp .ne 18, 3) := by decide +kernel
theorem dX10_home_32 : decode cX10_home 32 = .ok (.aload_n 0, 1) := by decide +kernel
theorem dX10_home_33 : decode cX10_home 33 = .ok (.aload_n 0, 1) := by decide +kernel
theorem dX10_home_34 : decode cX10_home 34 = .ok (.getfield 315, 3) := by decide +kernel
theorem dX10_home_37 : decode cX10_home 37 = .ok (.iconst 1, 1) := by decide +kernel
theorem dX10_home_38 : decode cX10_home 38 = .ok (.isub, 1) := by decide +kernel
theorem dX10_home_39 : decode cX10_home 39 = .ok (.invokevirtual 359, 3) := by decide +kernel
theorem dX10_home_42 : decode cX10_home 42 = .ok (.aload_n 0, 1) := by decide +kernel
theorem dX10_home_43 : decode cX10_home 43 = .ok (.getfield 336, 3) := by decide +kernel
theorem dX10_home_46 : decode cX10_home 46 = .ok (.ireturn, 1) := by decide +kernel
theorem dX10_home_47 : decode cX10_home 47 = .ok (.aload_n 0, 1) := by decide +kernel
theorem dX10_home_48 : decode cX10_home 48 = .ok (.iconst 1, 1) := by decide +kernel
theorem dX10_home_49 : decode cX10_home 49 = .ok (.putfield 294, 3) := by decide +kernel
theorem dX10_home_52 : decode cX10_home 52 = .ok (.aload_n 0, 1) := by decide +kernel
theorem dX10_home_53 : decode cX10_home 53 = .ok (.iconst 1, 1) := by decide +kernel
theorem dX10_home_54 : decode cX10_home 54 = .ok (.invokevirtual 349, 3) := by decide +kernel
theorem dX10_home_57 : decode cX10_home 57 = .ok (.aload_n 0, 1) := by decide +kernel
theorem dX10_home_58 : decode cX10_home 58 = .ok (.invokevirtual 352, 3) := by decide +kernel
theorem dX10_home_61 : decode cX10_home 61 = .ok (.ifCond .ge 7, 3) := by decide +kernel
theorem dX10_home_64 : decode cX10_home 64 = .ok (.iconst (-1), 1) := by decide +kernel
theorem dX10_home_65 : decode cX10_home 65 = .ok (.goto 7, 3) := by decide +kernel
theorem dX10_home_68 : decode cX10_home 68 = .ok (.aload_n 0, 1) := by decide +kernel
theorem dX10_home_69 : decode cX10_home 69 = .ok (.invokevirtual 352, 3) := by decide +kernel
theorem dX10_home_72 : decode cX10_home 72 = .ok (.ireturn, 1) := by decide +kernel
def zX10_home (Qr : Option PV → Mem → Prop) : XZ := (RX10, 7, 159, 6, some FieldType.int, Qr)
noncomputable def fX10_home (o : Nat) (x1 : Int) (x2 : Int) (x3 : Int) (x4 : Int) (x5 : Int) (F : Mem) : Option (Int × Mem) :=
  if (fX10_isIn x5 0 1) = 0 then
    some ((-2), F)
  else
    (fX10_isAsked o x1 x2 x3 x4 1 F).bind fun q2 =>
    if q2.1 ≠ 0 then
      if x5 ≠ 1 then
        (fX10_solves o 1 (mset q2.2 o 31 1)).bind fun q6 =>
        (fX10_gain o q6).bind fun r8 =>
        if 0 ≤ r8 then
          (fX10_gain o q6).bind fun r11 =>
          some (r11, q6)
        else
          some ((-1), q6)
      else
        (fX10_walksTo o (xw ((q2.2 o 27) - 1)) q2.2).bind fun q13 =>
        some (q13 o 39, q13)
    else
      some ((-2), q2.2)
theorem fX10_home_ok {Qr : Option PV → Mem → Prop} : ∀ (o : Nat) (x1 : Int) (x2 : Int) (x3 : Int) (x4 : Int) (x5 : Int) (F : Mem) (res : (Int × Mem)) (ho : isK o 10), fX10_home o x1 x2 x3 x4 x5 F = some res → Qr (some (vI res.1)) res.2 → PR cX10_home (zX10_home Qr) 0 [(0, vR o), (1, vI x1), (2, vI x2), (3, vI x3), (4, vI x4), (5, vI x5)] [] F := by
  intro o x1 x2 x3 x4 x5 F res ho h hq
  refine s_iload (j := 5) dX10_home_0 rfl ?_
  refine s_iconst dX10_home_2 (cin rfl) ?_
  refine s_iconst dX10_home_3 (cin rfl) ?_
  refine s_callS (As := [vI x5, vI 0, vI 1]) (rest := []) (r := (some (vI (fX10_isIn x5 0 1)))) (F' := F) dX10_home_4 (clX10_115 (Nat.le_of_ble_eq_true rfl) (Nat.le_of_ble_eq_true rfl)) rfl ⟨_, _, _, _, rfl, rfl, rfl, rfl⟩ rfl (Nat.le_of_ble_eq_true rfl) ?_
  refine s_if_eq (tgt := 23) dX10_home_7 rfl (fun hc1 => ?_) (fun hc1 => ?_)
  · have h := ifp hc1 h
    refine s_bipush dX10_home_23 rfl (cin rfl) ?_
    have h := Option.some.inj h
    subst h
    exact s_ireturn dX10_home_25 rfl hq
  · have h := ifn hc1 h
    refine s_aload_n (j := 0) dX10_home_10 rfl rfl ?_
    refine s_iload_n (j := 1) dX10_home_11 rfl rfl ?_
    refine s_iload_n (j := 2) dX10_home_12 rfl rfl ?_
    refine s_iload_n (j := 3) dX10_home_13 rfl rfl ?_
    refine s_iload (j := 4) dX10_home_14 rfl ?_
    refine s_iconst dX10_home_16 (cin rfl) ?_
    obtain ⟨q2, hv3, h⟩ := bnd h
    refine s_callV (As := [vI x1, vI x2, vI x3, vI x4, vI 1]) (rest := []) (r := (some (vI q2.1))) (F' := q2.2) dX10_home_17 (clX10_355 (Nat.le_of_ble_eq_true rfl) (Nat.le_of_ble_eq_true rfl)) ho rfl ⟨_, _, _, _, _, _, _, rfl, ho, hv3, rfl, rfl⟩ rfl (Nat.le_of_ble_eq_true rfl) ?_
    refine s_if_ne (tgt := 26) dX10_home_20 rfl (fun hc4 => ?_) (fun hc4 => ?_)
    · have h := ifp hc4 h
      refine s_iload (j := 5) dX10_home_26 rfl ?_
      refine s_iconst dX10_home_28 (cin rfl) ?_
      refine s_icmp_ne (tgt := 47) dX10_home_29 rfl (fun hc5 => ?_) (fun hc5 => ?_)
      · have h := ifp hc5 h
        refine s_aload_n (j := 0) dX10_home_47 rfl rfl ?_
        refine s_iconst dX10_home_48 (cin rfl) ?_
        refine s_putZ dX10_home_49 flX10_294 fpX10_31 ho (Or.inr rfl) ?_
        refine s_aload_n (j := 0) dX10_home_52 rfl rfl ?_
        refine s_iconst dX10_home_53 (cin rfl) ?_
        obtain ⟨q6, hv7, h⟩ := bnd h
        refine s_callV (As := [vI 1]) (rest := []) (r := none) (F' := q6) dX10_home_54 (clX10_349 (Nat.le_of_ble_eq_true rfl) (Nat.le_of_ble_eq_true rfl)) ho rfl ⟨_, _, _, rfl, ho, hv7, rfl, rfl⟩ rfl (Nat.le_of_ble_eq_true rfl) ?_
        refine s_aload_n (j := 0) dX10_home_57 rfl rfl ?_
        obtain ⟨r8, hv9, h⟩ := bnd h
        refine s_callV (As := []) (rest := []) (r := (some (vI r8))) (F' := q6) dX10_home_58 (clX10_352 (Nat.le_of_ble_eq_true rfl) (Nat.le_of_ble_eq_true rfl)) ho rfl ⟨_, _, rfl, ho, hv9, rfl, rfl⟩ rfl (Nat.le_of_ble_eq_true rfl) ?_
        refine s_if_ge (tgt := 68) dX10_home_61 rfl (fun hc10 => ?_) (fun hc10 => ?_)
        · have h := ifp hc10 h
          refine s_aload_n (j := 0) dX10_home_68 rfl rfl ?_
          obtain ⟨r11, hv12, h⟩ := bnd h
          refine s_callV (As := []) (rest := []) (r := (some (vI r11))) (F' := q6) dX10_home_69 (clX10_352 (Nat.le_of_ble_eq_true rfl) (Nat.le_of_ble_eq_true rfl)) ho rfl ⟨_, _, rfl, ho, hv12, rfl, rfl⟩ rfl (Nat.le_of_ble_eq_true rfl) ?_
          have h := Option.some.inj h
          subst h
          exact s_ireturn dX10_home_72 rfl hq
        · have h := ifn hc10 h
          refine s_iconst dX10_home_64 (cin rfl) ?_
          refine s_goto (tgt := 72) dX10_home_65 rfl ?_
          have h := Option.some.inj h
          subst h
          exact s_ireturn dX10_home_72 rfl hq
      · have h := ifn hc5 h
        refine s_aload_n (j := 0) dX10_home_32 rfl rfl ?_
        refine s_aload_n (j := 0) dX10_home_33 rfl rfl ?_
        refine s_getI dX10_home_34 flX10_315 ho ?_
        refine s_iconst dX10_home_37 (cin rfl) ?_
        refine s_isub dX10_home_38 ?_
        obtain ⟨q13, hv14, h⟩ := bnd h
        refine s_callV (As := [vI (xw ((q2.2 o 27) - 1))]) (rest := []) (r := none) (F' := q13) dX10_home_39 (clX10_359 (Nat.le_of_ble_eq_true rfl) (Nat.le_of_ble_eq_true rfl)) ho rfl ⟨_, _, _, rfl, ho, hv14, rfl, rfl⟩ rfl (Nat.le_of_ble_eq_true rfl) ?_
        refine s_aload_n (j := 0) dX10_home_42 rfl rfl ?_
        refine s_getI dX10_home_43 flX10_336 ho ?_
        have h := Option.some.inj h
        subst h
        exact s_ireturn dX10_home_46 rfl hq
    · have h := ifn hc4 h
      refine s_bipush dX10_home_23 rfl (cin rfl) ?_
      have h := Option.some.inj h
      subst h
      exact s_ireturn dX10_home_25 rfl hq
def gX10_home : XG := fun As F r F' => ∃ o : Nat, ∃ x1 : Int, ∃ x2 : Int, ∃ x3 : Int, ∃ x4 : Int, ∃ x5 : Int, ∃ res : (Int × Mem), As = [vR o, vI x1, vI x2, vI x3, vI x4, vI x5] ∧ isK o 10 ∧ fX10_home o x1 x2 x3 x4 x5 F = some res ∧ r = some (vI res.1) ∧ F' = res.2
theorem ctX10_home : xCT yX10_home cX10_home 6 (some FieldType.int) 7 159 gX10_home := xmet (by decide +kernel) (fun As F r F' hg => by obtain ⟨o, x1, x2, x3, x4, x5, res, rfl, ho, h, rfl, rfl⟩ := hg; exact Nat.le_of_ble_eq_true rfl) (fun As F r F' hg => by obtain ⟨o, x1, x2, x3, x4, x5, res, rfl, ho, h, rfl, rfl⟩ := hg; exact fX10_home_ok o x1 x2 x3 x4 x5 _ _ ho h ⟨rfl, rfl⟩)
theorem mcX10_home : Cond.code yX10_home cX10_home 6 (some FieldType.int) ∈ xw_T ∧ Cond.initialized yX10_home.cls ∈ xw_T ∧ Cond.instanceMethod yX10_home ∈ xw_T ∧ Cond.selects yX10_home.cls yX10_home yX10_home ∈ xw_T := ⟨(xinT 1926 (by decide +kernel) (by decide +kernel)), (xinT 127 (by decide +kernel) (by decide +kernel)), (xinT 1924 (by decide +kernel) (by decide +kernel)), (xinT 1925 (by decide +kernel) (by decide +kernel))⟩
theorem dX10_ways_0 : decode cX10_ways 0 = .ok (.aload_n 0, 1) := by decide +kernel
theorem dX10_ways_1 : decode cX10_ways 1 = .ok (.iload_n 1, 1) := by decide +kernel
theorem dX10_ways_2 : decode cX10_ways 2 = .ok (.iload_n 2, 1) := by decide +kernel
theorem dX10_ways_3 : decode cX10_ways 3 = .ok (.iload_n 3, 1) := by decide +kernel
theorem dX10_ways_4 : decode cX10_ways 4 = .ok (.iload 4, 2) := by decide +kernel
theorem dX10_ways_6 : decode cX10_ways 6 = .ok (.iconst 1, 1) := by decide +kernel
theorem dX10_ways_7 : decode cX10_ways 7 = .ok (.invokevirtual 355, 3) := by decide +kernel
theorem dX10_ways_10 : decode cX10_ways 10 = .ok (.ifCond .ne 7, 3) := by decide +kernel
theorem dX10_ways_13 : decode cX10_ways 13 = .ok (.ldc2_w 429, 3) := by decide +kernel
theorem dX10_ways_16 : decode cX10_ways 16 = .ok (.lreturn, 1) := by decide +kernel
theorem dX10_ways_17 : decode cX10_ways 17 = .ok (.aload_n 0, 1) := by decide +kernel
theorem dX10_ways_18 : decode cX10_ways 18 = .ok (.getfield 315, 3) := by decide +kernel
theorem dX10_ways_21 : decode cX10_ways 21 = .ok (.istore 5, 2) := by decide +kernel
theorem dX10_ways_23 : decode cX10_ways 23 = .ok (.iload 5, 2) := by decide +kernel
theorem dX10_ways_25 : decode cX10_ways 25 = .ok (.ifCond .lt 273, 3) := by decide +kernel
theorem dX10_ways_28 : decode cX10_ways 28 = .ok (.iconst 0, 1) := by decide +kernel
theorem dX10_ways_29 : decode cX10_ways 29 = .ok (.istore 6, 2) := by decide +kernel
theorem dX10_ways_31 : decode cX10_ways 31 = .ok (.iload 6, 2) := by decide +kernel
theorem dX10_ways_33 : decode cX10_ways 33 = .ok (.aload_n 0, 1) := by decide +kernel
theorem dX10_ways_34 : decode cX10_ways 34 = .ok (.iconst 5, 1) := by decide +kernel
theorem dX10_ways_35 : decode cX10_ways 35 = .ok (.invokevirtual 181, 3) := by decide +kernel
theorem dX10_ways_38 : decode cX10_ways 38 = .ok (.if_icmp .ge 254, 3) := by decide +kernel
theorem dX10_ways_41 : decode cX10_ways 41 = .ok (.bipush 8, 2) := by decide +kernel
theorem dX10_ways_43 : decode cX10_ways 43 = .ok (.iload 5, 2) := by decide +kernel
theorem dX10_ways_45 : decode cX10_ways 45 = .ok (.imul, 1) := by decide +kernel
theorem dX10_ways_46 : decode cX10_ways 46 = .ok (.iload 6, 2) := by decide +kernel
theorem dX10_ways_48 : decode cX10_ways 48 = .ok (.iadd, 1) := by decide +kernel
theorem dX10_ways_49 : decode cX10_ways 49 = .ok (.istore 7, 2) := by decide +kernel
theorem dX10_ways_51 : decode cX10_ways 51 = .ok (.iload 5, 2) := by decide +kernel
theorem dX10_ways_53 : decode cX10_ways 53 = .ok (.aload_n 0, 1) := by decide +kernel
theorem dX10_ways_54 : decode cX10_ways 54 = .ok (.getfield 315, 3) := by decide +kernel
theorem dX10_ways_57 : decode cX10_ways 57 = .ok (.if_icmp .ne 7, 3) := by decide +kernel
theorem dX10_ways_60 : decode cX10_ways 60 = .ok (.lconst 1, 1) := by decide +kernel
theorem dX10_ways_61 : decode cX10_ways 61 = .ok (.goto 4, 3) := by decide +kernel
theorem dX10_ways_64 : decode cX10_ways 64 = .ok (.lconst 0, 1) := by decide +kernel
theorem dX10_ways_65 : decode cX10_ways 65 = .ok (.lstore 8, 2) := by decide +kernel
theorem dX10_ways_67 : decode cX10_ways 67 = .ok (.iload 5, 2) := by decide +kernel
theorem dX10_ways_69 : decode cX10_ways 69 = .ok (.aload_n 0, 1) := by decide +kernel
theorem dX10_ways_70 : decode cX10_ways 70 = .ok (.getfield 315, 3) := by decide +kernel
theorem dX10_ways_73 : decode cX10_ways 73 = .ok (.if_icmp .ge 189, 3) := by decide +kernel
theorem dX10_ways_76 : decode cX10_ways 76 = .ok (.aload_n 0, 1) := by decide +kernel
theorem dX10_ways_77 : decode cX10_ways 77 = .ok (.iload 5, 2) := by decide +kernel
theorem dX10_ways_79 : decode cX10_ways 79 = .ok (.invokevirtual 312, 3) := by decide +kernel
theorem dX10_ways_82 : decode cX10_ways 82 = .ok (.istore 10, 2) := by decide +kernel
theorem dX10_ways_84 : decode cX10_ways 84 = .ok (.iload 10, 2) := by decide +kernel
theorem dX10_ways_86 : decode cX10_ways 86 = .ok (.iconst (-1), 1) := by decide +kernel
theorem dX10_ways_87 : decode cX10_ways 87 = .ok (.if_icmp .eq 10, 3) := by decide +kernel
theorem dX10_ways_90 : decode cX10_ways 90 = .ok (.iload 10, 2) := by decide +kernel
theorem dX10_ways_92 : decode cX10_ways 92 = .ok (.iload 6, 2) := by decide +kernel
theorem dX10_ways_94 : decode cX10_ways 94 = .ok (.if_icmp .ne 69, 3) := by decide +kernel
theorem dX10_ways_97 : decode cX10_ways 97 = .ok (.aload_n 0, 1) := by decide +kernel
theorem dX10_ways_98 : decode cX10_ways 98 = .ok (.getfield 45, 3) := by decide +kernel
theorem dX10_ways_101 : decode cX10_ways 101 = .ok (.iload 7, 2) := by decide +kernel
theorem dX10_ways_103 : decode cX10_ways 103 = .ok (.bipush 8, 2) := by decide +kernel
theorem dX10_ways_105 : decode cX10_ways 105 = .ok (.iadd, 1) := by decide +kernel
theorem dX10_ways_106 : decode cX10_ways 106 = .ok (.iaload, 1) := by decide +kernel
theorem dX10_ways_107 : decode cX10_ways 107 = .ok (.ifCond .lt 56, 3) := by decide +kernel
theorem dX10_ways_110 : decode cX10_ways 110 = .ok (.aload_n 0, 1) := by decide +kernel
theorem dX10_ways_111 : decode cX10_ways 111 = .ok (.getfield 45, 3) := by decide +kernel
theorem dX10_ways_114 : decode cX10_ways 114 = .ok (.iload 7, 2) := by decide +kernel
theorem dX10_ways_116 : decode cX10_ways 116 = .ok (.bipush 8, 2) := by decide +kernel
theorem dX10_ways_118 : decode cX10_ways 118 = .ok (.iadd, 1) := by decide +kernel
theorem dX10_ways_119 : decode cX10_ways 119 = .ok (.iaload, 1) := by decide +kernel
theorem dX10_ways_120 : decode cX10_ways 120 = .ok (.aload_n 0, 1) := by decide +kernel
theorem dX10_ways_121 : decode cX10_ways 121 = .ok (.iload 6, 2) := by decide +kernel
theorem dX10_ways_123 : decode cX10_ways 123 = .ok (.iload 5, 2) := by decide +kernel
theorem dX10_ways_125 : decode cX10_ways 125 = .ok (.invokevirtual 319, 3) := by decide +kernel
theorem dX10_ways_128 : decode cX10_ways 128 = .ok (.iadd, 1) := by decide +kernel
theorem dX10_ways_129 : decode cX10_ways 129 = .ok (.aload_n 0, 1) := by decide +kernel
theorem dX10_ways_130 : decode cX10_ways 130 = .ok (.getfield 45, 3) := by decide +kernel
theorem dX10_ways_133 : decode cX10_ways 133 = .ok (.iload 7, 2) := by decide +kernel
theorem dX10_ways_135 : decode cX10_ways 135 = .ok (.iaload, 1) := by decide +kernel
theorem dX10_ways_136 : decode cX10_ways 136 = .ok (.if_icmp .ne 27, 3) := by decide +kernel
theorem dX10_ways_139 : decode cX10_ways 139 = .ok (.aload_n 0, 1) := by decide +kernel
theorem dX10_ways_140 : decode cX10_ways 140 = .ok (.getfield 48, 3) := by decide +kernel
theorem dX10_ways_143 : decode cX10_ways 143 = .ok (.iload 7, 2) := by decide +kernel
theorem dX10_ways_145 : decode cX10_ways 145 = .ok (.bipush 8, 2) := by decide +kernel
theorem dX10_ways_147 : decode cX10_ways 147 = .ok (.iadd, 1) := by decide +kernel
theorem dX10_ways_148 : decode cX10_ways 148 = .ok (.iaload, 1) := by decide +kernel
theorem dX10_ways_149 : decode cX10_ways 149 = .ok (.aload_n 0, 1) := by decide +kernel
theorem dX10_ways_150 : decode cX10_ways 150 = .ok (.getfield 48, 3) := by decide +kernel
theorem dX10_ways_153 : decode cX10_ways 153 = .ok (.iload 7, 2) := by decide +kernel
theorem dX10_ways_155 : decode cX10_ways 155 = .ok (.iaload, 1) := by decide +kernel
theorem dX10_ways_156 : decode cX10_ways 156 = .ok (.if_icmp .ne 7, 3) := by decide +kernel
theorem dX10_ways_159 : decode cX10_ways 159 = .ok (.iconst 1, 1) := by decide +kernel
theorem dX10_ways_160 : decode cX10_ways 160 = .ok (.goto 4, 3) := by decide +kernel
theorem dX10_ways_163 : decode cX10_ways 163 = .ok (.iconst 0, 1) := by decide +kernel
theorem dX10_ways_164 : decode cX10_ways 164 = .ok (.istore 11, 2) := by decide +kernel
theorem dX10_ways_166 : decode cX10_ways 166 = .ok (.iload 11, 2) := by decide +kernel
theorem dX10_ways_168 : decode cX10_ways 168 = .ok (.ifCond .eq 16, 3) := by decide +kernel
theorem dX10_ways_171 : decode cX10_ways 171 = .ok (.aload_n 0, 1) := by decide +kernel
theorem dX10_ways_172 : decode cX10_ways 172 = .ok (.getfield 61, 3) := by decide +kernel
theorem dX10_ways_175 : decode cX10_ways 175 = .ok (.iload 7, 2) := by decide +kernel
theorem dX10_ways_177 : decode cX10_ways 177 = .ok (.bipush 8, 2) := by decide +kernel
theorem dX10_ways_179 : decode cX10_ways 179 = .ok (.iadd, 1) := by decide +kernel
theorem dX10_ways_180 : decode cX10_ways 180 = .ok (.laload, 1) := by decide +kernel
theorem dX10_ways_181 : decode cX10_ways 181 = .ok (.goto 4, 3) := by decide +kernel
theorem dX10_ways_184 : decode cX10_ways 184 = .ok (.lconst 0, 1) := by decide +kernel
theorem dX10_ways_185 : decode cX10_ways 185 = .ok (.lstore 8, 2) := by decide +kernel
theorem dX10_ways_187 : decode cX10_ways 187 = .ok (.iconst 0, 1) := by decide +kernel
theorem dX10_ways_188 : decode cX10_ways 188 = .ok (.istore 12, 2) := by decide +kernel
theorem dX10_ways_190 : decode cX10_ways 190 = .ok (.iload 12, 2) := by decide +kernel
theorem dX10_ways_192 : decode cX10_ways 192 = .ok (.aload_n 0, 1) := by decide +kernel
theorem dX10_ways_193 : decode cX10_ways 193 = .ok (.iconst 5, 1) := by decide +kernel
theorem dX10_ways_194 : decode cX10_ways 194 = .ok (.invokevirtual 181, 3) := by decide +kernel
theorem dX10_ways_197 : decode cX10_ways 197 = .ok (.if_icmp .ge 65, 3) := by decide +kernel
theorem dX10_ways_200 : decode cX10_ways 200 = .ok (.lload 8, 2) := by decide +kernel
theorem dX10_ways_202 : decode cX10_ways 202 = .ok (.aload_n 0, 1) := by decide +kernel
theorem dX10_ways_203 : decode cX10_ways 203 = .ok (.getfield 45, 3) := by decide +kernel
theorem dX10_ways_206 : decode cX10_ways 206 = .ok (.iload 7, 2) := by decide +kernel
theorem dX10_ways_208 : decode cX10_ways 208 = .ok (.iaload, 1) := by decide +kernel
theorem dX10_ways_209 : decode cX10_ways 209 = .ok (.ifCond .lt 43, 3) := by decide +kernel
theorem dX10_ways_212 : decode cX10_ways 212 = .ok (.aload_n 0, 1) := by decide +kernel
theorem dX10_ways_213 : decode cX10_ways 213 = .ok (.iload 6, 2) := by decide +kernel
theorem dX10_ways_215 : decode cX10_ways 215 = .ok (.iload 12, 2) := by decide +kernel
theorem dX10_ways_217 : decode cX10_ways 217 = .ok (.iload 5, 2) := by decide +kernel
theorem dX10_ways_219 : decode cX10_ways 219 = .ok (.iload 7, 2) := by decide +kernel
theorem dX10_ways_221 : decode cX10_ways 221 = .ok (.invokevirtual 342, 3) := by decide +kernel
theorem dX10_ways_224 : decode cX10_ways 224 = .ok (.ifCond .eq 28, 3) := by decide +kernel
theorem dX10_ways_227 : decode cX10_ways 227 = .ok (.aload_n 0, 1) := by decide +kernel
theorem dX10_ways_228 : decode cX10_ways 228 = .ok (.getfield 61, 3) := by decide +kernel
theorem dX10_ways_231 : decode cX10_ways 231 = .ok (.bipush 8, 2) := by decide +kernel
theorem dX10_ways_233 : decode cX10_ways 233 = .ok (.iload 5, 2) := by decide +kernel
theorem dX10_ways_235 : decode cX10_ways 235 = .ok (.aload_n 0, 1) := by decide +kernel
theorem dX10_ways_236 : decode cX10_ways 236 = .ok (.iload 6, 2) := by decide +kernel
theorem dX10_ways_238 : decode cX10_ways 238 = .ok (.iload 12, 2) := by decide +kernel
theorem dX10_ways_240 : decode cX10_ways 240 = .ok (.invokevirtual 199, 3) := by decide +kernel
theorem dX10_ways_243 : decode cX10_ways 243 = .ok (.iadd, 1) := by decide +kernel
theorem dX10_ways_244 : decode cX10_ways 244 = .ok (.imul, 1) := by decide +kernel
theorem dX10_ways_245 : decode cX10_ways 245 = .ok (.iload 12, 2) := by decide +kernel
theorem dX10_ways_247 : decode cX10_ways 247 = .ok (.iadd, 1) := by decide +kernel
theorem dX10_ways_248 : decode cX10_ways 248 = .ok (.laload, 1) := by decide +kernel
theorem dX10_ways_249 : decode cX10_ways 249 = .ok (.goto 4, 3) := by decide +kernel
theorem dX10_ways_252 : decode cX10_ways 252 = .ok (.lconst 0, 1) := by decide +kernel
theorem dX10_ways_253 : decode cX10_ways 253 = .ok (.ladd, 1) := by decide +kernel
theorem dX10_ways_254 : decode cX10_ways 254 = .ok (.lstore 8, 2) := by decide +kernel
theorem dX10_ways_256 : decode cX10_ways 256 = .ok (.iinc 12 1, 3) := by decide +kernel
theorem dX10_ways_259 : decode cX10_ways 259 = .ok (.goto (-69), 3) := by decide +kernel
theorem dX10_ways_262 : decode cX10_ways 262 = .ok (.aload_n 0, 1) := by decide +kernel
theorem dX10_ways_263 : decode cX10_ways 263 = .ok (.getfield 61, 3) := by decide +kernel
theorem dX10_ways_266 : decode cX10_ways 266 = .ok (.iload 7, 2) := by decide +kernel
theorem dX10_ways_268 : decode cX10_ways 268 = .ok (.lload 8, 2) := by decide +kernel
theorem dX10_ways_270 : decode cX10_ways 270 = .ok (.ldc2_w 431, 3) := by decide +kernel
theorem dX10_ways_273 : decode cX10_ways 273 = .ok (.lcmp, 1) := by decide +kernel
theorem dX10_ways_274 : decode cX10_ways 274 = .ok (.ifCond .le 9, 3) := by decide +kernel
theorem dX10_ways_277 : decode cX10_ways 277 = .ok (.ldc2_w 431, 3) := by decide +kernel
theorem dX10_ways_280 : decode cX10_ways 280 = .ok (.goto 5, 3) := by decide +kernel
theorem dX10_ways_283 : decode cX10_ways 283 = .ok (.lload 8, 2) := by decide +kernel
theorem dX10_ways_285 : decode cX10_ways 285 = .ok (.lastore, 1) := by decide +kernel
theorem dX10_ways_286 : decode cX10_ways 286 = .ok (.iinc 6 1, 3) := by decide +kernel
theorem dX10_ways_289 : decode cX10_ways 289 = .ok (.goto (-258), 3) := by decide +kernel
theorem dX10_ways_292 : decode cX10_ways 292 = .ok (.iinc 5 (-1), 3) := by decide +kernel
theorem dX10_ways_295 : decode cX10_ways 295 = .ok (.goto (-272), 3) := by decide +kernel
theorem dX10_ways_298 : decode cX10_ways 298 = .ok (.aload_n 0, 1) := by decide +kernel
theorem dX10_ways_299 : decode cX10_ways 299 = .ok (.getfield 61, 3) := by decide +kernel
theorem dX10_ways_302 : decode cX10_ways 302 = .ok (.aload_n 0, 1) := by decide +kernel
theorem dX10_ways_303 : decode cX10_ways 303 = .ok (.iconst 4, 1) := by decide +kernel
theorem dX10_ways_304 : decode cX10_ways 304 = .ok (.invokevirtual 181, 3) := by decide +kernel
theorem dX10_ways_307 : decode cX10_ways 307 = .ok (.laload, 1) := by decide +kernel
theorem dX10_ways_308 : decode cX10_ways 308 = .ok (.lreturn, 1) := by decide +kernel
def zX10_ways (Qr : Option PV → Mem → Prop) : XZ := (RX10, 7, 159, 13, some FieldType.long, Qr)
noncomputable def fX10_ways_b262 (k23 : Nat → Int → Mem → Option (Int × Mem)) (k31 : Nat → Int → Int → Mem → Option (Int × Mem)) (o : Nat) (x5 : Int) (x6 : Int) (x7 : Int) (x8 : Int) (F : Mem) : Option (Int × Mem) :=
  if (xcmp x8 1000000000000) ≤ 0 then
    if (0 : Int) ≤ x7 ∧ x7 < (alen (o + 13) : Int) then
      k31 o x5 (xw (x6 + 1)) (mset F (o + 13) x7.toNat x8)
    else none
  else
    if (0 : Int) ≤ x7 ∧ x7 < (alen (o + 13) : Int) then
      k31 o x5 (xw (x6 + 1)) (mset F (o + 13) x7.toNat 1000000000000)
    else none
noncomputable def fX10_ways_b190 (k23 : Nat → Int → Mem → Option (Int × Mem)) (k31 : Nat → Int → Int → Mem → Option (Int × Mem)) : Nat → Nat → Int → Int → Int → Int → Int → Mem → Option (Int × Mem)
  | 0, _, _, _, _, _, _, _ => none
  | n + 1, o, x5, x6, x7, x8, x12, F =>
    (fX10_of o 5 F).bind fun r1 =>
    if r1 ≤ x12 then
      fX10_ways_b262 k23 k31 o x5 x6 x7 x8 F
    else
      if (0 : Int) ≤ x7 ∧ x7 < (alen (o + 10) : Int) then
        if (F (o + 10) x7.toNat) < 0 then
          fX10_ways_b190 k23 k31 n o x5 x6 x7 (xwl (x8 + 0)) (xw (x12 + 1)) F
        else
          (fX10_isNext o x6 x12 x5 x7 F).bind fun r6 =>
          if r6 = 0 then
            fX10_ways_b190 k23 k31 n o x5 x6 x7 (xwl (x8 + 0)) (xw (x12 + 1)) F
          else
            (fX10_slotsOf o x6 x12 F).bind fun r9 =>
            if (0 : Int) ≤ (xw ((xw (8 * (xw (x5 + r9)))) + x12)) ∧ (xw ((xw (8 * (xw (x5 + r9)))) + x12)) < (alen (o + 13) : Int) then
              fX10_ways_b190 k23 k31 n o x5 x6 x7 (xwl (x8 + (F (o + 13) (xw ((xw (8 * (xw (x5 + r9)))) + x12)).toNat))) (xw (x12 + 1)) F
            else none
      else none
noncomputable def fX10_ways_b164 (k23 : Nat → Int → Mem → Option (Int × Mem)) (k31 : Nat → Int → Int → Mem → Option (Int × Mem)) (o : Nat) (x5 : Int) (x6 : Int) (x7 : Int) (s0 : Int) (F : Mem) : Option (Int × Mem) :=
  if s0 = 0 then
    fX10_ways_b190 k23 k31 FU o x5 x6 x7 0 0 F
  else
    if (0 : Int) ≤ (xw (x7 + 8)) ∧ (xw (x7 + 8)) < (alen (o + 13) : Int) then
      fX10_ways_b190 k23 k31 FU o x5 x6 x7 (F (o + 13) (xw (x7 + 8)).toNat) 0 F
    else none
noncomputable def fX10_ways_b97 (k23 : Nat → Int → Mem → Option (Int × Mem)) (k31 : Nat → Int → Int → Mem → Option (Int × Mem)) (o : Nat) (x5 : Int) (x6 : Int) (x7 : Int) (F : Mem) : Option (Int × Mem) :=
  if (0 : Int) ≤ (xw (x7 + 8)) ∧ (xw (x7 + 8)) < (alen (o + 10) : Int) then
    if (F (o + 10) (xw (x7 + 8)).toNat) < 0 then
      fX10_ways_b164 k23 k31 o x5 x6 x7 0 F
    else
      if (0 : Int) ≤ (xw (x7 + 8)) ∧ (xw (x7 + 8)) < (alen (o + 10) : Int) then
        (fX10_gainIn o x6 x5 F).bind fun r4 =>
        if (0 : Int) ≤ x7 ∧ x7 < (alen (o + 10) : Int) then
          if (xw ((F (o + 10) (xw (x7 + 8)).toNat) + r4)) ≠ (F (o + 10) x7.toNat) then
            fX10_ways_b164 k23 k31 o x5 x6 x7 0 F
          else
            if (0 : Int) ≤ (xw (x7 + 8)) ∧ (xw (x7 + 8)) < (alen (o + 11) : Int) then
              if (0 : Int) ≤ x7 ∧ x7 < (alen (o + 11) : Int) then
                if (F (o + 11) (xw (x7 + 8)).toNat) ≠ (F (o + 11) x7.toNat) then
                  fX10_ways_b164 k23 k31 o x5 x6 x7 0 F
                else
                  fX10_ways_b164 k23 k31 o x5 x6 x7 1 F
              else none
            else none
        else none
      else none
  else none
noncomputable def fX10_ways_b65 (k23 : Nat → Int → Mem → Option (Int × Mem)) (k31 : Nat → Int → Int → Mem → Option (Int × Mem)) (o : Nat) (x5 : Int) (x6 : Int) (x7 : Int) (s0 : Int) (F : Mem) : Option (Int × Mem) :=
  if (F o 27) ≤ x5 then
    fX10_ways_b262 k23 k31 o x5 x6 x7 s0 F
  else
    (fX10_mustIn o x5 F).bind fun r2 =>
    if r2 = (-1) then
      fX10_ways_b97 k23 k31 o x5 x6 x7 F
    else
      if r2 ≠ x6 then
        fX10_ways_b164 k23 k31 o x5 x6 x7 0 F
      else
        fX10_ways_b97 k23 k31 o x5 x6 x7 F
noncomputable def fX10_ways_b31 (k23 : Nat → Int → Mem → Option (Int × Mem)) : Nat → Nat → Int → Int → Mem → Option (Int × Mem)
  | 0, _, _, _, _ => none
  | n + 1, o, x5, x6, F =>
    (fX10_of o 5 F).bind fun r1 =>
    if r1 ≤ x6 then
      k23 o (xw (x5 + (-1))) F
    else
      if x5 ≠ (F o 27) then
        fX10_ways_b65 k23 (fX10_ways_b31 k23 n) o x5 x6 (xw ((xw (8 * x5)) + x6)) 0 F
      else
        fX10_ways_b65 k23 (fX10_ways_b31 k23 n) o x5 x6 (xw ((xw (8 * x5)) + x6)) 1 F
noncomputable def fX10_ways_b23 : Nat → Nat → Int → Mem → Option (Int × Mem)
  | 0, _, _, _ => none
  | n + 1, o, x5, F =>
    if x5 < 0 then
      (fX10_of o 4 F).bind fun r2 =>
      if (0 : Int) ≤ r2 ∧ r2 < (alen (o + 13) : Int) then
        some (F (o + 13) r2.toNat, F)
      else none
    else
      fX10_ways_b31 (fX10_ways_b23 n) FU o x5 0 F
noncomputable def fX10_ways (o : Nat) (x1 : Int) (x2 : Int) (x3 : Int) (x4 : Int) (F : Mem) : Option (Int × Mem) :=
  (fX10_isAsked o x1 x2 x3 x4 1 F).bind fun q1 =>
  if q1.1 ≠ 0 then
    fX10_ways_b23 FU o (q1.2 o 27) q1.2
  else
    some ((-2), q1.2)
theorem fX10_ways_b262_ok {Qr : Option PV → Mem → Prop}  (k23 : Nat → Int → Mem → Option (Int × Mem)) (k31 : Nat → Int → Int → Mem → Option (Int × Mem)) (hk23 : ∀ (o : Nat) (x5 : Int) (F : Mem) (res : (Int × Mem)) (ho : isK o 10), k23 o x5 F = some res → Qr (some (vL res.1)) res.2 → PR cX10_ways (zX10_ways Qr) 23 [(0, vR o), (5, vI x5)] [] F) (hk31 : ∀ (o : Nat) (x5 : Int) (x6 : Int) (F : Mem) (res : (Int × Mem)) (ho : isK o 10), k31 o x5 x6 F = some res → Qr (some (vL res.1)) res.2 → PR cX10_ways (zX10_ways Qr) 31 [(0, vR o), (5, vI x5), (6, vI x6)] [] F) : ∀ (o : Nat) (x5 : Int) (x6 : Int) (x7 : Int) (x8 : Int) (F : Mem) (res : (Int × Mem)) (ho : isK o 10), fX10_ways_b262 k23 k31 o x5 x6 x7 x8 F = some res → Qr (some (vL res.1)) res.2 → PR cX10_ways (zX10_ways Qr) 262 [(0, vR o), (5, vI x5), (6, vI x6), (7, vI x7), (8, vL x8)] [] F := by
  intro o x5 x6 x7 x8 F res ho h hq
  refine s_aload_n (j := 0) dX10_ways_262 rfl rfl ?_
  refine s_getR dX10_ways_263 flX10_61 ho ?_
  refine s_iload (j := 3) dX10_ways_266 rfl ?_
  refine s_lload (j := 4) dX10_ways_268 rfl ?_
  refine s_ldc2 dX10_ways_270 kcX10_431 (cin64 rfl) ?_
  refine s_lcmp dX10_ways_273 ?_
  refine s_if_le (tgt := 283) dX10_ways_274 rfl (fun hc1 => ?_) (fun hc1 => ?_)
  · have h := ifp hc1 h
    refine s_lload (j := 4) dX10_ways_283 rfl ?_
    obtain ⟨hb2, h⟩ := gd h
    refine s_lastore dX10_ways_285 (trX10_46 ho) hb2.1 hb2.2 ?_
    refine s_iinc (ls' := [(6, vI (xw (x6 + 1))), (0, vR o), (5, vI x5), (7, vI x7), (8, vL x8)]) (j := 2) dX10_ways_286 rfl (Nat.le_of_ble_eq_true rfl) rfl ?_
    refine s_goto (tgt := 31) dX10_ways_289 rfl ?_
    exact s_sub (ks := [1, 2, 0]) rfl (hk31 o x5 (xw (x6 + 1)) (mset F (o + 13) x7.toNat x8) _ ho h hq)
  · have h := ifn hc1 h
    refine s_ldc2 dX10_ways_277 kcX10_431 (cin64 rfl) ?_
    refine s_goto (tgt := 285) dX10_ways_280 rfl ?_
    obtain ⟨hb3, h⟩ := gd h
    refine s_lastore dX10_ways_285 (trX10_46 ho) hb3.1 hb3.2 ?_
    refine s_iinc (ls' := [(6, vI (xw (x6 + 1))), (0, vR o), (5, vI x5), (7, vI x7), (8, vL x8)]) (j := 2) dX10_ways_286 rfl (Nat.le_of_ble_eq_true rfl) rfl ?_
    refine s_goto (tgt := 31) dX10_ways_289 rfl ?_
    exact s_sub (ks := [1, 2, 0]) rfl (hk31 o x5 (xw (x6 + 1)) (mset F (o + 13) x7.toNat 1000000000000) _ ho h hq)
theorem fX10_ways_b190_ok {Qr : Option PV → Mem → Prop}  (k23 : Nat → Int → Mem → Option (Int × Mem)) (k31 : Nat → Int → Int → Mem → Option (Int × Mem)) (hk23 : ∀ (o : Nat) (x5 : Int) (F : Mem) (res : (Int × Mem)) (ho : isK o 10), k23 o x5 F = some res → Qr (some (vL res.1)) res.2 → PR cX10_ways (zX10_ways Qr) 23 [(0, vR o), (5, vI x5)] [] F) (hk31 : ∀ (o : Nat) (x5 : Int) (x6 : Int) (F : Mem) (res : (Int × Mem)) (ho : isK o 10), k31 o x5 x6 F = some res → Qr (some (vL res.1)) res.2 → PR cX10_ways (zX10_ways Qr) 31 [(0, vR o), (5, vI x5), (6, vI x6)] [] F) : ∀ (n : Nat) (o : Nat) (x5 : Int) (x6 : Int) (x7 : Int) (x8 : Int) (x12 : Int) (F : Mem) (res : (Int × Mem)) (ho : isK o 10), fX10_ways_b190 k23 k31 n o x5 x6 x7 x8 x12 F = some res → Qr (some (vL res.1)) res.2 → PR cX10_ways (zX10_ways Qr) 190 [(0, vR o), (5, vI x5), (6, vI x6), (7, vI x7), (8, vL x8), (12, vI x12)] [] F := by
  intro n
  induction n with
  | zero => intro o x5 x6 x7 x8 x12 F res ho h hq; exact nomatch (show (none : Option _) = some _ from h)
  | succ n ih =>
    intro o x5 x6 x7 x8 x12 F res ho h hq
    refine s_iload (j := 5) dX10_ways_190 rfl ?_
    refine s_aload_n (j := 0) dX10_ways_192 rfl rfl ?_
    refine s_iconst dX10_ways_193 (cin rfl) ?_
    obtain ⟨r1, hv2, h⟩ := bnd h
    refine s_callV (As := [vI 5]) (rest := [vI x12]) (r := (some (vI r1))) (F' := F) dX10_ways_194 (clX10_181 (Nat.le_of_ble_eq_true rfl) (Nat.le_of_ble_eq_true rfl)) ho rfl ⟨_, _, _, rfl, ho, hv2, rfl, rfl⟩ rfl (Nat.le_of_ble_eq_true rfl) ?_
    refine s_icmp_ge (tgt := 262) dX10_ways_197 rfl (fun hc3 => ?_) (fun hc3 => ?_)
    · have h := ifp hc3 h
      exact s_sub (ks := [0, 1, 2, 3, 4]) rfl (fX10_ways_b262_ok k23 k31 hk23 hk31 o x5 x6 x7 x8 F _ ho h hq)
    · have h := ifn hc3 h
      refine s_lload (j := 4) dX10_ways_200 rfl ?_
      refine s_aload_n (j := 0) dX10_ways_202 rfl rfl ?_
      refine s_getR dX10_ways_203 flX10_45 ho ?_
      refine s_iload (j := 3) dX10_ways_206 rfl ?_
      obtain ⟨hb4, h⟩ := gd h
      refine s_iaload dX10_ways_208 (trX10_24 ho) hb4.1 hb4.2 ?_
      refine s_if_lt (tgt := 252) dX10_ways_209 rfl (fun hc5 => ?_) (fun hc5 => ?_)
      · have h := ifp hc5 h
        refine s_lconst (z := 0) dX10_ways_252 rfl (cin64 rfl) ?_
        refine s_ladd dX10_ways_253 ?_
        refine s_lstore (ls' := [(8, vL (xwl (x8 + 0))), (0, vR o), (5, vI x5), (6, vI x6), (7, vI x7), (12, vI x12)]) dX10_ways_254 (Nat.le_of_ble_eq_true rfl) rfl ?_
        refine s_iinc (j := 5) dX10_ways_256 rfl (Nat.le_of_ble_eq_true rfl) rfl ?_
        refine s_goto (tgt := 190) dX10_ways_259 rfl ?_
        exact s_sub (ks := [2, 3, 4, 5, 1, 0]) rfl (ih o x5 x6 x7 (xwl (x8 + 0)) (xw (x12 + 1)) F _ ho h hq)
      · have h := ifn hc5 h
        refine s_aload_n (j := 0) dX10_ways_212 rfl rfl ?_
        refine s_iload (j := 2) dX10_ways_213 rfl ?_
        refine s_iload (j := 5) dX10_ways_215 rfl ?_
        refine s_iload (j := 1) dX10_ways_217 rfl ?_
        refine s_iload (j := 3) dX10_ways_219 rfl ?_
        obtain ⟨r6, hv7, h⟩ := bnd h
        refine s_callV (As := [vI x6, vI x12, vI x5, vI x7]) (rest := [vL x8]) (r := (some (vI r6))) (F' := F) dX10_ways_221 (clX10_342 (Nat.le_of_ble_eq_true rfl) (Nat.le_of_ble_eq_true rfl)) ho rfl ⟨_, _, _, _, _, _, rfl, ho, hv7, rfl, rfl⟩ rfl (Nat.le_of_ble_eq_true rfl) ?_
        refine s_if_eq (tgt := 252) dX10_ways_224 rfl (fun hc8 => ?_) (fun hc8 => ?_)
        · have h := ifp hc8 h
          refine s_lconst (z := 0) dX10_ways_252 rfl (cin64 rfl) ?_
          refine s_ladd dX10_ways_253 ?_
          refine s_lstore (ls' := [(8, vL (xwl (x8 + 0))), (0, vR o), (5, vI x5), (6, vI x6), (7, vI x7), (12, vI x12)]) dX10_ways_254 (Nat.le_of_ble_eq_true rfl) rfl ?_
          refine s_iinc (j := 5) dX10_ways_256 rfl (Nat.le_of_ble_eq_true rfl) rfl ?_
          refine s_goto (tgt := 190) dX10_ways_259 rfl ?_
          exact s_sub (ks := [2, 3, 4, 5, 1, 0]) rfl (ih o x5 x6 x7 (xwl (x8 + 0)) (xw (x12 + 1)) F _ ho h hq)
        · have h := ifn hc8 h
          refine s_aload_n (j := 0) dX10_ways_227 rfl rfl ?_
          refine s_getR dX10_ways_228 flX10_61 ho ?_
          refine s_bipush dX10_ways_231 rfl (cin rfl) ?_
          refine s_iload (j := 1) dX10_ways_233 rfl ?_
          refine s_aload_n (j := 0) dX10_ways_235 rfl rfl ?_
          refine s_iload (j := 2) dX10_ways_236 rfl ?_
          refine s_iload (j := 5) dX10_ways_238 rfl ?_
          obtain ⟨r9, hv10, h⟩ := bnd h
          refine s_callV (As := [vI x6, vI x12]) (rest := [vI x5, vI 8, vR (o + 13), vL x8]) (r := (some (vI r9))) (F' := F) dX10_ways_240 (clX10_199 (Nat.le_of_ble_eq_true rfl) (Nat.le_of_ble_eq_true rfl)) ho rfl ⟨_, _, _, _, rfl, ho, hv10, rfl, rfl⟩ rfl (Nat.le_of_ble_eq_true rfl) ?_
          refine s_iadd dX10_ways_243 ?_
          refine s_imul dX10_ways_244 ?_
          refine s_iload (j := 5) dX10_ways_245 rfl ?_
          refine s_iadd dX10_ways_247 ?_
          obtain ⟨hb11, h⟩ := gd h
          refine s_laload dX10_ways_248 (trX10_46 ho) hb11.1 hb11.2 ?_
          refine s_goto (tgt := 253) dX10_ways_249 rfl ?_
          refine s_ladd dX10_ways_253 ?_
          refine s_lstore (ls' := [(8, vL (xwl (x8 + (F (o + 13) (xw ((xw (8 * (xw (x5 + r9)))) + x12)).toNat)))), (0, vR o), (5, vI x5), (6, vI x6), (7, vI x7), (12, vI x12)]) dX10_ways_254 (Nat.le_of_ble_eq_true rfl) rfl ?_
          refine s_iinc (j := 5) dX10_ways_256 rfl (Nat.le_of_ble_eq_true rfl) rfl ?_
          refine s_goto (tgt := 190) dX10_ways_259 rfl ?_
          exact s_sub (ks := [2, 3, 4, 5, 1, 0]) rfl (ih o x5 x6 x7 (xwl (x8 + (F (o + 13) (xw ((xw (8 * (xw (x5 + r9)))) + x12)).toNat))) (xw (x12 + 1)) F _ ho h hq)
theorem fX10_ways_b164_ok {Qr : Option PV → Mem → Prop}  (k23 : Nat → Int → Mem → Option (Int × Mem)) (k31 : Nat → Int → Int → Mem → Option (Int × Mem)) (hk23 : ∀ (o : Nat) (x5 : Int) (F : Mem) (res : (Int × Mem)) (ho : isK o 10), k23 o x5 F = some res → Qr (some (vL res.1)) res.2 → PR cX10_ways (zX10_ways Qr) 23 [(0, vR o), (5, vI x5)] [] F) (hk31 : ∀ (o : Nat) (x5 : Int) (x6 : Int) (F : Mem) (res : (Int × Mem)) (ho : isK o 10), k31 o x5 x6 F = some res → Qr (some (vL res.1)) res.2 → PR cX10_ways (zX10_ways Qr) 31 [(0, vR o), (5, vI x5), (6, vI x6)] [] F) : ∀ (o : Nat) (x5 : Int) (x6 : Int) (x7 : Int) (s0 : Int) (F : Mem) (res : (Int × Mem)) (ho : isK o 10), fX10_ways_b164 k23 k31 o x5 x6 x7 s0 F = some res → Qr (some (vL res.1)) res.2 → PR cX10_ways (zX10_ways Qr) 164 [(0, vR o), (5, vI x5), (6, vI x6), (7, vI x7)] [vI s0] F := by
  intro o x5 x6 x7 s0 F res ho h hq
  refine s_istore (ls' := [(11, vI s0), (0, vR o), (5, vI x5), (6, vI x6), (7, vI x7)]) dX10_ways_164 (Nat.le_of_ble_eq_true rfl) rfl ?_
  refine s_iload (j := 0) dX10_ways_166 rfl ?_
  refine s_if_eq (tgt := 184) dX10_ways_168 rfl (fun hc1 => ?_) (fun hc1 => ?_)
  · have h := ifp hc1 h
    refine s_lconst (z := 0) dX10_ways_184 rfl (cin64 rfl) ?_
    refine s_lstore (ls' := [(8, vL 0), (11, vI s0), (0, vR o), (5, vI x5), (6, vI x6), (7, vI x7)]) dX10_ways_185 (Nat.le_of_ble_eq_true rfl) rfl ?_
    refine s_iconst dX10_ways_187 (cin rfl) ?_
    refine s_istore dX10_ways_188 (Nat.le_of_ble_eq_true rfl) rfl ?_
    exact s_sub (ks := [3, 4, 5, 6, 1, 0]) rfl (fX10_ways_b190_ok k23 k31 hk23 hk31 FU o x5 x6 x7 0 0 F _ ho h hq)
  · have h := ifn hc1 h
    refine s_aload_n (j := 1) dX10_ways_171 rfl rfl ?_
    refine s_getR dX10_ways_172 flX10_61 ho ?_
    refine s_iload (j := 4) dX10_ways_175 rfl ?_
    refine s_bipush dX10_ways_177 rfl (cin rfl) ?_
    refine s_iadd dX10_ways_179 ?_
    obtain ⟨hb2, h⟩ := gd h
    refine s_laload dX10_ways_180 (trX10_46 ho) hb2.1 hb2.2 ?_
    refine s_goto (tgt := 185) dX10_ways_181 rfl ?_
    refine s_lstore (ls' := [(8, vL (F (o + 13) (xw (x7 + 8)).toNat)), (11, vI s0), (0, vR o), (5, vI x5), (6, vI x6), (7, vI x7)]) dX10_ways_185 (Nat.le_of_ble_eq_true rfl) rfl ?_
    refine s_iconst dX10_ways_187 (cin rfl) ?_
    refine s_istore dX10_ways_188 (Nat.le_of_ble_eq_true rfl) rfl ?_
    exact s_sub (ks := [3, 4, 5, 6, 1, 0]) rfl (fX10_ways_b190_ok k23 k31 hk23 hk31 FU o x5 x6 x7 (F (o + 13) (xw (x7 + 8)).toNat) 0 F _ ho h hq)
theorem fX10_ways_b97_ok {Qr : Option PV → Mem → Prop}  (k23 : Nat → Int → Mem → Option (Int × Mem)) (k31 : Nat → Int → Int → Mem → Option (Int × Mem)) (hk23 : ∀ (o : Nat) (x5 : Int) (F : Mem) (res : (Int × Mem)) (ho : isK o 10), k23 o x5 F = some res → Qr (some (vL res.1)) res.2 → PR cX10_ways (zX10_ways Qr) 23 [(0, vR o), (5, vI x5)] [] F) (hk31 : ∀ (o : Nat) (x5 : Int) (x6 : Int) (F : Mem) (res : (Int × Mem)) (ho : isK o 10), k31 o x5 x6 F = some res → Qr (some (vL res.1)) res.2 → PR cX10_ways (zX10_ways Qr) 31 [(0, vR o), (5, vI x5), (6, vI x6)] [] F) : ∀ (o : Nat) (x5 : Int) (x6 : Int) (x7 : Int) (F : Mem) (res : (Int × Mem)) (ho : isK o 10), fX10_ways_b97 k23 k31 o x5 x6 x7 F = some res → Qr (some (vL res.1)) res.2 → PR cX10_ways (zX10_ways Qr) 97 [(0, vR o), (5, vI x5), (6, vI x6), (7, vI x7)] [] F := by
  intro o x5 x6 x7 F res ho h hq
  refine s_aload_n (j := 0) dX10_ways_97 rfl rfl ?_
  refine s_getR dX10_ways_98 flX10_45 ho ?_
  refine s_iload (j := 3) dX10_ways_101 rfl ?_
  refine s_bipush dX10_ways_103 rfl (cin rfl) ?_
  refine s_iadd dX10_ways_105 ?_
  obtain ⟨hb1, h⟩ := gd h
  refine s_iaload dX10_ways_106 (trX10_24 ho) hb1.1 hb1.2 ?_
  refine s_if_lt (tgt := 163) dX10_ways_107 rfl (fun hc2 => ?_) (fun hc2 => ?_)
  · have h := ifp hc2 h
    refine s_iconst dX10_ways_163 (cin rfl) ?_
    exact s_sub (ks := [0, 1, 2, 3]) rfl (fX10_ways_b164_ok k23 k31 hk23 hk31 o x5 x6 x7 0 F _ ho h hq)
  · have h := ifn hc2 h
    refine s_aload_n (j := 0) dX10_ways_110 rfl rfl ?_
    refine s_getR dX10_ways_111 flX10_45 ho ?_
    refine s_iload (j := 3) dX10_ways_114 rfl ?_
    refine s_bipush dX10_ways_116 rfl (cin rfl) ?_
    refine s_iadd dX10_ways_118 ?_
    obtain ⟨hb3, h⟩ := gd h
    refine s_iaload dX10_ways_119 (trX10_24 ho) hb3.1 hb3.2 ?_
    refine s_aload_n (j := 0) dX10_ways_120 rfl rfl ?_
    refine s_iload (j := 2) dX10_ways_121 rfl ?_
    refine s_iload (j := 1) dX10_ways_123 rfl ?_
    obtain ⟨r4, hv5, h⟩ := bnd h
    refine s_callV (As := [vI x6, vI x5]) (rest := [vI (F (o + 10) (xw (x7 + 8)).toNat)]) (r := (some (vI r4))) (F' := F) dX10_ways_125 (clX10_319 (Nat.le_of_ble_eq_true rfl) (Nat.le_of_ble_eq_true rfl)) ho rfl ⟨_, _, _, _, rfl, ho, hv5, rfl, rfl⟩ rfl (Nat.le_of_ble_eq_true rfl) ?_
    refine s_iadd dX10_ways_128 ?_
    refine s_aload_n (j := 0) dX10_ways_129 rfl rfl ?_
    refine s_getR dX10_ways_130 flX10_45 ho ?_
    refine s_iload (j := 3) dX10_ways_133 rfl ?_
    obtain ⟨hb6, h⟩ := gd h
    refine s_iaload dX10_ways_135 (trX10_24 ho) hb6.1 hb6.2 ?_
    refine s_icmp_ne (tgt := 163) dX10_ways_136 rfl (fun hc7 => ?_) (fun hc7 => ?_)
    · have h := ifp hc7 h
      refine s_iconst dX10_ways_163 (cin rfl) ?_
      exact s_sub (ks := [0, 1, 2, 3]) rfl (fX10_ways_b164_ok k23 k31 hk23 hk31 o x5 x6 x7 0 F _ ho h hq)
    · have h := ifn hc7 h
      refine s_aload_n (j := 0) dX10_ways_139 rfl rfl ?_
      refine s_getR dX10_ways_140 flX10_48 ho ?_
      refine s_iload (j := 3) dX10_ways_143 rfl ?_
      refine s_bipush dX10_ways_145 rfl (cin rfl) ?_
      refine s_iadd dX10_ways_147 ?_
      obtain ⟨hb8, h⟩ := gd h
      refine s_iaload dX10_ways_148 (trX10_25 ho) hb8.1 hb8.2 ?_
      refine s_aload_n (j := 0) dX10_ways_149 rfl rfl ?_
      refine s_getR dX10_ways_150 flX10_48 ho ?_
      refine s_iload (j := 3) dX10_ways_153 rfl ?_
      obtain ⟨hb9, h⟩ := gd h
      refine s_iaload dX10_ways_155 (trX10_25 ho) hb9.1 hb9.2 ?_
      refine s_icmp_ne (tgt := 163) dX10_ways_156 rfl (fun hc10 => ?_) (fun hc10 => ?_)
      · have h := ifp hc10 h
        refine s_iconst dX10_ways_163 (cin rfl) ?_
        exact s_sub (ks := [0, 1, 2, 3]) rfl (fX10_ways_b164_ok k23 k31 hk23 hk31 o x5 x6 x7 0 F _ ho h hq)
      · have h := ifn hc10 h
        refine s_iconst dX10_ways_159 (cin rfl) ?_
        refine s_goto (tgt := 164) dX10_ways_160 rfl ?_
        exact s_sub (ks := [0, 1, 2, 3]) rfl (fX10_ways_b164_ok k23 k31 hk23 hk31 o x5 x6 x7 1 F _ ho h hq)
theorem fX10_ways_b65_ok {Qr : Option PV → Mem → Prop}  (k23 : Nat → Int → Mem → Option (Int × Mem)) (k31 : Nat → Int → Int → Mem → Option (Int × Mem)) (hk23 : ∀ (o : Nat) (x5 : Int) (F : Mem) (res : (Int × Mem)) (ho : isK o 10), k23 o x5 F = some res → Qr (some (vL res.1)) res.2 → PR cX10_ways (zX10_ways Qr) 23 [(0, vR o), (5, vI x5)] [] F) (hk31 : ∀ (o : Nat) (x5 : Int) (x6 : Int) (F : Mem) (res : (Int × Mem)) (ho : isK o 10), k31 o x5 x6 F = some res → Qr (some (vL res.1)) res.2 → PR cX10_ways (zX10_ways Qr) 31 [(0, vR o), (5, vI x5), (6, vI x6)] [] F) : ∀ (o : Nat) (x5 : Int) (x6 : Int) (x7 : Int) (s0 : Int) (F : Mem) (res : (Int × Mem)) (ho : isK o 10), fX10_ways_b65 k23 k31 o x5 x6 x7 s0 F = some res → Qr (some (vL res.1)) res.2 → PR cX10_ways (zX10_ways Qr) 65 [(0, vR o), (5, vI x5), (6, vI x6), (7, vI x7)] [vL s0] F := by
  intro o x5 x6 x7 s0 F res ho h hq
  refine s_lstore (ls' := [(8, vL s0), (0, vR o), (5, vI x5), (6, vI x6), (7, vI x7)]) dX10_ways_65 (Nat.le_of_ble_eq_true rfl) rfl ?_
  refine s_iload (j := 2) dX10_ways_67 rfl ?_
  refine s_aload_n (j := 1) dX10_ways_69 rfl rfl ?_
  refine s_getI dX10_ways_70 flX10_315 ho ?_
  refine s_icmp_ge (tgt := 262) dX10_ways_73 rfl (fun hc1 => ?_) (fun hc1 => ?_)
  · have h := ifp hc1 h
    exact s_sub (ks := [1, 2, 3, 4, 0]) rfl (fX10_ways_b262_ok k23 k31 hk23 hk31 o x5 x6 x7 s0 F _ ho h hq)
  · have h := ifn hc1 h
    refine s_aload_n (j := 1) dX10_ways_76 rfl rfl ?_
    refine s_iload (j := 2) dX10_ways_77 rfl ?_
    obtain ⟨r2, hv3, h⟩ := bnd h
    refine s_callV (As := [vI x5]) (rest := []) (r := (some (vI r2))) (F' := F) dX10_ways_79 (clX10_312 (Nat.le_of_ble_eq_true rfl) (Nat.le_of_ble_eq_true rfl)) ho rfl ⟨_, _, _, rfl, ho, hv3, rfl, rfl⟩ rfl (Nat.le_of_ble_eq_true rfl) ?_
    refine s_istore (ls' := [(10, vI r2), (8, vL s0), (0, vR o), (5, vI x5), (6, vI x6), (7, vI x7)]) dX10_ways_82 (Nat.le_of_ble_eq_true rfl) rfl ?_
    refine s_iload (j := 0) dX10_ways_84 rfl ?_
    refine s_iconst dX10_ways_86 (cin rfl) ?_
    refine s_icmp_eq (tgt := 97) dX10_ways_87 rfl (fun hc4 => ?_) (fun hc4 => ?_)
    · have h := ifp hc4 h
      exact s_sub (ks := [2, 3, 4, 5]) rfl (fX10_ways_b97_ok k23 k31 hk23 hk31 o x5 x6 x7 F _ ho h hq)
    · have h := ifn hc4 h
      refine s_iload (j := 0) dX10_ways_90 rfl ?_
      refine s_iload (j := 4) dX10_ways_92 rfl ?_
      refine s_icmp_ne (tgt := 163) dX10_ways_94 rfl (fun hc5 => ?_) (fun hc5 => ?_)
      · have h := ifp hc5 h
        refine s_iconst dX10_ways_163 (cin rfl) ?_
        exact s_sub (ks := [2, 3, 4, 5]) rfl (fX10_ways_b164_ok k23 k31 hk23 hk31 o x5 x6 x7 0 F _ ho h hq)
      · have h := ifn hc5 h
        exact s_sub (ks := [2, 3, 4, 5]) rfl (fX10_ways_b97_ok k23 k31 hk23 hk31 o x5 x6 x7 F _ ho h hq)
theorem fX10_ways_b31_ok {Qr : Option PV → Mem → Prop}  (k23 : Nat → Int → Mem → Option (Int × Mem)) (hk23 : ∀ (o : Nat) (x5 : Int) (F : Mem) (res : (Int × Mem)) (ho : isK o 10), k23 o x5 F = some res → Qr (some (vL res.1)) res.2 → PR cX10_ways (zX10_ways Qr) 23 [(0, vR o), (5, vI x5)] [] F) : ∀ (n : Nat) (o : Nat) (x5 : Int) (x6 : Int) (F : Mem) (res : (Int × Mem)) (ho : isK o 10), fX10_ways_b31 k23 n o x5 x6 F = some res → Qr (some (vL res.1)) res.2 → PR cX10_ways (zX10_ways Qr) 31 [(0, vR o), (5, vI x5), (6, vI x6)] [] F := by
  intro n
  induction n with
  | zero => intro o x5 x6 F res ho h hq; exact nomatch (show (none : Option _) = some _ from h)
  | succ n ih =>
    intro o x5 x6 F res ho h hq
    refine s_iload (j := 2) dX10_ways_31 rfl ?_
    refine s_aload_n (j := 0) dX10_ways_33 rfl rfl ?_
    refine s_iconst dX10_ways_34 (cin rfl) ?_
    obtain ⟨r1, hv2, h⟩ := bnd h
    refine s_callV (As := [vI 5]) (rest := [vI x6]) (r := (some (vI r1))) (F' := F) dX10_ways_35 (clX10_181 (Nat.le_of_ble_eq_true rfl) (Nat.le_of_ble_eq_true rfl)) ho rfl ⟨_, _, _, rfl, ho, hv2, rfl, rfl⟩ rfl (Nat.le_of_ble_eq_true rfl) ?_
    refine s_icmp_ge (tgt := 292) dX10_ways_38 rfl (fun hc3 => ?_) (fun hc3 => ?_)
    · have h := ifp hc3 h
      refine s_iinc (ls' := [(5, vI (xw (x5 + (-1)))), (0, vR o), (6, vI x6)]) (j := 1) dX10_ways_292 rfl (Nat.le_of_ble_eq_true rfl) rfl ?_
      refine s_goto (tgt := 23) dX10_ways_295 rfl ?_
      exact s_sub (ks := [1, 0]) rfl (hk23 o (xw (x5 + (-1))) F _ ho h hq)
    · have h := ifn hc3 h
      refine s_bipush dX10_ways_41 rfl (cin rfl) ?_
      refine s_iload (j := 1) dX10_ways_43 rfl ?_
      refine s_imul dX10_ways_45 ?_
      refine s_iload (j := 2) dX10_ways_46 rfl ?_
      refine s_iadd dX10_ways_48 ?_
      refine s_istore (ls' := [(7, vI (xw ((xw (8 * x5)) + x6))), (0, vR o), (5, vI x5), (6, vI x6)]) dX10_ways_49 (Nat.le_of_ble_eq_true rfl) rfl ?_
      refine s_iload (j := 2) dX10_ways_51 rfl ?_
      refine s_aload_n (j := 1) dX10_ways_53 rfl rfl ?_
      refine s_getI dX10_ways_54 flX10_315 ho ?_
      refine s_icmp_ne (tgt := 64) dX10_ways_57 rfl (fun hc4 => ?_) (fun hc4 => ?_)
      · have h := ifp hc4 h
        refine s_lconst (z := 0) dX10_ways_64 rfl (cin64 rfl) ?_
        exact s_sub (ks := [1, 2, 3, 0]) rfl (fX10_ways_b65_ok k23 (fX10_ways_b31 k23 n) hk23 ih o x5 x6 (xw ((xw (8 * x5)) + x6)) 0 F _ ho h hq)
      · have h := ifn hc4 h
        refine s_lconst (z := 1) dX10_ways_60 rfl (cin64 rfl) ?_
        refine s_goto (tgt := 65) dX10_ways_61 rfl ?_
        exact s_sub (ks := [1, 2, 3, 0]) rfl (fX10_ways_b65_ok k23 (fX10_ways_b31 k23 n) hk23 ih o x5 x6 (xw ((xw (8 * x5)) + x6)) 1 F _ ho h hq)
theorem fX10_ways_b23_ok {Qr : Option PV → Mem → Prop}  : ∀ (n : Nat) (o : Nat) (x5 : Int) (F : Mem) (res : (Int × Mem)) (ho : isK o 10), fX10_ways_b23 n o x5 F = some res → Qr (some (vL res.1)) res.2 → PR cX10_ways (zX10_ways Qr) 23 [(0, vR o), (5, vI x5)] [] F := by
  intro n
  induction n with
  | zero => intro o x5 F res ho h hq; exact nomatch (show (none : Option _) = some _ from h)
  | succ n ih =>
    intro o x5 F res ho h hq
    refine s_iload (j := 1) dX10_ways_23 rfl ?_
    refine s_if_lt (tgt := 298) dX10_ways_25 rfl (fun hc1 => ?_) (fun hc1 => ?_)
    · have h := ifp hc1 h
      refine s_aload_n (j := 0) dX10_ways_298 rfl rfl ?_
      refine s_getR dX10_ways_299 flX10_61 ho ?_
      refine s_aload_n (j := 0) dX10_ways_302 rfl rfl ?_
      refine s_iconst dX10_ways_303 (cin rfl) ?_
      obtain ⟨r2, hv3, h⟩ := bnd h
      refine s_callV (As := [vI 4]) (rest := [vR (o + 13)]) (r := (some (vI r2))) (F' := F) dX10_ways_304 (clX10_181 (Nat.le_of_ble_eq_true rfl) (Nat.le_of_ble_eq_true rfl)) ho rfl ⟨_, _, _, rfl, ho, hv3, rfl, rfl⟩ rfl (Nat.le_of_ble_eq_true rfl) ?_
      obtain ⟨hb4, h⟩ := gd h
      refine s_laload dX10_ways_307 (trX10_46 ho) hb4.1 hb4.2 ?_
      have h := Option.some.inj h
      subst h
      exact s_lreturn dX10_ways_308 rfl hq
    · have h := ifn hc1 h
      refine s_iconst dX10_ways_28 (cin rfl) ?_
      refine s_istore (ls' := [(6, vI 0), (0, vR o), (5, vI x5)]) dX10_ways_29 (Nat.le_of_ble_eq_true rfl) rfl ?_
      exact s_sub (ks := [1, 2, 0]) rfl (fX10_ways_b31_ok (fX10_ways_b23 n) ih FU o x5 0 F _ ho h hq)
theorem fX10_ways_ok {Qr : Option PV → Mem → Prop} : ∀ (o : Nat) (x1 : Int) (x2 : Int) (x3 : Int) (x4 : Int) (F : Mem) (res : (Int × Mem)) (ho : isK o 10), fX10_ways o x1 x2 x3 x4 F = some res → Qr (some (vL res.1)) res.2 → PR cX10_ways (zX10_ways Qr) 0 [(0, vR o), (1, vI x1), (2, vI x2), (3, vI x3), (4, vI x4)] [] F := by
  intro o x1 x2 x3 x4 F res ho h hq
  refine s_aload_n (j := 0) dX10_ways_0 rfl rfl ?_
  refine s_iload_n (j := 1) dX10_ways_1 rfl rfl ?_
  refine s_iload_n (j := 2) dX10_ways_2 rfl rfl ?_
  refine s_iload_n (j := 3) dX10_ways_3 rfl rfl ?_
  refine s_iload (j := 4) dX10_ways_4 rfl ?_
  refine s_iconst dX10_ways_6 (cin rfl) ?_
  obtain ⟨q1, hv2, h⟩ := bnd h
  refine s_callV (As := [vI x1, vI x2, vI x3, vI x4, vI 1]) (rest := []) (r := (some (vI q1.1))) (F' := q1.2) dX10_ways_7 (clX10_355 (Nat.le_of_ble_eq_true rfl) (Nat.le_of_ble_eq_true rfl)) ho rfl ⟨_, _, _, _, _, _, _, rfl, ho, hv2, rfl, rfl⟩ rfl (Nat.le_of_ble_eq_true rfl) ?_
  refine s_if_ne (tgt := 17) dX10_ways_10 rfl (fun hc3 => ?_) (fun hc3 => ?_)
  · have h := ifp hc3 h
    refine s_aload_n (j := 0) dX10_ways_17 rfl rfl ?_
    refine s_getI dX10_ways_18 flX10_315 ho ?_
    refine s_istore (ls' := [(5, vI (q1.2 o 27)), (0, vR o), (1, vI x1), (2, vI x2), (3, vI x3), (4, vI x4)]) dX10_ways_21 (Nat.le_of_ble_eq_true rfl) rfl ?_
    exact s_sub (ks := [1, 0]) rfl (fX10_ways_b23_ok FU o (q1.2 o 27) q1.2 _ ho h hq)
  · have h := ifn hc3 h
    refine s_ldc2 dX10_ways_13 kcX10_429 (cin64 rfl) ?_
    have h := Option.some.inj h
    subst h
    exact s_lreturn dX10_ways_16 rfl hq
def gX10_ways : XG := fun As F r F' => ∃ o : Nat, ∃ x1 : Int, ∃ x2 : Int, ∃ x3 : Int, ∃ x4 : Int, ∃ res : (Int × Mem), As = [vR o, vI x1, vI x2, vI x3, vI x4] ∧ isK o 10 ∧ fX10_ways o x1 x2 x3 x4 F = some res ∧ r = some (vL res.1) ∧ F' = res.2
theorem ctX10_ways : xCT yX10_ways cX10_ways 13 (some FieldType.long) 7 159 gX10_ways := xmet (by decide +kernel) (fun As F r F' hg => by obtain ⟨o, x1, x2, x3, x4, res, rfl, ho, h, rfl, rfl⟩ := hg; exact Nat.le_of_ble_eq_true rfl) (fun As F r F' hg => by obtain ⟨o, x1, x2, x3, x4, res, rfl, ho, h, rfl, rfl⟩ := hg; exact fX10_ways_ok o x1 x2 x3 x4 _ _ ho h ⟨rfl, rfl⟩)
theorem mcX10_ways : Cond.code yX10_ways cX10_ways 13 (some FieldType.long) ∈ xw_T ∧ Cond.initialized yX10_ways.cls ∈ xw_T ∧ Cond.instanceMethod yX10_ways ∈ xw_T ∧ Cond.selects yX10_ways.cls yX10_ways yX10_ways ∈ xw_T := ⟨(xinT 1930 (by decide +kernel) (by decide +kernel)), (xinT 127 (by decide +kernel) (by decide +kernel)), (xinT 1928 (by decide +kernel) (by decide +kernel)), (xinT 1929 (by decide +kernel) (by decide +kernel))⟩
theorem dX10_buys_0 : decode cX10_buys 0 = .ok (.iload 6, 2) := by decide +kernel
theorem dX10_buys_2 : decode cX10_buys 2 = .ok (.bipush (-2), 2) := by decide +kernel
theorem dX10_buys_4 : decode cX10_buys 4 = .ok (.if_icmp .lt 25, 3) := by decide +kernel
theorem dX10_buys_7 : decode cX10_buys 7 = .ok (.aload_n 0, 1) := by decide +kernel
theorem dX10_buys_8 : decode cX10_buys 8 = .ok (.iload_n 1, 1) := by decide +kernel
theorem dX10_buys_9 : decode cX10_buys 9 = .ok (.iload_n 2, 1) := by decide +kernel
theorem dX10_buys_10 : decode cX10_buys 10 = .ok (.iload_n 3, 1) := by decide +kernel
theorem dX10_buys_11 : decode cX10_buys 11 = .ok (.iload 4, 2) := by decide +kernel
theorem dX10_buys_13 : decode cX10_buys 13 = .ok (.iconst 1, 1) := by decide +kernel
theorem dX10_buys_14 : decode cX10_buys 14 = .ok (.invokevirtual 355, 3) := by decide +kernel
theorem dX10_buys_17 : decode cX10_buys 17 = .ok (.ifCond .eq 12, 3) := by decide +kernel
theorem dX10_buys_20 : decode cX10_buys 20 = .ok (.aload_n 0, 1) := by decide +kernel
theorem dX10_buys_21 : decode cX10_buys 21 = .ok (.iload 5, 2) := by decide +kernel
theorem dX10_buys_23 : decode cX10_buys 23 = .ok (.invokevirtual 189, 3) := by decide +kernel
theorem dX10_buys_26 : decode cX10_buys 26 = .ok (.ifCond .ne 6, 3) := by decide +kernel
theorem dX10_buys_29 : decode cX10_buys 29 = .ok (.bipush (-2), 2) := by decide +kernel
theorem dX10_buys_31 : decode cX10_buys 31 = .ok (.ireturn, 1) := by decide +kernel
theorem dX10_buys_32 : decode cX10_buys 32 = .ok (.iconst 0, 1) := by decide +kernel
theorem dX10_buys_33 : decode cX10_buys 33 = .ok (.istore 7, 2) := by decide +kernel
theorem dX10_buys_35 : decode cX10_buys 35 = .ok (.aload_n 0, 1) := by decide +kernel
theorem dX10_buys_36 : decode cX10_buys 36 = .ok (.invokevirtual 352, 3) := by decide +kernel
theorem dX10_buys_39 : decode cX10_buys 39 = .ok (.istore 8, 2) := by decide +kernel
theorem dX10_buys_41 : decode cX10_buys 41 = .ok (.iconst 0, 1) := by decide +kernel
theorem dX10_buys_42 : decode cX10_buys 42 = .ok (.istore 9, 2) := by decide +kernel
theorem dX10_buys_44 : decode cX10_buys 44 = .ok (.iload 9, 2) := by decide +kernel
theorem dX10_buys_46 : decode cX10_buys 46 = .ok (.iconst (-1), 1) := by decide +kernel
theorem dX10_buys_47 : decode cX10_buys 47 = .ok (.if_icmp .eq 168, 3) := by decide +kernel
theorem dX10_buys_50 : decode cX10_buys 50 = .ok (.iconst (-1), 1) := by decide +kernel
theorem dX10_buys_51 : decode cX10_buys 51 = .ok (.istore 9, 2) := by decide +kernel
theorem dX10_buys_53 : decode cX10_buys 53 = .ok (.iload 8, 2) := by decide +kernel
theorem dX10_buys_55 : decode cX10_buys 55 = .ok (.istore 10, 2) := by decide +kernel
theorem dX10_buys_57 : decode cX10_buys 57 = .ok (.iconst 0, 1) := by decide +kernel
theorem dX10_buys_58 : decode cX10_buys 58 = .ok (.istore 11, 2) := by decide +kernel
theorem dX10_buys_60 : decode cX10_buys 60 = .ok (.iload 11, 2) := by decide +kernel
theorem dX10_buys_62 : decode cX10_buys 62 = .ok (.aload_n 0, 1) := by decide +kernel
theorem dX10_buys_63 : decode cX10_buys 63 = .ok (.iconst 0, 1) := by decide +kernel
theorem dX10_buys_64 : decode cX10_buys 64 = .ok (.invokevirtual 181, 3) := by decide +kernel
theorem dX10_buys_67 : decode cX10_buys 67 = .ok (.if_icmp .ge 103, 3) := by decide +kernel
theorem dX10_buys_70 : decode cX10_buys 70 = .ok (.aload_n 0, 1) := by decide +kernel
theorem dX10_buys_71 : decode cX10_buys 71 = .ok (.getfield 33, 3) := by decide +kernel
theorem dX10_buys_74 : decode cX10_buys 74 = .ok (.bipush 48, 2) := by decide +kernel
theorem dX10_buys_76 : decode cX10_buys 76 = .ok (.aload_n 0, 1) := by decide +kernel
theorem dX10_buys_77 : decode cX10_buys 77 = .ok (.getfield 303, 3) := by decide +kernel
theorem dX10_buys_80 : decode cX10_buys 80 = .ok (.imul, 1) := by decide +kernel
theorem dX10_buys_81 : decode cX10_buys 81 = .ok (.iload 11, 2) := by decide +kernel
theorem dX10_buys_83 : decode cX10_buys 83 = .ok (.iadd, 1) := by decide +kernel
theorem dX10_buys_84 : decode cX10_buys 84 = .ok (.iaload, 1) := by decide +kernel
theorem dX10_buys_85 : decode cX10_buys 85 = .ok (.istore 12, 2) := by decide +kernel
theorem dX10_buys_87 : decode cX10_buys 87 = .ok (.iload 12, 2) := by decide +kernel
theorem dX10_buys_89 : decode cX10_buys 89 = .ok (.iconst (-1), 1) := by decide +kernel
theorem dX10_buys_90 : decode cX10_buys 90 = .ok (.if_icmp .eq 74, 3) := by decide +kernel
theorem dX10_buys_93 : decode cX10_buys 93 = .ok (.iload 12, 2) := by decide +kernel
theorem dX10_buys_95 : decode cX10_buys 95 = .ok (.iload 5, 2) := by decide +kernel
theorem dX10_buys_97 : decode cX10_buys 97 = .ok (.if_icmp .ne 6, 3) := by decide +kernel
theorem dX10_buys_100 : decode cX10_buys 100 = .ok (.goto 64, 3) := by decide +kernel
theorem dX10_buys_103 : decode cX10_buys 103 = .ok (.aload_n 0, 1) := by decide +kernel
theorem dX10_buys_104 : decode cX10_buys 104 = .ok (.getfield 33, 3) := by decide +kernel
theorem dX10_buys_107 : decode cX10_buys 107 = .ok (.bipush 48, 2) := by decide +kernel
theorem dX10_buys_109 : decode cX10_buys 109 = .ok (.aload_n 0, 1) := by decide +kernel
theorem dX10_buys_110 : decode cX10_buys 110 = .ok (.getfield 303, 3) := by decide +kernel
theorem dX10_buys_113 : decode cX10_buys 113 = .ok (.imul, 1) := by decide +kernel
theorem dX10_buys_114 : decode cX10_buys 114 = .ok (.iload 11, 2) := by decide +kernel
theorem dX10_buys_116 : decode cX10_buys 116 = .ok (.iadd, 1) := by decide +kernel
theorem dX10_buys_117 : decode cX10_buys 117 = .ok (.iload 5, 2) := by decide +kernel
theorem dX10_buys_119 : decode cX10_buys 119 = .ok (.iastore, 1) := by decide +kernel
theorem dX10_buys_120 : decode cX10_buys 120 = .ok (.aload_n 0, 1) := by decide +kernel
theorem dX10_buys_121 : decode cX10_buys 121 = .ok (.iconst 1, 1) := by decide +kernel
theorem dX10_buys_122 : decode cX10_buys 122 = .ok (.invokevirtual 349, 3) := by decide +kernel
theorem dX10_buys_125 : decode cX10_buys 125 = .ok (.aload_n 0, 1) := by decide +kernel
theorem dX10_buys_126 : decode cX10_buys 126 = .ok (.getfield 33, 3) := by decide +kernel
theorem dX10_buys_129 : decode cX10_buys 129 = .ok (.bipush 48, 2) := by decide +kernel
theorem dX10_buys_131 : decode cX10_buys 131 = .ok (.aload_n 0, 1) := by decide +kernel
theorem dX10_buys_132 : decode cX10_buys 132 = .ok (.getfield 303, 3) := by decide +kernel
theorem dX10_buys_135 : decode cX10_buys 135 = .ok (.imul, 1) := by decide +kernel
theorem dX10_buys_136 : decode cX10_buys 136 = .ok (.iload 11, 2) := by decide +kernel
theorem dX10_buys_138 : decode cX10_buys 138 = .ok (.iadd, 1) := by decide +kernel
theorem dX10_buys_139 : decode cX10_buys 139 = .ok (.iload 12, 2) := by decide +kernel
theorem dX10_buys_141 : decode cX10_buys 141 = .ok (.iastore, 1) := by decide +kernel
theorem dX10_buys_142 : decode cX10_buys 142 = .ok (.aload_n 0, 1) := by decide +kernel
theorem dX10_buys_143 : decode cX10_buys 143 = .ok (.invokevirtual 352, 3) := by decide +kernel
theorem dX10_buys_146 : decode cX10_buys 146 = .ok (.iload 10, 2) := by decide +kernel
theorem dX10_buys_148 : decode cX10_buys 148 = .ok (.if_icmp .gt 6, 3) := by decide +kernel
theorem dX10_buys_151 : decode cX10_buys 151 = .ok (.goto 13, 3) := by decide +kernel
theorem dX10_buys_154 : decode cX10_buys 154 = .ok (.iload 11, 2) := by decide +kernel
theorem dX10_buys_156 : decode cX10_buys 156 = .ok (.istore 9, 2) := by decide +kernel
theorem dX10_buys_158 : decode cX10_buys 158 = .ok (.aload_n 0, 1) := by decide +kernel
theorem dX10_buys_159 : decode cX10_buys 159 = .ok (.invokevirtual 352, 3) := by decide +kernel
theorem dX10_buys_162 : decode cX10_buys 162 = .ok (.istore 10, 2) := by decide +kernel
theorem dX10_buys_164 : decode cX10_buys 164 = .ok (.iinc 11 1, 3) := by decide +kernel
theorem dX10_buys_167 : decode cX10_buys 167 = .ok (.goto (-107), 3) := by decide +kernel
theorem dX10_buys_170 : decode cX10_buys 170 = .ok (.iload 9, 2) := by decide +kernel
theorem dX10_buys_172 : decode cX10_buys 172 = .ok (.iconst (-1), 1) := by decide +kernel
theorem dX10_buys_173 : decode cX10_buys 173 = .ok (.if_icmp .ne 6, 3) := by decide +kernel
theorem dX10_buys_176 : decode cX10_buys 176 = .ok (.goto (-132), 3) := by decide +kernel
theorem dX10_buys_179 : decode cX10_buys 179 = .ok (.aload_n 0, 1) := by decide +kernel
theorem dX10_buys_180 : decode cX10_buys 180 = .ok (.getfield 33, 3) := by decide +kernel
theorem dX10_buys_183 : decode cX10_buys 183 = .ok (.bipush 48, 2) := by decide +kernel
theorem dX10_buys_185 : decode cX10_buys 185 = .ok (.aload_n 0, 1) := by decide +kernel
theorem dX10_buys_186 : decode cX10_buys 186 = .ok (.getfield 303, 3) := by decide +kernel
theorem dX10_buys_189 : decode cX10_buys 189 = .ok (.imul, 1) := by decide +kernel
theorem dX10_buys_190 : decode cX10_buys 190 = .ok (.iload 9, 2) := by decide +kernel
theorem dX10_buys_192 : decode cX10_buys 192 = .ok (.iadd, 1) := by decide +kernel
theorem dX10_buys_193 : decode cX10_buys 193 = .ok (.iload 5, 2) := by decide +kernel
theorem dX10_buys_195 : decode cX10_buys 195 = .ok (.iastore, 1) := by decide +kernel
theorem dX10_buys_196 : decode cX10_buys 196 = .ok (.aload_n 0, 1) := by decide +kernel
theorem dX10_buys_197 : decode cX10_buys 197 = .ok (.getfield 65, 3) := by decide +kernel
theorem dX10_buys_200 : decode cX10_buys 200 = .ok (.iload 7, 2) := by decide +kernel
theorem dX10_buys_202 : decode cX10_buys 202 = .ok (.iload 9, 2) := by decide +kernel
theorem dX10_buys_204 : decode cX10_buys 204 = .ok (.iastore, 1) := by decide +kernel
theorem dX10_buys_205 : decode cX10_buys 205 = .ok (.iinc 7 1, 3) := by decide +kernel
theorem dX10_buys_208 : decode cX10_buys 208 = .ok (.iload 10, 2) := by decide +kernel
theorem dX10_buys_210 : decode cX10_buys 210 = .ok (.istore 8, 2) := by decide +kernel
theorem dX10_buys_212 : decode cX10_buys 212 = .ok (.goto (-168), 3) := by decide +kernel
theorem dX10_buys_215 : decode cX10_buys 215 = .ok (.iload 6, 2) := by decide +kernel
theorem dX10_buys_217 : decode cX10_buys 217 = .ok (.iconst (-1), 1) := by decide +kernel
theorem dX10_buys_218 : decode cX10_buys 218 = .ok (.if_icmp .ne 8, 3) := by decide +kernel
theorem dX10_buys_221 : decode cX10_buys 221 = .ok (.iload 7, 2) := by decide +kernel
theorem dX10_buys_223 : decode cX10_buys 223 = .ok (.goto 34, 3) := by decide +kernel
theorem dX10_buys_226 : decode cX10_buys 226 = .ok (.iload 6, 2) := by decide +kernel
theorem dX10_buys_228 : decode cX10_buys 228 = .ok (.bipush (-2), 2) := by decide +kernel
theorem dX10_buys_230 : decode cX10_buys 230 = .ok (.if_icmp .ne 8, 3) := by decide +kernel
theorem dX10_buys_233 : decode cX10_buys 233 = .ok (.iload 8, 2) := by decide +kernel
theorem dX10_buys_235 : decode cX10_buys 235 = .ok (.goto 22, 3) := by decide +kernel
theorem dX10_buys_238 : decode cX10_buys 238 = .ok (.iload 6, 2) := by decide +kernel
theorem dX10_buys_240 : decode cX10_buys 240 = .ok (.iload 7, 2) := by decide +kernel
theorem dX10_buys_242 : decode cX10_buys 242 = .ok (.if_icmp .ge 13, 3) := by decide +kernel
theorem dX10_buys_245 : decode cX10_buys 245 = .ok (.aload_n 0, 1) := by decide +kernel
theorem dX10_buys_246 : decode cX10_buys 246 = .ok (.getfield 65, 3) := by decide +kernel
theorem dX10_buys_249 : decode cX10_buys 249 = .ok (.iload 6, 2) := by decide +kernel
theorem dX10_buys_251 : decode cX10_buys 251 = .ok (.iaload, 1) := by decide +kernel
theorem dX10_buys_252 : decode cX10_buys 252 = .ok (.goto 5, 3) := by decide +kernel
theorem dX10_buys_255 : decode cX10_buys 255 = .ok (.bipush (-2), 2) := by decide +kernel
theorem dX10_buys_257 : decode cX10_buys 257 = .ok (.ireturn, 1) := by decide +kernel
def zX10_buys (Qr : Option PV → Mem → Prop) : XZ := (RX10, 7, 159, 13, some FieldType.int, Qr)
noncomputable def fX10_buys_b60 (k44 : Nat → Int → Int → Int → Int → Int → Mem → Option (Int × Mem)) : Nat → Nat → Int → Int → Int → Int → Int → Int → Int → Mem → Option (Int × Mem)
  | 0, _, _, _, _, _, _, _, _, _ => none
  | n + 1, o, x5, x6, x7, x8, x9, x10, x11, F =>
    (fX10_of o 0 F).bind fun r1 =>
    if r1 ≤ x11 then
      if x9 ≠ (-1) then
        if (0 : Int) ≤ (xw ((xw (48 * (F o 26))) + x9)) ∧ (xw ((xw (48 * (F o 26))) + x9)) < (alen (o + 6) : Int) then
          if (0 : Int) ≤ x7 ∧ x7 < (alen (o + 14) : Int) then
            k44 o x5 x6 (xw (x7 + 1)) x10 x9 (mset (mset F (o + 6) (xw ((xw (48 * (F o 26))) + x9)).toNat x5) (o + 14) x7.toNat x9)
          else none
        else none
      else
        k44 o x5 x6 x7 x8 x9 F
    else
      if (0 : Int) ≤ (xw ((xw (48 * (F o 26))) + x11)) ∧ (xw ((xw (48 * (F o 26))) + x11)) < (alen (o + 6) : Int) then
        if (F (o + 6) (xw ((xw (48 * (F o 26))) + x11)).toNat) = (-1) then
          fX10_buys_b60 k44 n o x5 x6 x7 x8 x9 x10 (xw (x11 + 1)) F
        else
          if (F (o + 6) (xw ((xw (48 * (F o 26))) + x11)).toNat) ≠ x5 then
            if (0 : Int) ≤ (xw ((xw (48 * (F o 26))) + x11)) ∧ (xw ((xw (48 * (F o 26))) + x11)) < (alen (o + 6) : Int) then
              (fX10_solves o 1 (mset F (o + 6) (xw ((xw (48 * (F o 26))) + x11)).toNat x5)).bind fun q11 =>
              if (0 : Int) ≤ (xw ((xw (48 * (q11 o 26))) + x11)) ∧ (xw ((xw (48 * (q11 o 26))) + x11)) < (alen (o + 6) : Int) then
                (fX10_gain o (mset q11 (o + 6) (xw ((xw (48 * (q11 o 26))) + x11)).toNat (F (o + 6) (xw ((xw (48 * (F o 26))) + x11)).toNat))).bind fun r14 =>
                if x10 < r14 then
                  (fX10_gain o (mset q11 (o + 6) (xw ((xw (48 * (q11 o 26))) + x11)).toNat (F (o + 6) (xw ((xw (48 * (F o 26))) + x11)).toNat))).bind fun r17 =>
                  fX10_buys_b60 k44 n o x5 x6 x7 x8 x11 r17 (xw (x11 + 1)) (mset q11 (o + 6) (xw ((xw (48 * (q11 o 26))) + x11)).toNat (F (o + 6) (xw ((xw (48 * (F o 26))) + x11)).toNat))
                else
                  fX10_buys_b60 k44 n o x5 x6 x7 x8 x9 x10 (xw (x11 + 1)) (mset q11 (o + 6) (xw ((xw (48 * (q11 o 26))) + x11)).toNat (F (o + 6) (xw ((xw (48 * (F o 26))) + x11)).toNat))
              else none
            else none
          else
            fX10_buys_b60 k44 n o x5 x6 x7 x8 x9 x10 (xw (x11 + 1)) F
      else none
noncomputable def fX10_buys_b44 : Nat → Nat → Int → Int → Int → Int → Int → Mem → Option (Int × Mem)
  | 0, _, _, _, _, _, _, _ => none
  | n + 1, o, x5, x6, x7, x8, x9, F =>
    if x9 = (-1) then
      if x6 ≠ (-1) then
        if x6 ≠ (-2) then
          if x7 ≤ x6 then
            some ((-2), F)
          else
            if (0 : Int) ≤ x6 ∧ x6 < (alen (o + 14) : Int) then
              some (F (o + 14) x6.toNat, F)
            else none
        else
          some (x8, F)
      else
        some (x7, F)
    else
      fX10_buys_b60 (fX10_buys_b44 n) FU o x5 x6 x7 x8 (-1) x8 0 F
noncomputable def fX10_buys (o : Nat) (x1 : Int) (x2 : Int) (x3 : Int) (x4 : Int) (x5 : Int) (x6 : Int) (F : Mem) : Option (Int × Mem) :=
  if x6 < (-2) then
    some ((-2), F)
  else
    (fX10_isAsked o x1 x2 x3 x4 1 F).bind fun q2 =>
    if q2.1 = 0 then
      some ((-2), q2.2)
    else
      (fX10_isHouse o x5 q2.2).bind fun r5 =>
      if r5 ≠ 0 then
        (fX10_gain o q2.2).bind fun r8 =>
        fX10_buys_b44 FU o x5 x6 0 r8 0 q2.2
      else
        some ((-2), q2.2)
theorem fX10_buys_b60_ok {Qr : Option PV → Mem → Prop}  (k44 : Nat → Int → Int → Int → Int → Int → Mem → Option (Int × Mem)) (hk44 : ∀ (o : Nat) (x5 : Int) (x6 : Int) (x7 : Int) (x8 : Int) (x9 : Int) (F : Mem) (res : (Int × Mem)) (ho : isK o 10), k44 o x5 x6 x7 x8 x9 F = some res → Qr (some (vI res.1)) res.2 → PR cX10_buys (zX10_buys Qr) 44 [(0, vR o), (5, vI x5), (6, vI x6), (7, vI x7), (8, vI x8), (9, vI x9)] [] F) : ∀ (n : Nat) (o : Nat) (x5 : Int) (x6 : Int) (x7 : Int) (x8 : Int) (x9 : Int) (x10 : Int) (x11 : Int) (F : Mem) (res : (Int × Mem)) (ho : isK o 10), fX10_buys_b60 k44 n o x5 x6 x7 x8 x9 x10 x11 F = some res → Qr (some (vI res.1)) res.2 → PR cX10_buys (zX10_buys Qr) 60 [(0, vR o), (5, vI x5), (6, vI x6), (7, vI x7), (8, vI x8), (9, vI x9), (10, vI x10), (11, vI x11)] [] F := by
  intro n
  induction n with
  | zero => intro o x5 x6 x7 x8 x9 x10 x11 F res ho h hq; exact nomatch (show (none : Option _) = some _ from h)
  | succ n ih =>
    intro o x5 x6 x7 x8 x9 x10 x11 F res ho h hq
    refine s_iload (j := 7) dX10_buys_60 rfl ?_
    refine s_aload_n (j := 0) dX10_buys_62 rfl rfl ?_
    refine s_iconst dX10_buys_63 (cin rfl) ?_
    obtain ⟨r1, hv2, h⟩ := bnd h
    refine s_callV (As := [vI 0]) (rest := [vI x11]) (r := (some (vI r1))) (F' := F) dX10_buys_64 (clX10_181 (Nat.le_of_ble_eq_true rfl) (Nat.le_of_ble_eq_true rfl)) ho rfl ⟨_, _, _, rfl, ho, hv2, rfl, rfl⟩ rfl (Nat.le_of_ble_eq_true rfl) ?_
    refine s_icmp_ge (tgt := 170) dX10_buys_67 rfl (fun hc3 => ?_) (fun hc3 => ?_)
    · have h := ifp hc3 h
      refine s_iload (j := 5) dX10_buys_170 rfl ?_
      refine s_iconst dX10_buys_172 (cin rfl) ?_
      refine s_icmp_ne (tgt := 179) dX10_buys_173 rfl (fun hc4 => ?_) (fun hc4 => ?_)
      · have h := ifp hc4 h
        refine s_aload_n (j := 0) dX10_buys_179 rfl rfl ?_
        refine s_getR dX10_buys_180 flX10_33 ho ?_
        refine s_bipush dX10_buys_183 rfl (cin rfl) ?_
        refine s_aload_n (j := 0) dX10_buys_185 rfl rfl ?_
        refine s_getI dX10_buys_186 flX10_303 ho ?_
        refine s_imul dX10_buys_189 ?_
        refine s_iload (j := 5) dX10_buys_190 rfl ?_
        refine s_iadd dX10_buys_192 ?_
        refine s_iload (j := 1) dX10_buys_193 rfl ?_
        obtain ⟨hb5, h⟩ := gd h
        refine s_iastore dX10_buys_195 (trX10_18 ho) hb5.1 hb5.2 ?_
        refine s_aload_n (j := 0) dX10_buys_196 rfl rfl ?_
        refine s_getR dX10_buys_197 flX10_65 ho ?_
        refine s_iload (j := 3) dX10_buys_200 rfl ?_
        refine s_iload (j := 5) dX10_buys_202 rfl ?_
        obtain ⟨hb6, h⟩ := gd h
        refine s_iastore dX10_buys_204 (trX10_47 ho) hb6.1 hb6.2 ?_
        refine s_iinc (ls' := [(7, vI (xw (x7 + 1))), (0, vR o), (5, vI x5), (6, vI x6), (8, vI x8), (9, vI x9), (10, vI x10), (11, vI x11)]) (j := 3) dX10_buys_205 rfl (Nat.le_of_ble_eq_true rfl) rfl ?_
        refine s_iload (j := 6) dX10_buys_208 rfl ?_
        refine s_istore dX10_buys_210 (Nat.le_of_ble_eq_true rfl) rfl ?_
        refine s_goto (tgt := 44) dX10_buys_212 rfl ?_
        exact s_sub (ks := [2, 3, 4, 1, 0, 5]) rfl (hk44 o x5 x6 (xw (x7 + 1)) x10 x9 (mset (mset F (o + 6) (xw ((xw (48 * (F o 26))) + x9)).toNat x5) (o + 14) x7.toNat x9) _ ho h hq)
      · have h := ifn hc4 h
        refine s_goto (tgt := 44) dX10_buys_176 rfl ?_
        exact s_sub (ks := [0, 1, 2, 3, 4, 5]) rfl (hk44 o x5 x6 x7 x8 x9 F _ ho h hq)
    · have h := ifn hc3 h
      refine s_aload_n (j := 0) dX10_buys_70 rfl rfl ?_
      refine s_getR dX10_buys_71 flX10_33 ho ?_
      refine s_bipush dX10_buys_74 rfl (cin rfl) ?_
      refine s_aload_n (j := 0) dX10_buys_76 rfl rfl ?_
      refine s_getI dX10_buys_77 flX10_303 ho ?_
      refine s_imul dX10_buys_80 ?_
      refine s_iload (j := 7) dX10_buys_81 rfl ?_
      refine s_iadd dX10_buys_83 ?_
      obtain ⟨hb7, h⟩ := gd h
      refine s_iaload dX10_buys_84 (trX10_18 ho) hb7.1 hb7.2 ?_
      refine s_istore (ls' := [(12, vI (F (o + 6) (xw ((xw (48 * (F o 26))) + x11)).toNat)), (0, vR o), (5, vI x5), (6, vI x6), (7, vI x7), (8, vI x8), (9, vI x9), (10, vI x10), (11, vI x11)]) dX10_buys_85 (Nat.le_of_ble_eq_true rfl) rfl ?_
      refine s_iload (j := 0) dX10_buys_87 rfl ?_
      refine s_iconst dX10_buys_89 (cin rfl) ?_
      refine s_icmp_eq (tgt := 164) dX10_buys_90 rfl (fun hc8 => ?_) (fun hc8 => ?_)
      · have h := ifp hc8 h
        refine s_iinc (ls' := [(11, vI (xw (x11 + 1))), (12, vI (F (o + 6) (xw ((xw (48 * (F o 26))) + x11)).toNat)), (0, vR o), (5, vI x5), (6, vI x6), (7, vI x7), (8, vI x8), (9, vI x9), (10, vI x10)]) (j := 8) dX10_buys_164 rfl (Nat.le_of_ble_eq_true rfl) rfl ?_
        refine s_goto (tgt := 60) dX10_buys_167 rfl ?_
        exact s_sub (ks := [2, 3, 4, 5, 6, 7, 8, 0]) rfl (ih o x5 x6 x7 x8 x9 x10 (xw (x11 + 1)) F _ ho h hq)
      · have h := ifn hc8 h
        refine s_iload (j := 0) dX10_buys_93 rfl ?_
        refine s_iload (j := 2) dX10_buys_95 rfl ?_
        refine s_icmp_ne (tgt := 103) dX10_buys_97 rfl (fun hc9 => ?_) (fun hc9 => ?_)
        · have h := ifp hc9 h
          refine s_aload_n (j := 1) dX10_buys_103 rfl rfl ?_
          refine s_getR dX10_buys_104 flX10_33 ho ?_
          refine s_bipush dX10_buys_107 rfl (cin rfl) ?_
          refine s_aload_n (j := 1) dX10_buys_109 rfl rfl ?_
          refine s_getI dX10_buys_110 flX10_303 ho ?_
          refine s_imul dX10_buys_113 ?_
          refine s_iload (j := 8) dX10_buys_114 rfl ?_
          refine s_iadd dX10_buys_116 ?_
          refine s_iload (j := 2) dX10_buys_117 rfl ?_
          obtain ⟨hb10, h⟩ := gd h
          refine s_iastore dX10_buys_119 (trX10_18 ho) hb10.1 hb10.2 ?_
          refine s_aload_n (j := 1) dX10_buys_120 rfl rfl ?_
          refine s_iconst dX10_buys_121 (cin rfl) ?_
          obtain ⟨q11, hv12, h⟩ := bnd h
          refine s_callV (As := [vI 1]) (rest := []) (r := none) (F' := q11) dX10_buys_122 (clX10_349 (Nat.le_of_ble_eq_true rfl) (Nat.le_of_ble_eq_true rfl)) ho rfl ⟨_, _, _, rfl, ho, hv12, rfl, rfl⟩ rfl (Nat.le_of_ble_eq_true rfl) ?_
          refine s_aload_n (j := 1) dX10_buys_125 rfl rfl ?_
          refine s_getR dX10_buys_126 flX10_33 ho ?_
          refine s_bipush dX10_buys_129 rfl (cin rfl) ?_
          refine s_aload_n (j := 1) dX10_buys_131 rfl rfl ?_
          refine s_getI dX10_buys_132 flX10_303 ho ?_
          refine s_imul dX10_buys_135 ?_
          refine s_iload (j := 8) dX10_buys_136 rfl ?_
          refine s_iadd dX10_buys_138 ?_
          refine s_iload (j := 0) dX10_buys_139 rfl ?_
          obtain ⟨hb13, h⟩ := gd h
          refine s_iastore dX10_buys_141 (trX10_18 ho) hb13.1 hb13.2 ?_
          refine s_aload_n (j := 1) dX10_buys_142 rfl rfl ?_
          obtain ⟨r14, hv15, h⟩ := bnd h
          refine s_callV (As := []) (rest := []) (r := (some (vI r14))) (F' := mset q11 (o + 6) (xw ((xw (48 * (q11 o 26))) + x11)).toNat (F (o + 6) (xw ((xw (48 * (F o 26))) + x11)).toNat)) dX10_buys_143 (clX10_352 (Nat.le_of_ble_eq_true rfl) (Nat.le_of_ble_eq_true rfl)) ho rfl ⟨_, _, rfl, ho, hv15, rfl, rfl⟩ rfl (Nat.le_of_ble_eq_true rfl) ?_
          refine s_iload (j := 7) dX10_buys_146 rfl ?_
          refine s_icmp_gt (tgt := 154) dX10_buys_148 rfl (fun hc16 => ?_) (fun hc16 => ?_)
          · have h := ifp hc16 h
            refine s_iload (j := 8) dX10_buys_154 rfl ?_
            refine s_istore (ls' := [(9, vI x11), (12, vI (F (o + 6) (xw ((xw (48 * (F o 26))) + x11)).toNat)), (0, vR o), (5, vI x5), (6, vI x6), (7, vI x7), (8, vI x8), (10, vI x10), (11, vI x11)]) dX10_buys_156 (Nat.le_of_ble_eq_true rfl) rfl ?_
            refine s_aload_n (j := 2) dX10_buys_158 rfl rfl ?_
            obtain ⟨r17, hv18, h⟩ := bnd h
            refine s_callV (As := []) (rest := []) (r := (some (vI r17))) (F' := mset q11 (o + 6) (xw ((xw (48 * (q11 o 26))) + x11)).toNat (F (o + 6) (xw ((xw (48 * (F o 26))) + x11)).toNat)) dX10_buys_159 (clX10_352 (Nat.le_of_ble_eq_true rfl) (Nat.le_of_ble_eq_true rfl)) ho rfl ⟨_, _, rfl, ho, hv18, rfl, rfl⟩ rfl (Nat.le_of_ble_eq_true rfl) ?_
            refine s_istore dX10_buys_162 (Nat.le_of_ble_eq_true rfl) rfl ?_
            refine s_iinc (ls' := [(11, vI (xw (x11 + 1))), (10, vI r17), (9, vI x11), (12, vI (F (o + 6) (xw ((xw (48 * (F o 26))) + x11)).toNat)), (0, vR o), (5, vI x5), (6, vI x6), (7, vI x7), (8, vI x8)]) (j := 8) dX10_buys_164 rfl (Nat.le_of_ble_eq_true rfl) rfl ?_
            refine s_goto (tgt := 60) dX10_buys_167 rfl ?_
            exact s_sub (ks := [4, 5, 6, 7, 8, 2, 1, 0]) rfl (ih o x5 x6 x7 x8 x11 r17 (xw (x11 + 1)) (mset q11 (o + 6) (xw ((xw (48 * (q11 o 26))) + x11)).toNat (F (o + 6) (xw ((xw (48 * (F o 26))) + x11)).toNat)) _ ho h hq)
          · have h := ifn hc16 h
            refine s_goto (tgt := 164) dX10_buys_151 rfl ?_
            refine s_iinc (ls' := [(11, vI (xw (x11 + 1))), (12, vI (F (o + 6) (xw ((xw (48 * (F o 26))) + x11)).toNat)), (0, vR o), (5, vI x5), (6, vI x6), (7, vI x7), (8, vI x8), (9, vI x9), (10, vI x10)]) (j := 8) dX10_buys_164 rfl (Nat.le_of_ble_eq_true rfl) rfl ?_
            refine s_goto (tgt := 60) dX10_buys_167 rfl ?_
            exact s_sub (ks := [2, 3, 4, 5, 6, 7, 8, 0]) rfl (ih o x5 x6 x7 x8 x9 x10 (xw (x11 + 1)) (mset q11 (o + 6) (xw ((xw (48 * (q11 o 26))) + x11)).toNat (F (o + 6) (xw ((xw (48 * (F o 26))) + x11)).toNat)) _ ho h hq)
        · have h := ifn hc9 h
          refine s_goto (tgt := 164) dX10_buys_100 rfl ?_
          refine s_iinc (ls' := [(11, vI (xw (x11 + 1))), (12, vI (F (o + 6) (xw ((xw (48 * (F o 26))) + x11)).toNat)), (0, vR o), (5, vI x5), (6, vI x6), (7, vI x7), (8, vI x8), (9, vI x9), (10, vI x10)]) (j := 8) dX10_buys_164 rfl (Nat.le_of_ble_eq_true rfl) rfl ?_
          refine s_goto (tgt := 60) dX10_buys_167 rfl ?_
          exact s_sub (ks := [2, 3, 4, 5, 6, 7, 8, 0]) rfl (ih o x5 x6 x7 x8 x9 x10 (xw (x11 + 1)) F _ ho h hq)
theorem fX10_buys_b44_ok {Qr : Option PV → Mem → Prop}  : ∀ (n : Nat) (o : Nat) (x5 : Int) (x6 : Int) (x7 : Int) (x8 : Int) (x9 : Int) (F : Mem) (res : (Int × Mem)) (ho : isK o 10), fX10_buys_b44 n o x5 x6 x7 x8 x9 F = some res → Qr (some (vI res.1)) res.2 → PR cX10_buys (zX10_buys Qr) 44 [(0, vR o), (5, vI x5), (6, vI x6), (7, vI x7), (8, vI x8), (9, vI x9)] [] F := by
  intro n
  induction n with
  | zero => intro o x5 x6 x7 x8 x9 F res ho h hq; exact nomatch (show (none : Option _) = some _ from h)
  | succ n ih =>
    intro o x5 x6 x7 x8 x9 F res ho h hq
    refine s_iload (j := 5) dX10_buys_44 rfl ?_
    refine s_iconst dX10_buys_46 (cin rfl) ?_
    refine s_icmp_eq (tgt := 215) dX10_buys_47 rfl (fun hc1 => ?_) (fun hc1 => ?_)
    · have h := ifp hc1 h
      refine s_iload (j := 2) dX10_buys_215 rfl ?_
      refine s_iconst dX10_buys_217 (cin rfl) ?_
      refine s_icmp_ne (tgt := 226) dX10_buys_218 rfl (fun hc2 => ?_) (fun hc2 => ?_)
      · have h := ifp hc2 h
        refine s_iload (j := 2) dX10_buys_226 rfl ?_
        refine s_bipush dX10_buys_228 rfl (cin rfl) ?_
        refine s_icmp_ne (tgt := 238) dX10_buys_230 rfl (fun hc3 => ?_) (fun hc3 => ?_)
        · have h := ifp hc3 h
          refine s_iload (j := 2) dX10_buys_238 rfl ?_
          refine s_iload (j := 3) dX10_buys_240 rfl ?_
          refine s_icmp_ge (tgt := 255) dX10_buys_242 rfl (fun hc4 => ?_) (fun hc4 => ?_)
          · have h := ifp hc4 h
            refine s_bipush dX10_buys_255 rfl (cin rfl) ?_
            have h := Option.some.inj h
            subst h
            exact s_ireturn dX10_buys_257 rfl hq
          · have h := ifn hc4 h
            refine s_aload_n (j := 0) dX10_buys_245 rfl rfl ?_
            refine s_getR dX10_buys_246 flX10_65 ho ?_
            refine s_iload (j := 2) dX10_buys_249 rfl ?_
            obtain ⟨hb5, h⟩ := gd h
            refine s_iaload dX10_buys_251 (trX10_47 ho) hb5.1 hb5.2 ?_
            refine s_goto (tgt := 257) dX10_buys_252 rfl ?_
            have h := Option.some.inj h
            subst h
            exact s_ireturn dX10_buys_257 rfl hq
        · have h := ifn hc3 h
          refine s_iload (j := 4) dX10_buys_233 rfl ?_
          refine s_goto (tgt := 257) dX10_buys_235 rfl ?_
          have h := Option.some.inj h
          subst h
          exact s_ireturn dX10_buys_257 rfl hq
      · have h := ifn hc2 h
        refine s_iload (j := 3) dX10_buys_221 rfl ?_
        refine s_goto (tgt := 257) dX10_buys_223 rfl ?_
        have h := Option.some.inj h
        subst h
        exact s_ireturn dX10_buys_257 rfl hq
    · have h := ifn hc1 h
      refine s_iconst dX10_buys_50 (cin rfl) ?_
      refine s_istore (ls' := [(9, vI (-1)), (0, vR o), (5, vI x5), (6, vI x6), (7, vI x7), (8, vI x8)]) dX10_buys_51 (Nat.le_of_ble_eq_true rfl) rfl ?_
      refine s_iload (j := 5) dX10_buys_53 rfl ?_
      refine s_istore dX10_buys_55 (Nat.le_of_ble_eq_true rfl) rfl ?_
      refine s_iconst dX10_buys_57 (cin rfl) ?_
      refine s_istore (ls' := [(11, vI 0), (10, vI x8), (9, vI (-1)), (0, vR o), (5, vI x5), (6, vI x6), (7, vI x7), (8, vI x8)]) dX10_buys_58 (Nat.le_of_ble_eq_true rfl) rfl ?_
      exact s_sub (ks := [3, 4, 5, 6, 7, 2, 1, 0]) rfl (fX10_buys_b60_ok (fX10_buys_b44 n) ih FU o x5 x6 x7 x8 (-1) x8 0 F _ ho h hq)
theorem fX10_buys_ok {Qr : Option PV → Mem → Prop} : ∀ (o : Nat) (x1 : Int) (x2 : Int) (x3 : Int) (x4 : Int) (x5 : Int) (x6 : Int) (F : Mem) (res : (Int × Mem)) (ho : isK o 10), fX10_buys o x1 x2 x3 x4 x5 x6 F = some res → Qr (some (vI res.1)) res.2 → PR cX10_buys (zX10_buys Qr) 0 [(0, vR o), (1, vI x1), (2, vI x2), (3, vI x3), (4, vI x4), (5, vI x5), (6, vI x6)] [] F := by
  intro o x1 x2 x3 x4 x5 x6 F res ho h hq
  refine s_iload (j := 6) dX10_buys_0 rfl ?_
  refine s_bipush dX10_buys_2 rfl (cin rfl) ?_
  refine s_icmp_lt (tgt := 29) dX10_buys_4 rfl (fun hc1 => ?_) (fun hc1 => ?_)
  · have h := ifp hc1 h
    refine s_bipush dX10_buys_29 rfl (cin rfl) ?_
    have h := Option.some.inj h
    subst h
    exact s_ireturn dX10_buys_31 rfl hq
  · have h := ifn hc1 h
    refine s_aload_n (j := 0) dX10_buys_7 rfl rfl ?_
    refine s_iload_n (j := 1) dX10_buys_8 rfl rfl ?_
    refine s_iload_n (j := 2) dX10_buys_9 rfl rfl ?_
    refine s_iload_n (j := 3) dX10_buys_10 rfl rfl ?_
    refine s_iload (j := 4) dX10_buys_11 rfl ?_
    refine s_iconst dX10_buys_13 (cin rfl) ?_
    obtain ⟨q2, hv3, h⟩ := bnd h
    refine s_callV (As := [vI x1, vI x2, vI x3, vI x4, vI 1]) (rest := []) (r := (some (vI q2.1))) (F' := q2.2) dX10_buys_14 (clX10_355 (Nat.le_of_ble_eq_true rfl) (Nat.le_of_ble_eq_true rfl)) ho rfl ⟨_, _, _, _, _, _, _, rfl, ho, hv3, rfl, rfl⟩ rfl (Nat.le_of_ble_eq_true rfl) ?_
    refine s_if_eq (tgt := 29) dX10_buys_17 rfl (fun hc4 => ?_) (fun hc4 => ?_)
    · have h := ifp hc4 h
      refine s_bipush dX10_buys_29 rfl (cin rfl) ?_
      have h := Option.some.inj h
      subst h
      exact s_ireturn dX10_buys_31 rfl hq
    · have h := ifn hc4 h
      refine s_aload_n (j := 0) dX10_buys_20 rfl rfl ?_
      refine s_iload (j := 5) dX10_buys_21 rfl ?_
      obtain ⟨r5, hv6, h⟩ := bnd h
      refine s_callV (As := [vI x5]) (rest := []) (r := (some (vI r5))) (F' := q2.2) dX10_buys_23 (clX10_189 (Nat.le_of_ble_eq_true rfl) (Nat.le_of_ble_eq_true rfl)) ho rfl ⟨_, _, _, rfl, ho, hv6, rfl, rfl⟩ rfl (Nat.le_of_ble_eq_true rfl) ?_
      refine s_if_ne (tgt := 32) dX10_buys_26 rfl (fun hc7 => ?_) (fun hc7 => ?_)
      · have h := ifp hc7 h
        refine s_iconst dX10_buys_32 (cin rfl) ?_
        refine s_istore (ls' := [(7, vI 0), (0, vR o), (1, vI x1), (2, vI x2), (3, vI x3), (4, vI x4), (5, vI x5), (6, vI x6)]) dX10_buys_33 (Nat.le_of_ble_eq_true rfl) rfl ?_
        refine s_aload_n (j := 1) dX10_buys_35 rfl rfl ?_
        obtain ⟨r8, hv9, h⟩ := bnd h
        refine s_callV (As := []) (rest := []) (r := (some (vI r8))) (F' := q2.2) dX10_buys_36 (clX10_352 (Nat.le_of_ble_eq_true rfl) (Nat.le_of_ble_eq_true rfl)) ho rfl ⟨_, _, rfl, ho, hv9, rfl, rfl⟩ rfl (Nat.le_of_ble_eq_true rfl) ?_
        refine s_istore dX10_buys_39 (Nat.le_of_ble_eq_true rfl) rfl ?_
        refine s_iconst dX10_buys_41 (cin rfl) ?_
        refine s_istore (ls' := [(9, vI 0), (8, vI r8), (7, vI 0), (0, vR o), (1, vI x1), (2, vI x2), (3, vI x3), (4, vI x4), (5, vI x5), (6, vI x6)]) dX10_buys_42 (Nat.le_of_ble_eq_true rfl) rfl ?_
        exact s_sub (ks := [3, 8, 9, 2, 1, 0]) rfl (fX10_buys_b44_ok FU o x5 x6 0 r8 0 q2.2 _ ho h hq)
      · have h := ifn hc7 h
        refine s_bipush dX10_buys_29 rfl (cin rfl) ?_
        have h := Option.some.inj h
        subst h
        exact s_ireturn dX10_buys_31 rfl hq
def gX10_buys : XG := fun As F r F' => ∃ o : Nat, ∃ x1 : Int, ∃ x2 : Int, ∃ x3 : Int, ∃ x4 : Int, ∃ x5 : Int, ∃ x6 : Int, ∃ res : (Int × Mem), As = [vR o, vI x1, vI x2, vI x3, vI x4, vI x5, vI x6] ∧ isK o 10 ∧ fX10_buys o x1 x2 x3 x4 x5 x6 F = some res ∧ r = some (vI res.1) ∧ F' = res.2
theorem ctX10_buys : xCT yX10_buys cX10_buys 13 (some FieldType.int) 7 159 gX10_buys := xmet (by decide +kernel) (fun As F r F' hg => by obtain ⟨o, x1, x2, x3, x4, x5, x6, res, rfl, ho, h, rfl, rfl⟩ := hg; exact Nat.le_of_ble_eq_true rfl) (fun As F r F' hg => by obtain ⟨o, x1, x2, x3, x4, x5, x6, res, rfl, ho, h, rfl, rfl⟩ := hg; exact fX10_buys_ok o x1 x2 x3 x4 x5 x6 _ _ ho h ⟨rfl, rfl⟩)
theorem mcX10_buys : Cond.code yX10_buys cX10_buys 13 (some FieldType.int) ∈ xw_T ∧ Cond.initialized yX10_buys.cls ∈ xw_T ∧ Cond.instanceMethod yX10_buys ∈ xw_T ∧ Cond.selects yX10_buys.cls yX10_buys yX10_buys ∈ xw_T := ⟨(xinT 1936 (by decide +kernel) (by decide +kernel)), (xinT 127 (by decide +kernel) (by decide +kernel)), (xinT 1934 (by decide +kernel) (by decide +kernel)), (xinT 1935 (by decide +kernel) (by decide +kernel))⟩
theorem dX10_both_0 : decode cX10_both 0 = .ok (.aload_n 0, 1) := by decide +kernel
theorem dX10_both_1 : decode cX10_both 1 = .ok (.iload_n 1, 1) := by decide +kernel
theorem dX10_both_2 : decode cX10_both 2 = .ok (.iload_n 2, 1) := by decide +kernel
theorem dX10_both_3 : decode cX10_both 3 = .ok (.iload_n 3, 1) := by decide +kernel
theorem dX10_both_4 : decode cX10_both 4 = .ok (.iload 4, 2) := by decide +kernel
theorem dX10_both_6 : decode cX10_both 6 = .ok (.iconst 1, 1) := by decide +kernel
theorem dX10_both_7 : decode cX10_both 7 = .ok (.invokevirtual 355, 3) := by decide +kernel
theorem dX10_both_10 : decode cX10_both 10 = .ok (.ifCond .ne 6, 3) := by decide +kernel
theorem dX10_both_13 : decode cX10_both 13 = .ok (.bipush (-2), 2) := by decide +kernel
theorem dX10_both_15 : decode cX10_both 15 = .ok (.ireturn, 1) := by decide +kernel
theorem dX10_both_16 : decode cX10_both 16 = .ok (.aload_n 0, 1) := by decide +kernel
theorem dX10_both_17 : decode cX10_both 17 = .ok (.invokevirtual 390, 3) := by decide +kernel
theorem dX10_both_20 : decode cX10_both 20 = .ok (.istore 6, 2) := by decide +kernel
theorem dX10_both_22 : decode cX10_both 22 = .ok (.iconst (-1), 1) := by decide +kernel
theorem dX10_both_23 : decode cX10_both 23 = .ok (.istore 7, 2) := by decide +kernel
theorem dX10_both_25 : decode cX10_both 25 = .ok (.iconst 0, 1) := by decide +kernel
theorem dX10_both_26 : decode cX10_both 26 = .ok (.istore 8, 2) := by decide +kernel
theorem dX10_both_28 : decode cX10_both 28 = .ok (.iconst 0, 1) := by decide +kernel
theorem dX10_both_29 : decode cX10_both 29 = .ok (.istore 9, 2) := by decide +kernel
theorem dX10_both_31 : decode cX10_both 31 = .ok (.iload 9, 2) := by decide +kernel
theorem dX10_both_33 : decode cX10_both 33 = .ok (.aload_n 0, 1) := by decide +kernel
theorem dX10_both_34 : decode cX10_both 34 = .ok (.iconst 5, 1) := by decide +kernel
theorem dX10_both_35 : decode cX10_both 35 = .ok (.invokevirtual 181, 3) := by decide +kernel
theorem dX10_both_38 : decode cX10_both 38 = .ok (.if_icmp .ge 86, 3) := by decide +kernel
theorem dX10_both_41 : decode cX10_both 41 = .ok (.iload 9, 2) := by decide +kernel
theorem dX10_both_43 : decode cX10_both 43 = .ok (.iconst 1, 1) := by decide +kernel
theorem dX10_both_44 : decode cX10_both 44 = .ok (.iadd, 1) := by decide +kernel
theorem dX10_both_45 : decode cX10_both 45 = .ok (.istore 10, 2) := by decide +kernel
theorem dX10_both_47 : decode cX10_both 47 = .ok (.iload 10, 2) := by decide +kernel
theorem dX10_both_49 : decode cX10_both 49 = .ok (.aload_n 0, 1) := by decide +kernel
theorem dX10_both_50 : decode cX10_both 50 = .ok (.iconst 5, 1) := by decide +kernel
theorem dX10_both_51 : decode cX10_both 51 = .ok (.invokevirtual 181, 3) := by decide +kernel
theorem dX10_both_54 : decode cX10_both 54 = .ok (.if_icmp .ge 64, 3) := by decide +kernel
theorem dX10_both_57 : decode cX10_both 57 = .ok (.aload_n 0, 1) := by decide +kernel
theorem dX10_both_58 : decode cX10_both 58 = .ok (.iload 9, 2) := by decide +kernel
theorem dX10_both_60 : decode cX10_both 60 = .ok (.putfield 20, 3) := by decide +kernel
theorem dX10_both_63 : decode cX10_both 63 = .ok (.aload_n 0, 1) := by decide +kernel
theorem dX10_both_64 : decode cX10_both 64 = .ok (.iload 10, 2) := by decide +kernel
theorem dX10_both_66 : decode cX10_both 66 = .ok (.putfield 24, 3) := by decide +kernel
theorem dX10_both_69 : decode cX10_both 69 = .ok (.aload_n 0, 1) := by decide +kernel
theorem dX10_both_70 : decode cX10_both 70 = .ok (.invokevirtual 390, 3) := by decide +kernel
theorem dX10_both_73 : decode cX10_both 73 = .ok (.iload 6, 2) := by decide +kernel
theorem dX10_both_75 : decode cX10_both 75 = .ok (.isub, 1) := by decide +kernel
theorem dX10_both_76 : decode cX10_both 76 = .ok (.istore 11, 2) := by decide +kernel
theorem dX10_both_78 : decode cX10_both 78 = .ok (.aload_n 0, 1) := by decide +kernel
theorem dX10_both_79 : decode cX10_both 79 = .ok (.iconst (-1), 1) := by decide +kernel
theorem dX10_both_80 : decode cX10_both 80 = .ok (.putfield 20, 3) := by decide +kernel
theorem dX10_both_83 : decode cX10_both 83 = .ok (.aload_n 0, 1) := by decide +kernel
theorem dX10_both_84 : decode cX10_both 84 = .ok (.iconst (-1), 1) := by decide +kernel
theorem dX10_both_85 : decode cX10_both 85 = .ok (.putfield 24, 3) := by decide +kernel
theorem dX10_both_88 : decode cX10_both 88 = .ok (.iload 11, 2) := by decide +kernel
theorem dX10_both_90 : decode cX10_both 90 = .ok (.iload 8, 2) := by decide +kernel
theorem dX10_both_92 : decode cX10_both 92 = .ok (.if_icmp .gt 6, 3) := by decide +kernel
theorem dX10_both_95 : decode cX10_both 95 = .ok (.goto 17, 3) := by decide +kernel
theorem dX10_both_98 : decode cX10_both 98 = .ok (.bipush 8, 2) := by decide +kernel
theorem dX10_both_100 : decode cX10_both 100 = .ok (.iload 9, 2) := by decide +kernel
theorem dX10_both_102 : decode cX10_both 102 = .ok (.imul, 1) := by decide +kernel
theorem dX10_both_103 : decode cX10_both 103 = .ok (.iload 10, 2) := by decide +kernel
theorem dX10_both_105 : decode cX10_both 105 = .ok (.iadd, 1) := by decide +kernel
theorem dX10_both_106 : decode cX10_both 106 = .ok (.istore 7, 2) := by decide +kernel
theorem dX10_both_108 : decode cX10_both 108 = .ok (.iload 11, 2) := by decide +kernel
theorem dX10_both_110 : decode cX10_both 110 = .ok (.istore 8, 2) := by decide +kernel
theorem dX10_both_112 : decode cX10_both 112 = .ok (.iinc 10 1, 3) := by decide +kernel
theorem dX10_both_115 : decode cX10_both 115 = .ok (.goto (-68), 3) := by decide +kernel
theorem dX10_both_118 : decode cX10_both 118 = .ok (.iinc 9 1, 3) := by decide +kernel
theorem dX10_both_121 : decode cX10_both 121 = .ok (.goto (-90), 3) := by decide +kernel
theorem dX10_both_124 : decode cX10_both 124 = .ok (.iload 7, 2) := by decide +kernel
theorem dX10_both_126 : decode cX10_both 126 = .ok (.iconst (-1), 1) := by decide +kernel
theorem dX10_both_127 : decode cX10_both 127 = .ok (.if_icmp .ne 7, 3) := by decide +kernel
theorem dX10_both_130 : decode cX10_both 130 = .ok (.iconst (-1), 1) := by decide +kernel
theorem dX10_both_131 : decode cX10_both 131 = .ok (.goto 21, 3) := by decide +kernel
theorem dX10_both_134 : decode cX10_both 134 = .ok (.iload 5, 2) := by decide +kernel
theorem dX10_both_136 : decode cX10_both 136 = .ok (.ifCond .eq 11, 3) := by decide +kernel
theorem dX10_both_139 : decode cX10_both 139 = .ok (.iload 7, 2) := by decide +kernel
theorem dX10_both_141 : decode cX10_both 141 = .ok (.bipush 8, 2) := by decide +kernel
theorem dX10_both_143 : decode cX10_both 143 = .ok (.irem, 1) := by decide +kernel
theorem dX10_both_144 : decode cX10_both 144 = .ok (.goto 8, 3) := by decide +kernel
theorem dX10_both_147 : decode cX10_both 147 = .ok (.iload 7, 2) := by decide +kernel
theorem dX10_both_149 : decode cX10_both 149 = .ok (.bipush 8, 2) := by decide +kernel
theorem dX10_both_151 : decode cX10_both 151 = .ok (.idiv, 1) := by decide +kernel
theorem dX10_both_152 : decode cX10_both 152 = .ok (.ireturn, 1) := by decide +kernel
def zX10_both (Qr : Option PV → Mem → Prop) : XZ := (RX10, 7, 159, 12, some FieldType.int, Qr)
noncomputable def fX10_both_b47 (k31 : Nat → Int → Int → Int → Int → Int → Mem → Option (Int × Mem)) : Nat → Nat → Int → Int → Int → Int → Int → Int → Mem → Option (Int × Mem)
  | 0, _, _, _, _, _, _, _, _ => none
  | n + 1, o, x5, x6, x7, x8, x9, x10, F =>
    (fX10_of o 5 F).bind fun r1 =>
    if r1 ≤ x10 then
      k31 o x5 x6 x7 x8 (xw (x9 + 1)) F
    else
      (fX10_yieldOf o (mset (mset F o 11 x9) o 13 x10)).bind fun q4 =>
      if x8 < (xw (q4.1 - x6)) then
        fX10_both_b47 k31 n o x5 x6 (xw ((xw (8 * x9)) + x10)) (xw (q4.1 - x6)) x9 (xw (x10 + 1)) (mset (mset q4.2 o 11 (-1)) o 13 (-1))
      else
        fX10_both_b47 k31 n o x5 x6 x7 x8 x9 (xw (x10 + 1)) (mset (mset q4.2 o 11 (-1)) o 13 (-1))
noncomputable def fX10_both_b31 : Nat → Nat → Int → Int → Int → Int → Int → Mem → Option (Int × Mem)
  | 0, _, _, _, _, _, _, _ => none
  | n + 1, o, x5, x6, x7, x8, x9, F =>
    (fX10_of o 5 F).bind fun r1 =>
    if r1 ≤ x9 then
      if x7 ≠ (-1) then
        if x5 = 0 then
          some (xw (Int.tdiv x7 8), F)
        else
          some (Int.tmod x7 8, F)
      else
        some ((-1), F)
    else
      fX10_both_b47 (fX10_both_b31 n) FU o x5 x6 x7 x8 x9 (xw (x9 + 1)) F
noncomputable def fX10_both (o : Nat) (x1 : Int) (x2 : Int) (x3 : Int) (x4 : Int) (x5 : Int) (F : Mem) : Option (Int × Mem) :=
  (fX10_isAsked o x1 x2 x3 x4 1 F).bind fun q1 =>
  if q1.1 ≠ 0 then
    (fX10_yieldOf o q1.2).bind fun q4 =>
    fX10_both_b31 FU o x5 q4.1 (-1) 0 0 q4.2
  else
    some ((-2), q1.2)
theorem fX10_both_b47_ok {Qr : Option PV → Mem → Prop}  (k31 : Nat → Int → Int → Int → Int → Int → Mem → Option (Int × Mem)) (hk31 : ∀ (o : Nat) (x5 : Int) (x6 : Int) (x7 : Int) (x8 : Int) (x9 : Int) (F : Mem) (res : (Int × Mem)) (ho : isK o 10), k31 o x5 x6 x7 x8 x9 F = some res → Qr (some (vI res.1)) res.2 → PR cX10_both (zX10_both Qr) 31 [(0, vR o), (5, vI x5), (6, vI x6), (7, vI x7), (8, vI x8), (9, vI x9)] [] F) : ∀ (n : Nat) (o : Nat) (x5 : Int) (x6 : Int) (x7 : Int) (x8 : Int) (x9 : Int) (x10 : Int) (F : Mem) (res : (Int × Mem)) (ho : isK o 10), fX10_both_b47 k31 n o x5 x6 x7 x8 x9 x10 F = some res → Qr (some (vI res.1)) res.2 → PR cX10_both (zX10_both Qr) 47 [(0, vR o), (5, vI x5), (6, vI x6), (7, vI x7), (8, vI x8), (9, vI x9), (10, vI x10)] [] F := by
  intro n
  induction n with
  | zero => intro o x5 x6 x7 x8 x9 x10 F res ho h hq; exact nomatch (show (none : Option _) = some _ from h)
  | succ n ih =>
    intro o x5 x6 x7 x8 x9 x10 F res ho h hq
    refine s_iload (j := 6) dX10_both_47 rfl ?_
    refine s_aload_n (j := 0) dX10_both_49 rfl rfl ?_
    refine s_iconst dX10_both_50 (cin rfl) ?_
    obtain ⟨r1, hv2, h⟩ := bnd h
    refine s_callV (As := [vI 5]) (rest := [vI x10]) (r := (some (vI r1))) (F' := F) dX10_both_51 (clX10_181 (Nat.le_of_ble_eq_true rfl) (Nat.le_of_ble_eq_true rfl)) ho rfl ⟨_, _, _, rfl, ho, hv2, rfl, rfl⟩ rfl (Nat.le_of_ble_eq_true rfl) ?_
    refine s_icmp_ge (tgt := 118) dX10_both_54 rfl (fun hc3 => ?_) (fun hc3 => ?_)
    · have h := ifp hc3 h
      refine s_iinc (ls' := [(9, vI (xw (x9 + 1))), (0, vR o), (5, vI x5), (6, vI x6), (7, vI x7), (8, vI x8), (10, vI x10)]) (j := 5) dX10_both_118 rfl (Nat.le_of_ble_eq_true rfl) rfl ?_
      refine s_goto (tgt := 31) dX10_both_121 rfl ?_
      exact s_sub (ks := [1, 2, 3, 4, 5, 0]) rfl (hk31 o x5 x6 x7 x8 (xw (x9 + 1)) F _ ho h hq)
    · have h := ifn hc3 h
      refine s_aload_n (j := 0) dX10_both_57 rfl rfl ?_
      refine s_iload (j := 5) dX10_both_58 rfl ?_
      refine s_putI dX10_both_60 flX10_20 fpX10_11 ho ?_
      refine s_aload_n (j := 0) dX10_both_63 rfl rfl ?_
      refine s_iload (j := 6) dX10_both_64 rfl ?_
      refine s_putI dX10_both_66 flX10_24 fpX10_13 ho ?_
      refine s_aload_n (j := 0) dX10_both_69 rfl rfl ?_
      obtain ⟨q4, hv5, h⟩ := bnd h
      refine s_callV (As := []) (rest := []) (r := (some (vI q4.1))) (F' := q4.2) dX10_both_70 (clX10_390 (Nat.le_of_ble_eq_true rfl) (Nat.le_of_ble_eq_true rfl)) ho rfl ⟨_, _, rfl, ho, hv5, rfl, rfl⟩ rfl (Nat.le_of_ble_eq_true rfl) ?_
      refine s_iload (j := 2) dX10_both_73 rfl ?_
      refine s_isub dX10_both_75 ?_
      refine s_istore (ls' := [(11, vI (xw (q4.1 - x6))), (0, vR o), (5, vI x5), (6, vI x6), (7, vI x7), (8, vI x8), (9, vI x9), (10, vI x10)]) dX10_both_76 (Nat.le_of_ble_eq_true rfl) rfl ?_
      refine s_aload_n (j := 1) dX10_both_78 rfl rfl ?_
      refine s_iconst dX10_both_79 (cin rfl) ?_
      refine s_putI dX10_both_80 flX10_20 fpX10_11 ho ?_
      refine s_aload_n (j := 1) dX10_both_83 rfl rfl ?_
      refine s_iconst dX10_both_84 (cin rfl) ?_
      refine s_putI dX10_both_85 flX10_24 fpX10_13 ho ?_
      refine s_iload (j := 0) dX10_both_88 rfl ?_
      refine s_iload (j := 5) dX10_both_90 rfl ?_
      refine s_icmp_gt (tgt := 98) dX10_both_92 rfl (fun hc6 => ?_) (fun hc6 => ?_)
      · have h := ifp hc6 h
        refine s_bipush dX10_both_98 rfl (cin rfl) ?_
        refine s_iload (j := 6) dX10_both_100 rfl ?_
        refine s_imul dX10_both_102 ?_
        refine s_iload (j := 7) dX10_both_103 rfl ?_
        refine s_iadd dX10_both_105 ?_
        refine s_istore (ls' := [(7, vI (xw ((xw (8 * x9)) + x10))), (11, vI (xw (q4.1 - x6))), (0, vR o), (5, vI x5), (6, vI x6), (8, vI x8), (9, vI x9), (10, vI x10)]) dX10_both_106 (Nat.le_of_ble_eq_true rfl) rfl ?_
        refine s_iload (j := 1) dX10_both_108 rfl ?_
        refine s_istore dX10_both_110 (Nat.le_of_ble_eq_true rfl) rfl ?_
        refine s_iinc (ls' := [(10, vI (xw (x10 + 1))), (8, vI (xw (q4.1 - x6))), (7, vI (xw ((xw (8 * x9)) + x10))), (11, vI (xw (q4.1 - x6))), (0, vR o), (5, vI x5), (6, vI x6), (9, vI x9)]) (j := 7) dX10_both_112 rfl (Nat.le_of_ble_eq_true rfl) rfl ?_
        refine s_goto (tgt := 47) dX10_both_115 rfl ?_
        exact s_sub (ks := [4, 5, 6, 2, 1, 7, 0]) rfl (ih o x5 x6 (xw ((xw (8 * x9)) + x10)) (xw (q4.1 - x6)) x9 (xw (x10 + 1)) (mset (mset q4.2 o 11 (-1)) o 13 (-1)) _ ho h hq)
      · have h := ifn hc6 h
        refine s_goto (tgt := 112) dX10_both_95 rfl ?_
        refine s_iinc (ls' := [(10, vI (xw (x10 + 1))), (11, vI (xw (q4.1 - x6))), (0, vR o), (5, vI x5), (6, vI x6), (7, vI x7), (8, vI x8), (9, vI x9)]) (j := 7) dX10_both_112 rfl (Nat.le_of_ble_eq_true rfl) rfl ?_
        refine s_goto (tgt := 47) dX10_both_115 rfl ?_
        exact s_sub (ks := [2, 3, 4, 5, 6, 7, 0]) rfl (ih o x5 x6 x7 x8 x9 (xw (x10 + 1)) (mset (mset q4.2 o 11 (-1)) o 13 (-1)) _ ho h hq)
theorem fX10_both_b31_ok {Qr : Option PV → Mem → Prop}  : ∀ (n : Nat) (o : Nat) (x5 : Int) (x6 : Int) (x7 : Int) (x8 : Int) (x9 : Int) (F : Mem) (res : (Int × Mem)) (ho : isK o 10), fX10_both_b31 n o x5 x6 x7 x8 x9 F = some res → Qr (some (vI res.1)) res.2 → PR cX10_both (zX10_both Qr) 31 [(0, vR o), (5, vI x5), (6, vI x6), (7, vI x7), (8, vI x8), (9, vI x9)] [] F := by
  intro n
  induction n with
  | zero => intro o x5 x6 x7 x8 x9 F res ho h hq; exact nomatch (show (none : Option _) = some _ from h)
  | succ n ih =>
    intro o x5 x6 x7 x8 x9 F res ho h hq
    refine s_iload (j := 5) dX10_both_31 rfl ?_
    refine s_aload_n (j := 0) dX10_both_33 rfl rfl ?_
    refine s_iconst dX10_both_34 (cin rfl) ?_
    obtain ⟨r1, hv2, h⟩ := bnd h
    refine s_callV (As := [vI 5]) (rest := [vI x9]) (r := (some (vI r1))) (F' := F) dX10_both_35 (clX10_181 (Nat.le_of_ble_eq_true rfl) (Nat.le_of_ble_eq_true rfl)) ho rfl ⟨_, _, _, rfl, ho, hv2, rfl, rfl⟩ rfl (Nat.le_of_ble_eq_true rfl) ?_
    refine s_icmp_ge (tgt := 124) dX10_both_38 rfl (fun hc3 => ?_) (fun hc3 => ?_)
    · have h := ifp hc3 h
      refine s_iload (j := 3) dX10_both_124 rfl ?_
      refine s_iconst dX10_both_126 (cin rfl) ?_
      refine s_icmp_ne (tgt := 134) dX10_both_127 rfl (fun hc4 => ?_) (fun hc4 => ?_)
      · have h := ifp hc4 h
        refine s_iload (j := 1) dX10_both_134 rfl ?_
        refine s_if_eq (tgt := 147) dX10_both_136 rfl (fun hc5 => ?_) (fun hc5 => ?_)
        · have h := ifp hc5 h
          refine s_iload (j := 3) dX10_both_147 rfl ?_
          refine s_bipush dX10_both_149 rfl (cin rfl) ?_
          refine s_idiv dX10_both_151 (by decide) ?_
          have h := Option.some.inj h
          subst h
          exact s_ireturn dX10_both_152 rfl hq
        · have h := ifn hc5 h
          refine s_iload (j := 3) dX10_both_139 rfl ?_
          refine s_bipush dX10_both_141 rfl (cin rfl) ?_
          refine s_irem dX10_both_143 (by decide) ?_
          refine s_goto (tgt := 152) dX10_both_144 rfl ?_
          have h := Option.some.inj h
          subst h
          exact s_ireturn dX10_both_152 rfl hq
      · have h := ifn hc4 h
        refine s_iconst dX10_both_130 (cin rfl) ?_
        refine s_goto (tgt := 152) dX10_both_131 rfl ?_
        have h := Option.some.inj h
        subst h
        exact s_ireturn dX10_both_152 rfl hq
    · have h := ifn hc3 h
      refine s_iload (j := 5) dX10_both_41 rfl ?_
      refine s_iconst dX10_both_43 (cin rfl) ?_
      refine s_iadd dX10_both_44 ?_
      refine s_istore (ls' := [(10, vI (xw (x9 + 1))), (0, vR o), (5, vI x5), (6, vI x6), (7, vI x7), (8, vI x8), (9, vI x9)]) dX10_both_45 (Nat.le_of_ble_eq_true rfl) rfl ?_
      exact s_sub (ks := [1, 2, 3, 4, 5, 6, 0]) rfl (fX10_both_b47_ok (fX10_both_b31 n) ih FU o x5 x6 x7 x8 x9 (xw (x9 + 1)) F _ ho h hq)
theorem fX10_both_ok {Qr : Option PV → Mem → Prop} : ∀ (o : Nat) (x1 : Int) (x2 : Int) (x3 : Int) (x4 : Int) (x5 : Int) (F : Mem) (res : (Int × Mem)) (ho : isK o 10), fX10_both o x1 x2 x3 x4 x5 F = some res → Qr (some (vI res.1)) res.2 → PR cX10_both (zX10_both Qr) 0 [(0, vR o), (1, vI x1), (2, vI x2), (3, vI x3), (4, vI x4), (5, vI x5)] [] F := by
  intro o x1 x2 x3 x4 x5 F res ho h hq
  refine s_aload_n (j := 0) dX10_both_0 rfl rfl ?_
  refine s_iload_n (j := 1) dX10_both_1 rfl rfl ?_
  refine s_iload_n (j := 2) dX10_both_2 rfl rfl ?_
  refine s_iload_n (j := 3) dX10_both_3 rfl rfl ?_
  refine s_iload (j := 4) dX10_both_4 rfl ?_
  refine s_iconst dX10_both_6 (cin rfl) ?_
  obtain ⟨q1, hv2, h⟩ := bnd h
  refine s_callV (As := [vI x1, vI x2, vI x3, vI x4, vI 1]) (rest := []) (r := (some (vI q1.1))) (F' := q1.2) dX10_both_7 (clX10_355 (Nat.le_of_ble_eq_true rfl) (Nat.le_of_ble_eq_true rfl)) ho rfl ⟨_, _, _, _, _, _, _, rfl, ho, hv2, rfl, rfl⟩ rfl (Nat.le_of_ble_eq_true rfl) ?_
  refine s_if_ne (tgt := 16) dX10_both_10 rfl (fun hc3 => ?_) (fun hc3 => ?_)
  · have h := ifp hc3 h
    refine s_aload_n (j := 0) dX10_both_16 rfl rfl ?_
    obtain ⟨q4, hv5, h⟩ := bnd h
    refine s_callV (As := []) (rest := []) (r := (some (vI q4.1))) (F' := q4.2) dX10_both_17 (clX10_390 (Nat.le_of_ble_eq_true rfl) (Nat.le_of_ble_eq_true rfl)) ho rfl ⟨_, _, rfl, ho, hv5, rfl, rfl⟩ rfl (Nat.le_of_ble_eq_true rfl) ?_
    refine s_istore (ls' := [(6, vI q4.1), (0, vR o), (1, vI x1), (2, vI x2), (3, vI x3), (4, vI x4), (5, vI x5)]) dX10_both_20 (Nat.le_of_ble_eq_true rfl) rfl ?_
    refine s_iconst dX10_both_22 (cin rfl) ?_
    refine s_istore dX10_both_23 (Nat.le_of_ble_eq_true rfl) rfl ?_
    refine s_iconst dX10_both_25 (cin rfl) ?_
    refine s_istore (ls' := [(8, vI 0), (7, vI (-1)), (6, vI q4.1), (0, vR o), (1, vI x1), (2, vI x2), (3, vI x3), (4, vI x4), (5, vI x5)]) dX10_both_26 (Nat.le_of_ble_eq_true rfl) rfl ?_
    refine s_iconst dX10_both_28 (cin rfl) ?_
    refine s_istore dX10_both_29 (Nat.le_of_ble_eq_true rfl) rfl ?_
    exact s_sub (ks := [4, 9, 3, 2, 1, 0]) rfl (fX10_both_b31_ok FU o x5 q4.1 (-1) 0 0 q4.2 _ ho h hq)
  · have h := ifn hc3 h
    refine s_bipush dX10_both_13 rfl (cin rfl) ?_
    have h := Option.some.inj h
    subst h
    exact s_ireturn dX10_both_15 rfl hq
def gX10_both : XG := fun As F r F' => ∃ o : Nat, ∃ x1 : Int, ∃ x2 : Int, ∃ x3 : Int, ∃ x4 : Int, ∃ x5 : Int, ∃ res : (Int × Mem), As = [vR o, vI x1, vI x2, vI x3, vI x4, vI x5] ∧ isK o 10 ∧ fX10_both o x1 x2 x3 x4 x5 F = some res ∧ r = some (vI res.1) ∧ F' = res.2
theorem ctX10_both : xCT yX10_both cX10_both 12 (some FieldType.int) 7 159 gX10_both := xmet (by decide +kernel) (fun As F r F' hg => by obtain ⟨o, x1, x2, x3, x4, x5, res, rfl, ho, h, rfl, rfl⟩ := hg; exact Nat.le_of_ble_eq_true rfl) (fun As F r F' hg => by obtain ⟨o, x1, x2, x3, x4, x5, res, rfl, ho, h, rfl, rfl⟩ := hg; exact fX10_both_ok o x1 x2 x3 x4 x5 _ _ ho h ⟨rfl, rfl⟩)
theorem mcX10_both : Cond.code yX10_both cX10_both 12 (some FieldType.int) ∈ xw_T ∧ Cond.initialized yX10_both.cls ∈ xw_T ∧ Cond.instanceMethod yX10_both ∈ xw_T ∧ Cond.selects yX10_both.cls yX10_both yX10_both ∈ xw_T := ⟨(xinT 1940 (by decide +kernel) (by decide +kernel)), (xinT 127 (by decide +kernel) (by decide +kernel)), (xinT 1938 (by decide +kernel) (by decide +kernel)), (xinT 1939 (by decide +kernel) (by decide +kernel))⟩
theorem dX10_ease_0 : decode cX10_ease 0 = .ok (.aload_n 0, 1) := by decide +kernel
theorem dX10_ease_1 : decode cX10_ease 1 = .ok (.iload_n 1, 1) := by decide +kernel
theorem dX10_ease_2 : decode cX10_ease 2 = .ok (.iload_n 2, 1) := by decide +kernel
theorem dX10_ease_3 : decode cX10_ease 3 = .ok (.iload_n 3, 1) := by decide +kernel
theorem dX10_ease_4 : decode cX10_ease 4 = .ok (.iload 4, 2) := by decide +kernel
theorem dX10_ease_6 : decode cX10_ease 6 = .ok (.iconst 1, 1) := by decide +kernel
theorem dX10_ease_7 : decode cX10_ease 7 = .ok (.invokevirtual 355, 3) := by decide +kernel
theorem dX10_ease_10 : decode cX10_ease 10 = .ok (.ifCond .eq 26, 3) := by decide +kernel
theorem dX10_ease_13 : decode cX10_ease 13 = .ok (.aload_n 0, 1) := by decide +kernel
theorem dX10_ease_14 : decode cX10_ease 14 = .ok (.iload 5, 2) := by decide +kernel
theorem dX10_ease_16 : decode cX10_ease 16 = .ok (.invokevirtual 189, 3) := by decide +kernel
theorem dX10_ease_19 : decode cX10_ease 19 = .ok (.ifCond .eq 17, 3) := by decide +kernel
theorem dX10_ease_22 : decode cX10_ease 22 = .ok (.iload 6, 2) := by decide +kernel
theorem dX10_ease_24 : decode cX10_ease 24 = .ok (.iconst 1, 1) := by decide +kernel
theorem dX10_ease_25 : decode cX10_ease 25 = .ok (.aload_n 0, 1) := by decide +kernel
theorem dX10_ease_26 : decode cX10_ease 26 = .ok (.iconst 0, 1) := by decide +kernel
theorem dX10_ease_27 : decode cX10_ease 27 = .ok (.invokevirtual 181, 3) := by decide +kernel
theorem dX10_ease_30 : decode cX10_ease 30 = .ok (.invokestatic 115, 3) := by decide +kernel
theorem dX10_ease_33 : decode cX10_ease 33 = .ok (.ifCond .ne 6, 3) := by decide +kernel
theorem dX10_ease_36 : decode cX10_ease 36 = .ok (.bipush (-2), 2) := by decide +kernel
theorem dX10_ease_38 : decode cX10_ease 38 = .ok (.ireturn, 1) := by decide +kernel
theorem dX10_ease_39 : decode cX10_ease 39 = .ok (.iconst (-1), 1) := by decide +kernel
theorem dX10_ease_40 : decode cX10_ease 40 = .ok (.istore 8, 2) := by decide +kernel
theorem dX10_ease_42 : decode cX10_ease 42 = .ok (.iconst 0, 1) := by decide +kernel
theorem dX10_ease_43 : decode cX10_ease 43 = .ok (.istore 9, 2) := by decide +kernel
theorem dX10_ease_45 : decode cX10_ease 45 = .ok (.iconst 0, 1) := by decide +kernel
theorem dX10_ease_46 : decode cX10_ease 46 = .ok (.istore 10, 2) := by decide +kernel
theorem dX10_ease_48 : decode cX10_ease 48 = .ok (.iload 10, 2) := by decide +kernel
theorem dX10_ease_50 : decode cX10_ease 50 = .ok (.iload 6, 2) := by decide +kernel
theorem dX10_ease_52 : decode cX10_ease 52 = .ok (.iadd, 1) := by decide +kernel
theorem dX10_ease_53 : decode cX10_ease 53 = .ok (.aload_n 0, 1) := by decide +kernel
theorem dX10_ease_54 : decode cX10_ease 54 = .ok (.iconst 0, 1) := by decide +kernel
theorem dX10_ease_55 : decode cX10_ease 55 = .ok (.invokevirtual 181, 3) := by decide +kernel
theorem dX10_ease_58 : decode cX10_ease 58 = .ok (.if_icmp .gt 52, 3) := by decide +kernel
theorem dX10_ease_61 : decode cX10_ease 61 = .ok (.aload_n 0, 1) := by decide +kernel
theorem dX10_ease_62 : decode cX10_ease 62 = .ok (.iload 5, 2) := by decide +kernel
theorem dX10_ease_64 : decode cX10_ease 64 = .ok (.iload 10, 2) := by decide +kernel
theorem dX10_ease_66 : decode cX10_ease 66 = .ok (.iload 10, 2) := by decide +kernel
theorem dX10_ease_68 : decode cX10_ease 68 = .ok (.iload 6, 2) := by decide +kernel
theorem dX10_ease_70 : decode cX10_ease 70 = .ok (.iadd, 1) := by decide +kernel
theorem dX10_ease_71 : decode cX10_ease 71 = .ok (.invokevirtual 365, 3) := by decide +kernel
theorem dX10_ease_74 : decode cX10_ease 74 = .ok (.istore 11, 2) := by decide +kernel
theorem dX10_ease_76 : decode cX10_ease 76 = .ok (.iload 11, 2) := by decide +kernel
theorem dX10_ease_78 : decode cX10_ease 78 = .ok (.ifCond .lt 26, 3) := by decide +kernel
theorem dX10_ease_81 : decode cX10_ease 81 = .ok (.iload 8, 2) := by decide +kernel
theorem dX10_ease_83 : decode cX10_ease 83 = .ok (.ifCond .lt 13, 3) := by decide +kernel
theorem dX10_ease_86 : decode cX10_ease 86 = .ok (.iload 11, 2) := by decide +kernel
theorem dX10_ease_88 : decode cX10_ease 88 = .ok (.iload 9, 2) := by decide +kernel
theorem dX10_ease_90 : decode cX10_ease 90 = .ok (.if_icmp .lt 6, 3) := by decide +kernel
theorem dX10_ease_93 : decode cX10_ease 93 = .ok (.goto 11, 3) := by decide +kernel
theorem dX10_ease_96 : decode cX10_ease 96 = .ok (.iload 10, 2) := by decide +kernel
theorem dX10_ease_98 : decode cX10_ease 98 = .ok (.istore 8, 2) := by decide +kernel
theorem dX10_ease_100 : decode cX10_ease 100 = .ok (.iload 11, 2) := by decide +kernel
theorem dX10_ease_102 : decode cX10_ease 102 = .ok (.istore 9, 2) := by decide +kernel
theorem dX10_ease_104 : decode cX10_ease 104 = .ok (.iinc 10 1, 3) := by decide +kernel
theorem dX10_ease_107 : decode cX10_ease 107 = .ok (.goto (-59), 3) := by decide +kernel
theorem dX10_ease_110 : decode cX10_ease 110 = .ok (.iload 8, 2) := by decide +kernel
theorem dX10_ease_112 : decode cX10_ease 112 = .ok (.iconst (-1), 1) := by decide +kernel
theorem dX10_ease_113 : decode cX10_ease 113 = .ok (.if_icmp .ne 7, 3) := by decide +kernel
theorem dX10_ease_116 : decode cX10_ease 116 = .ok (.iconst (-1), 1) := by decide +kernel
theorem dX10_ease_117 : decode cX10_ease 117 = .ok (.goto 15, 3) := by decide +kernel
theorem dX10_ease_120 : decode cX10_ease 120 = .ok (.iload 7, 2) := by decide +kernel
theorem dX10_ease_122 : decode cX10_ease 122 = .ok (.ifCond .eq 8, 3) := by decide +kernel
theorem dX10_ease_125 : decode cX10_ease 125 = .ok (.iload 9, 2) := by decide +kernel
theorem dX10_ease_127 : decode cX10_ease 127 = .ok (.goto 5, 3) := by decide +kernel
theorem dX10_ease_130 : decode cX10_ease 130 = .ok (.iload 8, 2) := by decide +kernel
theorem dX10_ease_132 : decode cX10_ease 132 = .ok (.ireturn, 1) := by decide +kernel
def zX10_ease (Qr : Option PV → Mem → Prop) : XZ := (RX10, 7, 159, 12, some FieldType.int, Qr)
noncomputable def fX10_ease_b48 : Nat → Nat → Int → Int → Int → Int → Int → Int → Mem → Option (Int × Mem)
  | 0, _, _, _, _, _, _, _, _ => none
  | n + 1, o, x5, x6, x7, x8, x9, x10, F =>
    (fX10_of o 0 F).bind fun r1 =>
    if r1 < (xw (x10 + x6)) then
      if x8 ≠ (-1) then
        if x7 = 0 then
          some (x8, F)
        else
          some (x9, F)
      else
        some ((-1), F)
    else
      (fX10_harmOf o x5 x10 (xw (x10 + x6)) F).bind fun q6 =>
      if q6.1 < 0 then
        fX10_ease_b48 n o x5 x6 x7 x8 x9 (xw (x10 + 1)) q6.2
      else
        if x8 < 0 then
          fX10_ease_b48 n o x5 x6 x7 x10 q6.1 (xw (x10 + 1)) q6.2
        else
          if q6.1 < x9 then
            fX10_ease_b48 n o x5 x6 x7 x10 q6.1 (xw (x10 + 1)) q6.2
          else
            fX10_ease_b48 n o x5 x6 x7 x8 x9 (xw (x10 + 1)) q6.2
noncomputable def fX10_ease (o : Nat) (x1 : Int) (x2 : Int) (x3 : Int) (x4 : Int) (x5 : Int) (x6 : Int) (x7 : Int) (F : Mem) : Option (Int × Mem) :=
  (fX10_isAsked o x1 x2 x3 x4 1 F).bind fun q1 =>
  if q1.1 = 0 then
    some ((-2), q1.2)
  else
    (fX10_isHouse o x5 q1.2).bind fun r4 =>
    if r4 = 0 then
      some ((-2), q1.2)
    else
      (fX10_of o 0 q1.2).bind fun r7 =>
      if (fX10_isIn x6 1 r7) ≠ 0 then
        fX10_ease_b48 FU o x5 x6 x7 (-1) 0 0 q1.2
      else
        some ((-2), q1.2)
theorem fX10_ease_b48_ok {Qr : Option PV → Mem → Prop}  : ∀ (n : Nat) (o : Nat) (x5 : Int) (x6 : Int) (x7 : Int) (x8 : Int) (x9 : Int) (x10 : Int) (F : Mem) (res : (Int × Mem)) (ho : isK o 10), fX10_ease_b48 n o x5 x6 x7 x8 x9 x10 F = some res → Qr (some (vI res.1)) res.2 → PR cX10_ease (zX10_ease Qr) 48 [(0, vR o), (5, vI x5), (6, vI x6), (7, vI x7), (8, vI x8), (9, vI x9), (10, vI x10)] [] F := by
  intro n
  induction n with
  | zero => intro o x5 x6 x7 x8 x9 x10 F res ho h hq; exact nomatch (show (none : Option _) = some _ from h)
  | succ n ih =>
    intro o x5 x6 x7 x8 x9 x10 F res ho h hq
    refine s_iload (j := 6) dX10_ease_48 rfl ?_
    refine s_iload (j := 2) dX10_ease_50 rfl ?_
    refine s_iadd dX10_ease_52 ?_
    refine s_aload_n (j := 0) dX10_ease_53 rfl rfl ?_
    refine s_iconst dX10_ease_54 (cin rfl) ?_
    obtain ⟨r1, hv2, h⟩ := bnd h
    refine s_callV (As := [vI 0]) (rest := [vI (xw (x10 + x6))]) (r := (some (vI r1))) (F' := F) dX10_ease_55 (clX10_181 (Nat.le_of_ble_eq_true rfl) (Nat.le_of_ble_eq_true rfl)) ho rfl ⟨_, _, _, rfl, ho, hv2, rfl, rfl⟩ rfl (Nat.le_of_ble_eq_true rfl) ?_
    refine s_icmp_gt (tgt := 110) dX10_ease_58 rfl (fun hc3 => ?_) (fun hc3 => ?_)
    · have h := ifp hc3 h
      refine s_iload (j := 4) dX10_ease_110 rfl ?_
      refine s_iconst dX10_ease_112 (cin rfl) ?_
      refine s_icmp_ne (tgt := 120) dX10_ease_113 rfl (fun hc4 => ?_) (fun hc4 => ?_)
      · have h := ifp hc4 h
        refine s_iload (j := 3) dX10_ease_120 rfl ?_
        refine s_if_eq (tgt := 130) dX10_ease_122 rfl (fun hc5 => ?_) (fun hc5 => ?_)
        · have h := ifp hc5 h
          refine s_iload (j := 4) dX10_ease_130 rfl ?_
          have h := Option.some.inj h
          subst h
          exact s_ireturn dX10_ease_132 rfl hq
        · have h := ifn hc5 h
          refine s_iload (j := 5) dX10_ease_125 rfl ?_
          refine s_goto (tgt := 132) dX10_ease_127 rfl ?_
          have h := Option.some.inj h
          subst h
          exact s_ireturn dX10_ease_132 rfl hq
      · have h := ifn hc4 h
        refine s_iconst dX10_ease_116 (cin rfl) ?_
        refine s_goto (tgt := 132) dX10_ease_117 rfl ?_
        have h := Option.some.inj h
        subst h
        exact s_ireturn dX10_ease_132 rfl hq
    · have h := ifn hc3 h
      refine s_aload_n (j := 0) dX10_ease_61 rfl rfl ?_
      refine s_iload (j := 1) dX10_ease_62 rfl ?_
      refine s_iload (j := 6) dX10_ease_64 rfl ?_
      refine s_iload (j := 6) dX10_ease_66 rfl ?_
      refine s_iload (j := 2) dX10_ease_68 rfl ?_
      refine s_iadd dX10_ease_70 ?_
      obtain ⟨q6, hv7, h⟩ := bnd h
      refine s_callV (As := [vI x5, vI x10, vI (xw (x10 + x6))]) (rest := []) (r := (some (vI q6.1))) (F' := q6.2) dX10_ease_71 (clX10_365 (Nat.le_of_ble_eq_true rfl) (Nat.le_of_ble_eq_true rfl)) ho rfl ⟨_, _, _, _, _, rfl, ho, hv7, rfl, rfl⟩ rfl (Nat.le_of_ble_eq_true rfl) ?_
      refine s_istore (ls' := [(11, vI q6.1), (0, vR o), (5, vI x5), (6, vI x6), (7, vI x7), (8, vI x8), (9, vI x9), (10, vI x10)]) dX10_ease_74 (Nat.le_of_ble_eq_true rfl) rfl ?_
      refine s_iload (j := 0) dX10_ease_76 rfl ?_
      refine s_if_lt (tgt := 104) dX10_ease_78 rfl (fun hc8 => ?_) (fun hc8 => ?_)
      · have h := ifp hc8 h
        refine s_iinc (ls' := [(10, vI (xw (x10 + 1))), (11, vI q6.1), (0, vR o), (5, vI x5), (6, vI x6), (7, vI x7), (8, vI x8), (9, vI x9)]) (j := 7) dX10_ease_104 rfl (Nat.le_of_ble_eq_true rfl) rfl ?_
        refine s_goto (tgt := 48) dX10_ease_107 rfl ?_
        exact s_sub (ks := [2, 3, 4, 5, 6, 7, 0]) rfl (ih o x5 x6 x7 x8 x9 (xw (x10 + 1)) q6.2 _ ho h hq)
      · have h := ifn hc8 h
        refine s_iload (j := 5) dX10_ease_81 rfl ?_
        refine s_if_lt (tgt := 96) dX10_ease_83 rfl (fun hc9 => ?_) (fun hc9 => ?_)
        · have h := ifp hc9 h
          refine s_iload (j := 7) dX10_ease_96 rfl ?_
          refine s_istore (ls' := [(8, vI x10), (11, vI q6.1), (0, vR o), (5, vI x5), (6, vI x6), (7, vI x7), (9, vI x9), (10, vI x10)]) dX10_ease_98 (Nat.le_of_ble_eq_true rfl) rfl ?_
          refine s_iload (j := 1) dX10_ease_100 rfl ?_
          refine s_istore dX10_ease_102 (Nat.le_of_ble_eq_true rfl) rfl ?_
          refine s_iinc (ls' := [(10, vI (xw (x10 + 1))), (9, vI q6.1), (8, vI x10), (11, vI q6.1), (0, vR o), (5, vI x5), (6, vI x6), (7, vI x7)]) (j := 7) dX10_ease_104 rfl (Nat.le_of_ble_eq_true rfl) rfl ?_
          refine s_goto (tgt := 48) dX10_ease_107 rfl ?_
          exact s_sub (ks := [4, 5, 6, 7, 2, 1, 0]) rfl (ih o x5 x6 x7 x10 q6.1 (xw (x10 + 1)) q6.2 _ ho h hq)
        · have h := ifn hc9 h
          refine s_iload (j := 0) dX10_ease_86 rfl ?_
          refine s_iload (j := 6) dX10_ease_88 rfl ?_
          refine s_icmp_lt (tgt := 96) dX10_ease_90 rfl (fun hc10 => ?_) (fun hc10 => ?_)
          · have h := ifp hc10 h
            refine s_iload (j := 7) dX10_ease_96 rfl ?_
            refine s_istore (ls' := [(8, vI x10), (11, vI q6.1), (0, vR o), (5, vI x5), (6, vI x6), (7, vI x7), (9, vI x9), (10, vI x10)]) dX10_ease_98 (Nat.le_of_ble_eq_true rfl) rfl ?_
            refine s_iload (j := 1) dX10_ease_100 rfl ?_
            refine s_istore dX10_ease_102 (Nat.le_of_ble_eq_true rfl) rfl ?_
            refine s_iinc (ls' := [(10, vI (xw (x10 + 1))), (9, vI q6.1), (8, vI x10), (11, vI q6.1), (0, vR o), (5, vI x5), (6, vI x6), (7, vI x7)]) (j := 7) dX10_ease_104 rfl (Nat.le_of_ble_eq_true rfl) rfl ?_
            refine s_goto (tgt := 48) dX10_ease_107 rfl ?_
            exact s_sub (ks := [4, 5, 6, 7, 2, 1, 0]) rfl (ih o x5 x6 x7 x10 q6.1 (xw (x10 + 1)) q6.2 _ ho h hq)
          · have h := ifn hc10 h
            refine s_goto (tgt := 104) dX10_ease_93 rfl ?_
            refine s_iinc (ls' := [(10, vI (xw (x10 + 1))), (11, vI q6.1), (0, vR o), (5, vI x5), (6, vI x6), (7, vI x7), (8, vI x8), (9, vI x9)]) (j := 7) dX10_ease_104 rfl (Nat.le_of_ble_eq_true rfl) rfl ?_
            refine s_goto (tgt := 48) dX10_ease_107 rfl ?_
            exact s_sub (ks := [2, 3, 4, 5, 6, 7, 0]) rfl (ih o x5 x6 x7 x8 x9 (xw (x10 + 1)) q6.2 _ ho h hq)
theorem fX10_ease_ok {Qr : Option PV → Mem → Prop} : ∀ (o : Nat) (x1 : Int) (x2 : Int) (x3 : Int) (x4 : Int) (x5 : Int) (x6 : Int) (x7 : Int) (F : Mem) (res : (Int × Mem)) (ho : isK o 10), fX10_ease o x1 x2 x3 x4 x5 x6 x7 F = some res → Qr (some (vI res.1)) res.2 → PR cX10_ease (zX10_ease Qr) 0 [(0, vR o), (1, vI x1), (2, vI x2), (3, vI x3), (4, vI x4), (5, vI x5), (6, vI x6), (7, vI x7)] [] F := by
  intro o x1 x2 x3 x4 x5 x6 x7 F res ho h hq
  refine s_aload_n (j := 0) dX10_ease_0 rfl rfl ?_
  refine s_iload_n (j := 1) dX10_ease_1 rfl rfl ?_
  refine s_iload_n (j := 2) dX10_ease_2 rfl rfl ?_
  refine s_iload_n (j := 3) dX10_ease_3 rfl rfl ?_
  refine s_iload (j := 4) dX10_ease_4 rfl ?_
  refine s_iconst dX10_ease_6 (cin rfl) ?_
  obtain ⟨q1, hv2, h⟩ := bnd h
  refine s_callV (As := [vI x1, vI x2, vI x3, vI x4, vI 1]) (rest := []) (r := (some (vI q1.1))) (F' := q1.2) dX10_ease_7 (clX10_355 (Nat.le_of_ble_eq_true rfl) (Nat.le_of_ble_eq_true rfl)) ho rfl ⟨_, _, _, _, _, _, _, rfl, ho, hv2, rfl, rfl⟩ rfl (Nat.le_of_ble_eq_true rfl) ?_
  refine s_if_eq (tgt := 36) dX10_ease_10 rfl (fun hc3 => ?_) (fun hc3 => ?_)
  · have h := ifp hc3 h
    refine s_bipush dX10_ease_36 rfl (cin rfl) ?_
    have h := Option.some.inj h
    subst h
    exact s_ireturn dX10_ease_38 rfl hq
  · have h := ifn hc3 h
    refine s_aload_n (j := 0) dX10_ease_13 rfl rfl ?_
    refine s_iload (j := 5) dX10_ease_14 rfl ?_
    obtain ⟨r4, hv5, h⟩ := bnd h
    refine s_callV (As := [vI x5]) (rest := []) (r := (some (vI r4))) (F' := q1.2) dX10_ease_16 (clX10_189 (Nat.le_of_ble_eq_true rfl) (Nat.le_of_ble_eq_true rfl)) ho rfl ⟨_, _, _, rfl, ho, hv5, rfl, rfl⟩ rfl (Nat.le_of_ble_eq_true rfl) ?_
    refine s_if_eq (tgt := 36) dX10_ease_19 rfl (fun hc6 => ?_) (fun hc6 => ?_)
    · have h := ifp hc6 h
      refine s_bipush dX10_ease_36 rfl (cin rfl) ?_
      have h := Option.some.inj h
      subst h
      exact s_ireturn dX10_ease_38 rfl hq
    · have h := ifn hc6 h
      refine s_iload (j := 6) dX10_ease_22 rfl ?_
      refine s_iconst dX10_ease_24 (cin rfl) ?_
      refine s_aload_n (j := 0) dX10_ease_25 rfl rfl ?_
      refine s_iconst dX10_ease_26 (cin rfl) ?_
      obtain ⟨r7, hv8, h⟩ := bnd h
      refine s_callV (As := [vI 0]) (rest := [vI 1, vI x6]) (r := (some (vI r7))) (F' := q1.2) dX10_ease_27 (clX10_181 (Nat.le_of_ble_eq_true rfl) (Nat.le_of_ble_eq_true rfl)) ho rfl ⟨_, _, _, rfl, ho, hv8, rfl, rfl⟩ rfl (Nat.le_of_ble_eq_true rfl) ?_
      refine s_callS (As := [vI x6, vI 1, vI r7]) (rest := []) (r := (some (vI (fX10_isIn x6 1 r7)))) (F' := q1.2) dX10_ease_30 (clX10_115 (Nat.le_of_ble_eq_true rfl) (Nat.le_of_ble_eq_true rfl)) rfl ⟨_, _, _, _, rfl, rfl, rfl, rfl⟩ rfl (Nat.le_of_ble_eq_true rfl) ?_
      refine s_if_ne (tgt := 39) dX10_ease_33 rfl (fun hc9 => ?_) (fun hc9 => ?_)
      · have h := ifp hc9 h
        refine s_iconst dX10_ease_39 (cin rfl) ?_
        refine s_istore (ls' := [(8, vI (-1)), (0, vR o), (1, vI x1), (2, vI x2), (3, vI x3), (4, vI x4), (5, vI x5), (6, vI x6), (7, vI x7)]) dX10_ease_40 (Nat.le_of_ble_eq_true rfl) rfl ?_
        refine s_iconst dX10_ease_42 (cin rfl) ?_
        refine s_istore dX10_ease_43 (Nat.le_of_ble_eq_true rfl) rfl ?_
        refine s_iconst dX10_ease_45 (cin rfl) ?_
        refine s_istore (ls' := [(10, vI 0), (9, vI 0), (8, vI (-1)), (0, vR o), (1, vI x1), (2, vI x2), (3, vI x3), (4, vI x4), (5, vI x5), (6, vI x6), (7, vI x7)]) dX10_ease_46 (Nat.le_of_ble_eq_true rfl) rfl ?_
        exact s_sub (ks := [3, 8, 9, 10, 2, 1, 0]) rfl (fX10_ease_b48_ok FU o x5 x6 x7 (-1) 0 0 q1.2 _ ho h hq)
      · have h := ifn hc9 h
        refine s_bipush dX10_ease_36 rfl (cin rfl) ?_
        have h := Option.some.inj h
        subst h
        exact s_ireturn dX10_ease_38 rfl hq
def gX10_ease : XG := fun As F r F' => ∃ o : Nat, ∃ x1 : Int, ∃ x2 : Int, ∃ x3 : Int, ∃ x4 : Int, ∃ x5 : Int, ∃ x6 : Int, ∃ x7 : Int, ∃ res : (Int × Mem), As = [vR o, vI x1, vI x2, vI x3, vI x4, vI x5, vI x6, vI x7] ∧ isK o 10 ∧ fX10_ease o x1 x2 x3 x4 x5 x6 x7 F = some res ∧ r = some (vI res.1) ∧ F' = res.2
theorem ctX10_ease : xCT yX10_ease cX10_ease 12 (some FieldType.int) 7 159 gX10_ease := xmet (by decide +kernel) (fun As F r F' hg => by obtain ⟨o, x1, x2, x3, x4, x5, x6, x7, res, rfl, ho, h, rfl, rfl⟩ := hg; exact Nat.le_of_ble_eq_true rfl) (fun As F r F' hg => by obtain ⟨o, x1, x2, x3, x4, x5, x6, x7, res, rfl, ho, h, rfl, rfl⟩ := hg; exact fX10_ease_ok o x1 x2 x3 x4 x5 x6 x7 _ _ ho h ⟨rfl, rfl⟩)
theorem mcX10_ease : Cond.code yX10_ease cX10_ease 12 (some FieldType.int) ∈ xw_T ∧ Cond.initialized yX10_ease.cls ∈ xw_T ∧ Cond.instanceMethod yX10_ease ∈ xw_T ∧ Cond.selects yX10_ease.cls yX10_ease yX10_ease ∈ xw_T := ⟨(xinT 1944 (by decide +kernel) (by decide +kernel)), (xinT 127 (by decide +kernel) (by decide +kernel)), (xinT 1942 (by decide +kernel) (by decide +kernel)), (xinT 1943 (by decide +kernel) (by decide +kernel))⟩
theorem dX10_count_0 : decode cX10_count 0 = .ok (.iload_n 1, 1) := by decide +kernel
theorem dX10_count_1 : decode cX10_count 1 = .ok (.iconst 0, 1) := by decide +kernel
theorem dX10_count_2 : decode cX10_count 2 = .ok (.iconst 3, 1) := by decide +kernel
theorem dX10_count_3 : decode cX10_count 3 = .ok (.invokestatic 115, 3) := by decide +kernel
theorem dX10_count_6 : decode cX10_count 6 = .ok (.ifCond .eq 12, 3) := by decide +kernel
theorem dX10_count_9 : decode cX10_count 9 = .ok (.aload_n 0, 1) := by decide +kernel
theorem dX10_count_10 : decode cX10_count 10 = .ok (.getfield 7, 3) := by decide +kernel
theorem dX10_count_13 : decode cX10_count 13 = .ok (.iload_n 1, 1) := by decide +kernel
theorem dX10_count_14 : decode cX10_count 14 = .ok (.iaload, 1) := by decide +kernel
theorem dX10_count_15 : decode cX10_count 15 = .ok (.goto 5, 3) := by decide +kernel
theorem dX10_count_18 : decode cX10_count 18 = .ok (.bipush (-2), 2) := by decide +kernel
theorem dX10_count_20 : decode cX10_count 20 = .ok (.ireturn, 1) := by decide +kernel
def zX10_count (Qr : Option PV → Mem → Prop) : XZ := (RX10, 1, 22, 2, some FieldType.int, Qr)
noncomputable def fX10_count (o : Nat) (x1 : Int) (F : Mem) : Option Int :=
  if (fX10_isIn x1 0 3) = 0 then
    some (-2)
  else
    if (0 : Int) ≤ x1 ∧ x1 < (alen (o + 1) : Int) then
      some (F (o + 1) x1.toNat)
    else none
theorem fX10_count_ok {Qr : Option PV → Mem → Prop} : ∀ (o : Nat) (x1 : Int) (F : Mem) (res : Int) (ho : isK o 10), fX10_count o x1 F = some res → Qr (some (vI res)) F → PR cX10_count (zX10_count Qr) 0 [(0, vR o), (1, vI x1)] [] F := by
  intro o x1 F res ho h hq
  refine s_iload_n (j := 1) dX10_count_0 rfl rfl ?_
  refine s_iconst dX10_count_1 (cin rfl) ?_
  refine s_iconst dX10_count_2 (cin rfl) ?_
  refine s_callS (As := [vI x1, vI 0, vI 3]) (rest := []) (r := (some (vI (fX10_isIn x1 0 3)))) (F' := F) dX10_count_3 (clX10_115 (Nat.le_of_ble_eq_true rfl) (Nat.le_of_ble_eq_true rfl)) rfl ⟨_, _, _, _, rfl, rfl, rfl, rfl⟩ rfl (Nat.le_of_ble_eq_true rfl) ?_
  refine s_if_eq (tgt := 18) dX10_count_6 rfl (fun hc1 => ?_) (fun hc1 => ?_)
  · have h := ifp hc1 h
    refine s_bipush dX10_count_18 rfl (cin rfl) ?_
    have h := Option.some.inj h
    subst h
    exact s_ireturn dX10_count_20 rfl hq
  · have h := ifn hc1 h
    refine s_aload_n (j := 0) dX10_count_9 rfl rfl ?_
    refine s_getR dX10_count_10 flX10_7 ho ?_
    refine s_iload_n (j := 1) dX10_count_13 rfl rfl ?_
    obtain ⟨hb2, h⟩ := gd h
    refine s_iaload dX10_count_14 (trX10_0 ho) hb2.1 hb2.2 ?_
    refine s_goto (tgt := 20) dX10_count_15 rfl ?_
    have h := Option.some.inj h
    subst h
    exact s_ireturn dX10_count_20 rfl hq
def gX10_count : XG := fun As F r F' => ∃ o : Nat, ∃ x1 : Int, ∃ res : Int, As = [vR o, vI x1] ∧ isK o 10 ∧ fX10_count o x1 F = some res ∧ r = some (vI res) ∧ F' = F
theorem ctX10_count : xCT yX10_count cX10_count 2 (some FieldType.int) 1 22 gX10_count := xmet (by decide +kernel) (fun As F r F' hg => by obtain ⟨o, x1, res, rfl, ho, h, rfl, rfl⟩ := hg; exact Nat.le_of_ble_eq_true rfl) (fun As F r F' hg => by obtain ⟨o, x1, res, rfl, ho, h, rfl, rfl⟩ := hg; exact fX10_count_ok o x1 _ _ ho h ⟨rfl, rfl⟩)
theorem mcX10_count : Cond.code yX10_count cX10_count 2 (some FieldType.int) ∈ xw_T ∧ Cond.initialized yX10_count.cls ∈ xw_T ∧ Cond.instanceMethod yX10_count ∈ xw_T ∧ Cond.selects yX10_count.cls yX10_count yX10_count ∈ xw_T := ⟨(xinT 1948 (by decide +kernel) (by decide +kernel)), (xinT 127 (by decide +kernel) (by decide +kernel)), (xinT 1946 (by decide +kernel) (by decide +kernel)), (xinT 1947 (by decide +kernel) (by decide +kernel))⟩
theorem dX10_image_0 : decode cX10_image 0 = .ok (.iload_n 1, 1) := by decide +kernel
theorem dX10_image_1 : decode cX10_image 1 = .ok (.iconst 0, 1) := by decide +kernel
theorem dX10_image_2 : decode cX10_image 2 = .ok (.iconst 2, 1) := by decide +kernel
theorem dX10_image_3 : decode cX10_image 3 = .ok (.invokestatic 115, 3) := by decide +kernel
theorem dX10_image_6 : decode cX10_image 6 = .ok (.ifCond .ne 5, 3) := by decide +kernel
theorem dX10_image_9 : decode cX10_image 9 = .ok (.iconst 0, 1) := by decide +kernel
theorem dX10_image_10 : decode cX10_image 10 = .ok (.ireturn, 1) := by decide +kernel
theorem dX10_image_11 : decode cX10_image 11 = .ok (.aload_n 0, 1) := by decide +kernel
theorem dX10_image_12 : decode cX10_image 12 = .ok (.getfield 13, 3) := by decide +kernel
theorem dX10_image_15 : decode cX10_image 15 = .ok (.iload_n 1, 1) := by decide +kernel
theorem dX10_image_16 : decode cX10_image 16 = .ok (.iconst 1, 1) := by decide +kernel
theorem dX10_image_17 : decode cX10_image 17 = .ok (.bastore, 1) := by decide +kernel
theorem dX10_image_18 : decode cX10_image 18 = .ok (.iconst 0, 1) := by decide +kernel
theorem dX10_image_19 : decode cX10_image 19 = .ok (.istore_n 2, 1) := by decide +kernel
theorem dX10_image_20 : decode cX10_image 20 = .ok (.iload_n 2, 1) := by decide +kernel
theorem dX10_image_21 : decode cX10_image 21 = .ok (.sipush 1317, 3) := by decide +kernel
theorem dX10_image_24 : decode cX10_image 24 = .ok (.if_icmp .ge 29, 3) := by decide +kernel
theorem dX10_image_27 : decode cX10_image 27 = .ok (.aload_n 0, 1) := by decide +kernel
theorem dX10_image_28 : decode cX10_image 28 = .ok (.getfield 7, 3) := by decide +kernel
theorem dX10_image_31 : decode cX10_image 31 = .ok (.sipush 1317, 3) := by decide +kernel
theorem dX10_image_34 : decode cX10_image 34 = .ok (.iload_n 1, 1) := by decide +kernel
theorem dX10_image_35 : decode cX10_image 35 = .ok (.iconst 1, 1) := by decide +kernel
theorem dX10_image_36 : decode cX10_image 36 = .ok (.iadd, 1) := by decide +kernel
theorem dX10_image_37 : decode cX10_image 37 = .ok (.imul, 1) := by decide +kernel
theorem dX10_image_38 : decode cX10_image 38 = .ok (.iload_n 2, 1) := by decide +kernel
theorem dX10_image_39 : decode cX10_image 39 = .ok (.iadd, 1) := by decide +kernel
theorem dX10_image_40 : decode cX10_image 40 = .ok (.aload_n 0, 1) := by decide +kernel
theorem dX10_image_41 : decode cX10_image 41 = .ok (.getfield 7, 3) := by decide +kernel
theorem dX10_image_44 : decode cX10_image 44 = .ok (.iload_n 2, 1) := by decide +kernel
theorem dX10_image_45 : decode cX10_image 45 = .ok (.iaload, 1) := by decide +kernel
theorem dX10_image_46 : decode cX10_image 46 = .ok (.iastore, 1) := by decide +kernel
theorem dX10_image_47 : decode cX10_image 47 = .ok (.iinc 2 1, 3) := by decide +kernel
theorem dX10_image_50 : decode cX10_image 50 = .ok (.goto (-30), 3) := by decide +kernel
theorem dX10_image_53 : decode cX10_image 53 = .ok (.iconst 1, 1) := by decide +kernel
theorem dX10_image_54 : decode cX10_image 54 = .ok (.ireturn, 1) := by decide +kernel
def zX10_image (Qr : Option PV → Mem → Prop) : XZ := (RX10, 1, 22, 3, some FieldType.boolean, Qr)
noncomputable def fX10_image_b20 : Nat → Nat → Int → Int → Mem → Option (Int × Mem)
  | 0, _, _, _, _ => none
  | n + 1, o, x1, x2, F =>
    if 1317 ≤ x2 then
      some (1, F)
    else
      if (0 : Int) ≤ x2 ∧ x2 < (alen (o + 1) : Int) then
        if (0 : Int) ≤ (xw ((xw (1317 * (xw (x1 + 1)))) + x2)) ∧ (xw ((xw (1317 * (xw (x1 + 1)))) + x2)) < (alen (o + 1) : Int) then
          fX10_image_b20 n o x1 (xw (x2 + 1)) (mset F (o + 1) (xw ((xw (1317 * (xw (x1 + 1)))) + x2)).toNat (F (o + 1) x2.toNat))
        else none
      else none
noncomputable def fX10_image (o : Nat) (x1 : Int) (F : Mem) : Option (Int × Mem) :=
  if (fX10_isIn x1 0 2) ≠ 0 then
    if (0 : Int) ≤ x1 ∧ x1 < (alen (o + 2) : Int) then
      fX10_image_b20 FU o x1 0 (mset F (o + 2) x1.toNat 1)
    else none
  else
    some (0, F)
theorem fX10_image_b20_ok {Qr : Option PV → Mem → Prop}  : ∀ (n : Nat) (o : Nat) (x1 : Int) (x2 : Int) (F : Mem) (res : (Int × Mem)) (ho : isK o 10), fX10_image_b20 n o x1 x2 F = some res → Qr (some (vI res.1)) res.2 → PR cX10_image (zX10_image Qr) 20 [(0, vR o), (1, vI x1), (2, vI x2)] [] F := by
  intro n
  induction n with
  | zero => intro o x1 x2 F res ho h hq; exact nomatch (show (none : Option _) = some _ from h)
  | succ n ih =>
    intro o x1 x2 F res ho h hq
    refine s_iload_n (j := 2) dX10_image_20 rfl rfl ?_
    refine s_sipush dX10_image_21 rfl (cin rfl) ?_
    refine s_icmp_ge (tgt := 53) dX10_image_24 rfl (fun hc1 => ?_) (fun hc1 => ?_)
    · have h := ifp hc1 h
      refine s_iconst dX10_image_53 (cin rfl) ?_
      have h := Option.some.inj h
      subst h
      exact s_zreturn dX10_image_54 rfl (Or.inr rfl) hq
    · have h := ifn hc1 h
      refine s_aload_n (j := 0) dX10_image_27 rfl rfl ?_
      refine s_getR dX10_image_28 flX10_7 ho ?_
      refine s_sipush dX10_image_31 rfl (cin rfl) ?_
      refine s_iload_n (j := 1) dX10_image_34 rfl rfl ?_
      refine s_iconst dX10_image_35 (cin rfl) ?_
      refine s_iadd dX10_image_36 ?_
      refine s_imul dX10_image_37 ?_
      refine s_iload_n (j := 2) dX10_image_38 rfl rfl ?_
      refine s_iadd dX10_image_39 ?_
      refine s_aload_n (j := 0) dX10_image_40 rfl rfl ?_
      refine s_getR dX10_image_41 flX10_7 ho ?_
      refine s_iload_n (j := 2) dX10_image_44 rfl rfl ?_
      obtain ⟨hb2, h⟩ := gd h
      refine s_iaload dX10_image_45 (trX10_0 ho) hb2.1 hb2.2 ?_
      obtain ⟨hb3, h⟩ := gd h
      refine s_iastore dX10_image_46 (trX10_0 ho) hb3.1 hb3.2 ?_
      refine s_iinc (ls' := [(2, vI (xw (x2 + 1))), (0, vR o), (1, vI x1)]) (j := 2) dX10_image_47 rfl (Nat.le_of_ble_eq_true rfl) rfl ?_
      refine s_goto (tgt := 20) dX10_image_50 rfl ?_
      exact s_sub (ks := [1, 2, 0]) rfl (ih o x1 (xw (x2 + 1)) (mset F (o + 1) (xw ((xw (1317 * (xw (x1 + 1)))) + x2)).toNat (F (o + 1) x2.toNat)) _ ho h hq)
theorem fX10_image_ok {Qr : Option PV → Mem → Prop} : ∀ (o : Nat) (x1 : Int) (F : Mem) (res : (Int × Mem)) (ho : isK o 10), fX10_image o x1 F = some res → Qr (some (vI res.1)) res.2 → PR cX10_image (zX10_image Qr) 0 [(0, vR o), (1, vI x1)] [] F := by
  intro o x1 F res ho h hq
  refine s_iload_n (j := 1) dX10_image_0 rfl rfl ?_
  refine s_iconst dX10_image_1 (cin rfl) ?_
  refine s_iconst dX10_image_2 (cin rfl) ?_
  refine s_callS (As := [vI x1, vI 0, vI 2]) (rest := []) (r := (some (vI (fX10_isIn x1 0 2)))) (F' := F) dX10_image_3 (clX10_115 (Nat.le_of_ble_eq_true rfl) (Nat.le_of_ble_eq_true rfl)) rfl ⟨_, _, _, _, rfl, rfl, rfl, rfl⟩ rfl (Nat.le_of_ble_eq_true rfl) ?_
  refine s_if_ne (tgt := 11) dX10_image_6 rfl (fun hc1 => ?_) (fun hc1 => ?_)
  · have h := ifp hc1 h
    refine s_aload_n (j := 0) dX10_image_11 rfl rfl ?_
    refine s_getR dX10_image_12 flX10_13 ho ?_
    refine s_iload_n (j := 1) dX10_image_15 rfl rfl ?_
    refine s_iconst dX10_image_16 (cin rfl) ?_
    obtain ⟨hb2, h⟩ := gd h
    refine s_zastore dX10_image_17 (trX10_1 ho) hb2.1 hb2.2 (Or.inr rfl) ?_
    refine s_iconst dX10_image_18 (cin rfl) ?_
    refine s_istore_n (ls' := [(2, vI 0), (0, vR o), (1, vI x1)]) dX10_image_19 rfl (Nat.le_of_ble_eq_true rfl) rfl ?_
    exact s_sub (ks := [1, 2, 0]) rfl (fX10_image_b20_ok FU o x1 0 (mset F (o + 2) x1.toNat 1) _ ho h hq)
  · have h := ifn hc1 h
    refine s_iconst dX10_image_9 (cin rfl) ?_
    have h := Option.some.inj h
    subst h
    exact s_zreturn dX10_image_10 rfl (Or.inl rfl) hq
def gX10_image : XG := fun As F r F' => ∃ o : Nat, ∃ x1 : Int, ∃ res : (Int × Mem), As = [vR o, vI x1] ∧ isK o 10 ∧ fX10_image o x1 F = some res ∧ r = some (vI res.1) ∧ F' = res.2
theorem ctX10_image : xCT yX10_image cX10_image 3 (some FieldType.boolean) 1 22 gX10_image := xmet (by decide +kernel) (fun As F r F' hg => by obtain ⟨o, x1, res, rfl, ho, h, rfl, rfl⟩ := hg; exact Nat.le_of_ble_eq_true rfl) (fun As F r F' hg => by obtain ⟨o, x1, res, rfl, ho, h, rfl, rfl⟩ := hg; exact fX10_image_ok o x1 _ _ ho h ⟨rfl, rfl⟩)
theorem mcX10_image : Cond.code yX10_image cX10_image 3 (some FieldType.boolean) ∈ xw_T ∧ Cond.initialized yX10_image.cls ∈ xw_T ∧ Cond.instanceMethod yX10_image ∈ xw_T ∧ Cond.selects yX10_image.cls yX10_image yX10_image ∈ xw_T := ⟨(xinT 1952 (by decide +kernel) (by decide +kernel)), (xinT 127 (by decide +kernel) (by decide +kernel)), (xinT 1950 (by decide +kernel) (by decide +kernel)), (xinT 1951 (by decide +kernel) (by decide +kernel))⟩
theorem dX10_again_0 : decode cX10_again 0 = .ok (.iload_n 1, 1) := by decide +kernel
theorem dX10_again_1 : decode cX10_again 1 = .ok (.iconst 0, 1) := by decide +kernel
theorem dX10_again_2 : decode cX10_again 2 = .ok (.iconst 2, 1) := by decide +kernel
theorem dX10_again_3 : decode cX10_again 3 = .ok (.invokestatic 115, 3) := by decide +kernel
theorem dX10_again_6 : decode cX10_again 6 = .ok (.ifCond .eq 12, 3) := by decide +kernel
theorem dX10_again_9 : decode cX10_again 9 = .ok (.aload_n 0, 1) := by decide +kernel
theorem dX10_again_10 : decode cX10_again 10 = .ok (.getfield 13, 3) := by decide +kernel
theorem dX10_again_13 : decode cX10_again 13 = .ok (.iload_n 1, 1) := by decide +kernel
theorem dX10_again_14 : decode cX10_again 14 = .ok (.baload, 1) := by decide +kernel
theorem dX10_again_15 : decode cX10_again 15 = .ok (.ifCond .ne 5, 3) := by decide +kernel
theorem dX10_again_18 : decode cX10_again 18 = .ok (.iconst 0, 1) := by decide +kernel
theorem dX10_again_19 : decode cX10_again 19 = .ok (.ireturn, 1) := by decide +kernel
theorem dX10_again_20 : decode cX10_again 20 = .ok (.iconst 0, 1) := by decide +kernel
theorem dX10_again_21 : decode cX10_again 21 = .ok (.istore_n 2, 1) := by decide +kernel
theorem dX10_again_22 : decode cX10_again 22 = .ok (.iload_n 2, 1) := by decide +kernel
theorem dX10_again_23 : decode cX10_again 23 = .ok (.sipush 1317, 3) := by decide +kernel
theorem dX10_again_26 : decode cX10_again 26 = .ok (.if_icmp .ge 29, 3) := by decide +kernel
theorem dX10_again_29 : decode cX10_again 29 = .ok (.aload_n 0, 1) := by decide +kernel
theorem dX10_again_30 : decode cX10_again 30 = .ok (.getfield 7, 3) := by decide +kernel
theorem dX10_again_33 : decode cX10_again 33 = .ok (.iload_n 2, 1) := by decide +kernel
theorem dX10_again_34 : decode cX10_again 34 = .ok (.aload_n 0, 1) := by decide +kernel
theorem dX10_again_35 : decode cX10_again 35 = .ok (.getfield 7, 3) := by decide +kernel
theorem dX10_again_38 : decode cX10_again 38 = .ok (.sipush 1317, 3) := by decide +kernel
theorem dX10_again_41 : decode cX10_again 41 = .ok (.iload_n 1, 1) := by decide +kernel
theorem dX10_again_42 : decode cX10_again 42 = .ok (.iconst 1, 1) := by decide +kernel
theorem dX10_again_43 : decode cX10_again 43 = .ok (.iadd, 1) := by decide +kernel
theorem dX10_again_44 : decode cX10_again 44 = .ok (.imul, 1) := by decide +kernel
theorem dX10_again_45 : decode cX10_again 45 = .ok (.iload_n 2, 1) := by decide +kernel
theorem dX10_again_46 : decode cX10_again 46 = .ok (.iadd, 1) := by decide +kernel
theorem dX10_again_47 : decode cX10_again 47 = .ok (.iaload, 1) := by decide +kernel
theorem dX10_again_48 : decode cX10_again 48 = .ok (.iastore, 1) := by decide +kernel
theorem dX10_again_49 : decode cX10_again 49 = .ok (.iinc 2 1, 3) := by decide +kernel
theorem dX10_again_52 : decode cX10_again 52 = .ok (.goto (-30), 3) := by decide +kernel
theorem dX10_again_55 : decode cX10_again 55 = .ok (.iconst 1, 1) := by decide +kernel
theorem dX10_again_56 : decode cX10_again 56 = .ok (.ireturn, 1) := by decide +kernel
def zX10_again (Qr : Option PV → Mem → Prop) : XZ := (RX10, 1, 22, 3, some FieldType.boolean, Qr)
noncomputable def fX10_again_b22 : Nat → Nat → Int → Int → Mem → Option (Int × Mem)
  | 0, _, _, _, _ => none
  | n + 1, o, x1, x2, F =>
    if 1317 ≤ x2 then
      some (1, F)
    else
      if (0 : Int) ≤ (xw ((xw (1317 * (xw (x1 + 1)))) + x2)) ∧ (xw ((xw (1317 * (xw (x1 + 1)))) + x2)) < (alen (o + 1) : Int) then
        if (0 : Int) ≤ x2 ∧ x2 < (alen (o + 1) : Int) then
          fX10_again_b22 n o x1 (xw (x2 + 1)) (mset F (o + 1) x2.toNat (F (o + 1) (xw ((xw (1317 * (xw (x1 + 1)))) + x2)).toNat))
        else none
      else none
noncomputable def fX10_again (o : Nat) (x1 : Int) (F : Mem) : Option (Int × Mem) :=
  if (fX10_isIn x1 0 2) = 0 then
    some (0, F)
  else
    if (0 : Int) ≤ x1 ∧ x1 < (alen (o + 2) : Int) then
      if (F (o + 2) x1.toNat) ≠ 0 then
        fX10_again_b22 FU o x1 0 F
      else
        some (0, F)
    else none
theorem fX10_again_b22_ok {Qr : Option PV → Mem → Prop}  : ∀ (n : Nat) (o : Nat) (x1 : Int) (x2 : Int) (F : Mem) (res : (Int × Mem)) (ho : isK o 10), fX10_again_b22 n o x1 x2 F = some res → Qr (some (vI res.1)) res.2 → PR cX10_again (zX10_again Qr) 22 [(0, vR o), (1, vI x1), (2, vI x2)] [] F := by
  intro n
  induction n with
  | zero => intro o x1 x2 F res ho h hq; exact nomatch (show (none : Option _) = some _ from h)
  | succ n ih =>
    intro o x1 x2 F res ho h hq
    refine s_iload_n (j := 2) dX10_again_22 rfl rfl ?_
    refine s_sipush dX10_again_23 rfl (cin rfl) ?_
    refine s_icmp_ge (tgt := 55) dX10_again_26 rfl (fun hc1 => ?_) (fun hc1 => ?_)
    · have h := ifp hc1 h
      refine s_iconst dX10_again_55 (cin rfl) ?_
      have h := Option.some.inj h
      subst h
      exact s_zreturn dX10_again_56 rfl (Or.inr rfl) hq
    · have h := ifn hc1 h
      refine s_aload_n (j := 0) dX10_again_29 rfl rfl ?_
      refine s_getR dX10_again_30 flX10_7 ho ?_
      refine s_iload_n (j := 2) dX10_again_33 rfl rfl ?_
      refine s_aload_n (j := 0) dX10_again_34 rfl rfl ?_
      refine s_getR dX10_again_35 flX10_7 ho ?_
      refine s_sipush dX10_again_38 rfl (cin rfl) ?_
      refine s_iload_n (j := 1) dX10_again_41 rfl rfl ?_
      refine s_iconst dX10_again_42 (cin rfl) ?_
      refine s_iadd dX10_again_43 ?_
      refine s_imul dX10_again_44 ?_
      refine s_iload_n (j := 2) dX10_again_45 rfl rfl ?_
      refine s_iadd dX10_again_46 ?_
      obtain ⟨hb2, h⟩ := gd h
      refine s_iaload dX10_again_47 (trX10_0 ho) hb2.1 hb2.2 ?_
      obtain ⟨hb3, h⟩ := gd h
      refine s_iastore dX10_again_48 (trX10_0 ho) hb3.1 hb3.2 ?_
      refine s_iinc (ls' := [(2, vI (xw (x2 + 1))), (0, vR o), (1, vI x1)]) (j := 2) dX10_again_49 rfl (Nat.le_of_ble_eq_true rfl) rfl ?_
      refine s_goto (tgt := 22) dX10_again_52 rfl ?_
      exact s_sub (ks := [1, 2, 0]) rfl (ih o x1 (xw (x2 + 1)) (mset F (o + 1) x2.toNat (F (o + 1) (xw ((xw (1317 * (xw (x1 + 1)))) + x2)).toNat)) _ ho h hq)
theorem fX10_again_ok {Qr : Option PV → Mem → Prop} : ∀ (o : Nat) (x1 : Int) (F : Mem) (res : (Int × Mem)) (ho : isK o 10), fX10_again o x1 F = some res → Qr (some (vI res.1)) res.2 → PR cX10_again (zX10_again Qr) 0 [(0, vR o), (1, vI x1)] [] F := by
  intro o x1 F res ho h hq
  refine s_iload_n (j := 1) dX10_again_0 rfl rfl ?_
  refine s_iconst dX10_again_1 (cin rfl) ?_
  refine s_iconst dX10_again_2 (cin rfl) ?_
  refine s_callS (As := [vI x1, vI 0, vI 2]) (rest := []) (r := (some (vI (fX10_isIn x1 0 2)))) (F' := F) dX10_again_3 (clX10_115 (Nat.le_of_ble_eq_true rfl) (Nat.le_of_ble_eq_true rfl)) rfl ⟨_, _, _, _, rfl, rfl, rfl, rfl⟩ rfl (Nat.le_of_ble_eq_true rfl) ?_
  refine s_if_eq (tgt := 18) dX10_again_6 rfl (fun hc1 => ?_) (fun hc1 => ?_)
  · have h := ifp hc1 h
    refine s_iconst dX10_again_18 (cin rfl) ?_
    have h := Option.some.inj h
    subst h
    exact s_zreturn dX10_again_19 rfl (Or.inl rfl) hq
  · have h := ifn hc1 h
    refine s_aload_n (j := 0) dX10_again_9 rfl rfl ?_
    refine s_getR dX10_again_10 flX10_13 ho ?_
    refine s_iload_n (j := 1) dX10_again_13 rfl rfl ?_
    obtain ⟨hb2, h⟩ := gd h
    refine s_zaload dX10_again_14 (trX10_1 ho) hb2.1 hb2.2 ?_
    refine s_if_ne (tgt := 20) dX10_again_15 rfl (fun hc3 => ?_) (fun hc3 => ?_)
    · have h := ifp hc3 h
      refine s_iconst dX10_again_20 (cin rfl) ?_
      refine s_istore_n (ls' := [(2, vI 0), (0, vR o), (1, vI x1)]) dX10_again_21 rfl (Nat.le_of_ble_eq_true rfl) rfl ?_
      exact s_sub (ks := [1, 2, 0]) rfl (fX10_again_b22_ok FU o x1 0 F _ ho h hq)
    · have h := ifn hc3 h
      refine s_iconst dX10_again_18 (cin rfl) ?_
      have h := Option.some.inj h
      subst h
      exact s_zreturn dX10_again_19 rfl (Or.inl rfl) hq
def gX10_again : XG := fun As F r F' => ∃ o : Nat, ∃ x1 : Int, ∃ res : (Int × Mem), As = [vR o, vI x1] ∧ isK o 10 ∧ fX10_again o x1 F = some res ∧ r = some (vI res.1) ∧ F' = res.2
theorem ctX10_again : xCT yX10_again cX10_again 3 (some FieldType.boolean) 1 22 gX10_again := xmet (by decide +kernel) (fun As F r F' hg => by obtain ⟨o, x1, res, rfl, ho, h, rfl, rfl⟩ := hg; exact Nat.le_of_ble_eq_true rfl) (fun As F r F' hg => by obtain ⟨o, x1, res, rfl, ho, h, rfl, rfl⟩ := hg; exact fX10_again_ok o x1 _ _ ho h ⟨rfl, rfl⟩)
theorem mcX10_again : Cond.code yX10_again cX10_again 3 (some FieldType.boolean) ∈ xw_T ∧ Cond.initialized yX10_again.cls ∈ xw_T ∧ Cond.instanceMethod yX10_again ∈ xw_T ∧ Cond.selects yX10_again.cls yX10_again yX10_again ∈ xw_T := ⟨(xinT 1956 (by decide +kernel) (by decide +kernel)), (xinT 127 (by decide +kernel) (by decide +kernel)), (xinT 1954 (by decide +kernel) (by decide +kernel)), (xinT 1955 (by decide +kernel) (by decide +kernel))⟩
